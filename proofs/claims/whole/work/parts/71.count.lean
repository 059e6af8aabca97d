/-! ===== tree and model, alike: how many ===== -/
/-- a path and all below it, g names deep -/
def dsc : Nat → List Nat → List (List Nat)
  | 0, r => [r]
  | g + 1, r => r :: ((List.range 9).flatMap fun x => dsc g ((x + 1) :: r))
def okL (s : List Nat) : Prop := ∀ d ∈ s, 1 ≤ d ∧ d ≤ 9
theorem okL_c {x : Nat} {s : List Nat} (hx : 1 ≤ x ∧ x ≤ 9) (hs : okL s) : okL (x :: s) := fun d hd => by
  rcases List.mem_cons.mp hd with e | e
  · rw [e]; exact hx
  · exact hs d e
theorem dsc_mem : ∀ (g : Nat) (r s : List Nat), okL r → (s ∈ dsc g r ↔ r <:+ s ∧ s.length ≤ r.length + g ∧ okL s)
  | 0, r, s, hr => by
    unfold dsc
    rw [List.mem_singleton]
    refine ⟨fun e => by rw [e]; exact ⟨List.suffix_refl _, Nat.le_refl _, hr⟩, fun h => ?_⟩
    exact (h.1.eq_of_length_le (by have := h.2.1; omega)).symm
  | g + 1, r, s, hr => by
    unfold dsc
    rw [List.mem_cons, List.mem_flatMap]
    constructor
    · rintro (e | ⟨x, hx, hs⟩)
      · rw [e]; exact ⟨List.suffix_refl _, by omega, hr⟩
      · have hx9 := List.mem_range.mp hx
        obtain ⟨h1, h2, h3⟩ := (dsc_mem g ((x + 1) :: r) s (okL_c ⟨by omega, by omega⟩ hr)).mp hs
        rw [List.length_cons] at h2
        exact ⟨(List.suffix_cons _ _).trans h1, by omega, h3⟩
    · rintro ⟨h1, h2, h3⟩
      by_cases e : s = r
      · exact Or.inl e
      · obtain ⟨y, hy⟩ := sfx_next h1 e
        have h9 := h3 y (hy.subset List.mem_cons_self)
        refine Or.inr ⟨y - 1, List.mem_range.mpr (by omega), ?_⟩
        rw [show y - 1 + 1 = y by omega]
        exact (dsc_mem g (y :: r) s (okL_c h9 hr)).mpr ⟨hy, by rw [List.length_cons]; omega, h3⟩
theorem sfx_hd {x y : Nat} {r s : List Nat} (h1 : x :: r <:+ s) (h2 : y :: r <:+ s) : x = y := by
  obtain ⟨a, ha⟩ := h1
  obtain ⟨b, hb⟩ := h2
  have := List.append_inj' (ha.trans hb.symm) (by simp)
  exact (List.cons.inj this.2).1
theorem dsc_nd : ∀ (g : Nat) (r : List Nat), okL r → (dsc g r).Nodup
  | 0, r, _ => by unfold dsc; simp
  | g + 1, r, hr => by
    have hm : ∀ x, x < 9 → ∀ s, s ∈ dsc g ((x + 1) :: r) → (x + 1) :: r <:+ s := fun x hx s hs => ((dsc_mem g _ s (okL_c ⟨by omega, by omega⟩ hr)).mp hs).1
    unfold dsc
    rw [List.nodup_cons]
    refine ⟨fun h => ?_, ?_⟩
    · obtain ⟨x, hx, hs⟩ := List.mem_flatMap.mp h
      have := sfx_len (hm x (List.mem_range.mp hx) r hs)
      omega
    · unfold List.Nodup
      rw [List.pairwise_flatMap]
      refine ⟨fun x hx => dsc_nd g _ (okL_c ⟨by omega, by have := List.mem_range.mp hx; omega⟩ hr), ?_⟩
      refine List.Pairwise.imp_of_mem (fun {a b} ha hb hab => ?_) (List.pairwise_lt_range (n := 9))
      intro s hs t ht e
      subst e
      have := sfx_hd (hm a (List.mem_range.mp ha) s hs) (hm b (List.mem_range.mp hb) s ht)
      omega
def rlC (j : Nat) : Bool := !(pok j) || ((rp j).all fun d => decide (1 ≤ d) && decide (d ≤ 9)) && decide ((rp j).length ≤ 4)
theorem rlC_ok : ((List.range 10).all fun a => (List.range 10).all fun b => (List.range 10).all fun c => (List.range 10).all fun d => rlC (a + 10 * b + 100 * c + 1000 * d)) = true := by decide +kernel
theorem rp_ok {j : Nat} (h9 : j ≤ 9999) (hp : pok j = true) : okL (rp j) ∧ (rp j).length ≤ 4 := by
  have h := dg_all rlC rlC_ok j h9
  unfold rlC at h
  rw [hp, Bool.not_true, Bool.false_or, Bool.and_eq_true] at h
  refine ⟨fun d hd => ?_, of_decide_eq_true h.2⟩
  have q := List.all_eq_true.mp h.1 d hd
  rw [Bool.and_eq_true] at q
  exact ⟨of_decide_eq_true q.1, of_decide_eq_true q.2⟩
theorem rp_sur : ∀ s : List Nat, okL s → s.length ≤ 4 → ∃ j, j ≤ 9999 ∧ pok j = true ∧ rp j = s
  | [], _, _ => ⟨0, by omega, by decide, rfl⟩
  | x :: s, h, hl => by
    obtain ⟨j, h9, hp, hj⟩ := rp_sur s (fun d hd => h d (List.mem_cons_of_mem _ hd)) (by rw [List.length_cons] at hl; omega)
    have hx := h x List.mem_cons_self
    have h3 : j < 1000 := (rp_l4 h9 hp).mp (by rw [hj]; rw [List.length_cons] at hl; omega)
    obtain ⟨k1, k2, k3⟩ := rp_kid (x := x - 1) h3 hp (by omega)
    rw [show x - 1 + 1 = x by omega] at k1 k2 k3
    exact ⟨_, k3, k1, by rw [k2, hj]⟩
theorem cnQ_range (f : Nat → Bool) : ∀ n : Nat, cnQ f n = (List.range n).countP f
  | 0 => rfl
  | n + 1 => by
    rw [cnQ, cnQ_range f n, List.range_succ, List.countP_append, List.countP_cons, List.countP_nil]; simp
theorem dsc_cnt {p : Nat} (h9 : p ≤ 9999) (hp : pok p = true) (f : List Nat → Bool) : (dsc (4 - (rp p).length) (rp p)).countP f = cnQ (fun q => pok q && decide (rp p <:+ rp q) && f (rp q)) 10000 := by
  obtain ⟨o1, o2⟩ := rp_ok h9 hp
  have hP : (dsc (4 - (rp p).length) (rp p)).Perm (((List.range 10000).filter fun q => pok q && decide (rp p <:+ rp q)).map rp) := by
    refine (List.perm_ext_iff_of_nodup (dsc_nd _ _ o1) ?_).mpr fun s => ?_
    · unfold List.Nodup
      rw [List.pairwise_map]
      refine List.Pairwise.imp_of_mem (fun {a b} ha hb hab e => ?_) (List.Pairwise.filter _ (List.pairwise_lt_range (n := 10000)))
      have ha' := List.mem_filter.mp ha
      have hb' := List.mem_filter.mp hb
      rw [Bool.and_eq_true] at ha' hb'
      have := rp_inj (by have := List.mem_range.mp ha'.1; omega) ha'.2.1 (by have := List.mem_range.mp hb'.1; omega) hb'.2.1 e
      omega
    · rw [dsc_mem _ _ _ o1, List.mem_map]
      constructor
      · rintro ⟨h1, h2, h3⟩
        obtain ⟨q, q9, qk, rfl⟩ := rp_sur s h3 (by omega)
        exact ⟨q, List.mem_filter.mpr ⟨List.mem_range.mpr (by omega), by rw [qk, decide_eq_true h1]; rfl⟩, rfl⟩
      · rintro ⟨q, hq, rfl⟩
        have hq' := List.mem_filter.mp hq
        rw [Bool.and_eq_true] at hq'
        obtain ⟨a, b⟩ := rp_ok (j := q) (by have := List.mem_range.mp hq'.1; omega) hq'.2.1
        exact ⟨of_decide_eq_true hq'.2.2, by omega, a⟩
  rw [hP.countP_eq, List.countP_map, List.countP_filter, cnQ_range]
  refine List.countP_congr fun q _ => ?_
  show (f (rp q) && (pok q && decide (rp p <:+ rp q))) = true ↔ (pok q && decide (rp p <:+ rp q) && f (rp q)) = true
  rw [Bool.and_comm]
theorem cnt9 (g : Nat) (r : List Nat) (f : List Nat → Bool) : (dsc (g + 1) r).countP f = (if f r then 1 else 0) + cnL (fun x => (dsc g (x :: r)).countP f) 9 := by
  have e : List.range 9 = [0, 1, 2, 3, 4, 5, 6, 7, 8] := by decide
  rw [dsc, List.countP_cons, e]
  simp only [List.flatMap_cons, List.flatMap_nil, List.countP_append, List.countP_nil, cnL]
  omega
theorem cnL_0 {f : Nat → Nat} : ∀ n : Nat, (∀ x, 1 ≤ x → x ≤ n → f x = 0) → cnL f n = 0
  | 0, _ => rfl
  | n + 1, h => by rw [cnL, cnL_0 n (fun x h1 h2 => h x h1 (by omega)), h (n + 1) (by omega) (Nat.le_refl _)]
theorem cnL_c {f g : Nat → Nat} : ∀ n : Nat, (∀ x, 1 ≤ x → x ≤ n → f x = g x) → cnL f n = cnL g n
  | 0, _ => rfl
  | n + 1, h => by rw [cnL, cnL, cnL_c n (fun x h1 h2 => h x h1 (by omega)), h (n + 1) (by omega) (Nat.le_refl _)]
theorem vw_dn {L : zLs} {n x : Nat} {r : List Nat} (h : ¬ (vw L r).1 n = nI 1) : (vw L (x :: r)).1 n = -1 := by
  cases n with
  | zero => rfl
  | succ i => exact if_neg h
def thr (L : zLs) (n : Nat) (s : List Nat) : Bool := decide (¬ (vw L s).1 n = -1)
theorem thr_0 {L : zLs} {n : Nat} : ∀ (g : Nat) (r : List Nat), (vw L r).1 n = -1 → (dsc g r).countP (thr L n) = 0
  | 0, r, h => by
    unfold dsc; rw [List.countP_cons, List.countP_nil, show thr L n r = false from decide_eq_false (fun z => z h)]; rfl
  | g + 1, r, h => by
    rw [cnt9, show thr L n r = false from decide_eq_false (fun z => z h), cnL_0 9 (fun x _ _ => thr_0 g (x :: r) (vw_dn (by rw [h]; decide)))]; rfl
theorem cnS_thr (L : zLs) (n : Nat) : ∀ (g : Nat) (r : List Nat), cnS L n g r = (dsc g r).countP (thr L n)
  | 0, r => by
    unfold dsc cnS; rw [List.countP_cons, List.countP_nil]
    by_cases e : (vw L r).1 n = -1
    · rw [if_pos e, show thr L n r = false from decide_eq_false (fun z => z e)]; rfl
    · rw [if_neg e, show thr L n r = true from decide_eq_true e]; rfl
  | g + 1, r => by
    rw [cnS]
    by_cases e : (vw L r).1 n = -1
    · rw [if_pos e, thr_0 _ _ e]
    · rw [if_neg e, cnt9, show thr L n r = true from decide_eq_true e]
      by_cases d : (vw L r).1 n = nI 1
      · rw [if_pos d, cnL_c 9 (fun x _ _ => cnS_thr L n g (x :: r))]; rfl
      · rw [if_neg d, cnL_0 9 (fun x _ _ => thr_0 g (x :: r) (vw_dn d))]; rfl
def hsM (u : List Nat → Option zMk) (s : List Nat) : Bool := decide (¬ mkA (u s) = none)
theorem cnM_hs {u : List Nat → Option zMk} (hu : ∀ r j, u r = none → u (j :: r) = none) : ∀ (g : Nat) (r : List Nat), (dsc g r).countP (hsM u) = if mkA (u r) = none then 0 else 1 + cnM u g r
  | 0, r => by
    unfold dsc; rw [List.countP_cons, List.countP_nil]
    by_cases e : mkA (u r) = none
    · rw [if_pos e, show hsM u r = false from decide_eq_false (fun z => z e)]; rfl
    · rw [if_neg e, show hsM u r = true from decide_eq_true e]; rfl
  | g + 1, r => by
    rw [cnt9, cnL_c 9 (fun x _ _ => cnM_hs hu g (x :: r))]
    by_cases e : mkA (u r) = none
    · have hr : u r = none := by cases h : u r with
        | none => rfl
        | some q => rw [h] at e; cases e
      rw [if_pos e, show hsM u r = false from decide_eq_false (fun z => z e), cnL_0 9 (fun x _ _ => by rw [hu r x hr]; rfl)]; rfl
    · rw [if_neg e, show hsM u r = true from decide_eq_true e]; rfl
theorem cnQ_c {f g : Nat → Bool} : ∀ n : Nat, (∀ q, q < n → f q = g q) → cnQ f n = cnQ g n
  | 0, _ => rfl
  | n + 1, h => by rw [cnQ, cnQ, cnQ_c n (fun q hq => h q (by omega)), h n (Nat.lt_succ_self n)]
theorem cnQ_1 {f g : Nat → Bool} (h0 : f 0 = true) (h1 : g 0 = false) : ∀ n : Nat, (∀ q, q < n + 1 → 1 ≤ q → f q = g q) → cnQ f (n + 1) = 1 + cnQ g (n + 1)
  | 0, _ => by unfold cnQ cnQ; rw [h0, h1]; rfl
  | n + 1, h => by rw [cnQ, cnQ_1 h0 h1 n (fun q hq h1 => h q (by omega) h1), h (n + 1) (by omega) (by omega), cnQ.eq_2 g (n + 1)]; omega
theorem sf_bl {p q : Nat} (q0 : ¬ q = 0) (p9 : p ≤ 9999) (pk : pok p = true) (q9 : q ≤ 9999) (qk : pok q = true) : (decide (q = p) || blB q p) = decide (rp p <:+ rp q) := by
  obtain ⟨x, hx⟩ := rp_cons q0
  unfold blB
  rw [← Bool.decide_or]
  refine decide_eq_decide.mpr ⟨fun h => ?_, fun h => ?_⟩
  · rcases h with e | e
    · rw [e]; exact List.suffix_refl _
    · rw [hx]; exact e.trans (List.suffix_cons _ _)
  · rw [hx] at h
    rcases List.suffix_cons_iff.mp h with e | e
    · exact Or.inl (rp_inj p9 pk q9 qk (e.trans hx.symm)).symm
    · exact Or.inr e
section RC
variable {n : Nat} {Ls : zLs} {M V : Nat → Int32}
theorem rel.cS (R : rel n Ls M V) {p : Nat} (h9 : p ≤ 9999) (hp : pok p = true) (h0 : ¬ p = 0) : cnS Ls n (4 - (rp p).length) (rp p) = cnQ (rmQ (Lm M V) n p) 10000 := by
  rw [cnS_thr, dsc_cnt h9 hp]
  refine cnQ_c _ fun q hq => ?_
  unfold rmQ
  by_cases q0 : q = 0
  · subst q0
    rw [decide_eq_false (show ¬ rp p <:+ rp 0 from fun h => by
      obtain ⟨x, hx⟩ := rp_cons h0
      have e : rp p = [] := List.suffix_nil.mp (show rp p <:+ [] from h)
      rw [hx] at e; cases e), Bool.and_false, Bool.false_and]; rfl
  · rw [decide_eq_true q0, Bool.true_and]
    cases hk : pok q with
    | false => rfl
    | true =>
      rw [sf_bl q0 h9 hp (by omega) hk, Bool.true_and, Bool.true_and, Bool.and_comm]
      unfold thr
      rw [R.kd (by omega) hk (Nat.le_refl n)]
theorem rel.cM (R : rel n Ls M V) {i : Nat} (hi : i < n) (hu : ∀ r j, Ls i r = none → Ls i (j :: r) = none) (hr : ¬ Ls i [] = none) : cnM (Ls i) 4 [] = cnQ (mkQ M i) 10000 := by
  have h1 := cnM_hs hu 4 []
  have h2 := dsc_cnt (p := 0) (by omega) (by decide) (hsM (Ls i))
  have hr' : ¬ mkA (Ls i []) = none := by
    cases h : Ls i [] with
    | none => exact absurd h hr
    | some q => intro e; cases e
  rw [if_neg hr'] at h1
  rw [show 4 - (rp 0).length = 4 from rfl, show rp 0 = [] from rfl, h1] at h2
  have h3 := cnQ_1 (f := fun q => pok q && decide ([] <:+ rp q) && hsM (Ls i) (rp q)) (g := mkQ M i) (by
    show (pok 0 && decide ([] <:+ rp 0) && hsM (Ls i) []) = true
    rw [show hsM (Ls i) [] = true from decide_eq_true hr']; rfl) (by unfold mkQ; rfl) 9999 (fun q hq hq1 => by
    show (pok q && decide ([] <:+ rp q) && hsM (Ls i) (rp q)) = mkQ M i q
    rw [decide_eq_true (List.nil_suffix), Bool.and_true]
    unfold mkQ
    rw [decide_eq_true (show ¬ q = 0 by omega), Bool.true_and]
    cases hk : pok q with
    | false => rw [R.2.1 i q hi (by omega) hk]; rfl
    | true =>
      rw [Bool.true_and]
      have a := R.2.2 i q hi (by omega) hk (by omega)
      unfold hsM
      refine decide_eq_decide.mpr (not_congr ?_)
      rw [mkA_ct, alk_n a, Lm_ct (by omega) hk]
      by_cases c : M (10000 * i + q) = 0
      · rw [if_pos c]; exact ⟨fun _ => c, fun _ => rfl⟩
      · rw [if_neg c]; exact ⟨(fun e => by cases e), fun e => absurd e c⟩)
  have h4 := h2.trans h3
  exact Nat.add_left_cancel h4
end RC
