/-! ===== the steps of laying one layer over another ===== -/
section LZ
variable {h hc h1 h2 : zz_Hp} {aC : Nat → ClassId} {u v w w1 w2 : List Nat → Option zMk} {r : List Nat} {hid : Bool} {x X c : Nat} {q p : zMk}
theorem stU_T (T : trP hc aC w) (U : inU w) (hr : w r = some q) (hr0 : r ≠ []) {s v : Int32} (H2 : h1 q.1 = some (mkE s v q.2.2.2)) (H4 : ∀ x e, hc x = some e → x ≠ q.1 → h1 x = some e) : trP h1 aC (stU w r q s v) := by
  obtain ⟨a1, a2, a3, a4, a5, q6, a6, a7⟩ := T
  refine ⟨fun x q0 hx => ?_, fun x q0 c hx hc => ?_, fun x q0 i hx hc => ?_, fun x i hx => ?_, fun x i hb => ?_, ?_⟩
  · by_cases e : x = r
    · subst e; rw [stU_r] at hx; cases hx; exact H2
    · rw [stU_o e] at hx; exact H4 _ _ (a1 x q0 hx) (fun ee => e (U.1 x r q0 q hx hr ee))
  · obtain ⟨q1, k1, k2, k3⟩ := stU_q hr hx
    obtain ⟨g, hg, hj⟩ := a2 x q1 c k1 (k3.trans hc)
    exact ⟨g, H4 _ _ hg (ne_k hg (a1 r q hr) (by rw [ki_mk, ki_ma]; decide)), fun i i1 i9 => by rw [stU_A hr]; exact hj i i1 i9⟩
  · obtain ⟨q1, k1, k2, k3⟩ := stU_q hr hx
    exact (stU_n hr _).mpr (a3 x q1 i k1 (k3.trans hc))
  · exact (stU_n hr _).mpr (a4 x i ((stU_n hr _).mp hx))
  · exact (stU_n hr _).mpr (a5 x i hb)
  · exact ⟨q6, by rw [stU_o (Ne.symm hr0)]; exact a6, a7⟩
theorem stU_in (U : inU w) (hr : w r = some q) {s v : Int32} : inU (stU w r q s v) := by
  refine ⟨fun x x' p p' hx hx' e => ?_, fun x x' p p' c hx hx' e e' => ?_⟩
  · obtain ⟨q1, k1, k2, k3⟩ := stU_q hr hx
    obtain ⟨p1, l1, l2, l3⟩ := stU_q hr hx'
    exact U.1 x x' q1 p1 k1 l1 (k2.trans (e.trans l2.symm))
  · obtain ⟨q1, k1, k2, k3⟩ := stU_q hr hx
    obtain ⟨p1, l1, l2, l3⟩ := stU_q hr hx'
    exact U.2 x x' q1 p1 c k1 l1 (k3.trans e) (l3.trans e')
/-- marks that no change of an own mark reaches -/
theorem trP.far (T : trP hc aC v) (Tw : trP hc aC w) (hr : w r = some q) (ho : own v q) (H4 : ∀ a e, hc a = some e → a ≠ q.1 → q.2.2.2 ≠ some a → h2 a = some e) : trP h2 aC v := by
  obtain ⟨a1, a2, a3⟩ := T
  refine ⟨fun s q0 hs => H4 _ _ (a1 s q0 hs) (ho.1 s q0 hs) (fun e => ?_), fun s q0 c hs hc0 => ?_, a3⟩
  · obtain ⟨g, hg, -⟩ := Tw.2.1 r q _ hr e
    exact ne_k (a1 s q0 hs) hg (by rw [ki_mk, ki_ma]; decide) rfl
  · obtain ⟨g, hg, hj⟩ := a2 s q0 c hs hc0
    exact ⟨g, H4 _ _ hg (ne_k hg (Tw.1 r q hr) (by rw [ki_mk, ki_ma]; decide)) (fun e => ho.2 c e s q0 hs hc0), hj⟩
def gfU (w v : List Nat → Option zMk) (r : List Nat) (X : Nat) (q : zMk) (c : Nat) : List Nat → Option zMk := fun s => if X :: r <:+ s then v s else if s = r then some (q.1, q.2.1, q.2.2.1, some c) else w s
theorem nsf (r : List Nat) (X : Nat) : ¬ X :: r <:+ r := fun e => by have := sfx_len e; omega
theorem gfU_v {s : List Nat} (hs : X :: r <:+ s) : gfU w v r X q c s = v s := if_pos hs
theorem gfU_r : gfU w v r X q c r = some (q.1, q.2.1, q.2.2.1, some c) := by
  unfold gfU; rw [if_neg (nsf r X), if_pos rfl]
theorem gfU_o {s : List Nat} (hs : ¬ X :: r <:+ s) (h2 : s ≠ r) : gfU w v r X q c s = w s := by
  unfold gfU; rw [if_neg hs, if_neg h2]
theorem gfU_k {s : List Nat} {q0 : zMk} (hs : gfU w v r X q c s = some q0) : (X :: r <:+ s ∧ v s = some q0) ∨ (s = r ∧ q0 = (q.1, q.2.1, q.2.2.1, some c)) ∨ (¬ X :: r <:+ s ∧ s ≠ r ∧ w s = some q0) := by
  by_cases e1 : X :: r <:+ s
  · rw [gfU_v e1] at hs; exact Or.inl ⟨e1, hs⟩
  · by_cases e2 : s = r
    · subst e2; rw [gfU_r] at hs; exact Or.inr (Or.inl ⟨rfl, (Option.some.inj hs).symm⟩)
    · rw [gfU_o e1 e2] at hs; exact Or.inr (Or.inr ⟨e1, e2, hs⟩)
theorem gfU_T (Tw : trP hc aC w) (Tv : trP hc aC v) (U : inU w) (hr : w r = some q) (ho : own v q) (hp : v (X :: r) = some p) (H2 : h2 q.1 = some (mkE q.2.1 q.2.2.1 (some c))) {g : Nat → Option Nat} (H3 : h2 c = some (maE aC 10 g)) (H3j : g X = some p.1) (H3o : ∀ i, 1 ≤ i → i ≤ 9 → i ≠ X → g i = mkA (w (i :: r)))
    (H4 : ∀ a e, hc a = some e → a ≠ q.1 → q.2.2.2 ≠ some a → h2 a = some e) : trP h2 aC (gfU w v r X q c) := by
  obtain ⟨b1', b2', -⟩ := Tv.far Tw hr ho H4
  obtain ⟨b1, b2, b3, b4, b5, -⟩ := Tv
  obtain ⟨a1, a2, a3, a4, a5, q6, a6, a7⟩ := Tw
  have nr : ∀ i s, w (i :: s) = none → i :: s ≠ r := fun i s hs e => by rw [e, hr] at hs; cases hs
  have up : ∀ i s, ¬ X :: r <:+ s → s ≠ r → ¬ X :: r <:+ i :: s := fun i s h1 h2 e => by
    rcases List.suffix_cons_iff.mp e with e | e
    · exact h2 (List.cons.inj e).2.symm
    · exact h1 e
  refine ⟨fun s q0 hs => ?_, fun s q0 c0 hs hc0 => ?_, fun s q0 i hs hc0 => ?_, fun s i hs => ?_, fun s i hb => ?_, ?_⟩
  · rcases gfU_k hs with ⟨k1, k2⟩ | ⟨k1, k2⟩ | ⟨k1, k2, k3⟩
    · exact b1' s q0 k2
    · rw [k2]; exact H2
    · refine H4 _ _ (a1 s q0 k3) (fun e => k2 (U.1 s r q0 q k3 hr e)) (fun e => ?_)
      obtain ⟨g2, hg, -⟩ := a2 r q _ hr e
      exact ne_k (a1 s q0 k3) hg (by rw [ki_mk, ki_ma]; decide) rfl
  · rcases gfU_k hs with ⟨k1, k2⟩ | ⟨k1, k2⟩ | ⟨k1, k2, k3⟩
    · obtain ⟨g2, hg, hj⟩ := b2' s q0 c0 k2 hc0
      exact ⟨g2, hg, fun i i1 i9 => by rw [gfU_v (k1.trans (List.suffix_cons i s))]; exact hj i i1 i9⟩
    · rw [k2] at hc0; cases hc0
      subst k1
      refine ⟨g, H3, fun i i1 i9 => ?_⟩
      by_cases e : i = X
      · subst e; rw [gfU_v (List.suffix_refl _), hp]; exact H3j
      · rw [gfU_o (fun e2 => e (List.cons.inj (e2.eq_of_length (by rw [List.length_cons, List.length_cons]))).1.symm) (fun e2 => ne_jr s i e2.symm)]; exact H3o i i1 i9 e
    · obtain ⟨g2, hg, hgj⟩ := a2 s q0 c0 k3 hc0
      refine ⟨g2, H4 _ _ hg (ne_k hg (a1 r q hr) (by rw [ki_mk, ki_ma]; decide)) (fun e => k2 (U.2 s r q0 q c0 k3 hr hc0 e)), fun i i1 i9 => ?_⟩
      rw [hgj i i1 i9]
      by_cases e2 : i :: s = r
      · rw [e2, gfU_r, hr]; rfl
      · rw [gfU_o (up i s k1 k2) e2]
  · rcases gfU_k hs with ⟨k1, k2⟩ | ⟨k1, k2⟩ | ⟨k1, k2, k3⟩
    · rw [gfU_v (k1.trans (List.suffix_cons i s))]; exact b3 s q0 i k2 hc0
    · rw [k2] at hc0; cases hc0
    · have hz := a3 s q0 i k3 hc0
      rw [gfU_o (up i s k1 k2) (nr i s hz)]; exact hz
  · by_cases e1 : X :: r <:+ s
    · rw [gfU_v e1] at hs; rw [gfU_v (e1.trans (List.suffix_cons i s))]; exact b4 s i hs
    · by_cases e2 : s = r
      · subst e2; rw [gfU_r] at hs; cases hs
      · rw [gfU_o e1 e2] at hs
        have hz := a4 s i hs
        rw [gfU_o (up i s e1 e2) (nr i s hz)]; exact hz
  · have hz := a5 s i hb
    by_cases e1 : X :: r <:+ i :: s
    · rw [gfU_v e1]; exact b5 s i hb
    · rw [gfU_o e1 (nr i s hz)]; exact hz
  · by_cases e : r = []
    · subst e
      rw [hr] at a6; cases a6
      exact ⟨_, gfU_r, a7⟩
    · exact ⟨q6, by rw [gfU_o (fun z => absurd (List.suffix_nil.mp z) (by simp)) (fun z => e z.symm)]; exact a6, a7⟩
theorem gfU_in (Tw : trP hc aC w) (Tv : trP hc aC v) (U : inU w) (V : inU v) (D : djU w v) (hr : w r = some q) (ho : own v q) (H5 : q.2.2.2 = some c ∨ hc c = none) : inU (gfU w v r X q c) := by
  have rv : ∀ s p0, v s = some p0 → p0.2.2.2 ≠ some c := fun s p0 hs e => by
    rcases H5 with h5 | h5
    · exact ho.2 c h5 s p0 hs e
    · obtain ⟨g, hg, -⟩ := Tv.2.1 s p0 c hs e
      rw [hg] at h5; cases h5
  have rw_ : ∀ s p0, w s = some p0 → s ≠ r → p0.2.2.2 ≠ some c := fun s p0 hs hn e => by
    rcases H5 with h5 | h5
    · exact hn (U.2 s r p0 q c hs hr e h5)
    · obtain ⟨g, hg, -⟩ := Tw.2.1 s p0 c hs e
      rw [hg] at h5; cases h5
  constructor
  · intro s s' z z' hs hs' he
    rcases gfU_k hs with ⟨a1, a2⟩ | ⟨a1, a2⟩ | ⟨a1, a2, a3⟩ <;> rcases gfU_k hs' with ⟨b1, b2⟩ | ⟨b1, b2⟩ | ⟨b1, b2, b3⟩
    · exact V.1 s s' z z' a2 b2 he
    · rw [b2] at he; exact absurd he (ho.1 s z a2)
    · rcases D s' z' b3 with d | d
      · exact V.1 s s' z z' a2 d he
      · exact absurd he (d.1 s z a2)
    · rw [a2] at he; exact absurd he.symm (ho.1 s' z' b2)
    · exact a1.trans b1.symm
    · rw [a2] at he; exact absurd (U.1 r s' q z' hr b3 he).symm b2
    · rcases D s z a3 with d | d
      · exact V.1 s s' z z' d b2 he
      · exact absurd he.symm (d.1 s' z' b2)
    · rw [b2] at he; exact absurd (U.1 s r z q a3 hr he) a2
    · exact U.1 s s' z z' a3 b3 he
  · intro s s' z z' c0 hs hs' h1 h2
    rcases gfU_k hs with ⟨a1, a2⟩ | ⟨a1, a2⟩ | ⟨a1, a2, a3⟩ <;> rcases gfU_k hs' with ⟨b1, b2⟩ | ⟨b1, b2⟩ | ⟨b1, b2, b3⟩
    · exact V.2 s s' z z' c0 a2 b2 h1 h2
    · rw [b2] at h2; cases h2; exact absurd h1 (rv s z a2)
    · rcases D s' z' b3 with d | d
      · exact V.2 s s' z z' c0 a2 d h1 h2
      · exact absurd h1 (d.2 c0 h2 s z a2)
    · rw [a2] at h1; cases h1; exact absurd h2 (rv s' z' b2)
    · exact a1.trans b1.symm
    · rw [a2] at h1; cases h1; exact absurd h2 (rw_ s' z' b3 b2)
    · rcases D s z a3 with d | d
      · exact V.2 s s' z z' c0 d b2 h1 h2
      · exact absurd h2 (d.2 c0 h1 s' z' b2)
    · rw [b2] at h2; cases h2; exact absurd h1 (rw_ s z a3 a2)
    · exact U.2 s s' z z' c0 a3 b3 h1 h2
/-- the lower layer's mark is hung up with all that is below it -/
theorem loS_gr (I : loI h aC u v r false x hc w) (V : inU v) (hr : w r = some q) (hn : u ((x + 1) :: r) = none) (Tu : trP h aC u) (hp : v ((x + 1) :: r) = some p) (H2 : h2 q.1 = some (mkE q.2.1 q.2.2.1 (some c))) {g : Nat → Option Nat} (H3 : h2 c = some (maE aC 10 g)) (H3j : g (x + 1) = some p.1) (H3o : ∀ i, 1 ≤ i → i ≤ 9 → i ≠ x + 1 → g i = mkA (w (i :: r)))
    (H4 : ∀ a e, hc a = some e → a ≠ q.1 → q.2.2.2 ≠ some a → h2 a = some e) (H5 : q.2.2.2 = some c ∨ hc c = none) (H6 : ∀ a, h2 a = none → hc a = none) : loS aC u v r false (x + 1) hc w h2 (gfU w v r (x + 1) q c) := by
  obtain ⟨⟨Tw, Tv, U, D⟩, i1, ⟨i2, i3, i4⟩, i5, i6, i7, i8, i9⟩ := I
  have ho := i4 q hr
  have ho2 : own v (q.1, q.2.1, q.2.2.1, some c) := ⟨ho.1, fun c0 h0 s p0 hs e => by
    cases h0
    rcases H5 with h5 | h5
    · exact ho.2 c h5 s p0 hs e
    · obtain ⟨g, hg, -⟩ := Tv.2.1 s p0 c hs e
      rw [hg] at h5; cases h5⟩
  have un : ∀ z, (x + 1) :: r <:+ z → u z = none := fun z hz => by
    obtain ⟨y, rfl⟩ := hz
    exact Tu.no hn y
  refine ⟨⟨gfU_T Tw Tv U hr ho hp H2 H3 H3j H3o H4, Tv.far Tw hr ho H4, gfU_in Tw Tv U V D hr ho H5, fun s q0 hs => ?_⟩, fun s h1 h2 => gfU_o h1 h2, ⟨by rw [gfU_r, hr]; rfl, by rw [gfU_r, hr]; rfl, fun q0 hq => by rw [gfU_r] at hq; cases hq; exact ho2⟩, fun s hs => ?_, fun a e ha hk => H4 a e ha (hk r q (Or.inl rfl) hr).1 (hk r q (Or.inl rfl) hr).2, fun s q0 hs => ?_, fun s q0 c0 hs hc0 => ?_, H6⟩
  · rcases gfU_k hs with ⟨k1, k2⟩ | ⟨k1, k2⟩ | ⟨k1, k2, k3⟩
    · exact Or.inl k2
    · rw [k2]; exact Or.inr ho2
    · exact D s q0 k3
  · rw [gfU_v hs]
    exact (layC_gr (cv := ctF v) hs (fun z hz => by show ctS (u z) = none; rw [un z hz]; rfl)).symm
  · rcases gfU_k hs with ⟨k1, k2⟩ | ⟨k1, k2⟩ | ⟨k1, k2, k3⟩
    · exact Or.inr k2
    · subst k1; rw [k2]; exact Or.inl ⟨q, hr, rfl⟩
    · exact Or.inl ⟨q0, k3, rfl⟩
  · rcases gfU_k hs with ⟨k1, k2⟩ | ⟨k1, k2⟩ | ⟨k1, k2, k3⟩
    · exact Or.inr (Or.inl k2)
    · subst k1; rw [k2] at hc0; cases hc0
      rcases H5 with h5 | h5
      · exact Or.inl ⟨q, hr, h5⟩
      · exact Or.inr (Or.inr h5)
    · exact Or.inl ⟨q0, k3, hc0⟩
theorem sfx_next {R s : List Nat} (h : R <:+ s) (hn : s ≠ R) : ∃ y, y :: R <:+ s := by
  obtain ⟨z, rfl⟩ := h
  cases hz : z.reverse with
  | nil => rw [List.reverse_eq_nil_iff.mp hz] at hn; exact absurd rfl hn
  | cons y t =>
    refine ⟨y, t.reverse, ?_⟩
    have : z = t.reverse ++ [y] := by rw [← List.reverse_reverse z, hz, List.reverse_cons]
    rw [this, List.append_assoc]; rfl
/-- the walk goes on below a name that both layers have -/
theorem loS_rec (I : loI h aC u v r hid x hc w) (Tu : trP h aC u) {q1 : zMk} {s' : Int32} (hq : w ((x + 1) :: r) = some q1) (hs' : some (s', q1.2.2.1) = layC (ctF u) (ctF v) hid r ((x + 1) :: r)) (ho : ∀ s, s ≠ (x + 1) :: r → w1 s = w s) (hR : w1 ((x + 1) :: r) = some (q1.1, s', q1.2.2.1, q1.2.2.2)) (hf : ∀ a e, hc a = some e → a ≠ q1.1 → h1 a = some e) (hd : ∀ a, h1 a = none → hc a = none)
    (J : loI h1 aC w1 v ((x + 1) :: r) (hid || bdC (ctS (u ((x + 1) :: r)))) 9 h2 w2) : loS aC u v r hid (x + 1) hc w h2 w2 := by
  obtain ⟨j0, j1, ⟨j2, j3, j4⟩, j5, j6, j7, j8, j9⟩ := J
  obtain ⟨⟨Tw, Tv, U, D⟩, i1, ⟨i2, i3, i4⟩, i5, i6, i7, i8, i9⟩ := I
  have nr : ¬ (x + 1) :: r <:+ r := nsf r (x + 1)
  have wr : w2 r = w r := by rw [j1 r nr, ho r (ne_jr r (x + 1))]
  have wu : ∀ s, (x + 1) :: r <:+ s → w s = u s := fun s hs => (i5 (x + 1) s hs).2 (by omega)
  refine ⟨j0, fun s hs _ => by rw [j1 s hs, ho s (fun e => hs (by rw [e]; exact List.suffix_refl _))], ⟨by rw [wr], by rw [wr], fun q0 h0 => by rw [wr] at h0; exact i4 q0 h0⟩, fun s hs => ?_, fun a e ha hk => ?_, fun s q0 h0 => ?_, fun s q0 c h0 hc0 => ?_, fun a ha => hd a (j9 a ha)⟩
  · by_cases e : s = (x + 1) :: r
    · subst e; rw [j3, hR, ← hs']; rfl
    · have hl := layC_rec (cu := ctF u) (cu' := ctF w1) (cv := ctF v) (hid := hid) hs e (fun z hz hz2 => by show ctS (w1 z) = ctS (u z); rw [ho z hz2, wu z hz])
      rw [← hl]
      obtain ⟨y, hy⟩ := sfx_next hs e
      by_cases y9 : y ≤ 9
      · exact (j5 y s hy).1 y9
      · have k1 : v s = none := by
          obtain ⟨z, rfl⟩ := hy
          exact Tv.no (Tv.2.2.2.2.1 _ y (Or.inr (Or.inl y9))) z
        rw [(j5 y s hy).2 (by omega), layC_nv (show ctF v s = none by show ctS (v s) = none; rw [k1]; rfl)]; rfl
  · refine j6 a e (hf a e ha (hk _ q1 (Or.inr (List.suffix_refl _)) hq).1) (fun s q0 hs h0 => ?_)
    by_cases e2 : s = (x + 1) :: r
    · subst e2; rw [hR] at h0; cases h0; exact hk _ q1 (Or.inr hs) hq
    · rw [ho s e2] at h0; exact hk s q0 (Or.inr hs) h0
  · rcases j7 s q0 h0 with ⟨q2, k1, k2⟩ | k1
    · by_cases e2 : s = (x + 1) :: r
      · subst e2; rw [hR] at k1; cases k1; exact Or.inl ⟨q1, hq, k2⟩
      · rw [ho s e2] at k1; exact Or.inl ⟨q2, k1, k2⟩
    · exact Or.inr k1
  · rcases j8 s q0 c h0 hc0 with ⟨q2, k1, k2⟩ | k1 | k1
    · by_cases e2 : s = (x + 1) :: r
      · subst e2; rw [hR] at k1; cases k1; exact Or.inl ⟨q1, hq, k2⟩
      · rw [ho s e2] at k1; exact Or.inl ⟨q2, k1, k2⟩
    · exact Or.inr (Or.inl k1)
    · exact Or.inr (Or.inr (hd c k1))
end LZ
