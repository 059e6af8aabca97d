/-! ===== tree and model, alike: what changes ===== -/
theorem okM_pt {M M' : Nat → Int32} {T p : Nat} {what : Int32} (h : okM M) (hw : what = nI 0 ∨ what = nI 1 ∨ what = nI 2 ∨ what = nI 3 ∨ what = nI 4) (I : ptI M M' T p 0 what) (J : ptJ M M' T p 0 what) : okM M' := fun a => by
  rcases I a with e | ⟨z, rfl, z9, zk, z0, -⟩
  · rw [e]; exact h a
  · rw [J z z9 zk z0]
    split
    · exact hw
    · split
      · exact Or.inr (Or.inr (Or.inl rfl))
      · exact h _
theorem sub1 (x : Int32) : x + nI 1 - nI 1 = x := Int32.add_sub_cancel x (nI 1)
section RP
variable {n m : Nat} {Ls : zLs} {M V : Nat → Int32}
theorem rel.M0 (R : rel n Ls M V) {i p : Nat} (hi : i < n) (h9 : p ≤ 9999) (hp : pok p = true) (h0 : ¬ p = 0) : ctS (Ls i (rp p)) = none ↔ M (10000 * i + p) = 0 := by
  rw [alk_n (R.2.2 i p hi h9 hp h0), Lm_ct h9 hp]
  by_cases c : M (10000 * i + p) = 0
  · rw [if_pos c]; exact ⟨fun _ => c, fun _ => rfl⟩
  · rw [if_neg c]; exact ⟨(fun e => by cases e), fun e => absurd e c⟩
/-- a mark is set -/
theorem rel.set (R : rel (m + 1) Ls M V) {p : Nat} (p9 : p ≤ 9999) (pk : pok p = true) {s v : Int32} (hs : s = nI 0 ∨ s = nI 1 ∨ s = nI 2 ∨ s = nI 3) {u : List Nat → Option zMk} (hu : ∀ y, ctS (u y) = stC (fun y => ctS (Ls m y)) (rp p) s v y) {M' : Nat → Int32} (I : ptI M M' (10000 * m) p 0 (s + nI 1)) (J : ptJ M M' (10000 * m) p 0 (s + nI 1)) : rel (m + 1) (lyU Ls m u) M' (upd V (10000 * m + p) v) := by
  have hw : s + nI 1 = nI 0 ∨ s + nI 1 = nI 1 ∨ s + nI 1 = nI 2 ∨ s + nI 1 = nI 3 ∨ s + nI 1 = nI 4 := by
    rcases hs with e | e | e | e <;> rw [e] <;> decide
  have hw0 : ¬ s + nI 1 = 0 := by
    rcases hs with e | e | e | e <;> rw [e] <;> decide
  have far : ∀ i q, i < m + 1 → q ≤ 9999 → (i ≠ m ∨ pok q = false) → M' (10000 * i + q) = M (10000 * i + q) := fun i q hi hq hne => by
    rcases I (10000 * i + q) with e | ⟨z, e, z9, zk, z0, -⟩
    · exact e
    · have e1 : i = m := by omega
      have e2 : q = z := by omega
      rcases hne with d | d
      · exact absurd e1 d
      · rw [e2, zk] at d; cases d
  refine ⟨okM_pt R.1 hw I J, fun i q hi hq hk => by rw [far i q hi hq (Or.inr hk)]; exact R.2.1 i q hi hq hk, fun i z hi z9 zk z0 => ?_⟩
  rw [Lm_ct z9 zk]
  by_cases ei : i = m
  · subst ei
    have jz := J z z9 zk z0
    rw [lyU_k, hu]
    unfold stC
    by_cases ez : z = p
    · subst ez
      rw [if_pos rfl] at jz
      rw [if_pos rfl, jz, if_neg hw0, upd_at, sub1]; exact alk_rf _
    · have er : ¬ rp z = rp p := fun e => ez (rp_inj z9 zk p9 pk e)
      rw [if_neg ez] at jz
      rw [if_neg er, upd_ne _ _ (by omega)]
      have hz : ¬ rp z <:+ rp 0 := fun h => by
        obtain ⟨x, hx⟩ := rp_cons z0
        have e : rp z = [] := List.suffix_nil.mp (show rp z <:+ [] from h)
        rw [hx] at e; cases e
      have m0 := R.M0 (Nat.lt_succ_self i) z9 zk z0
      by_cases c : rp z <:+ rp p ∧ ctS (Ls i (rp z)) = none
      · rw [if_pos ⟨⟨c.1, hz⟩, m0.mp c.2⟩] at jz
        rw [if_pos c, jz, if_neg (by decide)]
        exact alk_mk (show nI 1 = nI 2 - nI 1 by decide) (fun e => absurd (show nI 1 = 0 from e) (by decide))
      · rw [if_neg (fun d => c ⟨d.1.1, m0.mpr d.2⟩)] at jz
        rw [if_neg c, jz]
        have := R.2.2 i z (Nat.lt_succ_self i) z9 zk z0
        rw [Lm_ct z9 zk] at this; exact this
  · rw [lyU_o _ _ ei, far i z hi z9 (Or.inl ei), upd_ne _ _ (by omega)]
    have := R.2.2 i z hi z9 zk z0
    rw [Lm_ct z9 zk] at this; exact this
/-- all marks at a path and below it go -/
theorem rel.cut (R : rel (m + 1) Ls M V) {p : Nat} (p9 : p ≤ 9999) (pk : pok p = true) : rel (m + 1) (lyU Ls m (ctU (Ls m) (rp p))) (tkM M (10000 * m) p 10000) V := by
  have hok : okM (tkM M (10000 * m) p 10000) := fun a => by
    unfold tkM; split
    · exact Or.inl rfl
    · exact R.1 a
  have far : ∀ i q, i < m + 1 → q ≤ 9999 → i ≠ m → tkM M (10000 * m) p 10000 (10000 * i + q) = M (10000 * i + q) := fun i q hi hq hne => if_neg (by omega)
  refine ⟨hok, fun i q hi hq hk => ?_, fun i z hi z9 zk z0 => ?_⟩
  · unfold tkM; split
    · rfl
    · exact R.2.1 i q hi hq hk
  · have h1 := R.2.2 i z hi z9 zk z0
    rw [Lm_ct z9 zk] at h1
    rw [Lm_ct z9 zk]
    by_cases ei : i = m
    · subst ei
      rw [lyU_k, ctC_U]
      have hb : tkB z p = decide (rp p <:+ rp z) := by unfold tkB; rw [zk, sf_bl z0 p9 pk z9 zk]; rfl
      have ht : tkM M (10000 * i) p 10000 (10000 * i + z) = if rp p <:+ rp z then nI 0 else M (10000 * i + z) := by
        unfold tkM
        rw [show 10000 * i + z - 10000 * i = z by omega, hb]
        by_cases c : rp p <:+ rp z
        · rw [if_pos ⟨by omega, by omega, decide_eq_true c⟩, if_pos c]
        · rw [if_neg (fun d => c (of_decide_eq_true d.2.2)), if_neg c]
      rw [ht]
      unfold ctC
      by_cases c : rp p <:+ rp z
      · rw [if_pos c, if_pos c, if_pos (show nI 0 = 0 from rfl)]; exact alk_rf _
      · rw [if_neg c, if_neg c]; exact h1
    · rw [lyU_o _ _ ei, far i z hi z9 ei]; exact h1
theorem rel.take (R : rel (m + 1) Ls M V) {p : Nat} (p9 : p ≤ 9999) (pk : pok p = true) {u : List Nat → Option zMk} (hu : ∀ y, ctS (u y) = taC (fun y => ctS (Ls m y)) (rp p) ((vw Ls (rp p)).1 m) y) {M1 V1 : Nat → Int32} (T : tkP M V m p M1 V1) : rel (m + 1) (lyU Ls m u) M1 V1 := by
  have Rc := R.cut p9 pk
  have hv : (vw Ls (rp p)).1 m = (vw (Lm (tkM M (10000 * m) p 10000) V) (rp p)).1 m := by
    rw [← Rc.kd p9 pk (Nat.le_succ m)]
    exact (vw_lt (fun i hi => (lyU_o Ls _ (by omega)).symm) (rp p)).1 m (Nat.le_refl m)
  rw [hv] at hu
  rcases T with ⟨hz, rfl, rfl⟩ | ⟨hz, rfl, I, J⟩
  · refine ⟨Rc.1, Rc.2.1, fun i z hi z9 zk z0 => ?_⟩
    have h1 := Rc.2.2 i z hi z9 zk z0
    by_cases ei : i = m
    · subst ei
      rw [lyU_k, ctC_U] at h1
      rw [lyU_k, hu]
      unfold taC
      rw [if_pos hz]; exact h1
    · rw [lyU_o _ _ ei] at h1
      rw [lyU_o _ _ ei]; exact h1
  · have := Rc.set (s := nI 3) (v := nI 0) p9 pk (Or.inr (Or.inr (Or.inr rfl))) (u := u) (fun y => by
      rw [hu]; unfold taC; rw [if_neg hz, lyU_k]
      unfold stC; simp only [ctC_U]) (M' := M1) I J
    rw [lyU_lyU] at this; exact this
/-- one layer more -/
theorem rel.more (R : rel n Ls M V) (a : Nat) : rel (n + 1) (lyN Ls n a) (clM M n 10000) V := by
  have far : ∀ i q, i < n → q ≤ 9999 → clM M n 10000 (10000 * i + q) = M (10000 * i + q) := fun i q hi hq => if_neg (by omega)
  have near : ∀ q, q ≤ 9999 → clM M n 10000 (10000 * n + q) = 0 := fun q hq => if_pos (by omega)
  refine ⟨fun a => ?_, fun i q hi hq hk => ?_, fun i z hi z9 zk z0 => ?_⟩
  · unfold clM; split
    · exact Or.inl rfl
    · exact R.1 a
  · by_cases e : i = n
    · rw [e]; exact near q hq
    · rw [far i q (by omega) hq]; exact R.2.1 i q (by omega) hq hk
  · rw [Lm_ct z9 zk]
    by_cases e : i = n
    · subst e
      obtain ⟨x, hx⟩ := rp_cons z0
      rw [near z z9, if_pos rfl, lyN_n, if_neg (by rw [hx]; simp)]; exact alk_rf _
    · rw [far i z (by omega) z9, lyN_o _ _ e]
      have := R.2.2 i z (by omega) z9 zk z0
      rw [Lm_ct z9 zk] at this; exact this
theorem rel.less (R : rel n Ls M V) : rel (n - 1) Ls M V := ⟨R.1, fun i q hi => R.2.1 i q (by omega), fun i p hi => R.2.2 i p (by omega)⟩
theorem rel_new (a : Nat) : rel 1 (lyN (fun _ _ => none) 0 a) (fun _ => 0) (fun _ => 0) := by
  refine ⟨fun _ => Or.inl rfl, fun _ _ _ _ _ => rfl, fun i p hi p9 pk p0 => ?_⟩
  obtain ⟨x, hx⟩ := rp_cons p0
  rw [show i = 0 by omega, lyN_n, if_neg (by rw [hx]; simp), Lm_ct p9 pk, if_pos rfl]; exact alk_rf _
/-- a word that hides -/
theorem bd_hd {c : Option (Int32 × Int32)} {M V : Nat → Int32} {i p : Nat} (hM : okM M) (h9 : p ≤ 9999) (hp : pok p = true) (a : alk c (ctS (Lm M V i (rp p)))) : bdC c = hdC (M (10000 * i + p)) := by
  have hx := hM (10000 * i + p)
  rw [Lm_ct h9 hp] at a
  generalize M (10000 * i + p) = x at a hx ⊢
  cases c with
  | none =>
    have e := (alk_n a).mp rfl
    by_cases c : x = 0
    · rw [c]; decide
    · rw [if_neg c] at e; cases e
  | some q =>
    by_cases c : x = 0
    · rw [if_pos c] at a
      exact absurd ((alk_n a).mpr rfl) (by simp)
    · rw [if_neg c] at a
      have e : q.1 = x - nI 1 := (alk_s a).1
      show decide (¬ q.1 = nI 1) = hdC x
      rw [e]
      rcases hx with d | d | d | d | d <;> rw [d] <;> first | decide | exact absurd d c
theorem an_hd (R : rel n Ls M V) {i : Nat} (hi : i < n) : ∀ (g q : Nat), q ≤ g → q ≤ 9999 → pok q = true → anH (ctF (Ls i)) [] (rp q) = hdN M i g q
  | 0, q, hg, _, _ => by rw [show q = 0 by omega]; rfl
  | g + 1, q, hg, h9, hp => by
    unfold hdN
    by_cases e : q = 0
    · rw [if_pos e, e]; rfl
    · obtain ⟨x, hx⟩ := rp_cons e
      obtain ⟨p1, p2, p3⟩ := rp_par h9 hp
      have lt := prN_lt e
      rw [if_neg e, ← an_hd R hi g (prN q) (by omega) p3 p2, p1, ← bd_hd R.1 h9 hp (R.2.2 i q hi h9 hp e)]
      show anH (ctF (Ls i)) [] (rp q) = (bdC (ctF (Ls i) (rp q)) || anH (ctF (Ls i)) [] (rp q).tail)
      generalize (rp q).tail = r at hx
      rw [hx]
      exact if_neg (by simp)
/-- two layers are made one -/
theorem rel.squ (R : rel (m + 1) Ls M V) {k : Nat} (hk : k < m) {w : List Nat → Option zMk} (hw : ∀ s, s ≠ [] → ctS (w s) = layC (ctF (Ls (k + 1))) (ctF (Ls k)) false [] s) : rel m (sqL Ls k w) (sqM M (m + 1) k) (sqV M V (m + 1) k) := by
  have lo : ∀ (f g : Nat → Int32) (i q : Nat), i < k → q ≤ 9999 → shF (rgU f g (10000 * k) 10000) (10000 * (k + 1)) (10000 * (m + 1 - 1)) (10000 * i + q) = f (10000 * i + q) := fun f g i q hi hq => by
    unfold shF rgU
    rw [if_neg (by omega), if_neg (by omega)]
  have mi : ∀ (f g : Nat → Int32) (q : Nat), 1 ≤ q → q ≤ 9999 → shF (rgU f g (10000 * k) 10000) (10000 * (k + 1)) (10000 * (m + 1 - 1)) (10000 * k + q) = g q := fun f g q h1 hq => by
    unfold shF rgU
    rw [if_neg (by omega), if_pos (by omega), show 10000 * k + q - 10000 * k = q by omega]
  have up : ∀ (f g : Nat → Int32) (i q : Nat), k < i → i < m → q ≤ 9999 → shF (rgU f g (10000 * k) 10000) (10000 * (k + 1)) (10000 * (m + 1 - 1)) (10000 * i + q) = f (10000 * (i + 1) + q) := fun f g i q hi hm hq => by
    unfold shF rgU
    rw [if_pos (by omega), if_neg (by omega), show 10000 * i + q + 10000 = 10000 * (i + 1) + q by omega]
  have ok1 : ∀ q, sq1 M k q = nI 0 ∨ sq1 M k q = nI 1 ∨ sq1 M k q = nI 2 ∨ sq1 M k q = nI 3 ∨ sq1 M k q = nI 4 := fun q => by
    unfold sq1
    split
    · exact Or.inr (Or.inr (Or.inr (Or.inl rfl)))
    · split
      · exact R.1 _
      · split
        · exact Or.inl rfl
        · exact R.1 _
  refine ⟨fun a => ?_, fun i q hi hq hnk => ?_, fun i z hi z9 zk z0 => ?_⟩
  · unfold sqM shF rgU
    split
    · split
      · exact ok1 _
      · exact R.1 _
    · split
      · exact ok1 _
      · exact R.1 _
  · unfold sqM
    have q1 : 1 ≤ q := Nat.one_le_iff_ne_zero.mpr (fun e => by rw [e] at hnk; exact absurd hnk (by decide))
    rcases Nat.lt_trichotomy i k with e | e | e
    · rw [lo _ _ i q e hq]; exact R.2.1 i q (by omega) hq hnk
    · rw [e, mi _ _ q q1 hq]
      unfold sq1
      rw [R.2.1 (k + 1) q (by omega) hq hnk, R.2.1 k q (by omega) hq hnk, if_neg (by decide), if_neg (fun c => c rfl)]
      split <;> rfl
    · rw [up _ _ i q e hi hq]; exact R.2.1 (i + 1) q (by omega) hq hnk
  · rw [Lm_ct z9 zk]
    unfold sqM sqV
    rcases Nat.lt_trichotomy i k with e | e | e
    · rw [lo _ _ i z e z9, lo _ _ i z e z9, show sqL Ls k w i = Ls i from if_pos e]
      have := R.2.2 i z (by omega) z9 zk z0
      rw [Lm_ct z9 zk] at this; exact this
    · subst e
      obtain ⟨x, hx⟩ := rp_cons z0
      obtain ⟨p1, p2, p3⟩ := rp_par z9 zk
      rw [mi _ _ z (by omega) z9, mi _ _ z (by omega) z9, sqL_k, hw (rp z) (by rw [hx]; simp)]
      have hi1 := R.2.2 (i + 1) z (by omega) z9 zk z0
      have hi0 := R.2.2 i z (by omega) z9 zk z0
      have hb := bd_hd R.1 z9 zk hi0
      have hO := R.1 (10000 * (i + 1) + z)
      have hL : ctS (Lm M V i (rp z)) = _ := Lm_ct z9 zk
      have ha : ctF (Ls (i + 1)) (rp z) = none → anH (ctF (Ls (i + 1))) [] (rp z) = hdN M (i + 1) 9999 (prN z) := fun hn => by
        have lt := prN_lt z0
        rw [← an_hd R (by omega) 9999 (prN z) (by omega) p3 p2, p1]
        generalize (rp z).tail = r at hx
        rw [hx] at hn ⊢
        show (if x :: r = [] then false else (bdC (ctF (Ls (i + 1)) (x :: r)) || anH (ctF (Ls (i + 1))) [] r)) = _
        rw [if_neg (by simp), hn]; rfl
      rw [Lm_ct z9 zk] at hi1 hi0
      unfold sq1 sq2 layC
      rw [show bdC (ctF (Ls i) (rp z)) = hdC (M (10000 * i + z)) from hb]
      have hi1' : alk (ctF (Ls (i + 1)) (rp z)) (if M (10000 * (i + 1) + z) = 0 then none else some (M (10000 * (i + 1) + z) - nI 1, V (10000 * (i + 1) + z))) := hi1
      have hi0' : alk (ctF (Ls i) (rp z)) (if M (10000 * i + z) = 0 then none else some (M (10000 * i + z) - nI 1, V (10000 * i + z))) := hi0
      generalize ctF (Ls (i + 1)) (rp z) = cu at hi1' ha ⊢
      generalize ctF (Ls i) (rp z) = cv at hi0' ⊢
      generalize M (10000 * (i + 1) + z) = H at hi1' hO ⊢
      generalize M (10000 * i + z) = B at hi0' ⊢
      cases cu with
      | none =>
        have hH : H = 0 := by
          by_cases c : H = 0
          · exact c
          · rw [if_neg c] at hi1'; exact absurd ((alk_n hi1').mp rfl) (by simp)
        have e1 : (if (0 : Int32) = nI 2 ∧ hdC B = true then nI 3 else if ¬ (0 : Int32) = 0 then 0 else if hdN M (i + 1) 9999 (prN z) = true then nI 0 else B) = if hdN M (i + 1) 9999 (prN z) = true then nI 0 else B := by
          rw [if_neg (fun c => absurd c.1 (by decide)), if_neg (fun c => c rfl)]
        have e2 : (if (0 : Int32) = nI 2 ∧ hdC B = true then V (10000 * i + z) else if ¬ (0 : Int32) = 0 then V (10000 * (i + 1) + z) else V (10000 * i + z)) = V (10000 * i + z) := by
          rw [if_neg (fun c => absurd c.1 (by decide)), if_neg (fun c => c rfl)]
        rw [hH, e1, e2]
        show alk (if (false || anH (ctF (Ls (i + 1))) [] (rp z)) = true then none else cv) _
        rw [ha rfl, Bool.false_or]
        by_cases c : hdN M (i + 1) 9999 (prN z) = true
        · rw [if_pos c, if_pos c, if_pos (show nI 0 = 0 from rfl)]; exact alk_rf _
        · rw [if_neg c, if_neg c]; exact hi0'
      | some a =>
        have hH : ¬ H = 0 := fun c => by rw [if_pos c] at hi1'; exact absurd ((alk_n hi1').mpr rfl) (by simp)
        rw [if_neg hH] at hi1'
        obtain ⟨a1, a2⟩ := alk_s hi1'
        have a1' : a.1 = H - nI 1 := a1
        have h2 : a.1 = nI 1 ↔ H = nI 2 := by
          rw [a1']
          rcases hO with d | d | d | d | d <;> rw [d] <;> decide
        show alk (some (if a.1 = nI 1 ∧ hdC B = true then (nI 2, a.2) else a)) _
        by_cases c : H = nI 2 ∧ hdC B = true
        · rw [if_pos c, if_pos c, if_pos ⟨h2.mpr c.1, c.2⟩, if_neg (by decide)]
          exact alk_mk (show nI 2 = nI 3 - nI 1 by decide) (fun e => absurd (show nI 2 = 0 from e) (by decide))
        · rw [if_neg c, if_neg c, if_neg (fun d => c ⟨h2.mp d.1, d.2⟩), if_pos hH, if_pos hH, if_neg hH]
          exact hi1'
    · rw [up _ _ i z e hi z9, up _ _ i z e hi z9, show sqL Ls k w i = Ls (i + 1) from by unfold sqL; rw [if_neg (by omega), if_neg (by omega)]]
      have := R.2.2 (i + 1) z (by omega) z9 zk z0
      rw [Lm_ct z9 zk] at this; exact this
end RP
