/-! ===== tree and model, alike: words, views ===== -/
/-- the words of two marks, alike: the sorts, and a file's value -/
def alk (a b : Option (Int32 × Int32)) : Prop := a.map (fun q => q.1) = b.map (fun q => q.1) ∧ ∀ v, a = some (0, v) → b = some (0, v)
theorem alk_rf (a : Option (Int32 × Int32)) : alk a a := ⟨rfl, fun _ h => h⟩
theorem alk_n {a b : Option (Int32 × Int32)} (h : alk a b) : a = none ↔ b = none := by
  obtain ⟨h1, -⟩ := h
  cases a <;> cases b
  · exact ⟨fun _ => rfl, fun _ => rfl⟩
  · cases h1
  · cases h1
  · exact ⟨(fun e => by cases e), (fun e => by cases e)⟩
theorem alk_s {a b : Int32 × Int32} (h : alk (some a) (some b)) : a.1 = b.1 ∧ (a.1 = 0 → a.2 = b.2) := by
  refine ⟨Option.some.inj h.1, fun e => ?_⟩
  obtain ⟨a1, a2⟩ := a
  have e' : a1 = 0 := e
  subst e'
  have := Option.some.inj (h.2 a2 rfl)
  rw [this]
theorem alk_mk {a b : Int32 × Int32} (h1 : a.1 = b.1) (h2 : a.1 = 0 → a.2 = b.2) : alk (some a) (some b) := by
  refine ⟨congrArg some h1, fun v hv => ?_⟩
  have e := Option.some.inj hv
  obtain ⟨b1, b2⟩ := b
  subst e
  have e1 : (0 : Int32) = b1 := h1
  have e2 : v = b2 := h2 rfl
  rw [← e1, ← e2]
theorem alk_A {a b : Option zMk} (h : alk (ctS a) (ctS b)) : (mkA a = none ↔ mkA b = none) ∧ mkS a = mkS b := by
  refine ⟨(mkA_ct a).trans ((alk_n h).trans (mkA_ct b).symm), ?_⟩
  cases a with
  | none => cases b with
    | none => rfl
    | some b => exact absurd ((alk_n h).mp rfl) (by simp [ctS])
  | some a => cases b with
    | none => exact absurd ((alk_n h).mpr rfl) (by simp [ctS])
    | some b => exact (alk_s h).1
theorem alk_V {a b : Option zMk} (h : alk (ctS a) (ctS b)) (h0 : mkS a = 0) (ha : ¬ mkA a = none) : mkV a = mkV b := by
  cases a with
  | none => exact absurd rfl ha
  | some a => cases b with
    | none => exact absurd ((alk_n h).mpr rfl) (by simp [ctS])
    | some b => exact (alk_s h).2 h0
theorem alK_c {P S ms K : Int32} {m m' : Option Nat} (h : m = none ↔ m' = none) : alK P S m ms K = alK P S m' ms K := by
  unfold alK
  by_cases e : m = none
  · rw [if_pos e, if_pos (h.mp e)]
  · rw [if_neg e, if_neg (fun z => e (h.mpr z))]
theorem alS_c {S ms K : Int32} {m m' : Option Nat} (h : m = none ↔ m' = none) : alS S m ms K = alS S m' ms K := by
  unfold alS
  rw [decide_eq_decide]
  exact ⟨fun z => ⟨z.1, z.2.1, z.2.2.imp h.mp id⟩, fun z => ⟨z.1, z.2.1, z.2.2.imp h.mpr id⟩⟩
theorem alK_3v (P S : Int32) (m : Option Nat) (ms K : Int32) (hK : K = -1 ∨ K = 0 ∨ K = nI 1) : alK P S m ms K = -1 ∨ alK P S m ms K = 0 ∨ alK P S m ms K = nI 1 := by
  unfold alK
  split
  · split
    · split
      · exact Or.inl rfl
      · exact hK
    · split
      · exact Or.inl rfl
      · split
        · exact Or.inr (Or.inl rfl)
        · exact Or.inr (Or.inr rfl)
  · exact Or.inl rfl
theorem vw_3 (L : zLs) : ∀ (r : List Nat) (i : Nat), (vw L r).1 i = -1 ∨ (vw L r).1 i = 0 ∨ (vw L r).1 i = nI 1
  | [], _ => Or.inr (Or.inr rfl)
  | x :: r, i => by
    induction i with
    | zero => exact Or.inl rfl
    | succ i ih => exact alK_3v _ _ _ _ _ ih
theorem vw_alk {L L' : zLs} {n : Nat} : ∀ r : List Nat, (∀ s, s <:+ r → s ≠ [] → ∀ i, i < n → alk (ctS (L i s)) (ctS (L' i s))) → (∀ i, i ≤ n → (vw L r).1 i = (vw L' r).1 i) ∧ ∀ i, i < n → (vw L r).2 i = (vw L' r).2 i
  | [], _ => ⟨fun _ _ => rfl, fun _ _ => rfl⟩
  | x :: r, hs => by
    obtain ⟨h1, h2⟩ := vw_alk r (fun s h => hs s (h.trans (List.suffix_cons _ _)))
    have hx := hs (x :: r) (List.suffix_refl _) (by simp)
    have hk : ∀ i, i ≤ n → (vw L (x :: r)).1 i = (vw L' (x :: r)).1 i := fun i => by
      induction i with
      | zero => intro _; rfl
      | succ i ih =>
        intro hi
        obtain ⟨a1, a2⟩ := alk_A (hx i hi)
        show alK ((vw L r).1 (i + 1)) (bI ((vw L r).2 i)) (mkA (L i (x :: r))) (mkS (L i (x :: r))) ((vw L (x :: r)).1 i) = alK ((vw L' r).1 (i + 1)) (bI ((vw L' r).2 i)) (mkA (L' i (x :: r))) (mkS (L' i (x :: r))) ((vw L' (x :: r)).1 i)
        rw [h1 (i + 1) hi, h2 i hi, a2, ih (by omega), alK_c a1]
    refine ⟨hk, fun i hi => ?_⟩
    obtain ⟨a1, a2⟩ := alk_A (hx i hi)
    show alS (bI ((vw L r).2 i)) (mkA (L i (x :: r))) (mkS (L i (x :: r))) ((vw L (x :: r)).1 i) = alS (bI ((vw L' r).2 i)) (mkA (L' i (x :: r))) (mkS (L' i (x :: r))) ((vw L' (x :: r)).1 i)
    rw [h2 i hi, a2, hk i (by omega), alS_c a1]
theorem vwV_alk {L L' : zLs} {n x : Nat} {r : List Nat} (hx : ∀ i, i < n → alk (ctS (L i (x :: r))) (ctS (L' i (x :: r)))) : ∀ i, i ≤ n → (vw L (x :: r)).1 i = 0 → vwV L (x :: r) i = vwV L' (x :: r) i := fun i => by
  induction i with
  | zero => intro _ _; rfl
  | succ i ih =>
    intro hi hz
    obtain ⟨a1, a2⟩ := alk_A (hx i hi)
    show (if mkA (L i (x :: r)) = none then vwV L (x :: r) i else mkV (L i (x :: r))) = (if mkA (L' i (x :: r)) = none then vwV L' (x :: r) i else mkV (L' i (x :: r)))
    have hz' : alK ((vw L r).1 (i + 1)) (bI ((vw L r).2 i)) (mkA (L i (x :: r))) (mkS (L i (x :: r))) ((vw L (x :: r)).1 i) = 0 := hz
    unfold alK at hz'
    by_cases hP : (vw L r).1 (i + 1) = nI 1
    · rw [if_pos hP] at hz'
      by_cases e : mkA (L i (x :: r)) = none
      · rw [if_pos e, if_pos (a1.mp e)]
        rw [if_pos e] at hz'
        by_cases hS : bI ((vw L r).2 i) = 0
        · rw [if_pos hS] at hz'; exact absurd hz' (by decide)
        · rw [if_neg hS] at hz'; exact ih (by omega) hz'
      · rw [if_neg e, if_neg (fun z => e (a1.mpr z))]
        rw [if_neg e] at hz'
        by_cases h3 : mkS (L i (x :: r)) = nI 3
        · rw [if_pos h3] at hz'; exact absurd hz' (by decide)
        · rw [if_neg h3] at hz'
          by_cases h0 : mkS (L i (x :: r)) = 0
          · exact alk_V (hx i hi) h0 e
          · rw [if_neg h0] at hz'; exact absurd hz' (by decide)
    · rw [if_neg hP] at hz'; exact absurd hz' (by decide)
theorem rp_sfx : ∀ (g p : Nat), p ≤ g → p ≤ 9999 → pok p = true → ∀ s, s <:+ rp p → ∃ q, q ≤ 9999 ∧ pok q = true ∧ rp q = s ∧ q ≤ p
  | 0, p, hg, h9, hp, s, hs => by
    rw [show p = 0 by omega] at hs
    exact ⟨0, by omega, by decide, (List.suffix_nil.mp (show s <:+ [] from hs)).symm, by omega⟩
  | g + 1, p, hg, h9, hp, s, hs => by
    by_cases e : p = 0
    · rw [e] at hs
      exact ⟨0, by omega, by decide, (List.suffix_nil.mp (show s <:+ [] from hs)).symm, by omega⟩
    · obtain ⟨x, hx⟩ := rp_cons e
      rw [hx] at hs
      rcases List.suffix_cons_iff.mp hs with d | d
      · exact ⟨p, h9, hp, by rw [hx, d], Nat.le_refl _⟩
      · obtain ⟨p1, p2, p3⟩ := rp_par h9 hp
        rw [← p1] at d
        have lt := prN_lt e
        obtain ⟨q, a, b, c, f⟩ := rp_sfx g (prN p) (by omega) p3 p2 s d
        exact ⟨q, a, b, c, by omega⟩
/-- tree and model, alike -/
def rel (n : Nat) (Ls : zLs) (M V : Nat → Int32) : Prop := okM M ∧ (∀ i q, i < n → q ≤ 9999 → pok q = false → M (10000 * i + q) = 0) ∧ ∀ i p, i < n → p ≤ 9999 → pok p = true → ¬ p = 0 → alk (ctS (Ls i (rp p))) (ctS (Lm M V i (rp p)))
theorem Lm_ct {M V : Nat → Int32} {i p : Nat} (h9 : p ≤ 9999) (hp : pok p = true) : ctS (Lm M V i (rp p)) = if M (10000 * i + p) = 0 then none else some (M (10000 * i + p) - nI 1, V (10000 * i + p)) := by
  unfold Lm; rw [pnum_rp h9 hp]
  by_cases c : M (10000 * i + p) = 0
  · rw [if_pos c, if_pos c]; rfl
  · rw [if_neg c, if_neg c]; rfl
section RL
variable {n : Nat} {Ls : zLs} {M V : Nat → Int32}
theorem rel.sf (R : rel n Ls M V) {p : Nat} (h9 : p ≤ 9999) (hp : pok p = true) : ∀ s, s <:+ rp p → s ≠ [] → ∀ i, i < n → alk (ctS (Ls i s)) (ctS (Lm M V i s)) := fun s hs hn i hi => by
  obtain ⟨q, q9, qk, rfl, -⟩ := rp_sfx p p (Nat.le_refl _) h9 hp s hs
  exact R.2.2 i q hi q9 qk (fun e => hn (by rw [e]; rfl))
theorem rel.kd (R : rel n Ls M V) {p : Nat} (h9 : p ≤ 9999) (hp : pok p = true) {i : Nat} (hi : i ≤ n) : (vw Ls (rp p)).1 i = (vw (Lm M V) (rp p)).1 i := (vw_alk (rp p) (R.sf h9 hp)).1 i hi
theorem rel.kdT (R : rel n Ls M V) {p : Nat} (h9 : p ≤ 9999) (hp : pok p = true) {i : Nat} (hi : i ≤ n) : (vw Ls (rp p).tail).1 i = (vw (Lm M V) (rp p).tail).1 i := by
  obtain ⟨p1, p2, p3⟩ := rp_par h9 hp
  rw [← p1]; exact R.kd p3 p2 hi
theorem rel.val (R : rel n Ls M V) {p : Nat} (h9 : p ≤ 9999) (hp : pok p = true) {i : Nat} (hi : i ≤ n) (hz : (vw Ls (rp p)).1 i = 0) : vwV Ls (rp p) i = vwV (Lm M V) (rp p) i := by
  by_cases e : p = 0
  · subst e; rfl
  · obtain ⟨x, hx⟩ := rp_cons e
    have hs := R.sf h9 hp (rp p) (List.suffix_refl _) (by rw [hx]; simp)
    generalize (rp p).tail = r at hx
    rw [hx] at hs hz ⊢
    exact vwV_alk hs i hi hz
end RL
