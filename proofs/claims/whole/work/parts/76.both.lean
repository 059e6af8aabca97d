/-! ===== tree and model, alike: each call ===== -/
theorem tW.b {h : zz_Hp} {aC : Nat → ClassId} {t la sa n : Nat} {A : zA5} {Ls : zLs} (W : tW h aC t la sa A n Ls) : 1 ≤ n ∧ n ≤ 8 := W.1
theorem tW.t1 {h : zz_Hp} {aC : Nat → ClassId} {t la sa n : Nat} {A : zA5} {Ls : zLs} (W : tW h aC t la sa A n Ls) {i : Nat} (hi : i < n) : (∀ r j, Ls i r = none → Ls i (j :: r) = none) ∧ ¬ Ls i [] = none := by
  obtain ⟨-, -, -, -, -, -, -, w8, -⟩ := W
  obtain ⟨-, -, -, a4, -, q, hq, -⟩ := w8 i hi
  exact ⟨a4, fun e => by rw [e] at hq; cases hq⟩
theorem cd2_1 (X1 X2 : String) : cd2 X1 X2 (.inr X1) = rfC true false false := if_pos rfl
theorem cd2_2 {X1 X2 : String} (h : X2 ≠ X1) : cd2 X1 X2 (.inr X2) = rfC false true false := by
  show (if X2 = X1 then nI 1 else if X2 = X2 then nI 2 else nI 3) = nI 2
  rw [if_neg h, if_pos rfl]
theorem cd2_3 {X1 X2 X3 : String} (h : X3 ≠ X1) (h2 : X3 ≠ X2) : cd2 X1 X2 (.inr X3) = rfC false false true := by
  show (if X3 = X1 then nI 1 else if X3 = X2 then nI 2 else nI 3) = nI 3
  rw [if_neg h, if_neg h2]
theorem pb_c (x : Int32) : (x = 0 ∨ isP x = false) ↔ pbB x = false := by
  unfold pbB
  cases h : isP x
  · simp
  · by_cases e : x = 0 <;> simp [e]
theorem pb_n {x : Int32} (h : pbB x = true) : ¬ (x = 0 ∨ isP x = false) := fun z => by rw [(pb_c x).mp z] at h; cases h
theorem as_c (x y : Int32) (n : Nat) : (isP x = false ∨ y < nI 1 ∨ nI n < y) ↔ asB x y n = false := by
  unfold asB inB
  cases h : isP x
  · simp
  · rw [Bool.true_and, decide_eq_false_iff_not]
    constructor
    · rintro (z | z | z)
      · cases z
      · exact fun c => absurd c.1 (Int32.not_le.mpr z)
      · exact fun c => absurd c.2 (Int32.not_le.mpr z)
    · intro c
      by_cases z : y < nI 1
      · exact Or.inr (Or.inl z)
      · exact Or.inr (Or.inr (Int32.not_le.mp (fun d => c ⟨Int32.not_lt.mp z, d⟩)))
theorem ly_c (y : Int32) {n : Nat} (h1 : 1 ≤ n) (h8 : n ≤ 8) : (y < 0 ∨ nI n ≤ y) ↔ lyB y n = false := by
  unfold lyB inB
  rw [decide_eq_false_iff_not]
  by_cases z : y < 0
  · exact ⟨fun _ c => absurd (show (0 : Int32) ≤ y from c.1) (Int32.not_le.mpr z), fun _ => Or.inl z⟩
  · obtain ⟨j, hj, rfl⟩ := nI_of z
    rw [nI_leI (by omega) hj, nI_leI hj (by omega), nI_leI (by decide) hj]
    constructor
    · rintro (c | c)
      · exact absurd c z
      · omega
    · intro c; exact Or.inr (by omega)
theorem sq_c (x : Int32) {m : Nat} (h8 : m ≤ 7) : (x < 0 ∨ nI m ≤ x) ↔ sqB x (m + 1) = false := by
  unfold sqB inB
  rw [decide_eq_false_iff_not]
  by_cases z : x < 0
  · exact ⟨fun _ c => absurd (show (0 : Int32) ≤ x from c.1) (Int32.not_le.mpr z), fun _ => Or.inl z⟩
  · obtain ⟨j, hj, rfl⟩ := nI_of z
    cases m with
    | zero =>
      refine ⟨fun _ c => ?_, fun _ => Or.inr (by rw [nI_leI (by decide) hj]; omega)⟩
      exact absurd (Int32.le_trans c.1 c.2) (by decide)
    | succ q =>
      rw [show nI (q + 1 + 1) - nI 2 = nI q from by rw [show q + 1 + 1 = q + 2 from rfl, ← nI_add q 2, Int32.add_sub_cancel], nI_leI (by omega) hj, nI_leI hj (by omega), nI_leI (by decide) hj]
      constructor
      · rintro (c | c)
        · exact absurd c z
        · omega
      · intro c; exact Or.inr (by omega)
/-- the two, side by side -/
def jS (aC : Nat → ClassId) (t o : Nat) (ht hm : zz_Hp) (th : Int32) : Prop := ∃ (la sa : Nat) (A : zA5) (ad : Nat → Nat) (n : Nat) (Ls : zLs) (M V vs sn sh : Nat → Int32), tW ht aC t la sa A n Ls ∧ mW hm aC o ad th n M V vs sn sh ∧ rel n Ls M V
section JN
variable {aC : Nat → ClassId} {t o la sa m n : Nat} {A : zA5} {ad : Nat → Nat} {th : Int32} {Ls : zLs} {M V vs sn sh : Nat → Int32} {h ht' hm' : zz_Hp} {r' rv : zz_R}
theorem jn_write (R : rel (m + 1) Ls M V) (x v : Int32)
    (PT : (x = 0 ∨ isP x = false → r' = .inr "java/lang/IllegalArgumentException" ∧ tW ht' aC t la sa A (m + 1) Ls) ∧ (¬ (x = 0 ∨ isP x = false) → ¬ (vw Ls (Rx x).tail).1 (m + 1) = nI 1 ∨ (vw Ls (Rx x)).1 (m + 1) = nI 1 → r' = .inr "java/lang/IllegalStateException" ∧ tW ht' aC t la sa A (m + 1) Ls) ∧ (¬ (x = 0 ∨ isP x = false) → ¬ (¬ (vw Ls (Rx x).tail).1 (m + 1) = nI 1 ∨ (vw Ls (Rx x)).1 (m + 1) = nI 1) → r' = .inl (some (.int (bI (decide (¬ (vw Ls (Rx x)).1 (m + 1) = 0))))) ∧ ∃ u, tW ht' aC t la sa A (m + 1) (lyU Ls m u) ∧ ∀ y, ctS (u y) = stC (fun y => ctS (Ls m y)) (Rx x) (nI 0) v y))
    (PM : ∃ (r : Bool) (vs' sn' sh' : Nat → Int32), rv = .inl (some (.int (bI r))) ∧ (pbB x = false → mW hm' aC o ad (rfC true false false) (m + 1) M V vs' sn' sh') ∧ (pbB x = true → (¬ (vw (Lm M V) (Rx x).tail).1 (m + 1) = nI 1 ∨ (vw (Lm M V) (Rx x)).1 (m + 1) = nI 1) → mW hm' aC o ad (rfC false true false) (m + 1) M V vs' sn' sh') ∧ (pbB x = true → ¬ (¬ (vw (Lm M V) (Rx x).tail).1 (m + 1) = nI 1 ∨ (vw (Lm M V) (Rx x)).1 (m + 1) = nI 1) → r = decide ((vw (Lm M V) (Rx x)).1 (m + 1) = -1) ∧ ∃ M', mW hm' aC o ad (rfC false false false) (m + 1) M' (upd V (10000 * m + x.toNatClampNeg) v) vs' sn' sh' ∧ ptI M M' (10000 * m) x.toNatClampNeg 0 (nI 1) ∧ ptJ M M' (10000 * m) x.toNatClampNeg 0 (nI 1))) :
    ∃ b0 : Bool, rv = .inl (some (.int (bI b0))) ∧ jS aC t o ht' hm' (cd2 "java/lang/IllegalArgumentException" "java/lang/IllegalStateException" r') ∧ ∀ b : Bool, r' = .inl (some (.int (bI b))) → b0 = b := by
  obtain ⟨r, vs', sn', sh', rfl, m1, m2, m3⟩ := PM
  obtain ⟨t1, t2, t3⟩ := PT
  refine ⟨r, rfl, ?_⟩
  cases hb : pbB x with
  | false =>
    obtain ⟨rfl, W'⟩ := t1 ((pb_c x).mpr hb)
    exact ⟨⟨la, sa, A, ad, m + 1, Ls, M, V, vs', sn', sh', W', by rw [cd2_1]; exact m1 hb, R⟩, fun b z => by cases z⟩
  | true =>
    have nb := pb_n hb
    obtain ⟨j, rfl, hj, hj0⟩ := pbB_of hb
    have clj : (nI j).toNatClampNeg = j := nI_clamp (by omega)
    have k1 := R.kd hj.1 hj.2 (Nat.le_refl (m + 1))
    have k2 := R.kdT hj.1 hj.2 (Nat.le_refl (m + 1))
    simp only [Rx, clj, ← k1, ← k2] at t2 t3 m2 m3
    by_cases bad : ¬ (vw Ls (rp j).tail).1 (m + 1) = nI 1 ∨ (vw Ls (rp j)).1 (m + 1) = nI 1
    · obtain ⟨rfl, W'⟩ := t2 nb bad
      exact ⟨⟨la, sa, A, ad, m + 1, Ls, M, V, vs', sn', sh', W', by rw [cd2_2 (by decide)]; exact m2 hb bad, R⟩, fun b z => by cases z⟩
    · obtain ⟨rfl, u, W', hu⟩ := t3 nb bad
      obtain ⟨hr, M', W2, I, J⟩ := m3 hb bad
      refine ⟨⟨la, sa, A, ad, m + 1, _, M', _, vs', sn', sh', W', W2, R.set hj.1 hj.2 (Or.inl rfl) hu I J⟩, fun b z => ?_⟩
      have e : b = decide (¬ (vw Ls (rp j)).1 (m + 1) = 0) := by
        have := Value.int.inj (Option.some.inj (Sum.inl.inj z))
        cases b <;> cases hd : decide (¬ (vw Ls (rp j)).1 (m + 1) = 0) <;> rw [hd] at this <;> first | rfl | exact absurd this (by decide)
      rw [hr, e]
      rcases vw_3 Ls (rp j) (m + 1) with c | c | c
      · rw [c]; decide
      · rw [c]; decide
      · exact absurd (Or.inr c) bad
theorem jn_make (R : rel (m + 1) Ls M V) (x : Int32)
    (PT : (x = 0 ∨ isP x = false → r' = .inr "java/lang/IllegalArgumentException" ∧ tW ht' aC t la sa A (m + 1) Ls) ∧ (¬ (x = 0 ∨ isP x = false) → ¬ (vw Ls (Rx x).tail).1 (m + 1) = nI 1 ∨ ¬ (vw Ls (Rx x)).1 (m + 1) = -1 → r' = .inr "java/lang/IllegalStateException" ∧ tW ht' aC t la sa A (m + 1) Ls) ∧ (¬ (x = 0 ∨ isP x = false) → ¬ (¬ (vw Ls (Rx x).tail).1 (m + 1) = nI 1 ∨ ¬ (vw Ls (Rx x)).1 (m + 1) = -1) → r' = .inl none ∧ ∃ u, tW ht' aC t la sa A (m + 1) (lyU Ls m u) ∧ ∀ y, ctS (u y) = stC (fun y => ctS (Ls m y)) (Rx x) (if (vw Ls (Rx x)).1 m = -1 then nI 1 else nI 2) (nI 0) y))
    (PM : ∃ (vs' sn' sh' : Nat → Int32), rv = .inl none ∧ (pbB x = false → mW hm' aC o ad (rfC true false false) (m + 1) M V vs' sn' sh') ∧ (pbB x = true → (¬ (vw (Lm M V) (Rx x).tail).1 (m + 1) = nI 1 ∨ ¬ (vw (Lm M V) (Rx x)).1 (m + 1) = -1) → mW hm' aC o ad (rfC false true false) (m + 1) M V vs' sn' sh') ∧ (pbB x = true → ¬ (¬ (vw (Lm M V) (Rx x).tail).1 (m + 1) = nI 1 ∨ ¬ (vw (Lm M V) (Rx x)).1 (m + 1) = -1) → ∃ M', mW hm' aC o ad (rfC false false false) (m + 1) M' (upd V (10000 * m + x.toNatClampNeg) (nI 0)) vs' sn' sh' ∧ ptI M M' (10000 * m) x.toNatClampNeg 0 (if (vw (Lm M V) (Rx x)).1 m = -1 then nI 2 else nI 3) ∧ ptJ M M' (10000 * m) x.toNatClampNeg 0 (if (vw (Lm M V) (Rx x)).1 m = -1 then nI 2 else nI 3))) :
    rv = .inl none ∧ jS aC t o ht' hm' (cd2 "java/lang/IllegalArgumentException" "java/lang/IllegalStateException" r') := by
  obtain ⟨vs', sn', sh', rfl, m1, m2, m3⟩ := PM
  obtain ⟨t1, t2, t3⟩ := PT
  refine ⟨rfl, ?_⟩
  cases hb : pbB x with
  | false =>
    obtain ⟨rfl, W'⟩ := t1 ((pb_c x).mpr hb)
    exact ⟨la, sa, A, ad, m + 1, Ls, M, V, vs', sn', sh', W', by rw [cd2_1]; exact m1 hb, R⟩
  | true =>
    have nb := pb_n hb
    obtain ⟨j, rfl, hj, hj0⟩ := pbB_of hb
    have clj : (nI j).toNatClampNeg = j := nI_clamp (by omega)
    have k1 := R.kd hj.1 hj.2 (Nat.le_refl (m + 1))
    have k2 := R.kdT hj.1 hj.2 (Nat.le_refl (m + 1))
    have k3 := R.kd hj.1 hj.2 (Nat.le_succ m)
    simp only [Rx, clj, ← k1, ← k2, ← k3] at t2 t3 m2 m3
    by_cases bad : ¬ (vw Ls (rp j).tail).1 (m + 1) = nI 1 ∨ ¬ (vw Ls (rp j)).1 (m + 1) = -1
    · obtain ⟨rfl, W'⟩ := t2 nb bad
      exact ⟨la, sa, A, ad, m + 1, Ls, M, V, vs', sn', sh', W', by rw [cd2_2 (by decide)]; exact m2 hb bad, R⟩
    · obtain ⟨rfl, u, W', hu⟩ := t3 nb bad
      obtain ⟨M', W2, I, J⟩ := m3 hb bad
      have hs : (if (vw Ls (rp j)).1 m = -1 then nI 2 else nI 3) = (if (vw Ls (rp j)).1 m = -1 then nI 1 else nI 2) + nI 1 := by split <;> decide
      rw [hs] at I J
      exact ⟨la, sa, A, ad, m + 1, _, M', _, vs', sn', sh', W', W2, R.set hj.1 hj.2 (by split; exact Or.inr (Or.inl rfl); exact Or.inr (Or.inr (Or.inl rfl))) hu I J⟩
theorem jn_remove (R : rel (m + 1) Ls M V) (x : Int32)
    (PT : (x = 0 ∨ isP x = false → r' = .inr "java/lang/IllegalArgumentException" ∧ tW ht' aC t la sa A (m + 1) Ls) ∧ (¬ (x = 0 ∨ isP x = false) → (vw Ls (Rx x)).1 (m + 1) = -1 → r' = .inr "java/util/NoSuchElementException" ∧ tW ht' aC t la sa A (m + 1) Ls) ∧ (¬ (x = 0 ∨ isP x = false) → ¬ (vw Ls (Rx x)).1 (m + 1) = -1 → r' = .inl (some (.int (nI (cnS Ls (m + 1) (4 - (Rx x).length) (Rx x))))) ∧ ∃ u, tW ht' aC t la sa A (m + 1) (lyU Ls m u) ∧ ∀ y, ctS (u y) = taC (fun y => ctS (Ls m y)) (Rx x) ((vw Ls (Rx x)).1 m) y))
    (PM : ∃ (r : Int32) (vs' sn' sh' : Nat → Int32), rv = .inl (some (.int r)) ∧ (pbB x = false → mW hm' aC o ad (rfC true false false) (m + 1) M V vs' sn' sh') ∧ (pbB x = true → (vw (Lm M V) (Rx x)).1 (m + 1) = -1 → mW hm' aC o ad (rfC false true false) (m + 1) M V vs' sn' sh') ∧ (pbB x = true → ¬ (vw (Lm M V) (Rx x)).1 (m + 1) = -1 → r = nI (cnQ (rmQ (Lm M V) (m + 1) x.toNatClampNeg) 10000) ∧ ((vw (Lm (tkM M (10000 * m) x.toNatClampNeg 10000) V) (Rx x)).1 m = -1 → mW hm' aC o ad (rfC false false false) (m + 1) (tkM M (10000 * m) x.toNatClampNeg 10000) V vs' sn' sh') ∧ (¬ (vw (Lm (tkM M (10000 * m) x.toNatClampNeg 10000) V) (Rx x)).1 m = -1 → ∃ M', mW hm' aC o ad (rfC false false false) (m + 1) M' (upd V (10000 * m + x.toNatClampNeg) (nI 0)) vs' sn' sh' ∧ ptI (tkM M (10000 * m) x.toNatClampNeg 10000) M' (10000 * m) x.toNatClampNeg 0 (nI 4) ∧ ptJ (tkM M (10000 * m) x.toNatClampNeg 10000) M' (10000 * m) x.toNatClampNeg 0 (nI 4)))) :
    ∃ r0 : Int32, rv = .inl (some (.int r0)) ∧ jS aC t o ht' hm' (cd2 "java/lang/IllegalArgumentException" "java/util/NoSuchElementException" r') ∧ ∀ z : Int32, r' = .inl (some (.int z)) → r0 = z := by
  obtain ⟨r, vs', sn', sh', rfl, m1, m2, m3⟩ := PM
  obtain ⟨t1, t2, t3⟩ := PT
  refine ⟨r, rfl, ?_⟩
  cases hb : pbB x with
  | false =>
    obtain ⟨rfl, W'⟩ := t1 ((pb_c x).mpr hb)
    exact ⟨⟨la, sa, A, ad, m + 1, Ls, M, V, vs', sn', sh', W', by rw [cd2_1]; exact m1 hb, R⟩, fun b z => by cases z⟩
  | true =>
    have nb := pb_n hb
    obtain ⟨j, rfl, hj, hj0⟩ := pbB_of hb
    have clj : (nI j).toNatClampNeg = j := nI_clamp (by omega)
    have k1 := R.kd hj.1 hj.2 (Nat.le_refl (m + 1))
    simp only [Rx, clj, ← k1] at t2 t3 m2 m3
    by_cases bad : (vw Ls (rp j)).1 (m + 1) = -1
    · obtain ⟨rfl, W'⟩ := t2 nb bad
      exact ⟨⟨la, sa, A, ad, m + 1, Ls, M, V, vs', sn', sh', W', by rw [cd2_2 (by decide)]; exact m2 hb bad, R⟩, fun b z => by cases z⟩
    · obtain ⟨rfl, u, W', hu⟩ := t3 nb bad
      obtain ⟨hr, a1, a2⟩ := m3 hb bad
      refine ⟨?_, fun z hz => by rw [hr, ← Value.int.inj (Option.some.inj (Sum.inl.inj hz)), R.cS hj.1 hj.2 hj0]⟩
      by_cases hz : (vw (Lm (tkM M (10000 * m) j 10000) V) (rp j)).1 m = -1
      · exact ⟨la, sa, A, ad, m + 1, _, _, _, vs', sn', sh', W', a1 hz, R.take hj.1 hj.2 hu (Or.inl ⟨hz, rfl, rfl⟩)⟩
      · obtain ⟨M', W2, I, J⟩ := a2 hz
        exact ⟨la, sa, A, ad, m + 1, _, M', _, vs', sn', sh', W', W2, R.take hj.1 hj.2 hu (Or.inr ⟨hz, rfl, I, J⟩)⟩
theorem jn_move (R : rel (m + 1) Ls M V) (x y : Int32)
    (PT : ((x = 0 ∨ isP x = false) ∨ (y = 0 ∨ isP y = false) → r' = .inr "java/lang/IllegalArgumentException" ∧ tW ht' aC t la sa A (m + 1) Ls) ∧ (¬ ((x = 0 ∨ isP x = false) ∨ (y = 0 ∨ isP y = false)) → ¬ (vw Ls (Rx x)).1 (m + 1) = 0 → r' = .inr "java/util/NoSuchElementException" ∧ tW ht' aC t la sa A (m + 1) Ls) ∧ (¬ ((x = 0 ∨ isP x = false) ∨ (y = 0 ∨ isP y = false)) → (vw Ls (Rx x)).1 (m + 1) = 0 → ¬ (vw Ls (Rx y).tail).1 (m + 1) = nI 1 ∨ (vw Ls (Rx y)).1 (m + 1) = nI 1 → r' = .inr "java/lang/IllegalStateException" ∧ tW ht' aC t la sa A (m + 1) Ls) ∧ (¬ ((x = 0 ∨ isP x = false) ∨ (y = 0 ∨ isP y = false)) → (vw Ls (Rx x)).1 (m + 1) = 0 → ¬ (¬ (vw Ls (Rx y).tail).1 (m + 1) = nI 1 ∨ (vw Ls (Rx y)).1 (m + 1) = nI 1) → r' = .inl none ∧ (x = y → tW ht' aC t la sa A (m + 1) Ls) ∧ (¬ x = y → ∃ u, tW ht' aC t la sa A (m + 1) (lyU Ls m u) ∧ ∀ z, ctS (u z) = stC (taC (fun z => ctS (Ls m z)) (Rx x) ((vw Ls (Rx x)).1 m)) (Rx y) (nI 0) (vwV Ls (Rx x) (m + 1)) z)))
    (PM : rv = .inl none ∧ ∃ (vs' sn' sh' : Nat → Int32), ((pbB x && pbB y) = false → mW hm' aC o ad (rfC true false false) (m + 1) M V vs' sn' sh') ∧ ((pbB x && pbB y) = true → ¬ (vw (Lm M V) (Rx x)).1 (m + 1) = 0 → mW hm' aC o ad (rfC false true false) (m + 1) M V vs' sn' sh') ∧ ((pbB x && pbB y) = true → (vw (Lm M V) (Rx x)).1 (m + 1) = 0 → (¬ (vw (Lm M V) (Rx y).tail).1 (m + 1) = nI 1 ∨ (vw (Lm M V) (Rx y)).1 (m + 1) = nI 1) → mW hm' aC o ad (rfC false false true) (m + 1) M V vs' sn' sh') ∧ ((pbB x && pbB y) = true → (vw (Lm M V) (Rx x)).1 (m + 1) = 0 → ¬ (¬ (vw (Lm M V) (Rx y).tail).1 (m + 1) = nI 1 ∨ (vw (Lm M V) (Rx y)).1 (m + 1) = nI 1) → x = y → mW hm' aC o ad (rfC false false false) (m + 1) M V vs' sn' sh') ∧ ((pbB x && pbB y) = true → (vw (Lm M V) (Rx x)).1 (m + 1) = 0 → ¬ (¬ (vw (Lm M V) (Rx y).tail).1 (m + 1) = nI 1 ∨ (vw (Lm M V) (Rx y)).1 (m + 1) = nI 1) → ¬ x = y → ∃ (M1 V1 M2 : Nat → Int32), tkP M V m x.toNatClampNeg M1 V1 ∧ mW hm' aC o ad (rfC false false false) (m + 1) M2 (upd V1 (10000 * m + y.toNatClampNeg) (vwV (Lm M V) (Rx x) (m + 1))) vs' sn' sh' ∧ ptI M1 M2 (10000 * m) y.toNatClampNeg 0 (nI 1) ∧ ptJ M1 M2 (10000 * m) y.toNatClampNeg 0 (nI 1))) :
    rv = .inl none ∧ jS aC t o ht' hm' (cd2 "java/lang/IllegalArgumentException" "java/util/NoSuchElementException" r') := by
  obtain ⟨rfl, vs', sn', sh', m1, m2, m3, m4, m5⟩ := PM
  obtain ⟨t1, t2, t3, t4⟩ := PT
  refine ⟨rfl, ?_⟩
  cases hb : (pbB x && pbB y) with
  | false =>
    obtain ⟨rfl, W'⟩ := t1 (by
      cases hx : pbB x with
      | false => exact Or.inl ((pb_c x).mpr hx)
      | true => rw [hx, Bool.true_and] at hb; exact Or.inr ((pb_c y).mpr hb))
    exact ⟨la, sa, A, ad, m + 1, Ls, M, V, vs', sn', sh', W', by rw [cd2_1]; exact m1 hb, R⟩
  | true =>
    obtain ⟨hbx, hby⟩ := (Bool.and_eq_true _ _).mp hb
    have nb : ¬ ((x = 0 ∨ isP x = false) ∨ (y = 0 ∨ isP y = false)) := fun z => z.elim (pb_n hbx) (pb_n hby)
    obtain ⟨j, rfl, hj, hj0⟩ := pbB_of hbx
    obtain ⟨k, rfl, hk, hk0⟩ := pbB_of hby
    have clj : (nI j).toNatClampNeg = j := nI_clamp (by omega)
    have clk : (nI k).toNatClampNeg = k := nI_clamp (by omega)
    have k1 := R.kd hj.1 hj.2 (Nat.le_refl (m + 1))
    have k2 := R.kd hk.1 hk.2 (Nat.le_refl (m + 1))
    have k3 := R.kdT hk.1 hk.2 (Nat.le_refl (m + 1))
    simp only [Rx, clj, clk, ← k1, ← k2, ← k3] at t2 t3 t4 m2 m3 m4 m5
    by_cases nf : (vw Ls (rp j)).1 (m + 1) = 0
    · by_cases bad : ¬ (vw Ls (rp k).tail).1 (m + 1) = nI 1 ∨ (vw Ls (rp k)).1 (m + 1) = nI 1
      · obtain ⟨rfl, W'⟩ := t3 nb nf bad
        exact ⟨la, sa, A, ad, m + 1, Ls, M, V, vs', sn', sh', W', by rw [cd2_3 (by decide) (by decide)]; exact m3 hb nf bad, R⟩
      · obtain ⟨rfl, a1, a2⟩ := t4 nb nf bad
        by_cases e : nI j = nI k
        · exact ⟨la, sa, A, ad, m + 1, Ls, M, V, vs', sn', sh', a1 e, m4 hb nf bad e, R⟩
        · obtain ⟨u, W', hu⟩ := a2 e
          obtain ⟨M1, V1, M2, T, W2, I, J⟩ := m5 hb nf bad e
          have Rt := R.take (u := fun z => (taC (fun z => ctS (Ls m z)) (rp j) ((vw Ls (rp j)).1 m) z).map fun q => (0, q.1, q.2, none)) hj.1 hj.2 (fun z => by
            cases taC (fun z => ctS (Ls m z)) (rp j) ((vw Ls (rp j)).1 m) z <;> rfl) T
          have Rs := Rt.set (s := nI 0) hk.1 hk.2 (Or.inl rfl) (u := u) (v := vwV Ls (rp j) (m + 1)) (fun z => by
            rw [hu, lyU_k]
            unfold stC
            have e : ∀ z, ctS ((taC (fun z => ctS (Ls m z)) (rp j) ((vw Ls (rp j)).1 m) z).map fun q => ((0 : Nat), q.1, q.2, (none : Option Nat))) = taC (fun z => ctS (Ls m z)) (rp j) ((vw Ls (rp j)).1 m) z := fun z => by
              cases taC (fun z => ctS (Ls m z)) (rp j) ((vw Ls (rp j)).1 m) z <;> rfl
            simp only [e]) I J
          rw [lyU_lyU, R.val hj.1 hj.2 (Nat.le_refl _) nf] at Rs
          exact ⟨la, sa, A, ad, m + 1, _, M2, _, vs', sn', sh', W', W2, Rs⟩
    · obtain ⟨rfl, W'⟩ := t2 nb nf
      exact ⟨la, sa, A, ad, m + 1, Ls, M, V, vs', sn', sh', W', by rw [cd2_2 (by decide)]; exact m2 hb nf, R⟩
theorem jn_layer (W : tW h aC t la sa A n Ls) (Wm : mW hm' aC o ad th n M V vs sn sh) (R : rel n Ls M V) {h2 : zz_Hp}
    (PT : (n = 8 → ht' = h ∧ r' = .inr "java/lang/UnsupportedOperationException") ∧ (n < 8 → r' = .inl (some (.int (nI (n + 1)))) ∧ ∃ a, tW ht' aC t la sa A (n + 1) (lyN Ls n a)))
    (PM : (n = 8 → (∃ r : Int32, rv = .inl (some (.int r))) ∧ mW h2 aC o ad (rfC true false false) n M V vs sn sh) ∧ (¬ n = 8 → rv = .inl (some (.int (nI (n + 1)))) ∧ mW h2 aC o ad (rfC false false false) (n + 1) (clM M n 10000) V vs sn sh)) :
    ∃ r0 : Int32, rv = .inl (some (.int r0)) ∧ jS aC t o ht' h2 (cd2 "java/lang/UnsupportedOperationException" "" r') ∧ ∀ z : Int32, r' = .inl (some (.int z)) → r0 = z := by
  have n8 := W.b
  by_cases e : n = 8
  · obtain ⟨rfl, rfl⟩ := PT.1 e
    obtain ⟨⟨r, rfl⟩, W2⟩ := PM.1 e
    exact ⟨r, rfl, ⟨la, sa, A, ad, n, Ls, M, V, vs, sn, sh, W, by rw [cd2_1]; exact W2, R⟩, fun z hz => by cases hz⟩
  · obtain ⟨rfl, a, W'⟩ := PT.2 (by omega)
    obtain ⟨rfl, W2⟩ := PM.2 e
    exact ⟨_, rfl, ⟨la, sa, A, ad, n + 1, _, _, V, vs, sn, sh, W', W2, R.more a⟩, fun z hz => Value.int.inj (Option.some.inj (Sum.inl.inj hz))⟩
theorem jn_drop (W : tW h aC t la sa A n Ls) (R : rel n Ls M V)
    (PT : (n = 1 → ht' = h ∧ r' = .inr "java/lang/UnsupportedOperationException") ∧ (1 < n → r' = .inl (some (.int (nI (n - 1)))) ∧ tW ht' aC t la sa A (n - 1) Ls))
    (PM : (n = 1 → (∃ r : Int32, rv = .inl (some (.int r))) ∧ mW hm' aC o ad (rfC true false false) n M V vs sn sh) ∧ (¬ n = 1 → rv = .inl (some (.int (nI (n - 1)))) ∧ mW hm' aC o ad (rfC false false false) (n - 1) M V vs sn sh)) :
    ∃ r0 : Int32, rv = .inl (some (.int r0)) ∧ jS aC t o ht' hm' (cd2 "java/lang/UnsupportedOperationException" "" r') ∧ ∀ z : Int32, r' = .inl (some (.int z)) → r0 = z := by
  have n8 := W.b
  by_cases e : n = 1
  · obtain ⟨rfl, rfl⟩ := PT.1 e
    obtain ⟨⟨r, rfl⟩, W2⟩ := PM.1 e
    exact ⟨r, rfl, ⟨la, sa, A, ad, n, Ls, M, V, vs, sn, sh, W, by rw [cd2_1]; exact W2, R⟩, fun z hz => by cases hz⟩
  · obtain ⟨rfl, W'⟩ := PT.2 (by omega)
    obtain ⟨rfl, W2⟩ := PM.2 e
    exact ⟨_, rfl, ⟨la, sa, A, ad, n - 1, _, _, V, vs, sn, sh, W', W2, R.less⟩, fun z hz => Value.int.inj (Option.some.inj (Sum.inl.inj hz))⟩
theorem jn_squash (W : tW h aC t la sa A (m + 1) Ls) (R : rel (m + 1) Ls M V) (x : Int32)
    (PT : (x < 0 ∨ nI m ≤ x → ht' = h ∧ r' = .inr "java/lang/IndexOutOfBoundsException") ∧ (¬ (x < 0 ∨ nI m ≤ x) → x.toNatClampNeg < m ∧ r' = .inl (some (.int (nI m))) ∧ ∃ w, tW ht' aC t la sa A m (sqL Ls x.toNatClampNeg w) ∧ ∀ s, s ≠ [] → ctS (w s) = layC (ctF (Ls (x.toNatClampNeg + 1))) (ctF (Ls x.toNatClampNeg)) false [] s))
    (PM : (sqB x (m + 1) = false → (∃ r : Int32, rv = .inl (some (.int r))) ∧ mW hm' aC o ad (rfC true false false) (m + 1) M V vs sn sh) ∧ (sqB x (m + 1) = true → rv = .inl (some (.int (nI (m + 1 - 1)))) ∧ mW hm' aC o ad (rfC false false false) (m + 1 - 1) (sqM M (m + 1) x.toNatClampNeg) (sqV M V (m + 1) x.toNatClampNeg) vs sn sh)) :
    ∃ r0 : Int32, rv = .inl (some (.int r0)) ∧ jS aC t o ht' hm' (cd2 "java/lang/IndexOutOfBoundsException" "" r') ∧ ∀ z : Int32, r' = .inl (some (.int z)) → r0 = z := by
  have n8 := W.b
  have c := sq_c x (m := m) (by omega)
  cases hb : sqB x (m + 1) with
  | false =>
    obtain ⟨rfl, rfl⟩ := PT.1 (c.mpr hb)
    obtain ⟨⟨r, rfl⟩, W2⟩ := PM.1 hb
    exact ⟨r, rfl, ⟨la, sa, A, ad, m + 1, Ls, M, V, vs, sn, sh, W, by rw [cd2_1]; exact W2, R⟩, fun z hz => by cases hz⟩
  | true =>
    obtain ⟨hk, rfl, w, W', hw⟩ := PT.2 (fun z => by rw [c.mp z] at hb; cases hb)
    obtain ⟨rfl, W2⟩ := PM.2 hb
    exact ⟨_, rfl, ⟨la, sa, A, ad, m, _, _, _, vs, sn, sh, W', W2, R.squ hk hw⟩, fun z hz => Value.int.inj (Option.some.inj (Sum.inl.inj hz))⟩
theorem jn_kind (W : tW h aC t la sa A n Ls) (R : rel n Ls M V) (x y : Int32)
    (PT : r' = (if isP x = false ∨ y < nI 1 ∨ nI n < y then .inr "java/lang/IllegalArgumentException" else .inl (some (.int (vwK Ls x y)))) ∧ sFr A 0 h ht' ∧ siH ht' aC A)
    (PM : ∃ (r : Int32) (vs' sn' sh' : Nat → Int32), rv = .inl (some (.int r)) ∧ mW hm' aC o ad (rfC (!(asB x y n)) false false) n M V vs' sn' sh' ∧ (asB x y n = true → r = vwK (Lm M V) x y)) :
    ∃ r0 : Int32, rv = .inl (some (.int r0)) ∧ jS aC t o ht' hm' (cd2 "java/lang/IllegalArgumentException" "" r') ∧ ∀ z : Int32, r' = .inl (some (.int z)) → r0 = z := by
  have n8 := W.b
  obtain ⟨r, vs', sn', sh', rfl, W2, m3⟩ := PM
  obtain ⟨rfl, f1, f2⟩ := PT
  have W' := W.fr f1 f2
  refine ⟨r, rfl, ?_⟩
  have c := as_c x y n
  cases hb : asB x y n with
  | false =>
    rw [hb] at W2
    rw [if_pos (c.mpr hb)]
    exact ⟨⟨la, sa, A, ad, n, Ls, M, V, vs', sn', sh', W', by rw [cd2_1]; exact W2, R⟩, fun z hz => by cases hz⟩
  | true =>
    rw [hb] at W2
    rw [if_neg (fun z => by rw [c.mp z] at hb; cases hb)]
    refine ⟨⟨la, sa, A, ad, n, Ls, M, V, vs', sn', sh', W', W2, R⟩, fun z hz => ?_⟩
    rw [m3 hb, ← Value.int.inj (Option.some.inj (Sum.inl.inj hz))]
    obtain ⟨j, i, rfl, rfl, hj, h1, hi⟩ := asB_of n8.2 hb
    rw [vwK_of hj.1 (by omega), vwK_of hj.1 (by omega), R.kd hj.1 hj.2 hi]
theorem rel.nm (R : rel n Ls M V) {j i : Nat} (h3 : j < 1000) (hp : pok j = true) (hi : i ≤ n) : ∀ x, x ≤ 9 → nmB Ls i (rp j) x = nmB (Lm M V) i (rp j) x
  | 0, _ => rfl
  | x + 1, hx => by
    obtain ⟨k1, k2, k3⟩ := rp_kid (x := x) h3 hp (by omega)
    have e := R.kd k3 k1 hi
    rw [k2] at e
    rw [nmB, nmB, e, R.nm h3 hp hi x (by omega)]
theorem jn_value (W : tW h aC t la sa A n Ls) (R : rel n Ls M V) (x y : Int32)
    (PT : r' = (if isP x = false ∨ y < nI 1 ∨ nI n < y then .inr "java/lang/IllegalArgumentException" else if vwK Ls x y = 0 then .inl (some (.int (vwW Ls x y))) else .inr "java/util/NoSuchElementException") ∧ sFr A 0 h ht' ∧ siH ht' aC A)
    (PM : ∃ (r : Int32) (vs' sn' sh' : Nat → Int32), rv = .inl (some (.int r)) ∧ mW hm' aC o ad (rfC (!(asB x y n)) (asB x y n && !decide (vwK (Lm M V) x y = 0)) false) n M V vs' sn' sh' ∧ (asB x y n = true → vwK (Lm M V) x y = 0 → r = vwW (Lm M V) x y)) :
    ∃ r0 : Int32, rv = .inl (some (.int r0)) ∧ jS aC t o ht' hm' (cd2 "java/lang/IllegalArgumentException" "java/util/NoSuchElementException" r') ∧ ∀ z : Int32, r' = .inl (some (.int z)) → r0 = z := by
  have n8 := W.b
  obtain ⟨r, vs', sn', sh', rfl, W2, m3⟩ := PM
  obtain ⟨rfl, f1, f2⟩ := PT
  have W' := W.fr f1 f2
  refine ⟨r, rfl, ?_⟩
  have c := as_c x y n
  cases hb : asB x y n with
  | false =>
    rw [hb] at W2
    rw [if_pos (c.mpr hb)]
    exact ⟨⟨la, sa, A, ad, n, Ls, M, V, vs', sn', sh', W', by rw [cd2_1]; exact W2, R⟩, fun z hz => by cases hz⟩
  | true =>
    rw [hb] at W2
    rw [if_neg (fun z => by rw [c.mp z] at hb; cases hb)]
    have m3' := m3 hb
    obtain ⟨j, i, rfl, rfl, hj, h1, hi⟩ := asB_of n8.2 hb
    rw [vwK_of hj.1 (by omega), vwW_of hj.1 (by omega), ← R.kd hj.1 hj.2 hi] at m3'
    rw [vwK_of hj.1 (by omega), ← R.kd hj.1 hj.2 hi] at W2
    rw [vwK_of hj.1 (by omega), vwW_of hj.1 (by omega)]
    by_cases e : (vw Ls (rp j)).1 i = 0
    · rw [if_pos e]
      rw [decide_eq_true e] at W2
      exact ⟨⟨la, sa, A, ad, n, Ls, M, V, vs', sn', sh', W', W2, R⟩, fun z hz => by rw [m3' e, ← Value.int.inj (Option.some.inj (Sum.inl.inj hz)), R.val hj.1 hj.2 hi e]⟩
    · rw [if_neg e]
      rw [decide_eq_false e] at W2
      exact ⟨⟨la, sa, A, ad, n, Ls, M, V, vs', sn', sh', W', by rw [cd2_2 (by decide)]; exact W2, R⟩, fun z hz => by cases hz⟩
theorem jn_names (W : tW h aC t la sa A n Ls) (R : rel n Ls M V) (x y : Int32)
    (PT : r' = (if isP x = false ∨ y < nI 1 ∨ nI n < y then .inr "java/lang/IllegalArgumentException" else if vwK Ls x y = nI 1 then .inl (some (.int (nmW Ls x y))) else .inr "java/util/NoSuchElementException") ∧ sFr A 0 h ht' ∧ siH ht' aC A)
    (PM : ∃ (r : Int32) (vs' sn' sh' : Nat → Int32), rv = .inl (some (.int r)) ∧ mW hm' aC o ad (rfC (!(asB x y n)) (asB x y n && !decide (vwK (Lm M V) x y = nI 1)) false) n M V vs' sn' sh' ∧ (asB x y n = true → vwK (Lm M V) x y = nI 1 → r = nmW (Lm M V) x y)) :
    ∃ r0 : Int32, rv = .inl (some (.int r0)) ∧ jS aC t o ht' hm' (cd2 "java/lang/IllegalArgumentException" "java/util/NoSuchElementException" r') ∧ ∀ z : Int32, r' = .inl (some (.int z)) → r0 = z := by
  have n8 := W.b
  obtain ⟨r, vs', sn', sh', rfl, W2, m3⟩ := PM
  obtain ⟨rfl, f1, f2⟩ := PT
  have W' := W.fr f1 f2
  refine ⟨r, rfl, ?_⟩
  have c := as_c x y n
  cases hb : asB x y n with
  | false =>
    rw [hb] at W2
    rw [if_pos (c.mpr hb)]
    exact ⟨⟨la, sa, A, ad, n, Ls, M, V, vs', sn', sh', W', by rw [cd2_1]; exact W2, R⟩, fun z hz => by cases hz⟩
  | true =>
    rw [hb] at W2
    rw [if_neg (fun z => by rw [c.mp z] at hb; cases hb)]
    have m3' := m3 hb
    obtain ⟨j, i, rfl, rfl, hj, h1, hi⟩ := asB_of n8.2 hb
    rw [vwK_of hj.1 (by omega), nmW_of hj.1 (by omega), ← R.kd hj.1 hj.2 hi] at m3'
    rw [vwK_of hj.1 (by omega), ← R.kd hj.1 hj.2 hi] at W2
    rw [vwK_of hj.1 (by omega), nmW_of hj.1 (by omega)]
    by_cases e : (vw Ls (rp j)).1 i = nI 1
    · rw [if_pos e]
      rw [decide_eq_true e] at W2
      refine ⟨⟨la, sa, A, ad, n, Ls, M, V, vs', sn', sh', W', W2, R⟩, fun z hz => ?_⟩
      rw [m3' e, ← Value.int.inj (Option.some.inj (Sum.inl.inj hz))]
      by_cases l4 : (rp j).length < 4
      · rw [if_pos l4, if_pos l4, R.nm ((rp_l4 hj.1 hj.2).mp l4) hj.2 hi 9 (Nat.le_refl 9)]
      · rw [if_neg l4, if_neg l4]
    · rw [if_neg e]
      rw [decide_eq_false e] at W2
      exact ⟨⟨la, sa, A, ad, n, Ls, M, V, vs', sn', sh', W', by rw [cd2_2 (by decide)]; exact W2, R⟩, fun z hz => by cases hz⟩
theorem jn_mark (W : tW h aC t la sa A n Ls) (R : rel n Ls M V) (y x : Int32)
    (PT : ht' = h ∧ r' = (if y < 0 ∨ nI n ≤ y then .inr "java/lang/IndexOutOfBoundsException" else if x = 0 ∨ isP x = false then .inr "java/lang/IllegalArgumentException" else .inl (some (.int (mkR (Ls y.toNatClampNeg) (rp x.toNatClampNeg))))))
    (PM : ∃ r : Int32, rv = .inl (some (.int r)) ∧ mW hm' aC o ad (rfC (!(lyB y n)) (lyB y n && !(pbB x)) false) n M V vs sn sh ∧ (lyB y n = true → pbB x = true → r = M (10000 * y.toNatClampNeg + x.toNatClampNeg) - nI 1)) :
    ∃ r0 : Int32, rv = .inl (some (.int r0)) ∧ jS aC t o ht' hm' (cd2 "java/lang/IndexOutOfBoundsException" "java/lang/IllegalArgumentException" r') ∧ ∀ z : Int32, r' = .inl (some (.int z)) → r0 = z := by
  have n8 := W.b
  obtain ⟨r, rfl, W2, m3⟩ := PM
  obtain ⟨rfl, rfl⟩ := PT
  refine ⟨r, rfl, ?_⟩
  have c := ly_c y n8.1 n8.2
  cases hb : lyB y n with
  | false =>
    rw [hb] at W2
    rw [if_pos (c.mpr hb)]
    exact ⟨⟨la, sa, A, ad, n, Ls, M, V, vs, sn, sh, W, by rw [cd2_1]; exact W2, R⟩, fun z hz => by cases hz⟩
  | true =>
    rw [hb] at W2
    rw [if_neg (fun z => by rw [c.mp z] at hb; cases hb)]
    cases hx : pbB x with
    | false =>
      rw [hx] at W2
      rw [if_pos ((pb_c x).mpr hx)]
      exact ⟨⟨la, sa, A, ad, n, Ls, M, V, vs, sn, sh, W, by rw [cd2_2 (by decide)]; exact W2, R⟩, fun z hz => by cases hz⟩
    | true =>
      rw [hx] at W2
      rw [if_neg (pb_n hx)]
      refine ⟨⟨la, sa, A, ad, n, Ls, M, V, vs, sn, sh, W, W2, R⟩, fun z hz => ?_⟩
      rw [m3 hb hx, ← Value.int.inj (Option.some.inj (Sum.inl.inj hz))]
      obtain ⟨i, rfl, hi⟩ := lyB_of n8.1 n8.2 hb
      obtain ⟨j, rfl, hj, hj0⟩ := pbB_of hx
      rw [nI_clamp (n := i) (by omega), nI_clamp (n := j) (by omega)]
      have a := R.2.2 i j hi hj.1 hj.2 hj0
      rw [Lm_ct hj.1 hj.2] at a
      unfold mkR
      cases hl : Ls i (rp j) with
      | none =>
        rw [hl] at a
        have e := (alk_n a).mp rfl
        by_cases d : M (10000 * i + j) = 0
        · rw [d]; decide
        · rw [if_neg d] at e; cases e
      | some q =>
        rw [hl] at a
        by_cases d : M (10000 * i + j) = 0
        · rw [if_pos d] at a
          exact absurd ((alk_n a).mpr rfl) (by simp [ctS])
        · rw [if_neg d] at a
          exact (alk_s a).1.symm
theorem jn_marks (W : tW h aC t la sa A n Ls) (R : rel n Ls M V) (y : Int32)
    (PT : ht' = h ∧ r' = (if y < 0 ∨ nI n ≤ y then .inr "java/lang/IndexOutOfBoundsException" else .inl (some (.int (nI (cnM (Ls y.toNatClampNeg) 4 []))))))
    (PM : ∃ r : Int32, rv = .inl (some (.int r)) ∧ mW hm' aC o ad (rfC (!(lyB y n)) false false) n M V vs sn sh ∧ (lyB y n = true → r = nI (cnQ (mkQ M y.toNatClampNeg) 10000))) :
    ∃ r0 : Int32, rv = .inl (some (.int r0)) ∧ jS aC t o ht' hm' (cd2 "java/lang/IndexOutOfBoundsException" "" r') ∧ ∀ z : Int32, r' = .inl (some (.int z)) → r0 = z := by
  have n8 := W.b
  obtain ⟨r, rfl, W2, m3⟩ := PM
  obtain ⟨rfl, rfl⟩ := PT
  refine ⟨r, rfl, ?_⟩
  have c := ly_c y n8.1 n8.2
  cases hb : lyB y n with
  | false =>
    rw [hb] at W2
    rw [if_pos (c.mpr hb)]
    exact ⟨⟨la, sa, A, ad, n, Ls, M, V, vs, sn, sh, W, by rw [cd2_1]; exact W2, R⟩, fun z hz => by cases hz⟩
  | true =>
    rw [hb] at W2
    rw [if_neg (fun z => by rw [c.mp z] at hb; cases hb)]
    refine ⟨⟨la, sa, A, ad, n, Ls, M, V, vs, sn, sh, W, W2, R⟩, fun z hz => ?_⟩
    rw [m3 hb, ← Value.int.inj (Option.some.inj (Sum.inl.inj hz))]
    obtain ⟨i, rfl, hi⟩ := lyB_of n8.1 n8.2 hb
    rw [nI_clamp (n := i) (by omega), R.cM hi (W.t1 hi).1 (W.t1 hi).2]
end JN

theorem op_write (l : Launch) (hst : l.stackTraces = false) (D : va_G) (aC : Nat → ClassId) {ht hm : zz_Hp} {t o : Nat} {th : Int32} (J : jS aC t o ht hm th) (x y : Int32) : ∃ (pT pM : zz_R → zz_Hp → Prop) (fs fo : List Value), zz_Ct l D aC y_T_write (zrm 8 12 80 200) [.ref t, .int x, .int y] ht pT ∧ zz_Ct l D aC y_O_write (zrm 2 0 0 90) [.ref o, .int x, .int y] hm pM ∧ ht t = some (.inr (2, fs)) ∧ hm o = some (.inr (3, fo)) ∧ (∀ X h', pT (.inr X) h' → X = "java/lang/IllegalArgumentException" ∨ X = "java/lang/IllegalStateException") ∧ (∀ v h', pT (.inl v) h' → ∃ b : Bool, v = some (.int (bI b))) ∧ ∀ r' ht' rv hm', pT r' ht' → pM rv hm' → ∃ b0 : Bool, rv = .inl (some (.int (bI b0))) ∧ jS aC t o ht' hm' (cd2 "java/lang/IllegalArgumentException" "java/lang/IllegalStateException" r') ∧ ∀ b : Bool, r' = .inl (some (.int (bI b))) → b0 = b := by
  obtain ⟨la, sa, A, ad, n, Ls, M, V, vs, sn, sh, W, Wm, R⟩ := J
  obtain ⟨m, rfl⟩ : ∃ m, n = m + 1 := ⟨n - 1, by have := W.1; omega⟩
  refine ⟨_, _, _, _, c_T_write l hst D aC ht t la sa A m Ls W x y, c_O_write l D aC hm o ad th m M V vs sn sh Wm R.1 x y, W.2.2.2.1, Wm.ob, ?_, ?_, fun r' ht' rv hm' a b => jn_write R x y a b⟩
  · intro X h' p
    by_cases c : x = 0 ∨ isP x = false
    · exact Or.inl (Sum.inr.inj (p.1 c).1)
    · by_cases b : ¬ (vw Ls (Rx x).tail).1 (m + 1) = nI 1 ∨ (vw Ls (Rx x)).1 (m + 1) = nI 1
      · exact Or.inr (Sum.inr.inj (p.2.1 c b).1)
      · cases (p.2.2 c b).1
  · intro v h' p
    by_cases c : x = 0 ∨ isP x = false
    · cases (p.1 c).1
    · by_cases b : ¬ (vw Ls (Rx x).tail).1 (m + 1) = nI 1 ∨ (vw Ls (Rx x)).1 (m + 1) = nI 1
      · cases (p.2.1 c b).1
      · exact ⟨_, Sum.inl.inj (p.2.2 c b).1⟩
theorem op_make (l : Launch) (hst : l.stackTraces = false) (D : va_G) (aC : Nat → ClassId) {ht hm : zz_Hp} {t o : Nat} {th : Int32} (J : jS aC t o ht hm th) (x : Int32) : ∃ (pT pM : zz_R → zz_Hp → Prop) (fs fo : List Value), zz_Ct l D aC y_T_make (zrm 8 12 80 200) [.ref t, .int x] ht pT ∧ zz_Ct l D aC y_O_make (zrm 2 0 0 90) [.ref o, .int x] hm pM ∧ ht t = some (.inr (2, fs)) ∧ hm o = some (.inr (3, fo)) ∧ (∀ X h', pT (.inr X) h' → X = "java/lang/IllegalArgumentException" ∨ X = "java/lang/IllegalStateException") ∧ (∀ v h', pT (.inl v) h' → v = none) ∧ ∀ r' ht' rv hm', pT r' ht' → pM rv hm' → rv = .inl none ∧ jS aC t o ht' hm' (cd2 "java/lang/IllegalArgumentException" "java/lang/IllegalStateException" r') := by
  obtain ⟨la, sa, A, ad, n, Ls, M, V, vs, sn, sh, W, Wm, R⟩ := J
  obtain ⟨m, rfl⟩ : ∃ m, n = m + 1 := ⟨n - 1, by have := W.1; omega⟩
  refine ⟨_, _, _, _, c_T_make l hst D aC ht t la sa A m Ls W x, c_O_make l D aC hm o ad th m M V vs sn sh Wm R.1 x, W.2.2.2.1, Wm.ob, ?_, ?_, fun r' ht' rv hm' a b => jn_make R x a b⟩
  · intro X h' p
    by_cases c : x = 0 ∨ isP x = false
    · exact Or.inl (Sum.inr.inj (p.1 c).1)
    · by_cases b : ¬ (vw Ls (Rx x).tail).1 (m + 1) = nI 1 ∨ ¬ (vw Ls (Rx x)).1 (m + 1) = -1
      · exact Or.inr (Sum.inr.inj (p.2.1 c b).1)
      · cases (p.2.2 c b).1
  · intro v h' p
    by_cases c : x = 0 ∨ isP x = false
    · cases (p.1 c).1
    · by_cases b : ¬ (vw Ls (Rx x).tail).1 (m + 1) = nI 1 ∨ ¬ (vw Ls (Rx x)).1 (m + 1) = -1
      · cases (p.2.1 c b).1
      · exact Sum.inl.inj (p.2.2 c b).1
theorem op_remove (l : Launch) (hst : l.stackTraces = false) (D : va_G) (aC : Nat → ClassId) {ht hm : zz_Hp} {t o : Nat} {th : Int32} (J : jS aC t o ht hm th) (x : Int32) : ∃ (pT pM : zz_R → zz_Hp → Prop) (fs fo : List Value), zz_Ct l D aC y_T_remove (zrm 8 12 80 260) [.ref t, .int x] ht pT ∧ zz_Ct l D aC y_O_remove (zrm 3 0 0 130) [.ref o, .int x] hm pM ∧ ht t = some (.inr (2, fs)) ∧ hm o = some (.inr (3, fo)) ∧ (∀ X h', pT (.inr X) h' → X = "java/lang/IllegalArgumentException" ∨ X = "java/util/NoSuchElementException") ∧ (∀ v h', pT (.inl v) h' → ∃ x : Int32, v = some (.int x)) ∧ ∀ r' ht' rv hm', pT r' ht' → pM rv hm' → ∃ r0 : Int32, rv = .inl (some (.int r0)) ∧ jS aC t o ht' hm' (cd2 "java/lang/IllegalArgumentException" "java/util/NoSuchElementException" r') ∧ ∀ z : Int32, r' = .inl (some (.int z)) → r0 = z := by
  obtain ⟨la, sa, A, ad, n, Ls, M, V, vs, sn, sh, W, Wm, R⟩ := J
  obtain ⟨m, rfl⟩ : ∃ m, n = m + 1 := ⟨n - 1, by have := W.1; omega⟩
  refine ⟨_, _, _, _, c_T_remove l hst D aC ht t la sa A m Ls W x, c_O_remove l D aC hm o ad th m M V vs sn sh Wm R.1 x, W.2.2.2.1, Wm.ob, ?_, ?_, fun r' ht' rv hm' a b => jn_remove R x a b⟩
  · intro X h' p
    by_cases c : x = 0 ∨ isP x = false
    · exact Or.inl (Sum.inr.inj (p.1 c).1)
    · by_cases b : (vw Ls (Rx x)).1 (m + 1) = -1
      · exact Or.inr (Sum.inr.inj (p.2.1 c b).1)
      · cases (p.2.2 c b).1
  · intro v h' p
    by_cases c : x = 0 ∨ isP x = false
    · cases (p.1 c).1
    · by_cases b : (vw Ls (Rx x)).1 (m + 1) = -1
      · cases (p.2.1 c b).1
      · exact ⟨_, Sum.inl.inj (p.2.2 c b).1⟩
theorem op_move (l : Launch) (hst : l.stackTraces = false) (D : va_G) (aC : Nat → ClassId) {ht hm : zz_Hp} {t o : Nat} {th : Int32} (J : jS aC t o ht hm th) (x y : Int32) : ∃ (pT pM : zz_R → zz_Hp → Prop) (fs fo : List Value), zz_Ct l D aC y_T_move (zrm 8 24 160 200) [.ref t, .int x, .int y] ht pT ∧ zz_Ct l D aC y_O_move (zrm 3 0 0 130) [.ref o, .int x, .int y] hm pM ∧ ht t = some (.inr (2, fs)) ∧ hm o = some (.inr (3, fo)) ∧ (∀ X h', pT (.inr X) h' → X = "java/lang/IllegalArgumentException" ∨ X = "java/util/NoSuchElementException" ∨ X = "java/lang/IllegalStateException") ∧ (∀ v h', pT (.inl v) h' → v = none) ∧ ∀ r' ht' rv hm', pT r' ht' → pM rv hm' → rv = .inl none ∧ jS aC t o ht' hm' (cd2 "java/lang/IllegalArgumentException" "java/util/NoSuchElementException" r') := by
  obtain ⟨la, sa, A, ad, n, Ls, M, V, vs, sn, sh, W, Wm, R⟩ := J
  obtain ⟨m, rfl⟩ : ∃ m, n = m + 1 := ⟨n - 1, by have := W.1; omega⟩
  refine ⟨_, _, _, _, c_T_move l hst D aC ht t la sa A m Ls W x y, c_O_move l D aC hm o ad th m M V vs sn sh Wm R.1 x y, W.2.2.2.1, Wm.ob, ?_, ?_, fun r' ht' rv hm' a b => jn_move R x y a b⟩
  · intro X h' p
    by_cases c : (x = 0 ∨ isP x = false) ∨ (y = 0 ∨ isP y = false)
    · exact Or.inl (Sum.inr.inj (p.1 c).1)
    · by_cases f : (vw Ls (Rx x)).1 (m + 1) = 0
      · by_cases b : ¬ (vw Ls (Rx y).tail).1 (m + 1) = nI 1 ∨ (vw Ls (Rx y)).1 (m + 1) = nI 1
        · exact Or.inr (Or.inr (Sum.inr.inj (p.2.2.1 c f b).1))
        · cases (p.2.2.2 c f b).1
      · exact Or.inr (Or.inl (Sum.inr.inj (p.2.1 c f).1))
  · intro v h' p
    by_cases c : (x = 0 ∨ isP x = false) ∨ (y = 0 ∨ isP y = false)
    · cases (p.1 c).1
    · by_cases f : (vw Ls (Rx x)).1 (m + 1) = 0
      · by_cases b : ¬ (vw Ls (Rx y).tail).1 (m + 1) = nI 1 ∨ (vw Ls (Rx y)).1 (m + 1) = nI 1
        · cases (p.2.2.1 c f b).1
        · exact Sum.inl.inj (p.2.2.2 c f b).1
      · cases (p.2.1 c f).1
theorem op_layer (l : Launch) (hst : l.stackTraces = false) (D : va_G) (aC : Nat → ClassId) {ht hm : zz_Hp} {t o : Nat} {th : Int32} (J : jS aC t o ht hm th) : ∃ (pT pM : zz_R → zz_Hp → Prop) (fs fo : List Value), zz_Ct l D aC y_T_layer (zrm 6 2 9 90) [.ref t] ht pT ∧ zz_Ct l D aC y_O_layer (zrm 1 0 0 40) [.ref o] hm pM ∧ ht t = some (.inr (2, fs)) ∧ hm o = some (.inr (3, fo)) ∧ (∀ X h', pT (.inr X) h' → X = "java/lang/UnsupportedOperationException") ∧ (∀ v h', pT (.inl v) h' → ∃ x : Int32, v = some (.int x)) ∧ ∀ r' ht' rv hm', pT r' ht' → pM rv hm' → ∃ r0 : Int32, rv = .inl (some (.int r0)) ∧ jS aC t o ht' hm' (cd2 "java/lang/UnsupportedOperationException" "" r') ∧ ∀ z : Int32, r' = .inl (some (.int z)) → r0 = z := by
  obtain ⟨la, sa, A, ad, n, Ls, M, V, vs, sn, sh, W, Wm, R⟩ := J
  refine ⟨_, _, _, _, c_T_layer l hst D aC ht t la sa A n Ls W , c_O_layer l D aC hm o ad th n M V vs sn sh Wm , W.2.2.2.1, Wm.ob, ?_, ?_, fun r' ht' rv hm' a b => jn_layer W Wm R  a b⟩
  · intro X h' p
    by_cases c : n = 8
    · exact Sum.inr.inj (p.1 c).2
    · cases (p.2 (by have := W.1; omega)).1
  · intro v h' p
    by_cases c : n = 8
    · cases (p.1 c).2
    · exact ⟨_, Sum.inl.inj (p.2 (by have := W.1; omega)).1⟩
theorem op_squash (l : Launch) (hst : l.stackTraces = false) (D : va_G) (aC : Nat → ClassId) {ht hm : zz_Hp} {t o : Nat} {th : Int32} (J : jS aC t o ht hm th) (x : Int32) : ∃ (pT pM : zz_R → zz_Hp → Prop) (fs fo : List Value), zz_Ct l D aC y_T_squash (zrm 6 820 8206 260) [.ref t, .int x] ht pT ∧ zz_Ct l D aC y_O_squash (zrm 2 0 0 90) [.ref o, .int x] hm pM ∧ ht t = some (.inr (2, fs)) ∧ hm o = some (.inr (3, fo)) ∧ (∀ X h', pT (.inr X) h' → X = "java/lang/IndexOutOfBoundsException") ∧ (∀ v h', pT (.inl v) h' → ∃ x : Int32, v = some (.int x)) ∧ ∀ r' ht' rv hm', pT r' ht' → pM rv hm' → ∃ r0 : Int32, rv = .inl (some (.int r0)) ∧ jS aC t o ht' hm' (cd2 "java/lang/IndexOutOfBoundsException" "" r') ∧ ∀ z : Int32, r' = .inl (some (.int z)) → r0 = z := by
  obtain ⟨la, sa, A, ad, n, Ls, M, V, vs, sn, sh, W, Wm, R⟩ := J
  obtain ⟨m, rfl⟩ : ∃ m, n = m + 1 := ⟨n - 1, by have := W.1; omega⟩
  refine ⟨_, _, _, _, c_T_squash l hst D aC ht t la sa A m Ls W x, c_O_squash l D aC hm o ad th (m + 1) M V vs sn sh Wm x, W.2.2.2.1, Wm.ob, ?_, ?_, fun r' ht' rv hm' a b => jn_squash W R x a b⟩
  · intro X h' p
    by_cases c : x < 0 ∨ nI m ≤ x
    · exact Sum.inr.inj (p.1 c).2
    · cases (p.2 c).2.1
  · intro v h' p
    by_cases c : x < 0 ∨ nI m ≤ x
    · cases (p.1 c).2
    · exact ⟨_, Sum.inl.inj (p.2 c).2.1⟩
theorem op_drop (l : Launch) (hst : l.stackTraces = false) (D : va_G) (aC : Nat → ClassId) {ht hm : zz_Hp} {t o : Nat} {th : Int32} (J : jS aC t o ht hm th) : ∃ (pT pM : zz_R → zz_Hp → Prop) (fs fo : List Value), zz_Ct l D aC y_T_drop (zrm 6 1 6 90) [.ref t] ht pT ∧ zz_Ct l D aC y_O_drop (zrm 1 0 0 40) [.ref o] hm pM ∧ ht t = some (.inr (2, fs)) ∧ hm o = some (.inr (3, fo)) ∧ (∀ X h', pT (.inr X) h' → X = "java/lang/UnsupportedOperationException") ∧ (∀ v h', pT (.inl v) h' → ∃ x : Int32, v = some (.int x)) ∧ ∀ r' ht' rv hm', pT r' ht' → pM rv hm' → ∃ r0 : Int32, rv = .inl (some (.int r0)) ∧ jS aC t o ht' hm' (cd2 "java/lang/UnsupportedOperationException" "" r') ∧ ∀ z : Int32, r' = .inl (some (.int z)) → r0 = z := by
  obtain ⟨la, sa, A, ad, n, Ls, M, V, vs, sn, sh, W, Wm, R⟩ := J
  refine ⟨_, _, _, _, c_T_drop l hst D aC ht t la sa A n Ls W , c_O_drop l D aC hm o ad th n M V vs sn sh Wm , W.2.2.2.1, Wm.ob, ?_, ?_, fun r' ht' rv hm' a b => jn_drop W R  a b⟩
  · intro X h' p
    by_cases c : n = 1
    · exact Sum.inr.inj (p.1 c).2
    · cases (p.2 (by have := W.1; omega)).1
  · intro v h' p
    by_cases c : n = 1
    · cases (p.1 c).2
    · exact ⟨_, Sum.inl.inj (p.2 (by have := W.1; omega)).1⟩
theorem op_kind (l : Launch) (hst : l.stackTraces = false) (D : va_G) (aC : Nat → ClassId) {ht hm : zz_Hp} {t o : Nat} {th : Int32} (J : jS aC t o ht hm th) (x y : Int32) : ∃ (pT pM : zz_R → zz_Hp → Prop) (fs fo : List Value), zz_Ct l D aC y_T_kind (zrm 7 2 12 150) [.ref t, .int x, .int y] ht pT ∧ zz_Ct l D aC y_O_kind (zrm 3 0 0 120) [.ref o, .int x, .int y] hm pM ∧ ht t = some (.inr (2, fs)) ∧ hm o = some (.inr (3, fo)) ∧ (∀ X h', pT (.inr X) h' → X = "java/lang/IllegalArgumentException") ∧ (∀ v h', pT (.inl v) h' → ∃ x : Int32, v = some (.int x)) ∧ ∀ r' ht' rv hm', pT r' ht' → pM rv hm' → ∃ r0 : Int32, rv = .inl (some (.int r0)) ∧ jS aC t o ht' hm' (cd2 "java/lang/IllegalArgumentException" "" r') ∧ ∀ z : Int32, r' = .inl (some (.int z)) → r0 = z := by
  obtain ⟨la, sa, A, ad, n, Ls, M, V, vs, sn, sh, W, Wm, R⟩ := J
  refine ⟨_, _, _, _, c_T_kind l hst D aC ht t la sa A n Ls W x y, c_O_kind l D aC hm o ad th n M V vs sn sh Wm R.1 x y, W.2.2.2.1, Wm.ob, ?_, ?_, fun r' ht' rv hm' a b => jn_kind W R x y a b⟩
  · intro X h' p
    have e := p.1
    split at e
    · exact Sum.inr.inj e
    · cases e
  · intro v h' p
    have e := p.1
    split at e
    · cases e
    · exact ⟨_, Sum.inl.inj e⟩
theorem op_value (l : Launch) (hst : l.stackTraces = false) (D : va_G) (aC : Nat → ClassId) {ht hm : zz_Hp} {t o : Nat} {th : Int32} (J : jS aC t o ht hm th) (x y : Int32) : ∃ (pT pM : zz_R → zz_Hp → Prop) (fs fo : List Value), zz_Ct l D aC y_T_value (zrm 7 2 12 150) [.ref t, .int x, .int y] ht pT ∧ zz_Ct l D aC y_O_value (zrm 3 0 0 120) [.ref o, .int x, .int y] hm pM ∧ ht t = some (.inr (2, fs)) ∧ hm o = some (.inr (3, fo)) ∧ (∀ X h', pT (.inr X) h' → X = "java/lang/IllegalArgumentException" ∨ X = "java/util/NoSuchElementException") ∧ (∀ v h', pT (.inl v) h' → ∃ x : Int32, v = some (.int x)) ∧ ∀ r' ht' rv hm', pT r' ht' → pM rv hm' → ∃ r0 : Int32, rv = .inl (some (.int r0)) ∧ jS aC t o ht' hm' (cd2 "java/lang/IllegalArgumentException" "java/util/NoSuchElementException" r') ∧ ∀ z : Int32, r' = .inl (some (.int z)) → r0 = z := by
  obtain ⟨la, sa, A, ad, n, Ls, M, V, vs, sn, sh, W, Wm, R⟩ := J
  refine ⟨_, _, _, _, c_T_value l hst D aC ht t la sa A n Ls W x y, c_O_value l D aC hm o ad th n M V vs sn sh Wm R.1 x y, W.2.2.2.1, Wm.ob, ?_, ?_, fun r' ht' rv hm' a b => jn_value W R x y a b⟩
  · intro X h' p
    have e := p.1
    split at e
    · exact Or.inl (Sum.inr.inj e)
    · split at e
      · cases e
      · exact Or.inr (Sum.inr.inj e)
  · intro v h' p
    have e := p.1
    split at e
    · cases e
    · split at e
      · exact ⟨_, Sum.inl.inj e⟩
      · cases e
theorem op_names (l : Launch) (hst : l.stackTraces = false) (D : va_G) (aC : Nat → ClassId) {ht hm : zz_Hp} {t o : Nat} {th : Int32} (J : jS aC t o ht hm th) (x y : Int32) : ∃ (pT pM : zz_R → zz_Hp → Prop) (fs fo : List Value), zz_Ct l D aC y_T_names (zrm 7 2 12 150) [.ref t, .int x, .int y] ht pT ∧ zz_Ct l D aC y_O_names (zrm 3 0 0 120) [.ref o, .int x, .int y] hm pM ∧ ht t = some (.inr (2, fs)) ∧ hm o = some (.inr (3, fo)) ∧ (∀ X h', pT (.inr X) h' → X = "java/lang/IllegalArgumentException" ∨ X = "java/util/NoSuchElementException") ∧ (∀ v h', pT (.inl v) h' → ∃ x : Int32, v = some (.int x)) ∧ ∀ r' ht' rv hm', pT r' ht' → pM rv hm' → ∃ r0 : Int32, rv = .inl (some (.int r0)) ∧ jS aC t o ht' hm' (cd2 "java/lang/IllegalArgumentException" "java/util/NoSuchElementException" r') ∧ ∀ z : Int32, r' = .inl (some (.int z)) → r0 = z := by
  obtain ⟨la, sa, A, ad, n, Ls, M, V, vs, sn, sh, W, Wm, R⟩ := J
  refine ⟨_, _, _, _, c_T_names l hst D aC ht t la sa A n Ls W x y, c_O_names l D aC hm o ad th n M V vs sn sh Wm R.1 x y, W.2.2.2.1, Wm.ob, ?_, ?_, fun r' ht' rv hm' a b => jn_names W R x y a b⟩
  · intro X h' p
    have e := p.1
    split at e
    · exact Or.inl (Sum.inr.inj e)
    · split at e
      · cases e
      · exact Or.inr (Sum.inr.inj e)
  · intro v h' p
    have e := p.1
    split at e
    · cases e
    · split at e
      · exact ⟨_, Sum.inl.inj e⟩
      · cases e
theorem op_mark (l : Launch) (hst : l.stackTraces = false) (D : va_G) (aC : Nat → ClassId) {ht hm : zz_Hp} {t o : Nat} {th : Int32} (J : jS aC t o ht hm th) (x y : Int32) : ∃ (pT pM : zz_R → zz_Hp → Prop) (fs fo : List Value), zz_Ct l D aC y_T_mark (zrm 7 2 12 150) [.ref t, .int x, .int y] ht pT ∧ zz_Ct l D aC y_O_mark (zrm 2 0 0 80) [.ref o, .int x, .int y] hm pM ∧ ht t = some (.inr (2, fs)) ∧ hm o = some (.inr (3, fo)) ∧ (∀ X h', pT (.inr X) h' → X = "java/lang/IndexOutOfBoundsException" ∨ X = "java/lang/IllegalArgumentException") ∧ (∀ v h', pT (.inl v) h' → ∃ x : Int32, v = some (.int x)) ∧ ∀ r' ht' rv hm', pT r' ht' → pM rv hm' → ∃ r0 : Int32, rv = .inl (some (.int r0)) ∧ jS aC t o ht' hm' (cd2 "java/lang/IndexOutOfBoundsException" "java/lang/IllegalArgumentException" r') ∧ ∀ z : Int32, r' = .inl (some (.int z)) → r0 = z := by
  obtain ⟨la, sa, A, ad, n, Ls, M, V, vs, sn, sh, W, Wm, R⟩ := J
  refine ⟨_, _, _, _, c_T_mark l hst D aC ht t la sa A n Ls W x y, c_O_mark l D aC hm o ad th n M V vs sn sh Wm x y, W.2.2.2.1, Wm.ob, ?_, ?_, fun r' ht' rv hm' a b => jn_mark W R x y a b⟩
  · intro X h' p
    have e := p.2
    split at e
    · exact Or.inl (Sum.inr.inj e)
    · split at e
      · exact Or.inr (Sum.inr.inj e)
      · cases e
  · intro v h' p
    have e := p.2
    split at e
    · cases e
    · split at e
      · cases e
      · exact ⟨_, Sum.inl.inj e⟩
theorem op_marks (l : Launch) (hst : l.stackTraces = false) (D : va_G) (aC : Nat → ClassId) {ht hm : zz_Hp} {t o : Nat} {th : Int32} (J : jS aC t o ht hm th) (x : Int32) : ∃ (pT pM : zz_R → zz_Hp → Prop) (fs fo : List Value), zz_Ct l D aC y_T_marks (zrm 7 1 6 200) [.ref t, .int x] ht pT ∧ zz_Ct l D aC y_O_marks (zrm 2 0 0 80) [.ref o, .int x] hm pM ∧ ht t = some (.inr (2, fs)) ∧ hm o = some (.inr (3, fo)) ∧ (∀ X h', pT (.inr X) h' → X = "java/lang/IndexOutOfBoundsException") ∧ (∀ v h', pT (.inl v) h' → ∃ x : Int32, v = some (.int x)) ∧ ∀ r' ht' rv hm', pT r' ht' → pM rv hm' → ∃ r0 : Int32, rv = .inl (some (.int r0)) ∧ jS aC t o ht' hm' (cd2 "java/lang/IndexOutOfBoundsException" "" r') ∧ ∀ z : Int32, r' = .inl (some (.int z)) → r0 = z := by
  obtain ⟨la, sa, A, ad, n, Ls, M, V, vs, sn, sh, W, Wm, R⟩ := J
  refine ⟨_, _, _, _, c_T_marks l hst D aC ht t la sa A n Ls W x, c_O_marks l D aC hm o ad th n M V vs sn sh Wm x, W.2.2.2.1, Wm.ob, ?_, ?_, fun r' ht' rv hm' a b => jn_marks W R x a b⟩
  · intro X h' p
    have e := p.2
    split at e
    · exact Sum.inr.inj e
    · cases e
  · intro v h' p
    have e := p.2
    split at e
    · cases e
    · exact ⟨_, Sum.inl.inj e⟩
