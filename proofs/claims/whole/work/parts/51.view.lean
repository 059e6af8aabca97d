/-! ===== the model's paths, and what its view is to be ===== -/
theorem pths_len : pths.length = 7380 := by decide +kernel
theorem pth_get {k : Nat} (hk : k < 7380) : ∃ h : k < pths.length, pth k = pths[k] := by
  have h : k < pths.length := by rw [pths_len]; exact hk
  exact ⟨h, by unfold pth; rw [List.getD_eq_getElem?_getD, List.getElem?_eq_getElem h]; rfl⟩
theorem pths_mem {p : Nat} : p ∈ pths ↔ p < 10000 ∧ pok p = true ∧ ¬ p = 0 := by
  unfold pths
  rw [List.mem_filter, List.mem_range, Bool.and_eq_true]
  exact ⟨fun z => ⟨z.1, z.2.1, of_decide_eq_true z.2.2⟩, fun z => ⟨z.1, z.2.1, decide_eq_true z.2.2⟩⟩
theorem pth_ok {k : Nat} (hk : k < 7380) : pth k ≤ 9999 ∧ pok (pth k) = true ∧ ¬ pth k = 0 := by
  obtain ⟨h, e⟩ := pth_get hk
  have m := pths_mem.mp (List.getElem_mem h)
  rw [← e] at m
  exact ⟨by omega, m.2⟩
theorem pths_up : pths.Pairwise (· < ·) := List.Pairwise.filter _ List.pairwise_lt_range
theorem pth_lt {j k : Nat} (hk : k < 7380) (hjk : j < k) : pth j < pth k := by
  obtain ⟨h, e⟩ := pth_get hk
  obtain ⟨h', e'⟩ := pth_get (show j < 7380 by omega)
  rw [e, e']
  exact List.pairwise_iff_getElem.mp pths_up j k h' h hjk
theorem pth_ne {j k : Nat} (hj : j < 7380) (hk : k < 7380) (hjk : j ≠ k) : pth j ≠ pth k := by
  rcases Nat.lt_or_gt_of_ne hjk with z | z
  · exact Nat.ne_of_lt (pth_lt hk z)
  · exact Ne.symm (Nat.ne_of_lt (pth_lt hj z))
theorem pth_of {p : Nat} (h9 : p ≤ 9999) (hp : pok p = true) (h0 : ¬ p = 0) : ∃ k, k < 7380 ∧ pth k = p := by
  obtain ⟨k, hk, e⟩ := List.mem_iff_getElem.mp (pths_mem.mpr ⟨by omega, hp, h0⟩)
  have hk' : k < 7380 := by rw [← pths_len]; exact hk
  obtain ⟨h, e'⟩ := pth_get hk'
  exact ⟨k, hk', e'.trans e⟩
theorem prN_lt {p : Nat} (h0 : ¬ p = 0) : prN p < p := by
  unfold prN
  by_cases a : 1000 ≤ p
  · rw [if_pos a]; omega
  · rw [if_neg a]; by_cases b : 100 ≤ p
    · rw [if_pos b]; omega
    · rw [if_neg b]; by_cases c : 10 ≤ p
      · rw [if_pos c]; omega
      · rw [if_neg c]; omega
theorem pth_par {k : Nat} (hk : k < 7380) : prN (pth k) = 0 ∨ ∃ j, j < k ∧ pth j = prN (pth k) := by
  obtain ⟨h1, h2, h3⟩ := pth_ok hk
  by_cases e : prN (pth k) = 0
  · exact Or.inl e
  · obtain ⟨p1, p2, p3⟩ := rp_par h1 h2
    obtain ⟨j, hj, ej⟩ := pth_of p3 p2 e
    refine Or.inr ⟨j, ?_, ej⟩
    have lt := prN_lt h3
    rw [← ej] at lt
    rcases Nat.lt_trichotomy j k with z | z | z
    · exact z
    · subst z; omega
    · have := pth_lt hj z; omega
theorem rp_cons {p : Nat} (h0 : ¬ p = 0) : ∃ x, rp p = x :: (rp p).tail := by
  cases hr : rp p with
  | nil =>
    have : nmF 4 p = [] := List.reverse_eq_nil_iff.mp hr
    rw [nmF_s 3 h0] at this; cases this
  | cons x r => exact ⟨x, rfl⟩
def nuC (j : Nat) : Bool := !(pok j) || decide (pnum (rp j) = j)
theorem nuC_ok : ((List.range 10).all fun a => (List.range 10).all fun b => (List.range 10).all fun c => (List.range 10).all fun d => nuC (a + 10 * b + 100 * c + 1000 * d)) = true := by decide +kernel
theorem pnum_rp {j : Nat} (h9 : j ≤ 9999) (hp : pok j = true) : pnum (rp j) = j := by
  have h := dg_all nuC nuC_ok j h9
  unfold nuC at h
  rw [hp, Bool.not_true, Bool.false_or] at h
  exact of_decide_eq_true h
/-- the model's marks as layers -/
def Lm (M V : Nat → Int32) : zLs := fun i r => if M (10000 * i + pnum r) = 0 then none else some (0, M (10000 * i + pnum r) - nI 1, V (10000 * i + pnum r), none)
def cvI (M V : Nat → Int32) (k i : Nat) (vs sn sh : Nat → Int32) : Prop := vs 0 = nI 2 ∧ sh 0 = bI true ∧ ∀ j, j < 7380 → (j < k → vs (pth j) = (vw (Lm M V) (rp (pth j))).1 (i + 1) + nI 1 ∧ sh (pth j) = bI ((vw (Lm M V) (rp (pth j))).2 i) ∧ ((vw (Lm M V) (rp (pth j))).1 (i + 1) = 0 → sn (pth j) = vwV (Lm M V) (rp (pth j)) (i + 1))) ∧ (k ≤ j → vs (pth j) = (vw (Lm M V) (rp (pth j))).1 i + nI 1 ∧ ((vw (Lm M V) (rp (pth j))).1 i = 0 → sn (pth j) = vwV (Lm M V) (rp (pth j)) i))
theorem cvI_up {M V vs sn sh : Nat → Int32} {k i : Nat} (I : cvI M V k i vs sn sh) (hk : k < 7380) : vs (prN (pth k)) = (vw (Lm M V) (rp (pth k)).tail).1 (i + 1) + nI 1 ∧ sh (prN (pth k)) = bI ((vw (Lm M V) (rp (pth k)).tail).2 i) := by
  obtain ⟨h1, h2, h3⟩ := pth_ok hk
  have p1 := (rp_par h1 h2).1
  rw [← p1]
  rcases pth_par hk with e | ⟨j, hj, e⟩
  · rw [e]
    exact ⟨I.1, I.2.1⟩
  · rw [← e]
    obtain ⟨a, b, -⟩ := (I.2.2 j (by omega)).1 hj
    exact ⟨a, b⟩
theorem cvI_s {M V vs sn sh vs' sn' sh' : Nat → Int32} {k i : Nat} (I : cvI M V k i vs sn sh) (hk : k < 7380) (e1 : ∀ q, q ≠ pth k → vs' q = vs q) (e2 : ∀ q, q ≠ pth k → sn' q = sn q) (e3 : ∀ q, q ≠ pth k → sh' q = sh q) (a1 : vs' (pth k) = (vw (Lm M V) (rp (pth k))).1 (i + 1) + nI 1) (a2 : sh' (pth k) = bI ((vw (Lm M V) (rp (pth k))).2 i)) (a3 : (vw (Lm M V) (rp (pth k))).1 (i + 1) = 0 → sn' (pth k) = vwV (Lm M V) (rp (pth k)) (i + 1)) : cvI M V (k + 1) i vs' sn' sh' := by
  have n0 : (0 : Nat) ≠ pth k := fun e => (pth_ok hk).2.2 e.symm
  refine ⟨by rw [e1 0 n0]; exact I.1, by rw [e3 0 n0]; exact I.2.1, fun j hj => ?_⟩
  by_cases e : j = k
  · subst e; exact ⟨fun _ => ⟨a1, a2, a3⟩, fun z => absurd z (by omega)⟩
  · have ne := pth_ne hj hk e
    rw [e1 _ ne, e2 _ ne, e3 _ ne]
    exact ⟨fun z => (I.2.2 j hj).1 (by omega), fun z => (I.2.2 j hj).2 (by omega)⟩
theorem cvI_end {M V vs sn sh : Nat → Int32} {i : Nat} (I : cvI M V 7380 i vs sn sh) : cvI M V 0 (i + 1) vs sn sh :=
  ⟨I.1, I.2.1, fun j hj => ⟨fun z => absurd z (by omega), fun _ => ⟨((I.2.2 j hj).1 hj).1, ((I.2.2 j hj).1 hj).2.2⟩⟩⟩
def okM (M : Nat → Int32) : Prop := ∀ a, M a = nI 0 ∨ M a = nI 1 ∨ M a = nI 2 ∨ M a = nI 3 ∨ M a = nI 4
/-- what the view of one layer more has at a path, by the mark's code -/
theorem vw_s (M V : Nat → Int32) (i : Nat) {p : Nat} (h9 : p ≤ 9999) (hp : pok p = true) (h0 : ¬ p = 0) :
    (vw (Lm M V) (rp p)).1 (i + 1) = alK ((vw (Lm M V) (rp p).tail).1 (i + 1)) (bI ((vw (Lm M V) (rp p).tail).2 i)) (if M (10000 * i + p) = 0 then none else some 0) (M (10000 * i + p) - nI 1) ((vw (Lm M V) (rp p)).1 i) ∧
    (vw (Lm M V) (rp p)).2 i = alS (bI ((vw (Lm M V) (rp p).tail).2 i)) (if M (10000 * i + p) = 0 then none else some 0) (M (10000 * i + p) - nI 1) ((vw (Lm M V) (rp p)).1 i) ∧
    vwV (Lm M V) (rp p) (i + 1) = if M (10000 * i + p) = 0 then vwV (Lm M V) (rp p) i else V (10000 * i + p) := by
  obtain ⟨x, hx⟩ := rp_cons h0
  have hn := pnum_rp h9 hp
  have hA : mkA (Lm M V i (rp p)) = if M (10000 * i + p) = 0 then none else some 0 := by
    unfold Lm; rw [hn]; by_cases c : M (10000 * i + p) = 0
    · rw [if_pos c, if_pos c]; rfl
    · rw [if_neg c, if_neg c]; rfl
  have hK : ∀ (P S K : Int32), alK P S (mkA (Lm M V i (rp p))) (mkS (Lm M V i (rp p))) K = alK P S (if M (10000 * i + p) = 0 then none else some 0) (M (10000 * i + p) - nI 1) K := fun P S K => by
    rw [hA]; by_cases c : M (10000 * i + p) = 0
    · rw [if_pos c]; unfold alK; rw [if_pos rfl, if_pos rfl]
    · rw [if_neg c, show mkS (Lm M V i (rp p)) = M (10000 * i + p) - nI 1 from by unfold Lm; rw [hn, if_neg c]; rfl]
  have hS : ∀ (S K : Int32), alS S (mkA (Lm M V i (rp p))) (mkS (Lm M V i (rp p))) K = alS S (if M (10000 * i + p) = 0 then none else some 0) (M (10000 * i + p) - nI 1) K := fun S K => by
    rw [hA]; by_cases c : M (10000 * i + p) = 0
    · rw [if_pos c]; unfold alS; simp
    · rw [if_neg c, show mkS (Lm M V i (rp p)) = M (10000 * i + p) - nI 1 from by unfold Lm; rw [hn, if_neg c]; rfl]
  have hV : mkV (Lm M V i (rp p)) = if M (10000 * i + p) = 0 then 0 else V (10000 * i + p) := by
    unfold Lm; rw [hn]; by_cases c : M (10000 * i + p) = 0
    · rw [if_pos c, if_pos c]; rfl
    · rw [if_neg c, if_neg c]; rfl
  rw [← hK, ← hS]
  generalize ht : (rp p).tail = r at hx ⊢
  rw [hx] at hA hV ⊢
  refine ⟨rfl, rfl, ?_⟩
  show (if mkA (Lm M V i (x :: r)) = none then nxV (fun i => Lm M V i (x :: r)) i else mkV (Lm M V i (x :: r))) = _
  rw [hA, hV]
  by_cases c : M (10000 * i + p) = 0
  · rw [if_pos c, if_pos rfl, if_pos c]; rfl
  · rw [if_neg c, if_neg (by simp), if_neg c, if_neg c]
