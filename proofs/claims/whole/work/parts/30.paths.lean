/-! ===== paths ===== -/
/-- the names of a path: its first one is the lowest digit -/
def nmF : Nat → Nat → List Nat
  | 0, _ => []
  | g + 1, j => if j = 0 then [] else (j % 10) :: nmF g (j / 10)
def nz (d : Nat) : Bool := decide (¬ d = 0)
def pok (j : Nat) : Bool := (nmF 4 j).all nz
def isP (x : Int32) : Bool := if x < 0 ∨ nI 9999 < x then false else pok x.toNatClampNeg
def prN (j : Nat) : Nat := if 1000 ≤ j then j % 1000 else if 100 ≤ j then j % 100 else if 10 ≤ j then j % 10 else 0
theorem nmF_0 (g : Nat) : nmF g 0 = [] := by cases g <;> rfl
theorem nmF_s (g : Nat) {j : Nat} (h : ¬ j = 0) : nmF (g + 1) j = (j % 10) :: nmF g (j / 10) := if_neg h
theorem lt10 {g j : Nat} (h : j < 10 ^ (g + 1)) : j / 10 < 10 ^ g := by
  rw [Nat.pow_succ] at h; omega
theorem p10 {g j : Nat} (hg : g ≤ 4) (h : j < 10 ^ g) : j < 10000 := Nat.lt_of_lt_of_le h (Nat.pow_le_pow_right (by decide) hg)
set_option maxHeartbeats 2000000 in
theorem c_T_isPath (l : Launch) (D : va_G) (aC : Nat → ClassId) (h : zz_Hp) (x : Int32) :
    zz_Ct l D aC y_T_isPath (zrm 0 0 0 0) [.int x] h (fun r h' => h' = h ∧ r = .inl (some (.int (bI (isP x))))) := by
  refine zz_ct md_T_isPath rfl (by simp [Value.category]) (Nat.le_of_ble_eq_true rfl) fun K C E hI => ?_
  obtain rfl := E.ac
  have loop : ∀ (g j : Nat), g ≤ 4 → j < 10 ^ g → isP x = (nmF g j).all nz → zz_Z K (zz_End K h (fun r h' => h' = h ∧ r = .inl (some (.int (bI (isP x)))))) h h 0 0 15 [some (.int x), some (.int (nI j))] [] := by
    intro g
    induction g with
    | zero =>
      intro j hg hj hr
      have hj2 := p10 hg hj
      refine zz_go C [(15, .iload_n 1)] (by decide +kernel) (pc' := 16) (lv' := [some (.int x), some (.int (nI j))]) (st' := [.int (nI j)]) rfl ?_
      refine zz_if C (i := .ifCond .le 20) (by decide +kernel) (Pt := (nI j) ≤ 0) (Pf := ¬ (nI j) ≤ 0) (off := 20) (r := []) (tgt := 36) rfl (by decide) (fun cA => ?_) (fun cA => ?_)
      · have hj0 : j = 0 := by
          by_cases e : j = 0
          · exact e
          · exact absurd cA (nI_nle (by omega) (by omega))
        rw [hj0, nmF_0] at hr
        refine zz_go C [(36, .iconst 1)] (by decide +kernel) (pc' := 37) (lv' := [some (.int x), some (.int (nI j))]) (st' := [.int (nI 1)]) rfl ?_
        exact zr_z C E true rfl (by decide) (by decide) (by decide +kernel) (⟨rfl, by rw [hr]; rfl⟩)
      · have hj0 : ¬ j = 0 := fun e => cA (by rw [e]; decide)
        exact absurd hj (by simp; omega)
    | succ g ih =>
      intro j hg hj hr
      have hj2 := p10 hg hj
      refine zz_go C [(15, .iload_n 1)] (by decide +kernel) (pc' := 16) (lv' := [some (.int x), some (.int (nI j))]) (st' := [.int (nI j)]) rfl ?_
      refine zz_if C (i := .ifCond .le 20) (by decide +kernel) (Pt := (nI j) ≤ 0) (Pf := ¬ (nI j) ≤ 0) (off := 20) (r := []) (tgt := 36) rfl (by decide) (fun cA => ?_) (fun cA => ?_)
      · have hj0 : j = 0 := by
          by_cases e : j = 0
          · exact e
          · exact absurd cA (nI_nle (by omega) (by omega))
        rw [hj0, nmF_0] at hr
        refine zz_go C [(36, .iconst 1)] (by decide +kernel) (pc' := 37) (lv' := [some (.int x), some (.int (nI j))]) (st' := [.int (nI 1)]) rfl ?_
        exact zr_z C E true rfl (by decide) (by decide) (by decide +kernel) (⟨rfl, by rw [hr]; rfl⟩)
      · have hj0 : ¬ j = 0 := fun e => cA (by rw [e]; decide)
        rw [nmF_s g hj0, List.all_cons] at hr
        refine zz_go C [(19, .iload_n 1), (20, .bipush 10), (22, .irem)] (by decide +kernel) (pc' := 23) (lv' := [some (.int x), some (.int (nI j))]) (st' := [.int ((nI j) - (nI j) / (nI 10) * (nI 10))]) rfl ?_
        rw [pk_rem (show j < 2 ^ 31 by omega) (by decide) (by decide)]
        refine zz_if C (i := .ifCond .ne 5) (by decide +kernel) (Pt := ¬ (nI (j % 10)) = 0) (Pf := (nI (j % 10)) = 0) (off := 5) (r := []) (tgt := 28) rfl (by decide) (fun cB => ?_) (fun cB => ?_)
        · refine zz_go C [(28, .iload_n 1), (29, .bipush 10), (31, .idiv), (32, .istore_n 1), (33, .goto (-18))] (by decide +kernel) (pc' := 15) (lv' := [some (.int x), some (.int ((nI j) / (nI 10)))]) (st' := []) rfl ?_
          rw [pk_div (show j < 2 ^ 31 by omega) (by decide) (by decide)]
          have hd : ¬ j % 10 = 0 := fun e => cB (by rw [e]; rfl)
          exact ih (j / 10) (by omega) (lt10 hj) (by rw [hr, show nz (j % 10) = true from decide_eq_true hd, Bool.true_and])
        · have hd : j % 10 = 0 := by
            by_cases e : j % 10 = 0
            · exact e
            · exact absurd cB (nI_ne0 (by omega) (by omega))
          refine zz_go C [(26, .iconst 0)] (by decide +kernel) (pc' := 27) (lv' := [some (.int x), some (.int (nI j))]) (st' := [.int (nI 0)]) rfl ?_
          exact zr_z C E false rfl (by decide) (by decide) (by decide +kernel) (⟨rfl, by rw [hr, show nz (j % 10) = false from decide_eq_false (fun q => q hd), Bool.false_and]⟩)
  refine zz_go C [(0, .iload_n 0)] (by decide +kernel) (pc' := 1) (lv' := [some (.int x), none]) (st' := [.int x]) rfl ?_
  refine zz_if C (i := .ifCond .lt 10) (by decide +kernel) (Pt := x < 0) (Pf := ¬ x < 0) (off := 10) (r := []) (tgt := 11) rfl (by decide) (fun cA => ?_) (fun cA => ?_)
  · refine zz_go C [(11, .iconst 0)] (by decide +kernel) (pc' := 12) (lv' := [some (.int x), none]) (st' := [.int (nI 0)]) rfl ?_
    exact zr_z C E false rfl (by decide) (by decide) (by decide +kernel) (⟨rfl, by rw [isP, if_pos (Or.inl cA)]⟩)
  · refine zz_go C [(4, .iload_n 0), (5, .sipush 9999)] (by decide +kernel) (pc' := 8) (lv' := [some (.int x), none]) (st' := [.int (nI 9999), .int x]) rfl ?_
    refine zz_if C (i := .if_icmp .le 5) (by decide +kernel) (Pt := x ≤ (nI 9999)) (Pf := ¬ x ≤ (nI 9999)) (off := 5) (r := []) (tgt := 13) rfl (by decide) (fun cB => ?_) (fun cB => ?_)
    · obtain ⟨j, hj, hx⟩ := nI_of2 (x := x) (M := 9999) (n := 9999) (by decide) cA cB
      refine zz_go C [(13, .iload_n 0), (14, .istore_n 1)] (by decide +kernel) (pc' := 15) (lv' := [some (.int x), some (.int x)]) (st' := []) rfl ?_
      have hz := loop 4 j (by decide) (by omega) (by rw [isP, if_neg, hx, nI_clamp (by omega)]; rfl; rintro (q | q); exact cA q; exact absurd cB (Int32.not_le.mpr q))
      rw [← hx] at hz
      exact hz
    · refine zz_go C [(11, .iconst 0)] (by decide +kernel) (pc' := 12) (lv' := [some (.int x), none]) (st' := [.int (nI 0)]) rfl ?_
      exact zr_z C E false rfl (by decide) (by decide) (by decide +kernel) (⟨rfl, by rw [isP, if_pos (Or.inr (Int32.not_le.mp cB))]⟩)
set_option maxHeartbeats 2000000 in
theorem c_T_depthOf (l : Launch) (D : va_G) (aC : Nat → ClassId) (h : zz_Hp) (jj : Nat) (hjj : jj ≤ 9999) :
    zz_Ct l D aC y_T_depthOf (zrm 0 0 0 0) [.int (nI jj)] h (fun r h' => h' = h ∧ r = .inl (some (.int (nI (nmF 4 jj).length)))) := by
  refine zz_ct md_T_depthOf rfl (by simp [Value.category]) (Nat.le_of_ble_eq_true rfl) fun K C E hI => ?_
  obtain rfl := E.ac
  have loop : ∀ (g j c : Nat), g ≤ 4 → j < 10 ^ g → (nmF 4 jj).length = c + (nmF g j).length → zz_Z K (zz_End K h (fun r h' => h' = h ∧ r = .inl (some (.int (nI (nmF 4 jj).length))))) h h 0 0 4 [some (.int (nI jj)), some (.int (nI c)), some (.int (nI j))] [] := by
    intro g
    induction g with
    | zero =>
      intro j c hg hj hr
      have hj2 := p10 hg hj
      refine zz_go C [(4, .iload_n 2)] (by decide +kernel) (pc' := 5) (lv' := [some (.int (nI jj)), some (.int (nI c)), some (.int (nI j))]) (st' := [.int (nI j)]) rfl ?_
      refine zz_if C (i := .ifCond .le 14) (by decide +kernel) (Pt := (nI j) ≤ 0) (Pf := ¬ (nI j) ≤ 0) (off := 14) (r := []) (tgt := 19) rfl (by decide) (fun cA => ?_) (fun cA => ?_)
      · have hj0 : j = 0 := by
          by_cases e : j = 0
          · exact e
          · exact absurd cA (nI_nle (by omega) (by omega))
        rw [hj0, nmF_0] at hr
        refine zz_go C [(19, .iload_n 1)] (by decide +kernel) (pc' := 20) (lv' := [some (.int (nI jj)), some (.int (nI c)), some (.int (nI j))]) (st' := [.int (nI c)]) rfl ?_
        exact zr_i C E (by decide) (by decide) (by decide +kernel) (⟨rfl, by rw [hr]; rfl⟩)
      · have hj0 : ¬ j = 0 := fun e => cA (by rw [e]; decide)
        exact absurd hj (by simp; omega)
    | succ g ih =>
      intro j c hg hj hr
      have hj2 := p10 hg hj
      refine zz_go C [(4, .iload_n 2)] (by decide +kernel) (pc' := 5) (lv' := [some (.int (nI jj)), some (.int (nI c)), some (.int (nI j))]) (st' := [.int (nI j)]) rfl ?_
      refine zz_if C (i := .ifCond .le 14) (by decide +kernel) (Pt := (nI j) ≤ 0) (Pf := ¬ (nI j) ≤ 0) (off := 14) (r := []) (tgt := 19) rfl (by decide) (fun cA => ?_) (fun cA => ?_)
      · have hj0 : j = 0 := by
          by_cases e : j = 0
          · exact e
          · exact absurd cA (nI_nle (by omega) (by omega))
        rw [hj0, nmF_0] at hr
        refine zz_go C [(19, .iload_n 1)] (by decide +kernel) (pc' := 20) (lv' := [some (.int (nI jj)), some (.int (nI c)), some (.int (nI j))]) (st' := [.int (nI c)]) rfl ?_
        exact zr_i C E (by decide) (by decide) (by decide +kernel) (⟨rfl, by rw [hr]; rfl⟩)
      · have hj0 : ¬ j = 0 := fun e => cA (by rw [e]; decide)
        rw [nmF_s g hj0, List.length_cons] at hr
        refine zz_go C [(8, .iinc 1 1), (11, .iload_n 2), (12, .bipush 10), (14, .idiv), (15, .istore_n 2), (16, .goto (-12))] (by decide +kernel) (pc' := 4) (lv' := [some (.int (nI jj)), some (.int ((nI c) + (nI 1))), some (.int ((nI j) / (nI 10)))]) (st' := []) rfl ?_
        rw [pk_div (show j < 2 ^ 31 by omega) (by decide) (by decide), show nI c + nI 1 = nI (c + 1) from nI_add c 1]
        exact ih (j / 10) (c + 1) (by omega) (lt10 hj) (by omega)
  refine zz_go C [(0, .iconst 0), (1, .istore_n 1), (2, .iload_n 0), (3, .istore_n 2)] (by decide +kernel) (pc' := 4) (lv' := [some (.int (nI jj)), some (.int (nI 0)), some (.int (nI jj))]) (st' := []) rfl ?_
  exact loop 4 jj 0 (by decide) (by omega) (by omega)
set_option maxHeartbeats 2000000 in
theorem c_T_parentOf (l : Launch) (D : va_G) (aC : Nat → ClassId) (h : zz_Hp) (j : Nat) (hj : j ≤ 9999) :
    zz_Ct l D aC y_T_parentOf (zrm 0 0 0 0) [.int (nI j)] h (fun r h' => h' = h ∧ r = .inl (some (.int (nI (prN j))))) := by
  refine zz_ct md_T_parentOf rfl (by simp [Value.category]) (Nat.le_of_ble_eq_true rfl) fun K C E hI => ?_
  obtain rfl := E.ac
  refine zz_go C [(0, .iload_n 0), (1, .sipush 1000)] (by decide +kernel) (pc' := 4) (lv' := [some (.int (nI j))]) (st' := [.int (nI 1000), .int (nI j)]) rfl ?_
  refine zz_if C (i := .if_icmp .lt 9) (by decide +kernel) (Pt := (nI j) < (nI 1000)) (Pf := ¬ (nI j) < (nI 1000)) (off := 9) (r := []) (tgt := 13) rfl (by decide) (fun cA => ?_) (fun cA => ?_)
  · have g1 : ¬ 1000 ≤ j := fun q => absurd cA (nI_nlt q (by omega))
    refine zz_go C [(13, .iload_n 0), (14, .bipush 100)] (by decide +kernel) (pc' := 16) (lv' := [some (.int (nI j))]) (st' := [.int (nI 100), .int (nI j)]) rfl ?_
    refine zz_if C (i := .if_icmp .lt 8) (by decide +kernel) (Pt := (nI j) < (nI 100)) (Pf := ¬ (nI j) < (nI 100)) (off := 8) (r := []) (tgt := 24) rfl (by decide) (fun cB => ?_) (fun cB => ?_)
    · have g2 : ¬ 100 ≤ j := fun q => absurd cB (nI_nlt q (by omega))
      refine zz_go C [(24, .iload_n 0), (25, .bipush 10)] (by decide +kernel) (pc' := 27) (lv' := [some (.int (nI j))]) (st' := [.int (nI 10), .int (nI j)]) rfl ?_
      refine zz_if C (i := .if_icmp .lt 10) (by decide +kernel) (Pt := (nI j) < (nI 10)) (Pf := ¬ (nI j) < (nI 10)) (off := 10) (r := []) (tgt := 37) rfl (by decide) (fun cC => ?_) (fun cC => ?_)
      · have g3 : ¬ 10 ≤ j := fun q => absurd cC (nI_nlt q (by omega))
        refine zz_go C [(37, .iconst 0)] (by decide +kernel) (pc' := 38) (lv' := [some (.int (nI j))]) (st' := [.int (nI 0)]) rfl ?_
        exact zr_i C E (by decide) (by decide) (by decide +kernel) (⟨rfl, by rw [prN, if_neg g1, if_neg g2, if_neg g3]⟩)
      · have g3 : 10 ≤ j := Nat.not_lt.mp (fun q => cC (nI_lt q (by omega)))
        refine zz_go C [(30, .iload_n 0), (31, .bipush 10), (33, .irem), (34, .goto 4)] (by decide +kernel) (pc' := 38) (lv' := [some (.int (nI j))]) (st' := [.int ((nI j) - (nI j) / (nI 10) * (nI 10))]) rfl ?_
        rw [pk_rem (show j < 2 ^ 31 by omega) (by decide) (by decide)]
        exact zr_i C E (by decide) (by decide) (by decide +kernel) (⟨rfl, by rw [prN, if_neg g1, if_neg g2, if_pos g3]⟩)
    · have g2 : 100 ≤ j := Nat.not_lt.mp (fun q => cB (nI_lt q (by omega)))
      refine zz_go C [(19, .iload_n 0), (20, .bipush 100), (22, .irem)] (by decide +kernel) (pc' := 23) (lv' := [some (.int (nI j))]) (st' := [.int ((nI j) - (nI j) / (nI 100) * (nI 100))]) rfl ?_
      rw [pk_rem (show j < 2 ^ 31 by omega) (by decide) (by decide)]
      exact zr_i C E (by decide) (by decide) (by decide +kernel) (⟨rfl, by rw [prN, if_neg g1, if_pos g2]⟩)
  · have g1 : 1000 ≤ j := Nat.not_lt.mp (fun q => cA (nI_lt q (by omega)))
    refine zz_go C [(7, .iload_n 0), (8, .sipush 1000), (11, .irem)] (by decide +kernel) (pc' := 12) (lv' := [some (.int (nI j))]) (st' := [.int ((nI j) - (nI j) / (nI 1000) * (nI 1000))]) rfl ?_
    rw [pk_rem (show j < 2 ^ 31 by omega) (by decide) (by decide)]
    exact zr_i C E (by decide) (by decide) (by decide +kernel) (⟨rfl, by rw [prN, if_pos g1]⟩)
set_option maxHeartbeats 2000000 in
theorem c_T_checkBelowRoot (l : Launch) (hst : l.stackTraces = false) (D : va_G) (aC : Nat → ClassId) (h : zz_Hp) (x : Int32) :
    zz_Ct l D aC y_T_checkBelowRoot (zrm 6 1 6 90) [.int x] h (fun r h' => h' = h ∧ r = if x = 0 ∨ isP x = false then .inr "java/lang/IllegalArgumentException" else .inl none) := by
  refine zz_ct md_T_checkBelowRoot rfl (by simp [Value.category]) (Nat.le_of_ble_eq_true rfl) fun K C E hI => ?_
  obtain rfl := E.ac
  refine zz_go C [(0, .iload_n 0)] (by decide +kernel) (pc' := 1) (lv' := [some (.int x)]) (st' := [.int x]) rfl ?_
  refine zz_if C (i := .ifCond .eq 10) (by decide +kernel) (Pt := x = 0) (Pf := ¬ x = 0) (off := 10) (r := []) (tgt := 11) rfl (by decide) (fun cA => ?_) (fun cA => ?_)
  · exact zz_throw C E hst xd_124 (⟨rfl, by rw [if_pos (Or.inl cA)]⟩) (by decide) (by decide) (by decide) (by decide) (by decide +kernel) (by decide +kernel) (by decide +kernel) (by decide +kernel) (by decide +kernel)
  · refine zz_go C [(4, .iload_n 0)] (by decide +kernel) (pc' := 5) (lv' := [some (.int x)]) (st' := [.int x]) rfl ?_
    refine zz_cS C E (As := [.int x]) (rest := []) (hc := h) md_T_isPath (c_T_isPath l D (zz_ac K) h x) ml_T_118 sm_T_isPath (fun _ _ q => q) rfl rfl (Nat.le_of_ble_eq_true rfl) ⟨by decide, by decide⟩ ⟨by decide, by decide⟩ (by decide +kernel) (fun v h' hp hn hd => ?_) (fun v h' hp hn hd => ?_)
    · rw [zz_mix_self hd]
      obtain ⟨hh, hv⟩ := hp
      rw [hh]
      cases hv
      show zz_Z _ _ _ _ _ _ _ _ [.int (bI (isP x))]
      refine zz_if C (i := .ifCond .ne 13) (by decide +kernel) (Pt := ¬ (bI (isP x)) = 0) (Pf := (bI (isP x)) = 0) (off := 13) (r := []) (tgt := 21) rfl (by decide) (fun cB => ?_) (fun cB => ?_)
      · exact zr_v C E (by decide) (by decide) (by decide +kernel) (⟨rfl, by rw [if_neg (fun q => q.elim cA (fun e => cB ((bI_0 _).mpr e)))]⟩)
      · exact zz_throw C E hst xd_124 (⟨rfl, by rw [if_pos (Or.inr ((bI_0 _).mp cB))]⟩) (by decide) (by decide) (by decide) (by decide) (by decide +kernel) (by decide +kernel) (by decide +kernel) (by decide +kernel) (by decide +kernel)
    · cases hp.2
set_option maxHeartbeats 2000000 in
theorem c_T_checkView (l : Launch) (hst : l.stackTraces = false) (D : va_G) (aC : Nat → ClassId) (h : zz_Hp) (t : Nat) (va vb : Value) (c x n : Int32) (ht : h t = some (.inr (2, [va, .int c, vb]))) :
    zz_Ct l D aC y_T_checkView (zrm 6 1 6 90) [.ref t, .int x, .int n] h (fun r h' => h' = h ∧ r = if isP x = false ∨ n < nI 1 ∨ c < n then .inr "java/lang/IllegalArgumentException" else .inl none) := by
  refine zz_ct md_T_checkView rfl (by simp [Value.category]) (Nat.le_of_ble_eq_true rfl) fun K C E hI => ?_
  obtain rfl := E.ac
  refine zz_go C [(0, .iload_n 1)] (by decide +kernel) (pc' := 1) (lv' := [some (.ref t), some (.int x), some (.int n)]) (st' := [.int x]) rfl ?_
  refine zz_cS C E (As := [.int x]) (rest := []) (hc := h) md_T_isPath (c_T_isPath l D (zz_ac K) h x) ml_T_118 sm_T_isPath (fun _ _ q => q) rfl rfl (Nat.le_of_ble_eq_true rfl) ⟨by decide, by decide⟩ ⟨by decide, by decide⟩ (by decide +kernel) (fun v h' hp hn hd => ?_) (fun v h' hp hn hd => ?_)
  · rw [zz_mix_self hd]
    obtain ⟨hh, hv⟩ := hp
    rw [hh]
    cases hv
    show zz_Z _ _ _ _ _ _ _ _ [.int (bI (isP x))]
    refine zz_if C (i := .ifCond .eq 16) (by decide +kernel) (Pt := (bI (isP x)) = 0) (Pf := ¬ (bI (isP x)) = 0) (off := 16) (r := []) (tgt := 20) rfl (by decide) (fun cA => ?_) (fun cA => ?_)
    · exact zz_throw C E hst xd_127 (⟨rfl, by rw [if_pos (Or.inl ((bI_0 _).mp cA))]⟩) (by decide) (by decide) (by decide) (by decide) (by decide +kernel) (by decide +kernel) (by decide +kernel) (by decide +kernel) (by decide +kernel)
    · refine zz_go C [(7, .iload_n 2), (8, .iconst 1)] (by decide +kernel) (pc' := 9) (lv' := [some (.ref t), some (.int x), some (.int n)]) (st' := [.int (nI 1), .int n]) rfl ?_
      refine zz_if C (i := .if_icmp .lt 11) (by decide +kernel) (Pt := n < (nI 1)) (Pf := ¬ n < (nI 1)) (off := 11) (r := []) (tgt := 20) rfl (by decide) (fun cB => ?_) (fun cB => ?_)
      · exact zz_throw C E hst xd_127 (⟨rfl, by rw [if_pos (Or.inr (Or.inl cB))]⟩) (by decide) (by decide) (by decide) (by decide) (by decide +kernel) (by decide +kernel) (by decide +kernel) (by decide +kernel) (by decide +kernel)
      · refine zz_go C [(12, .iload_n 2), (13, .aload_n 0)] (by decide +kernel) (pc' := 14) (lv' := [some (.ref t), some (.int x), some (.int n)]) (st' := [.ref t, .int n]) rfl ?_
        refine zz_get C fd_T_18 ht (v := .int c) rfl (by decide +kernel) ?_
        refine zz_if C (i := .if_icmp .le 13) (by decide +kernel) (Pt := n ≤ c) (Pf := ¬ n ≤ c) (off := 13) (r := []) (tgt := 30) rfl (by decide) (fun cC => ?_) (fun cC => ?_)
        · exact zr_v C E (by decide) (by decide) (by decide +kernel) (⟨rfl, by rw [if_neg (fun q => q.elim (fun e => cA ((bI_0 _).mpr e)) (fun q => q.elim cB (fun e => absurd cC (Int32.not_le.mpr e))))]⟩)
        · exact zz_throw C E hst xd_127 (⟨rfl, by rw [if_pos (Or.inr (Or.inr (Int32.not_le.mp cC)))]⟩) (by decide) (by decide) (by decide) (by decide) (by decide +kernel) (by decide +kernel) (by decide +kernel) (by decide +kernel) (by decide +kernel)
  · cases hp.2
set_option maxHeartbeats 2000000 in
theorem c_T_checkLayer (l : Launch) (hst : l.stackTraces = false) (D : va_G) (aC : Nat → ClassId) (h : zz_Hp) (t : Nat) (va vb : Value) (c n : Int32) (ht : h t = some (.inr (2, [va, .int c, vb]))) :
    zz_Ct l D aC y_T_checkLayer (zrm 6 1 6 90) [.ref t, .int n] h (fun r h' => h' = h ∧ r = if n < 0 ∨ c ≤ n then .inr "java/lang/IndexOutOfBoundsException" else .inl none) := by
  refine zz_ct md_T_checkLayer rfl (by simp [Value.category]) (Nat.le_of_ble_eq_true rfl) fun K C E hI => ?_
  obtain rfl := E.ac
  refine zz_go C [(0, .iload_n 1)] (by decide +kernel) (pc' := 1) (lv' := [some (.ref t), some (.int n)]) (st' := [.int n]) rfl ?_
  refine zz_if C (i := .ifCond .lt 11) (by decide +kernel) (Pt := n < 0) (Pf := ¬ n < 0) (off := 11) (r := []) (tgt := 12) rfl (by decide) (fun cA => ?_) (fun cA => ?_)
  · exact zz_throw C E hst xd_129 (⟨rfl, by rw [if_pos (Or.inl cA)]⟩) (by decide) (by decide) (by decide) (by decide) (by decide +kernel) (by decide +kernel) (by decide +kernel) (by decide +kernel) (by decide +kernel)
  · refine zz_go C [(4, .iload_n 1), (5, .aload_n 0)] (by decide +kernel) (pc' := 6) (lv' := [some (.ref t), some (.int n)]) (st' := [.ref t, .int n]) rfl ?_
    refine zz_get C fd_T_18 ht (v := .int c) rfl (by decide +kernel) ?_
    refine zz_if C (i := .if_icmp .lt 13) (by decide +kernel) (Pt := n < c) (Pf := ¬ n < c) (off := 13) (r := []) (tgt := 22) rfl (by decide) (fun cB => ?_) (fun cB => ?_)
    · exact zr_v C E (by decide) (by decide) (by decide +kernel) (⟨rfl, by rw [if_neg (fun q => q.elim cA (fun e => absurd cB (Int32.not_lt.mpr e)))]⟩)
    · exact zz_throw C E hst xd_129 (⟨rfl, by rw [if_pos (Or.inr (Int32.not_lt.mp cB))]⟩) (by decide) (by decide) (by decide) (by decide) (by decide +kernel) (by decide +kernel) (by decide +kernel) (by decide +kernel) (by decide +kernel)
