/-! ===== what is seen ===== -/
theorem dg_all (f : Nat → Bool) (H : ((List.range 10).all fun a => (List.range 10).all fun b => (List.range 10).all fun c => (List.range 10).all fun d => f (a + 10 * b + 100 * c + 1000 * d)) = true) (j : Nat) (hj : j ≤ 9999) : f j = true := by
  have h1 := List.all_eq_true.mp H (j % 10) (List.mem_range.mpr (by omega))
  have h2 := List.all_eq_true.mp h1 (j / 10 % 10) (List.mem_range.mpr (by omega))
  have h3 := List.all_eq_true.mp h2 (j / 100 % 10) (List.mem_range.mpr (by omega))
  have h4 := List.all_eq_true.mp h3 (j / 1000) (List.mem_range.mpr (by omega))
  rwa [show j % 10 + 10 * (j / 10 % 10) + 100 * (j / 100 % 10) + 1000 * (j / 1000) = j by omega] at h4
def prC (j : Nat) : Bool := !(pok j) || decide (rp (prN j) = (rp j).tail) && pok (prN j) && decide (prN j ≤ 9999)
theorem prC_ok : ((List.range 10).all fun a => (List.range 10).all fun b => (List.range 10).all fun c => (List.range 10).all fun d => prC (a + 10 * b + 100 * c + 1000 * d)) = true := by decide +kernel
theorem rp_par {j : Nat} (h9 : j ≤ 9999) (hp : pok j = true) : rp (prN j) = (rp j).tail ∧ pok (prN j) = true ∧ prN j ≤ 9999 := by
  have h := dg_all prC prC_ok j h9
  unfold prC at h
  rw [hp, Bool.not_true, Bool.false_or, Bool.and_eq_true, Bool.and_eq_true] at h
  exact ⟨of_decide_eq_true h.1.1, h.1.2, of_decide_eq_true h.2⟩
def cnL (f : Nat → Nat) : Nat → Nat
  | 0 => 0
  | x + 1 => cnL f x + f (x + 1)
/-- what is there at a path and below it, g names deep -/
def cnS (Ls : zLs) (n : Nat) : Nat → List Nat → Nat
  | 0, r => if (vw Ls r).1 n = -1 then 0 else 1
  | g + 1, r => if (vw Ls r).1 n = -1 then 0 else if (vw Ls r).1 n = nI 1 then 1 + cnL (fun x => cnS Ls n g (x :: r)) 9 else 1
def nmB (Ls : zLs) (n : Nat) (r : List Nat) : Nat → Int32
  | 0 => nI 0
  | x + 1 => if (vw Ls ((x + 1) :: r)).1 n = -1 then nmB Ls n r x else nmB Ls n r x ||| (nI 1 <<< (nI (x + 1) &&& 31))
set_option maxHeartbeats 4000000 in
theorem c_T_checkParent (l : Launch) (hst : l.stackTraces = false) (D : va_G) (aC : Nat → ClassId) (h : zz_Hp) (t la sa : Nat) (A : zA5) (n : Nat) (Ls : zLs) (W : tW h aC t la sa A n Ls) (j : Nat) (hj : j ≤ 9999 ∧ pok j = true) :
    zz_Ct l D aC y_T_checkParent (zrm 6 1 6 120) [.ref t, .int (nI j)] h (fun r' h' => r' = (if (vw Ls (rp j).tail).1 n = nI 1 then .inl none else .inr "java/lang/IllegalStateException") ∧ sFr A 0 h h' ∧ siH h' aC A) := by
  refine zz_ct md_T_checkParent rfl (by simp [Value.category]) (Nat.le_of_ble_eq_true rfl) fun K C E hI => ?_
  obtain rfl := E.ac
  refine zz_go C [(0, .aload_n 0), (1, .iload_n 1)] (by decide +kernel) (pc' := 2) (lv' := [some (.ref t), some (.int (nI j))]) (st' := [.int (nI j), .ref t]) rfl ?_
  refine zz_cS C E (As := [.int (nI j)]) (rest := [.ref t]) (hc := h) md_T_parentOf (c_T_parentOf l D (zz_ac K) h j hj.1) ml_T_131 sm_T_parentOf (fun _ _ q => q) rfl rfl (Nat.le_of_ble_eq_true rfl) ⟨by decide, by decide⟩ ⟨by decide, by decide⟩ (by decide +kernel) (fun v h' hp hn hd => ?_) (fun v h' hp hn hd => ?_)
  · rw [zz_mix_self hd]
    obtain ⟨hh, hv⟩ := hp
    rw [hh]
    cases hv
    show zz_Z _ _ _ _ _ _ _ _ [.int (nI (prN j)), .ref t]
    refine zz_go C [(5, .aload_n 0)] (by decide +kernel) (pc' := 6) (lv' := [some (.ref t), some (.int (nI j))]) (st' := [.ref t, .int (nI (prN j)), .ref t]) rfl ?_
    refine zz_get C fd_T_18 W.2.2.2.1 (v := .int (nI n)) rfl (by decide +kernel) ?_
    obtain ⟨p1, p2, p3⟩ := rp_par hj.1 hj.2
    refine zz_cV C E (ci := 2) (As := [.int (nI (prN j)), .int (nI n)]) (rest := []) (hc := h) md_T_look (c_T_look l D (zz_ac K) h t la sa A n Ls W (prN j) n ⟨p3, p2⟩ (Nat.le_refl n)) ml_T_36 im_T_look se_T_look rfl W.2.2.2.1 (fun _ _ q => q) rfl rfl (Nat.le_of_ble_eq_true rfl) ⟨by decide, by decide⟩ ⟨by decide, by decide⟩ (by decide +kernel) (fun v h1 hp hn hd => ?_) (fun v h1 hp hn hd => ?_)
    · rw [zz_mix_self hd]
      obtain ⟨hv, fr2, S2, T2, hlen⟩ := hp
      cases hv
      show zz_Z _ _ _ _ _ _ _ _ [.ref ((A (rp (prN j)).length).1)]
      have W2 := W.fr fr2 S2
      have hl5 : (rp (prN j)).length < 5 := by omega
      refine zz_go C [(12, .aload_n 0)] (by decide +kernel) (pc' := 13) (lv' := [some (.ref t), some (.int (nI j))]) (st' := [.ref t, .ref ((A (rp (prN j)).length).1)]) rfl ?_
      refine zz_get C fd_T_18 W2.2.2.2.1 (v := .int (nI n)) rfl (by decide +kernel) ?_
      refine zz_cV C E (ci := 1) (As := [.int (nI n)]) (rest := []) (hc := h1) md_S_kindIn (c_kind l D S2 hl5 T2 (Nat.le_refl n) (by have := W.1; omega)) ml_T_40 im_S_kindIn se_S_kindIn rfl (S2 _ hl5).1 (fun _ _ q => q) rfl rfl (Nat.le_of_ble_eq_true rfl) ⟨by decide, by decide⟩ ⟨by decide, by decide⟩ (by decide +kernel) (fun v h9 hp hn hd => ?_) (fun v h9 hp hn hd => ?_)
      · rw [zz_mix_self hd]
        obtain ⟨hh, hv⟩ := hp
        rw [hh]
        cases hv
        show zz_Z _ _ _ _ _ _ _ _ [.int ((vw Ls (rp (prN j))).1 n)]
        rw [p1]
        refine zz_go C [(19, .iconst 1)] (by decide +kernel) (pc' := 20) (lv' := [some (.ref t), some (.int (nI j))]) (st' := [.int (nI 1), .int ((vw Ls (rp j).tail).1 n)]) rfl ?_
        refine zz_if C (i := .if_icmp .eq 13) (by decide +kernel) (Pt := ((vw Ls (rp j).tail).1 n) = (nI 1)) (Pf := ¬ ((vw Ls (rp j).tail).1 n) = (nI 1)) (off := 13) (r := []) (tgt := 33) rfl (by decide) (fun cA => ?_) (fun cA => ?_)
        · exact zr_v C E (by decide) (by decide) (by decide +kernel) (⟨by rw [if_pos cA], fr2, S2⟩)
        · exact zz_throw C E hst xd_134 (⟨by rw [if_neg cA], fr2, S2⟩) (by decide) (by decide) (by decide) (by decide) (by decide +kernel) (by decide +kernel) (by decide +kernel) (by decide +kernel) (by decide +kernel)
      · cases hp.2
    · cases hp.1
  · cases hp.2
set_option maxHeartbeats 4000000 in
theorem c_T_checkWritable (l : Launch) (hst : l.stackTraces = false) (D : va_G) (aC : Nat → ClassId) (h : zz_Hp) (t la sa : Nat) (A : zA5) (n : Nat) (Ls : zLs) (W : tW h aC t la sa A n Ls) (j : Nat) (hj : j ≤ 9999 ∧ pok j = true) :
    zz_Ct l D aC y_T_checkWritable (zrm 7 2 12 150) [.ref t, .int (nI j)] h (fun r' h' => r' = (if ¬ (vw Ls (rp j).tail).1 n = nI 1 ∨ (vw Ls (rp j)).1 n = nI 1 then .inr "java/lang/IllegalStateException" else .inl none) ∧ sFr A 0 h h' ∧ siH h' aC A) := by
  refine zz_ct md_T_checkWritable rfl (by simp [Value.category]) (Nat.le_of_ble_eq_true rfl) fun K C E hI => ?_
  obtain rfl := E.ac
  refine zz_go C [(0, .aload_n 0), (1, .iload_n 1)] (by decide +kernel) (pc' := 2) (lv' := [some (.ref t), some (.int (nI j))]) (st' := [.int (nI j), .ref t]) rfl ?_
  refine zz_cV C E (ci := 2) (As := [.int (nI j)]) (rest := []) (hc := h) md_T_checkParent (c_T_checkParent l hst D (zz_ac K) h t la sa A n Ls W j hj) ml_T_48 im_T_checkParent se_T_checkParent rfl W.2.2.2.1 (fun _ _ q => q) rfl rfl (Nat.le_of_ble_eq_true rfl) ⟨by decide, by decide⟩ ⟨by decide, by decide⟩ (by decide +kernel) (fun v h0 hp hn hd => ?_) (fun v h0 hp hn hd => ?_)
  · rw [zz_mix_self hd]
    obtain ⟨hv, fr0, S0⟩ := hp
    have cP : (vw Ls (rp j).tail).1 n = nI 1 := by
      by_cases e : (vw Ls (rp j).tail).1 n = nI 1
      · exact e
      · rw [if_neg e] at hv; cases hv
    rw [if_pos cP] at hv
    cases hv
    show zz_Z _ _ _ _ _ _ _ _ []
    have W0 := W.fr fr0 S0
    refine zz_go C [(5, .aload_n 0), (6, .iload_n 1), (7, .aload_n 0)] (by decide +kernel) (pc' := 8) (lv' := [some (.ref t), some (.int (nI j))]) (st' := [.ref t, .int (nI j), .ref t]) rfl ?_
    refine zz_get C fd_T_18 W0.2.2.2.1 (v := .int (nI n)) rfl (by decide +kernel) ?_
    refine zz_cV C E (ci := 2) (As := [.int (nI j), .int (nI n)]) (rest := []) (hc := h0) md_T_look (c_T_look l D (zz_ac K) h0 t la sa A n Ls W0 j n hj (Nat.le_refl n)) ml_T_36 im_T_look se_T_look rfl W0.2.2.2.1 (fun _ _ q => q) rfl rfl (Nat.le_of_ble_eq_true rfl) ⟨by decide, by decide⟩ ⟨by decide, by decide⟩ (by decide +kernel) (fun v h1 hp hn hd => ?_) (fun v h1 hp hn hd => ?_)
    · rw [zz_mix_self hd]
      obtain ⟨hv, fr2, S2, T2, hlen⟩ := hp
      cases hv
      show zz_Z _ _ _ _ _ _ _ _ [.ref ((A (rp j).length).1)]
      have W2 := W0.fr fr2 S2
      have hl5 : (rp j).length < 5 := by omega
      refine zz_go C [(14, .aload_n 0)] (by decide +kernel) (pc' := 15) (lv' := [some (.ref t), some (.int (nI j))]) (st' := [.ref t, .ref ((A (rp j).length).1)]) rfl ?_
      refine zz_get C fd_T_18 W2.2.2.2.1 (v := .int (nI n)) rfl (by decide +kernel) ?_
      refine zz_cV C E (ci := 1) (As := [.int (nI n)]) (rest := []) (hc := h1) md_S_kindIn (c_kind l D S2 hl5 T2 (Nat.le_refl n) (by have := W.1; omega)) ml_T_40 im_S_kindIn se_S_kindIn rfl (S2 _ hl5).1 (fun _ _ q => q) rfl rfl (Nat.le_of_ble_eq_true rfl) ⟨by decide, by decide⟩ ⟨by decide, by decide⟩ (by decide +kernel) (fun v h9 hp hn hd => ?_) (fun v h9 hp hn hd => ?_)
      · rw [zz_mix_self hd]
        obtain ⟨hh, hv⟩ := hp
        rw [hh]
        cases hv
        show zz_Z _ _ _ _ _ _ _ _ [.int ((vw Ls (rp j)).1 n)]
        refine zz_go C [(21, .iconst 1)] (by decide +kernel) (pc' := 22) (lv' := [some (.ref t), some (.int (nI j))]) (st' := [.int (nI 1), .int ((vw Ls (rp j)).1 n)]) rfl ?_
        refine zz_if C (i := .if_icmp .ne 13) (by decide +kernel) (Pt := ¬ ((vw Ls (rp j)).1 n) = (nI 1)) (Pf := ((vw Ls (rp j)).1 n) = (nI 1)) (off := 13) (r := []) (tgt := 35) rfl (by decide) (fun cA => ?_) (fun cA => ?_)
        · exact zr_v C E (by decide) (by decide) (by decide +kernel) (⟨by rw [if_neg (fun q => q.elim (fun e => e cP) cA)], fr0.tr fr2, S2⟩)
        · exact zz_throw C E hst xd_136 (⟨by rw [if_pos (Or.inr cA)], fr0.tr fr2, S2⟩) (by decide) (by decide) (by decide) (by decide) (by decide +kernel) (by decide +kernel) (by decide +kernel) (by decide +kernel) (by decide +kernel)
      · cases hp.2
    · cases hp.1
  · rw [zz_mix_self hd]
    obtain ⟨hv, fr0, S0⟩ := hp
    have cP : ¬ (vw Ls (rp j).tail).1 n = nI 1 := fun e => by rw [if_pos e] at hv; cases hv
    rw [if_neg cP] at hv
    cases hv
    exact zr_out C E (by decide) (by decide) ⟨by rw [if_pos (Or.inl cP)], fr0, S0⟩
theorem isP_of {x : Int32} (h : ¬ isP x = false) : ∃ j : Nat, x = nI j ∧ j ≤ 9999 ∧ pok j = true := by
  unfold isP at h
  by_cases c : x < 0 ∨ nI 9999 < x
  · rw [if_pos c] at h; exact absurd rfl h
  · rw [if_neg c] at h
    obtain ⟨j, hj, rfl⟩ := nI_of2 (x := x) (M := 9999) (n := 9999) (by decide) (fun q => c (Or.inl q)) (Int32.not_lt.mp (fun q => c (Or.inr q)))
    rw [nI_clamp (by omega)] at h
    exact ⟨j, rfl, hj, by cases hq : pok j with
      | true => rfl
      | false => exact absurd hq h⟩
theorem vwOk {x y : Int32} {n : Nat} (hn : n ≤ 8) (h : ¬ (isP x = false ∨ y < nI 1 ∨ nI n < y)) : ∃ j m : Nat, x = nI j ∧ y = nI m ∧ (j ≤ 9999 ∧ pok j = true) ∧ 1 ≤ m ∧ m ≤ n := by
  obtain ⟨j, rfl, hj, hp⟩ := isP_of (fun q => h (Or.inl q))
  have h1 : ¬ y < nI 1 := fun q => h (Or.inr (Or.inl q))
  have h2 : ¬ nI n < y := fun q => h (Or.inr (Or.inr q))
  obtain ⟨m, hm, rfl⟩ := nI_of (x := y) (fun q => h1 (Int32.lt_trans q (by decide)))
  refine ⟨j, m, rfl, rfl, ⟨hj, hp⟩, ?_, ?_⟩
  · exact Nat.not_lt.mp (fun q => h1 (nI_lt q (by decide)))
  · exact Nat.not_lt.mp (fun q => h2 (nI_lt q hm))
/-- what the view of the lowest y layers has at the path x -/
def vwK (Ls : zLs) (x y : Int32) : Int32 := (vw Ls (rp x.toNatClampNeg)).1 y.toNatClampNeg
theorem vwK_of {Ls : zLs} {j m : Nat} (hj : j ≤ 9999) (hm : m ≤ 8) : vwK Ls (nI j) (nI m) = (vw Ls (rp j)).1 m := by
  unfold vwK; rw [nI_clamp (by omega), nI_clamp (by omega)]
set_option maxHeartbeats 4000000 in
theorem c_T_kind (l : Launch) (hst : l.stackTraces = false) (D : va_G) (aC : Nat → ClassId) (h : zz_Hp) (t la sa : Nat) (A : zA5) (n : Nat) (Ls : zLs) (W : tW h aC t la sa A n Ls) (x y : Int32) :
    zz_Ct l D aC y_T_kind (zrm 7 2 12 150) [.ref t, .int x, .int y] h (fun r' h' => r' = (if isP x = false ∨ y < nI 1 ∨ nI n < y then .inr "java/lang/IllegalArgumentException" else .inl (some (.int (vwK Ls x y)))) ∧ sFr A 0 h h' ∧ siH h' aC A) := by
  refine zz_ct md_T_kind rfl (by simp [Value.category]) (Nat.le_of_ble_eq_true rfl) fun K C E hI => ?_
  obtain rfl := E.ac
  refine zz_go C [(0, .aload_n 0), (1, .iload_n 1), (2, .iload_n 2)] (by decide +kernel) (pc' := 3) (lv' := [some (.ref t), some (.int x), some (.int y)]) (st' := [.int y, .int x, .ref t]) rfl ?_
  refine zz_cV C E (ci := 2) (As := [.int x, .int y]) (rest := []) (hc := h) md_T_checkView (c_T_checkView l hst D (zz_ac K) h t _ _ (nI n) x y W.2.2.2.1) ml_T_96 im_T_checkView se_T_checkView rfl W.2.2.2.1 (fun _ _ q => q) rfl rfl (Nat.le_of_ble_eq_true rfl) ⟨by decide, by decide⟩ ⟨by decide, by decide⟩ (by decide +kernel) (fun v h0 hp hn hd => ?_) (fun v h0 hp hn hd => ?_)
  · rw [zz_mix_self hd]
    obtain ⟨hh, hv⟩ := hp
    rw [hh]
    have cP : ¬ (isP x = false ∨ y < nI 1 ∨ nI n < y) := fun e => by rw [if_pos e] at hv; cases hv
    rw [if_neg cP] at hv
    cases hv
    show zz_Z _ _ _ _ _ _ _ _ []
    obtain ⟨j, m, rfl, rfl, hj, hm1, hm⟩ := vwOk W.1.2 cP
    refine zz_go C [(6, .aload_n 0), (7, .iload_n 1), (8, .iload_n 2)] (by decide +kernel) (pc' := 9) (lv' := [some (.ref t), some (.int (nI j)), some (.int (nI m))]) (st' := [.int (nI m), .int (nI j), .ref t]) rfl ?_
    refine zz_cV C E (ci := 2) (As := [.int (nI j), .int (nI m)]) (rest := []) (hc := h) md_T_look (c_T_look l D (zz_ac K) h t la sa A n Ls W j m hj hm) ml_T_36 im_T_look se_T_look rfl W.2.2.2.1 (fun _ _ q => q) rfl rfl (Nat.le_of_ble_eq_true rfl) ⟨by decide, by decide⟩ ⟨by decide, by decide⟩ (by decide +kernel) (fun v h1 hp hn hd => ?_) (fun v h1 hp hn hd => ?_)
    · rw [zz_mix_self hd]
      obtain ⟨hv, fr2, S2, T2, hlen⟩ := hp
      cases hv
      show zz_Z _ _ _ _ _ _ _ _ [.ref ((A (rp j).length).1)]
      have W2 := W.fr fr2 S2
      have hl5 : (rp j).length < 5 := by omega
      refine zz_go C [(12, .iload_n 2)] (by decide +kernel) (pc' := 13) (lv' := [some (.ref t), some (.int (nI j)), some (.int (nI m))]) (st' := [.int (nI m), .ref ((A (rp j).length).1)]) rfl ?_
      refine zz_cV C E (ci := 1) (As := [.int (nI m)]) (rest := []) (hc := h1) md_S_kindIn (c_kind l D S2 hl5 T2 (Nat.le_refl m) (by have := W.1; omega)) ml_T_40 im_S_kindIn se_S_kindIn rfl (S2 _ hl5).1 (fun _ _ q => q) rfl rfl (Nat.le_of_ble_eq_true rfl) ⟨by decide, by decide⟩ ⟨by decide, by decide⟩ (by decide +kernel) (fun v h9 hp hn hd => ?_) (fun v h9 hp hn hd => ?_)
      · rw [zz_mix_self hd]
        obtain ⟨hh, hv⟩ := hp
        rw [hh]
        cases hv
        show zz_Z _ _ _ _ _ _ _ _ [.int ((vw Ls (rp j)).1 m)]
        exact zr_i C E (by decide) (by decide) (by decide +kernel) (⟨by rw [if_neg cP, vwK_of hj.1 (by have := W.1; omega)], fr2, S2⟩)
      · cases hp.2
    · cases hp.1
  · rw [zz_mix_self hd]
    obtain ⟨hh, hv⟩ := hp
    rw [hh]
    have cP : isP x = false ∨ y < nI 1 ∨ nI n < y := by
      by_cases e : isP x = false ∨ y < nI 1 ∨ nI n < y
      · exact e
      · rw [if_neg e] at hv; cases hv
    rw [if_pos cP] at hv
    cases hv
    exact zr_out C E (by decide) (by decide) ⟨by rw [if_pos cP], sFr.rf, W.2.2.2.2.2.2.1⟩
