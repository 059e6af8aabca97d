/-! ===== what is read ===== -/
theorem c_at (l : Launch) (D : va_G) {aC : Nat → ClassId} {h : zz_Hp} {u : List Nat → Option zMk} (T : trP h aC u) {r : List Nat} {q : zMk} (hr : u r = some q) {j : Nat} (h1 : 1 ≤ j) (h9 : j ≤ 9) :
    zz_Ct l D aC y_M_at (zrm 0 0 0 0) [.ref q.1, .int (nI j)] h (fun r' h' => h' = h ∧ r' = .inl (some (va_rf (mkA (u (j :: r)))))) := by
  obtain ⟨-, b, -⟩ := seH_of T r h1 h9
  obtain ⟨s, v, rb, f, e1, e2, e3⟩ := b q.1 (by rw [hr]; rfl)
  have M := c_M_at l D aC h q.1 s v (nI j) rb f e1 e2
  rw [e3] at M
  exact M
theorem trP.no {aC : Nat → ClassId} {h : zz_Hp} {u : List Nat → Option zMk} (T : trP h aC u) {r : List Nat} (hr : u r = none) : ∀ s : List Nat, u (s ++ r) = none
  | [] => hr
  | x :: s => T.2.2.2.1 _ x (T.no hr s)
def vwW (Ls : zLs) (x y : Int32) : Int32 := vwV Ls (rp x.toNatClampNeg) y.toNatClampNeg
theorem vwW_of {Ls : zLs} {j m : Nat} (hj : j ≤ 9999) (hm : m ≤ 8) : vwW Ls (nI j) (nI m) = vwV Ls (rp j) m := by
  unfold vwW; rw [nI_clamp (by omega), nI_clamp (by omega)]
def nmW (Ls : zLs) (x y : Int32) : Int32 := if (rp x.toNatClampNeg).length < 4 then nmB Ls y.toNatClampNeg (rp x.toNatClampNeg) 9 else nI 0
theorem nmW_of {Ls : zLs} {j m : Nat} (hj : j ≤ 9999) (hm : m ≤ 8) : nmW Ls (nI j) (nI m) = if (rp j).length < 4 then nmB Ls m (rp j) 9 else nI 0 := by
  unfold nmW; rw [nI_clamp (by omega), nI_clamp (by omega)]
theorem rp_len (j : Nat) : (rp j).length = (nmF 4 j).length := List.length_reverse
/-- the marks below a path, g names deep -/
def cnM (u : List Nat → Option zMk) : Nat → List Nat → Nat
  | 0, _ => 0
  | g + 1, r => cnL (fun x => if mkA (u (x :: r)) = none then 0 else 1 + cnM u g (x :: r)) 9
def mkR (u : List Nat → Option zMk) (r : List Nat) : Int32 := match u r with
  | none => -1
  | some q => q.2.1
set_option maxHeartbeats 4000000 in
theorem c_T_fileValue (l : Launch) (hst : l.stackTraces = false) (D : va_G) (aC : Nat → ClassId) (h : zz_Hp) (t la sa : Nat) (A : zA5) (n : Nat) (Ls : zLs) (W : tW h aC t la sa A n Ls) (j m : Nat) (hj : j ≤ 9999 ∧ pok j = true) (hm : m ≤ n) :
    zz_Ct l D aC y_T_fileValue (zrm 6 1 6 120) [.ref t, .int (nI j), .int (nI m)] h (fun r' h' => r' = (if (vw Ls (rp j)).1 m = 0 then .inl (some (.int (vwV Ls (rp j) m))) else .inr "java/util/NoSuchElementException") ∧ sFr A 0 h h' ∧ siH h' aC A) := by
  refine zz_ct md_T_fileValue rfl (by simp [Value.category]) (Nat.le_of_ble_eq_true rfl) fun K C E hI => ?_
  obtain rfl := E.ac
  refine zz_go C [(0, .aload_n 0), (1, .iload_n 1), (2, .iload_n 2)] (by decide +kernel) (pc' := 3) (lv' := [some (.ref t), some (.int (nI j)), some (.int (nI m)), none]) (st' := [.int (nI m), .int (nI j), .ref t]) rfl ?_
  refine zz_cV C E (ci := 2) (As := [.int (nI j), .int (nI m)]) (rest := []) (hc := h) md_T_look (c_T_look l D (zz_ac K) h t la sa A n Ls W j m hj hm) ml_T_36 im_T_look se_T_look rfl W.2.2.2.1 (fun _ _ q => q) rfl rfl (Nat.le_of_ble_eq_true rfl) ⟨by decide, by decide⟩ ⟨(by decide), (by decide)⟩ (by decide +kernel) (fun v h1 hp hn hd => ?_) (fun v h1 hp hn hd => ?_)
  · rw [zz_mix_self hd]
    obtain ⟨hv, fr2, S2, T2, hlen⟩ := hp
    cases hv
    show zz_Z _ _ _ _ _ _ _ _ [.ref ((A (rp j).length).1)]
    have W2 := W.fr fr2 S2
    have hl5 : (rp j).length < 5 := by omega
    refine zz_go C [(6, .astore_n 3), (7, .aload_n 3), (8, .iload_n 2)] (by decide +kernel) (pc' := 9) (lv' := [some (.ref t), some (.int (nI j)), some (.int (nI m)), some (.ref ((A (rp j).length).1))]) (st' := [.int (nI m), .ref ((A (rp j).length).1)]) rfl ?_
    refine zz_cV C E (ci := 1) (As := [.int (nI m)]) (rest := []) (hc := h1) md_S_kindIn (c_kind l D S2 hl5 T2 (Nat.le_refl m) (by have := W.1; omega)) ml_T_40 im_S_kindIn se_S_kindIn rfl (S2 _ hl5).1 (fun _ _ q => q) rfl rfl (Nat.le_of_ble_eq_true rfl) ⟨by decide, by decide⟩ ⟨(by decide), (by decide)⟩ (by decide +kernel) (fun v h9 hp hn hd => ?_) (fun v h9 hp hn hd => ?_)
    · rw [zz_mix_self hd]
      obtain ⟨hh, hv⟩ := hp
      rw [hh]
      cases hv
      show zz_Z _ _ _ _ _ _ _ _ [.int ((vw Ls (rp j)).1 m)]
      refine zz_if C (i := .ifCond .eq 13) (by decide +kernel) (Pt := ((vw Ls (rp j)).1 m) = 0) (Pf := ¬ ((vw Ls (rp j)).1 m) = 0) (off := 13) (r := []) (tgt := 25) rfl (by decide) (fun cA => ?_) (fun cA => ?_)
      · refine zz_go C [(25, .aload_n 3), (26, .iload_n 2)] (by decide +kernel) (pc' := 27) (lv' := [some (.ref t), some (.int (nI j)), some (.int (nI m)), some (.ref ((A (rp j).length).1))]) (st' := [.int (nI m), .ref ((A (rp j).length).1)]) rfl ?_
        refine zz_cV C E (ci := 1) (As := [.int (nI m)]) (rest := []) (hc := h1) md_S_valueIn (c_val l D S2 hl5 T2 (Nat.le_refl m) (by have := W.1; omega) cA) ml_T_148 im_S_valueIn se_S_valueIn rfl (S2 _ hl5).1 (fun _ _ q => q) rfl rfl (Nat.le_of_ble_eq_true rfl) ⟨by decide, by decide⟩ ⟨(by decide), (by decide)⟩ (by decide +kernel) (fun v h9 hp hn hd => ?_) (fun v h9 hp hn hd => ?_)
        · rw [zz_mix_self hd]
          obtain ⟨hh, hv⟩ := hp
          rw [hh]
          cases hv
          show zz_Z _ _ _ _ _ _ _ _ [.int (vwV Ls (rp j) m)]
          exact zr_i C E (by decide) (by decide) (by decide +kernel) (⟨by rw [if_pos cA], fr2, S2⟩)
        · cases hp.2
      · exact zz_throwN C E hst xn_146 (⟨by rw [if_neg cA], fr2, S2⟩) (by decide) (by decide) (by decide) (by decide) (by decide +kernel) (by decide +kernel) (by decide +kernel) (by decide +kernel) (by decide +kernel)
    · cases hp.2
  · cases hp.1
set_option maxHeartbeats 4000000 in
theorem c_T_value (l : Launch) (hst : l.stackTraces = false) (D : va_G) (aC : Nat → ClassId) (h : zz_Hp) (t la sa : Nat) (A : zA5) (n : Nat) (Ls : zLs) (W : tW h aC t la sa A n Ls) (x y : Int32) :
    zz_Ct l D aC y_T_value (zrm 7 2 12 150) [.ref t, .int x, .int y] h (fun r' h' => r' = (if isP x = false ∨ y < nI 1 ∨ nI n < y then .inr "java/lang/IllegalArgumentException" else if vwK Ls x y = 0 then .inl (some (.int (vwW Ls x y))) else .inr "java/util/NoSuchElementException") ∧ sFr A 0 h h' ∧ siH h' aC A) := by
  refine zz_ct md_T_value rfl (by simp [Value.category]) (Nat.le_of_ble_eq_true rfl) fun K C E hI => ?_
  obtain rfl := E.ac
  refine zz_go C [(0, .aload_n 0), (1, .iload_n 1), (2, .iload_n 2)] (by decide +kernel) (pc' := 3) (lv' := [some (.ref t), some (.int x), some (.int y)]) (st' := [.int y, .int x, .ref t]) rfl ?_
  refine zz_cV C E (ci := 2) (As := [.int x, .int y]) (rest := []) (hc := h) md_T_checkView (c_T_checkView l hst D (zz_ac K) h t _ _ (nI n) x y W.2.2.2.1) ml_T_96 im_T_checkView se_T_checkView rfl W.2.2.2.1 (fun _ _ q => q) rfl rfl (Nat.le_of_ble_eq_true rfl) ⟨by decide, by decide⟩ ⟨(by decide), (by decide)⟩ (by decide +kernel) (fun v h0 hp hn hd => ?_) (fun v h0 hp hn hd => ?_)
  · rw [zz_mix_self hd]
    obtain ⟨hh, hv⟩ := hp
    rw [hh]
    have cP : ¬ (isP x = false ∨ y < nI 1 ∨ nI n < y) := fun e => by rw [if_pos e] at hv; cases hv
    rw [if_neg cP] at hv
    cases hv
    show zz_Z _ _ _ _ _ _ _ _ []
    obtain ⟨j, m, rfl, rfl, hj, hm1, hm⟩ := vwOk W.1.2 cP
    refine zz_go C [(6, .aload_n 0), (7, .iload_n 1), (8, .iload_n 2)] (by decide +kernel) (pc' := 9) (lv' := [some (.ref t), some (.int (nI j)), some (.int (nI m))]) (st' := [.int (nI m), .int (nI j), .ref t]) rfl ?_
    have m8 : m ≤ 8 := by have := W.1; omega
    refine zz_cV C E (ci := 2) (As := [.int (nI j), .int (nI m)]) (rest := []) (hc := h) md_T_fileValue (c_T_fileValue l hst D (zz_ac K) h t la sa A n Ls W j m hj hm) ml_T_72 im_T_fileValue se_T_fileValue rfl W.2.2.2.1 (fun _ _ q => q) rfl rfl (Nat.le_of_ble_eq_true rfl) ⟨by decide, by decide⟩ ⟨(by decide), (by decide)⟩ (by decide +kernel) (fun v h1 hp hn hd => ?_) (fun v h1 hp hn hd => ?_)
    · rw [zz_mix_self hd]
      obtain ⟨hv, fr2, S2⟩ := hp
      have cA : (vw Ls (rp j)).1 m = 0 := by
        by_cases e : (vw Ls (rp j)).1 m = 0
        · exact e
        · rw [if_neg e] at hv; cases hv
      rw [if_pos cA] at hv
      cases hv
      show zz_Z _ _ _ _ _ _ _ _ [.int (vwV Ls (rp j) m)]
      exact zr_i C E (by decide) (by decide) (by decide +kernel) (⟨by rw [if_neg cP, vwK_of hj.1 m8, if_pos cA, vwW_of hj.1 m8], fr2, S2⟩)
    · rw [zz_mix_self hd]
      obtain ⟨hv, fr2, S2⟩ := hp
      have cA : ¬ (vw Ls (rp j)).1 m = 0 := fun e => by rw [if_pos e] at hv; cases hv
      rw [if_neg cA] at hv
      cases hv
      exact zr_out C E (by decide) (by decide) ⟨by rw [if_neg cP, vwK_of hj.1 m8, if_neg cA], fr2, S2⟩
  · rw [zz_mix_self hd]
    obtain ⟨hh, hv⟩ := hp
    rw [hh]
    have cP : isP x = false ∨ y < nI 1 ∨ nI n < y := by
      by_cases e : isP x = false ∨ y < nI 1 ∨ nI n < y
      · exact e
      · rw [if_neg e] at hv; cases hv
    rw [if_pos cP] at hv
    cases hv
    exact zr_out C E (by decide) (by decide) ⟨by rw [if_pos cP], sFr.rf, W.2.2.2.2.2.2.1⟩
set_option maxHeartbeats 4000000 in
theorem c_T_names (l : Launch) (hst : l.stackTraces = false) (D : va_G) (aC : Nat → ClassId) (h : zz_Hp) (t la sa : Nat) (A : zA5) (n : Nat) (Ls : zLs) (W : tW h aC t la sa A n Ls) (x y : Int32) :
    zz_Ct l D aC y_T_names (zrm 7 2 12 150) [.ref t, .int x, .int y] h (fun r' h' => r' = (if isP x = false ∨ y < nI 1 ∨ nI n < y then .inr "java/lang/IllegalArgumentException" else if vwK Ls x y = nI 1 then .inl (some (.int (nmW Ls x y))) else .inr "java/util/NoSuchElementException") ∧ sFr A 0 h h' ∧ siH h' aC A) := by
  refine zz_ct md_T_names rfl (by simp [Value.category]) (Nat.le_of_ble_eq_true rfl) fun K C E hI => ?_
  obtain rfl := E.ac
  refine zz_go C [(0, .aload_n 0), (1, .iload_n 1), (2, .iload_n 2)] (by decide +kernel) (pc' := 3) (lv' := [some (.ref t), some (.int x), some (.int y)]) (st' := [.int y, .int x, .ref t]) rfl ?_
  refine zz_cV C E (ci := 2) (As := [.int x, .int y]) (rest := []) (hc := h) md_T_checkView (c_T_checkView l hst D (zz_ac K) h t _ _ (nI n) x y W.2.2.2.1) ml_T_96 im_T_checkView se_T_checkView rfl W.2.2.2.1 (fun _ _ q => q) rfl rfl (Nat.le_of_ble_eq_true rfl) ⟨by decide, by decide⟩ ⟨(by decide), (by decide)⟩ (by decide +kernel) (fun v h0 hp hn hd => ?_) (fun v h0 hp hn hd => ?_)
  · rw [zz_mix_self hd]
    obtain ⟨hh, hv⟩ := hp
    rw [hh]
    have cP : ¬ (isP x = false ∨ y < nI 1 ∨ nI n < y) := fun e => by rw [if_pos e] at hv; cases hv
    rw [if_neg cP] at hv
    cases hv
    show zz_Z _ _ _ _ _ _ _ _ []
    obtain ⟨j, m, rfl, rfl, hj, hm1, hm⟩ := vwOk W.1.2 cP
    have m8 : m ≤ 8 := by have := W.1; omega
    refine zz_go C [(6, .aload_n 0), (7, .iload_n 1), (8, .iload_n 2)] (by decide +kernel) (pc' := 9) (lv' := [some (.ref t), some (.int (nI j)), some (.int (nI m))]) (st' := [.int (nI m), .int (nI j), .ref t]) rfl ?_
    refine zz_cV C E (ci := 2) (As := [.int (nI j), .int (nI m)]) (rest := []) (hc := h) md_T_look (c_T_look l D (zz_ac K) h t la sa A n Ls W j m hj hm) ml_T_36 im_T_look se_T_look rfl W.2.2.2.1 (fun _ _ q => q) rfl rfl (Nat.le_of_ble_eq_true rfl) ⟨by decide, by decide⟩ ⟨(by decide), (by decide)⟩ (by decide +kernel) (fun v h1 hp hn hd => ?_) (fun v h1 hp hn hd => ?_)
    · rw [zz_mix_self hd]
      obtain ⟨hv, fr2, S2, T2, hlen⟩ := hp
      cases hv
      show zz_Z _ _ _ _ _ _ _ _ [.ref ((A (rp j).length).1)]
      have W2 := W.fr fr2 S2
      have hl5 : (rp j).length < 5 := by omega
      refine zz_go C [(12, .iload_n 2)] (by decide +kernel) (pc' := 13) (lv' := [some (.ref t), some (.int (nI j)), some (.int (nI m))]) (st' := [.int (nI m), .ref ((A (rp j).length).1)]) rfl ?_
      refine zz_cV C E (ci := 1) (As := [.int (nI m)]) (rest := []) (hc := h1) md_S_kindIn (c_kind l D S2 hl5 T2 (Nat.le_refl m) (by have := W.1; omega)) ml_T_40 im_S_kindIn se_S_kindIn rfl (S2 _ hl5).1 (fun _ _ q => q) rfl rfl (Nat.le_of_ble_eq_true rfl) ⟨by decide, by decide⟩ ⟨(by decide), (by decide)⟩ (by decide +kernel) (fun v h9 hp hn hd => ?_) (fun v h9 hp hn hd => ?_)
      · rw [zz_mix_self hd]
        obtain ⟨hh, hv⟩ := hp
        rw [hh]
        cases hv
        show zz_Z _ _ _ _ _ _ _ _ [.int ((vw Ls (rp j)).1 m)]
        refine zz_go C [(16, .iconst 1)] (by decide +kernel) (pc' := 17) (lv' := [some (.ref t), some (.int (nI j)), some (.int (nI m))]) (st' := [.int (nI 1), .int ((vw Ls (rp j)).1 m)]) rfl ?_
        refine zz_if C (i := .if_icmp .eq 13) (by decide +kernel) (Pt := ((vw Ls (rp j)).1 m) = (nI 1)) (Pf := ¬ ((vw Ls (rp j)).1 m) = (nI 1)) (off := 13) (r := []) (tgt := 30) rfl (by decide) (fun cA => ?_) (fun cA => ?_)
        · refine zz_go C [(30, .aload_n 0), (31, .iload_n 1)] (by decide +kernel) (pc' := 32) (lv' := [some (.ref t), some (.int (nI j)), some (.int (nI m))]) (st' := [.int (nI j), .ref t]) rfl ?_
          refine zz_cS C E (As := [.int (nI j)]) (rest := [.ref t]) (hc := h1) md_T_depthOf (c_T_depthOf l D (zz_ac K) h1 j hj.1) ml_T_63 sm_T_depthOf (fun _ _ q => q) rfl rfl (Nat.le_of_ble_eq_true rfl) ⟨by decide, by decide⟩ ⟨(by decide), (by decide)⟩ (by decide +kernel) (fun v h9 hp hn hd => ?_) (fun v h9 hp hn hd => ?_)
          · rw [zz_mix_self hd]
            obtain ⟨hh, hv⟩ := hp
            rw [hh]
            cases hv
            show zz_Z _ _ _ _ _ _ _ _ [.int (nI (nmF 4 j).length), .ref t]
            refine zz_go C [(35, .iload_n 2)] (by decide +kernel) (pc' := 36) (lv' := [some (.ref t), some (.int (nI j)), some (.int (nI m))]) (st' := [.int (nI m), .int (nI (nmF 4 j).length), .ref t]) rfl ?_
            rw [← rp_len j]
            refine zz_cV C E (ci := 2) (As := [.int (nI (rp j).length), .int (nI m)]) (rest := []) (hc := h1) md_T_namesSeen (c_T_namesSeen l D (zz_ac K) h1 t la sa A n Ls W2 (rp j).length m (rp j) hl5 hm T2) ml_T_101 im_T_namesSeen se_T_namesSeen rfl W2.2.2.2.1 (fun _ _ q => q) rfl rfl (Nat.le_of_ble_eq_true rfl) ⟨by decide, by decide⟩ ⟨(by decide), (by decide)⟩ (by decide +kernel) (fun v h2 hp hn hd => ?_) (fun v h2 hp hn hd => ?_)
            · rw [zz_mix_self hd]
              obtain ⟨hv, fr3, S3⟩ := hp
              cases hv
              show zz_Z _ _ _ _ _ _ _ _ [.int (if (rp j).length < 4 then nmB Ls m (rp j) 9 else nI 0)]
              exact zr_i C E (by decide) (by decide) (by decide +kernel) (⟨by rw [if_neg cP, vwK_of hj.1 m8, if_pos cA, nmW_of hj.1 m8], fr2.tr (fr3.lo (Nat.zero_le _)), S3⟩)
            · cases hp.1
          · cases hp.2
        · exact zz_throwN C E hst xn_99 (⟨by rw [if_neg cP, vwK_of hj.1 m8, if_neg cA], fr2, S2⟩) (by decide) (by decide) (by decide) (by decide) (by decide +kernel) (by decide +kernel) (by decide +kernel) (by decide +kernel) (by decide +kernel)
      · cases hp.2
    · cases hp.1
  · rw [zz_mix_self hd]
    obtain ⟨hh, hv⟩ := hp
    rw [hh]
    have cP : isP x = false ∨ y < nI 1 ∨ nI n < y := by
      by_cases e : isP x = false ∨ y < nI 1 ∨ nI n < y
      · exact e
      · rw [if_neg e] at hv; cases hv
    rw [if_pos cP] at hv
    cases hv
    exact zr_out C E (by decide) (by decide) ⟨by rw [if_pos cP], sFr.rf, W.2.2.2.2.2.2.1⟩
