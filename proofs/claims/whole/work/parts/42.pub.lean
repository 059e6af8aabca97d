/-! ===== what changes the top layer ===== -/
/-- a path's names, its last one first -/
def Rx (x : Int32) : List Nat := rp x.toNatClampNeg
set_option maxHeartbeats 4000000 in
theorem c_T_write (l : Launch) (hst : l.stackTraces = false) (D : va_G) (aC : Nat → ClassId) (h : zz_Hp) (t la sa : Nat) (A : zA5) (m : Nat) (Ls : zLs) (W : tW h aC t la sa A (m + 1) Ls) (x v : Int32) :
    zz_Ct l D aC y_T_write (zrm 8 12 80 200) [.ref t, .int x, .int v] h (fun r' h' => (x = 0 ∨ isP x = false → r' = .inr "java/lang/IllegalArgumentException" ∧ tW h' aC t la sa A (m + 1) Ls) ∧ (¬ (x = 0 ∨ isP x = false) → ¬ (vw Ls (Rx x).tail).1 (m + 1) = nI 1 ∨ (vw Ls (Rx x)).1 (m + 1) = nI 1 → r' = .inr "java/lang/IllegalStateException" ∧ tW h' aC t la sa A (m + 1) Ls) ∧ (¬ (x = 0 ∨ isP x = false) → ¬ (¬ (vw Ls (Rx x).tail).1 (m + 1) = nI 1 ∨ (vw Ls (Rx x)).1 (m + 1) = nI 1) → r' = .inl (some (.int (bI (decide (¬ (vw Ls (Rx x)).1 (m + 1) = 0))))) ∧ ∃ u, tW h' aC t la sa A (m + 1) (lyU Ls m u) ∧ ∀ y, ctS (u y) = stC (fun y => ctS (Ls m y)) (Rx x) (nI 0) v y)) := by
  refine zz_ct md_T_write rfl (by simp [Value.category]) (Nat.le_of_ble_eq_true rfl) fun K C E hI => ?_
  obtain rfl := E.ac
  refine zz_go C [(0, .iload_n 1)] (by decide +kernel) (pc' := 1) (lv' := [some (.ref t), some (.int x), some (.int v), none]) (st' := [.int x]) rfl ?_
  refine zz_cS C E (As := [.int x]) (rest := []) (hc := h) md_T_checkBelowRoot (c_T_checkBelowRoot l hst D (zz_ac K) h x) ml_T_29 sm_T_checkBelowRoot (fun _ _ q => q) rfl rfl (Nat.le_of_ble_eq_true rfl) ⟨by decide, by decide⟩ ⟨(by decide), (by decide)⟩ (by decide +kernel) (fun v0 h0 hp hn hd => ?_) (fun v0 h0 hp hn hd => ?_)
  · rw [zz_mix_self hd]
    obtain ⟨hh, hv⟩ := hp
    rw [hh]
    have cX : ¬ (x = 0 ∨ isP x = false) := fun e => by rw [if_pos e] at hv; cases hv
    rw [if_neg cX] at hv
    cases hv
    show zz_Z _ _ _ _ _ _ _ _ []
    obtain ⟨j, rfl, hj9j, hokj⟩ := isP_of (fun q => cX (Or.inr q))
    have hj0j : ¬ j = 0 := fun e => cX (Or.inl (by rw [e]; rfl))
    have clj : (nI j).toNatClampNeg = j := nI_clamp (by omega)
    refine zz_go C [(4, .aload_n 0), (5, .iload_n 1)] (by decide +kernel) (pc' := 6) (lv' := [some (.ref t), some (.int (nI j)), some (.int v), none]) (st' := [.int (nI j), .ref t]) rfl ?_
    refine zz_cV C E (ci := 2) (As := [.int (nI j)]) (rest := []) (hc := h) md_T_checkWritable (c_T_checkWritable l hst D (zz_ac K) h t la sa A (m + 1) Ls W j ⟨hj9j, hokj⟩) ml_T_33 im_T_checkWritable se_T_checkWritable rfl W.2.2.2.1 (fun _ _ q => q) rfl rfl (Nat.le_of_ble_eq_true rfl) ⟨by decide, by decide⟩ ⟨(by decide), (by decide)⟩ (by decide +kernel) (fun v0 h1 hp hn hd => ?_) (fun v0 h1 hp hn hd => ?_)
    · rw [zz_mix_self hd]
      obtain ⟨hv, fr0, S0⟩ := hp
      have cB : ¬ (¬ (vw Ls (rp j).tail).1 (m + 1) = nI 1 ∨ (vw Ls (rp j)).1 (m + 1) = nI 1) := fun e => by rw [if_pos e] at hv; cases hv
      rw [if_neg cB] at hv
      cases hv
      have W1 := W.fr fr0 S0
      show zz_Z _ _ _ _ _ _ _ _ []
      refine zz_go C [(9, .aload_n 0), (10, .iload_n 1), (11, .aload_n 0)] (by decide +kernel) (pc' := 12) (lv' := [some (.ref t), some (.int (nI j)), some (.int v), none]) (st' := [.ref t, .int (nI j), .ref t]) rfl ?_
      refine zz_get C fd_T_18 W1.2.2.2.1 (v := .int (nI (m + 1))) rfl (by decide +kernel) ?_
      refine zz_cV C E (ci := 2) (As := [.int (nI j), .int (nI (m + 1))]) (rest := []) (hc := h1) md_T_look (c_T_look l D (zz_ac K) h1 t la sa A (m + 1) Ls W1 j (m + 1) ⟨hj9j, hokj⟩ (Nat.le_refl _)) ml_T_36 im_T_look se_T_look rfl W1.2.2.2.1 (fun _ _ q => q) rfl rfl (Nat.le_of_ble_eq_true rfl) ⟨by decide, by decide⟩ ⟨(by decide), (by decide)⟩ (by decide +kernel) (fun v0 h2 hp hn hd => ?_) (fun v0 h2 hp hn hd => ?_)
      · rw [zz_mix_self hd]
        obtain ⟨hv, fr2, S2, T2, hlen⟩ := hp
        cases hv
        show zz_Z _ _ _ _ _ _ _ _ [.ref ((A (rp j).length).1)]
        have W2 := W1.fr fr2 S2
        have hl5 : (rp j).length < 5 := by omega
        refine zz_go C [(18, .aload_n 0)] (by decide +kernel) (pc' := 19) (lv' := [some (.ref t), some (.int (nI j)), some (.int v), none]) (st' := [.ref t, .ref ((A (rp j).length).1)]) rfl ?_
        refine zz_get C fd_T_18 W2.2.2.2.1 (v := .int (nI (m + 1))) rfl (by decide +kernel) ?_
        refine zz_cV C E (ci := 1) (As := [.int (nI (m + 1))]) (rest := []) (hc := h2) md_S_kindIn (c_kind l D S2 hl5 T2 (Nat.le_refl _) W.1.2) ml_T_40 im_S_kindIn se_S_kindIn rfl (S2 _ hl5).1 (fun _ _ q => q) rfl rfl (Nat.le_of_ble_eq_true rfl) ⟨by decide, by decide⟩ ⟨(by decide), (by decide)⟩ (by decide +kernel) (fun v0 h9 hp hn hd => ?_) (fun v0 h9 hp hn hd => ?_)
        · rw [zz_mix_self hd]
          obtain ⟨hh, hv⟩ := hp
          rw [hh]
          cases hv
          show zz_Z _ _ _ _ _ _ _ _ [.int ((vw Ls (rp j)).1 (m + 1))]
          refine zz_if C (i := .ifCond .eq 7) (by decide +kernel) (Pt := ((vw Ls (rp j)).1 (m + 1)) = 0) (Pf := ¬ ((vw Ls (rp j)).1 (m + 1)) = 0) (off := 7) (r := []) (tgt := 32) rfl (by decide) (fun cC => ?_) (fun cC => ?_)
          · refine zz_go C [(32, .iconst 0), (33, .istore_n 3), (34, .aload_n 0), (35, .iload_n 1), (36, .iconst 0), (37, .iload_n 2)] (by decide +kernel) (pc' := 38) (lv' := [some (.ref t), some (.int (nI j)), some (.int v), some (.int (nI 0))]) (st' := [.int v, .int (nI 0), .int (nI j), .ref t]) rfl ?_
            refine zz_cV C E (ci := 2) (As := [.int (nI j), .int (nI 0), .int v]) (rest := []) (hc := h2) md_T_setMark (c_T_setMark l D (zz_ac K) h2 t la sa A m Ls W2 j (nI 0) v hj0j ⟨hj9j, hokj⟩) ml_T_44 im_T_setMark se_T_setMark rfl W2.2.2.2.1 (fun _ _ q => q) rfl rfl (Nat.le_of_ble_eq_true rfl) ⟨by decide, by decide⟩ ⟨(by decide), (by decide)⟩ (by decide +kernel) (fun v0 h3 hp hn hd => ?_) (fun v0 h3 hp hn hd => ?_)
            · rw [zz_mix_self hd]
              obtain ⟨hv, u, W3, hu⟩ := hp
              cases hv
              show zz_Z _ _ _ _ _ _ _ _ []
              refine zz_go C [(41, .iload_n 3)] (by decide +kernel) (pc' := 42) (lv' := [some (.ref t), some (.int (nI j)), some (.int v), some (.int (nI 0))]) (st' := [.int (nI 0)]) rfl ?_
              exact zr_z C E false rfl (by decide) (by decide) (by decide +kernel) (⟨fun q => absurd q cX, fun _ q => absurd (by rw [Rx, clj] at q; exact q) cB, fun _ _ => ⟨by rw [Rx, clj, show decide (¬ (vw Ls (rp j)).1 (m + 1) = 0) = false from decide_eq_false (fun q => q cC)], u, W3, by rw [Rx, clj]; exact hu⟩⟩)
            · cases hp.1
          · refine zz_go C [(28, .iconst 1), (29, .goto 4), (33, .istore_n 3), (34, .aload_n 0), (35, .iload_n 1), (36, .iconst 0), (37, .iload_n 2)] (by decide +kernel) (pc' := 38) (lv' := [some (.ref t), some (.int (nI j)), some (.int v), some (.int (nI 1))]) (st' := [.int v, .int (nI 0), .int (nI j), .ref t]) rfl ?_
            refine zz_cV C E (ci := 2) (As := [.int (nI j), .int (nI 0), .int v]) (rest := []) (hc := h2) md_T_setMark (c_T_setMark l D (zz_ac K) h2 t la sa A m Ls W2 j (nI 0) v hj0j ⟨hj9j, hokj⟩) ml_T_44 im_T_setMark se_T_setMark rfl W2.2.2.2.1 (fun _ _ q => q) rfl rfl (Nat.le_of_ble_eq_true rfl) ⟨by decide, by decide⟩ ⟨(by decide), (by decide)⟩ (by decide +kernel) (fun v0 h3 hp hn hd => ?_) (fun v0 h3 hp hn hd => ?_)
            · rw [zz_mix_self hd]
              obtain ⟨hv, u, W3, hu⟩ := hp
              cases hv
              show zz_Z _ _ _ _ _ _ _ _ []
              refine zz_go C [(41, .iload_n 3)] (by decide +kernel) (pc' := 42) (lv' := [some (.ref t), some (.int (nI j)), some (.int v), some (.int (nI 1))]) (st' := [.int (nI 1)]) rfl ?_
              exact zr_z C E true rfl (by decide) (by decide) (by decide +kernel) (⟨fun q => absurd q cX, fun _ q => absurd (by rw [Rx, clj] at q; exact q) cB, fun _ _ => ⟨by rw [Rx, clj, show decide (¬ (vw Ls (rp j)).1 (m + 1) = 0) = true from decide_eq_true cC], u, W3, by rw [Rx, clj]; exact hu⟩⟩)
            · cases hp.1
        · cases hp.2
      · cases hp.1
    · rw [zz_mix_self hd]
      obtain ⟨hv, fr0, S0⟩ := hp
      have cB : ¬ (vw Ls (rp j).tail).1 (m + 1) = nI 1 ∨ (vw Ls (rp j)).1 (m + 1) = nI 1 := by
        by_cases e : ¬ (vw Ls (rp j).tail).1 (m + 1) = nI 1 ∨ (vw Ls (rp j)).1 (m + 1) = nI 1
        · exact e
        · rw [if_neg e] at hv; cases hv
      rw [if_pos cB] at hv
      cases hv
      have W1 := W.fr fr0 S0
      exact zr_out C E (by decide) (by decide) ⟨fun q => absurd q cX, fun _ _ => ⟨rfl, W1⟩, fun _ q => absurd (by rw [Rx, clj]; exact cB) q⟩
  · rw [zz_mix_self hd]
    obtain ⟨hh, hv⟩ := hp
    rw [hh]
    have cX : (x = 0 ∨ isP x = false) := by
      by_cases e : (x = 0 ∨ isP x = false)
      · exact e
      · rw [if_neg e] at hv; cases hv
    rw [if_pos cX] at hv
    cases hv
    exact zr_out C E (by decide) (by decide) ⟨fun _ => ⟨rfl, W⟩, fun q => absurd cX q, fun q => absurd cX q⟩
set_option maxHeartbeats 4000000 in
theorem c_T_make (l : Launch) (hst : l.stackTraces = false) (D : va_G) (aC : Nat → ClassId) (h : zz_Hp) (t la sa : Nat) (A : zA5) (m : Nat) (Ls : zLs) (W : tW h aC t la sa A (m + 1) Ls) (x : Int32) :
    zz_Ct l D aC y_T_make (zrm 8 12 80 200) [.ref t, .int x] h (fun r' h' => (x = 0 ∨ isP x = false → r' = .inr "java/lang/IllegalArgumentException" ∧ tW h' aC t la sa A (m + 1) Ls) ∧ (¬ (x = 0 ∨ isP x = false) → ¬ (vw Ls (Rx x).tail).1 (m + 1) = nI 1 ∨ ¬ (vw Ls (Rx x)).1 (m + 1) = -1 → r' = .inr "java/lang/IllegalStateException" ∧ tW h' aC t la sa A (m + 1) Ls) ∧ (¬ (x = 0 ∨ isP x = false) → ¬ (¬ (vw Ls (Rx x).tail).1 (m + 1) = nI 1 ∨ ¬ (vw Ls (Rx x)).1 (m + 1) = -1) → r' = .inl none ∧ ∃ u, tW h' aC t la sa A (m + 1) (lyU Ls m u) ∧ ∀ y, ctS (u y) = stC (fun y => ctS (Ls m y)) (Rx x) (if (vw Ls (Rx x)).1 m = -1 then nI 1 else nI 2) (nI 0) y)) := by
  refine zz_ct md_T_make rfl (by simp [Value.category]) (Nat.le_of_ble_eq_true rfl) fun K C E hI => ?_
  obtain rfl := E.ac
  refine zz_go C [(0, .iload_n 1)] (by decide +kernel) (pc' := 1) (lv' := [some (.ref t), some (.int x), none]) (st' := [.int x]) rfl ?_
  refine zz_cS C E (As := [.int x]) (rest := []) (hc := h) md_T_checkBelowRoot (c_T_checkBelowRoot l hst D (zz_ac K) h x) ml_T_29 sm_T_checkBelowRoot (fun _ _ q => q) rfl rfl (Nat.le_of_ble_eq_true rfl) ⟨by decide, by decide⟩ ⟨(by decide), (by decide)⟩ (by decide +kernel) (fun v0 h0 hp hn hd => ?_) (fun v0 h0 hp hn hd => ?_)
  · rw [zz_mix_self hd]
    obtain ⟨hh, hv⟩ := hp
    rw [hh]
    have cX : ¬ (x = 0 ∨ isP x = false) := fun e => by rw [if_pos e] at hv; cases hv
    rw [if_neg cX] at hv
    cases hv
    show zz_Z _ _ _ _ _ _ _ _ []
    obtain ⟨j, rfl, hj9j, hokj⟩ := isP_of (fun q => cX (Or.inr q))
    have hj0j : ¬ j = 0 := fun e => cX (Or.inl (by rw [e]; rfl))
    have clj : (nI j).toNatClampNeg = j := nI_clamp (by omega)
    refine zz_go C [(4, .aload_n 0), (5, .iload_n 1)] (by decide +kernel) (pc' := 6) (lv' := [some (.ref t), some (.int (nI j)), none]) (st' := [.int (nI j), .ref t]) rfl ?_
    refine zz_cV C E (ci := 2) (As := [.int (nI j)]) (rest := []) (hc := h) md_T_checkParent (c_T_checkParent l hst D (zz_ac K) h t la sa A (m + 1) Ls W j ⟨hj9j, hokj⟩) ml_T_48 im_T_checkParent se_T_checkParent rfl W.2.2.2.1 (fun _ _ q => q) rfl rfl (Nat.le_of_ble_eq_true rfl) ⟨by decide, by decide⟩ ⟨(by decide), (by decide)⟩ (by decide +kernel) (fun v0 h1 hp hn hd => ?_) (fun v0 h1 hp hn hd => ?_)
    · rw [zz_mix_self hd]
      obtain ⟨hv, fr0, S0⟩ := hp
      have cB : (vw Ls (rp j).tail).1 (m + 1) = nI 1 := by
        by_cases e : (vw Ls (rp j).tail).1 (m + 1) = nI 1
        · exact e
        · rw [if_neg e] at hv; cases hv
      rw [if_pos cB] at hv
      cases hv
      have W1 := W.fr fr0 S0
      show zz_Z _ _ _ _ _ _ _ _ []
      refine zz_go C [(9, .aload_n 0), (10, .iload_n 1), (11, .aload_n 0)] (by decide +kernel) (pc' := 12) (lv' := [some (.ref t), some (.int (nI j)), none]) (st' := [.ref t, .int (nI j), .ref t]) rfl ?_
      refine zz_get C fd_T_18 W1.2.2.2.1 (v := .int (nI (m + 1))) rfl (by decide +kernel) ?_
      refine zz_cV C E (ci := 2) (As := [.int (nI j), .int (nI (m + 1))]) (rest := []) (hc := h1) md_T_look (c_T_look l D (zz_ac K) h1 t la sa A (m + 1) Ls W1 j (m + 1) ⟨hj9j, hokj⟩ (Nat.le_refl _)) ml_T_36 im_T_look se_T_look rfl W1.2.2.2.1 (fun _ _ q => q) rfl rfl (Nat.le_of_ble_eq_true rfl) ⟨by decide, by decide⟩ ⟨(by decide), (by decide)⟩ (by decide +kernel) (fun v0 h2 hp hn hd => ?_) (fun v0 h2 hp hn hd => ?_)
      · rw [zz_mix_self hd]
        obtain ⟨hv, fr2, S2, T2, hlen⟩ := hp
        cases hv
        show zz_Z _ _ _ _ _ _ _ _ [.ref ((A (rp j).length).1)]
        have W2 := W1.fr fr2 S2
        have hl5 : (rp j).length < 5 := by omega
        refine zz_go C [(18, .astore_n 2), (19, .aload_n 2), (20, .aload_n 0)] (by decide +kernel) (pc' := 21) (lv' := [some (.ref t), some (.int (nI j)), some (.ref ((A (rp j).length).1))]) (st' := [.ref t, .ref ((A (rp j).length).1)]) rfl ?_
        refine zz_get C fd_T_18 W2.2.2.2.1 (v := .int (nI (m + 1))) rfl (by decide +kernel) ?_
        refine zz_cV C E (ci := 1) (As := [.int (nI (m + 1))]) (rest := []) (hc := h2) md_S_kindIn (c_kind l D S2 hl5 T2 (Nat.le_refl _) W.1.2) ml_T_40 im_S_kindIn se_S_kindIn rfl (S2 _ hl5).1 (fun _ _ q => q) rfl rfl (Nat.le_of_ble_eq_true rfl) ⟨by decide, by decide⟩ ⟨(by decide), (by decide)⟩ (by decide +kernel) (fun v0 h9 hp hn hd => ?_) (fun v0 h9 hp hn hd => ?_)
        · rw [zz_mix_self hd]
          obtain ⟨hh, hv⟩ := hp
          rw [hh]
          cases hv
          show zz_Z _ _ _ _ _ _ _ _ [.int ((vw Ls (rp j)).1 (m + 1))]
          refine zz_go C [(27, .iconst (-1))] (by decide +kernel) (pc' := 28) (lv' := [some (.ref t), some (.int (nI j)), some (.ref ((A (rp j).length).1))]) (st' := [.int ((-1)), .int ((vw Ls (rp j)).1 (m + 1))]) rfl ?_
          refine zz_if C (i := .if_icmp .eq 13) (by decide +kernel) (Pt := ((vw Ls (rp j)).1 (m + 1)) = ((-1))) (Pf := ¬ ((vw Ls (rp j)).1 (m + 1)) = ((-1))) (off := 13) (r := []) (tgt := 41) rfl (by decide) (fun cC => ?_) (fun cC => ?_)
          · refine zz_go C [(41, .aload_n 0), (42, .iload_n 1), (43, .aload_n 2), (44, .aload_n 0)] (by decide +kernel) (pc' := 45) (lv' := [some (.ref t), some (.int (nI j)), some (.ref ((A (rp j).length).1))]) (st' := [.ref t, .ref ((A (rp j).length).1), .int (nI j), .ref t]) rfl ?_
            refine zz_get C fd_T_18 W2.2.2.2.1 (v := .int (nI (m + 1))) rfl (by decide +kernel) ?_
            refine zz_go C [(48, .iconst 1), (49, .isub)] (by decide +kernel) (pc' := 50) (lv' := [some (.ref t), some (.int (nI j)), some (.ref ((A (rp j).length).1))]) (st' := [.int ((nI (m + 1)) - (nI 1)), .ref ((A (rp j).length).1), .int (nI j), .ref t]) rfl ?_
            rw [show nI (m + 1) - nI 1 = nI m from nI_pred m]
            refine zz_cV C E (ci := 1) (As := [.int (nI m)]) (rest := [.int (nI j), .ref t]) (hc := h2) md_S_kindIn (c_kind l D S2 hl5 T2 (Nat.le_succ m) W.1.2) ml_T_40 im_S_kindIn se_S_kindIn rfl (S2 _ hl5).1 (fun _ _ q => q) rfl rfl (Nat.le_of_ble_eq_true rfl) ⟨by decide, by decide⟩ ⟨(by decide), (by decide)⟩ (by decide +kernel) (fun v0 h9 hp hn hd => ?_) (fun v0 h9 hp hn hd => ?_)
            · rw [zz_mix_self hd]
              obtain ⟨hh, hv⟩ := hp
              rw [hh]
              cases hv
              show zz_Z _ _ _ _ _ _ _ _ [.int ((vw Ls (rp j)).1 m), .int (nI j), .ref t]
              refine zz_go C [(53, .iconst (-1))] (by decide +kernel) (pc' := 54) (lv' := [some (.ref t), some (.int (nI j)), some (.ref ((A (rp j).length).1))]) (st' := [.int ((-1)), .int ((vw Ls (rp j)).1 m), .int (nI j), .ref t]) rfl ?_
              refine zz_if C (i := .if_icmp .ne 7) (by decide +kernel) (Pt := ¬ ((vw Ls (rp j)).1 m) = ((-1))) (Pf := ((vw Ls (rp j)).1 m) = ((-1))) (off := 7) (r := [.int (nI j), .ref t]) (tgt := 61) rfl (by decide) (fun cD => ?_) (fun cD => ?_)
              · refine zz_go C [(61, .iconst 2), (62, .iconst 0)] (by decide +kernel) (pc' := 63) (lv' := [some (.ref t), some (.int (nI j)), some (.ref ((A (rp j).length).1))]) (st' := [.int (nI 0), .int (nI 2), .int (nI j), .ref t]) rfl ?_
                refine zz_cV C E (ci := 2) (As := [.int (nI j), .int (nI 2), .int (nI 0)]) (rest := []) (hc := h2) md_T_setMark (c_T_setMark l D (zz_ac K) h2 t la sa A m Ls W2 j (nI 2) (nI 0) hj0j ⟨hj9j, hokj⟩) ml_T_44 im_T_setMark se_T_setMark rfl W2.2.2.2.1 (fun _ _ q => q) rfl rfl (Nat.le_of_ble_eq_true rfl) ⟨by decide, by decide⟩ ⟨(by decide), (by decide)⟩ (by decide +kernel) (fun v0 h3 hp hn hd => ?_) (fun v0 h3 hp hn hd => ?_)
                · rw [zz_mix_self hd]
                  obtain ⟨hv, u, W3, hu⟩ := hp
                  cases hv
                  show zz_Z _ _ _ _ _ _ _ _ []
                  exact zr_v C E (by decide) (by decide) (by decide +kernel) (⟨fun q => absurd q cX, fun _ q => by rw [Rx, clj] at q; exact (q.elim (fun e => absurd cB e) (fun e => absurd cC e)), fun _ _ => ⟨rfl, u, W3, by rw [Rx, clj, if_neg cD]; exact hu⟩⟩)
                · cases hp.1
              · refine zz_go C [(57, .iconst 1), (58, .goto 4), (62, .iconst 0)] (by decide +kernel) (pc' := 63) (lv' := [some (.ref t), some (.int (nI j)), some (.ref ((A (rp j).length).1))]) (st' := [.int (nI 0), .int (nI 1), .int (nI j), .ref t]) rfl ?_
                refine zz_cV C E (ci := 2) (As := [.int (nI j), .int (nI 1), .int (nI 0)]) (rest := []) (hc := h2) md_T_setMark (c_T_setMark l D (zz_ac K) h2 t la sa A m Ls W2 j (nI 1) (nI 0) hj0j ⟨hj9j, hokj⟩) ml_T_44 im_T_setMark se_T_setMark rfl W2.2.2.2.1 (fun _ _ q => q) rfl rfl (Nat.le_of_ble_eq_true rfl) ⟨by decide, by decide⟩ ⟨(by decide), (by decide)⟩ (by decide +kernel) (fun v0 h3 hp hn hd => ?_) (fun v0 h3 hp hn hd => ?_)
                · rw [zz_mix_self hd]
                  obtain ⟨hv, u, W3, hu⟩ := hp
                  cases hv
                  show zz_Z _ _ _ _ _ _ _ _ []
                  exact zr_v C E (by decide) (by decide) (by decide +kernel) (⟨fun q => absurd q cX, fun _ q => by rw [Rx, clj] at q; exact (q.elim (fun e => absurd cB e) (fun e => absurd cC e)), fun _ _ => ⟨rfl, u, W3, by rw [Rx, clj, if_pos cD]; exact hu⟩⟩)
                · cases hp.1
            · cases hp.2
          · exact zz_throw C E hst xd_53 (⟨fun q => absurd q cX, fun _ _ => ⟨rfl, W2⟩, fun _ q => absurd (by rw [Rx, clj]; exact Or.inr cC) q⟩) (by decide) (by decide) (by decide) (by decide) (by decide +kernel) (by decide +kernel) (by decide +kernel) (by decide +kernel) (by decide +kernel)
        · cases hp.2
      · cases hp.1
    · rw [zz_mix_self hd]
      obtain ⟨hv, fr0, S0⟩ := hp
      have cB : ¬ ((vw Ls (rp j).tail).1 (m + 1) = nI 1) := fun e => by rw [if_pos e] at hv; cases hv
      rw [if_neg cB] at hv
      cases hv
      have W1 := W.fr fr0 S0
      exact zr_out C E (by decide) (by decide) ⟨fun q => absurd q cX, fun _ _ => ⟨rfl, W1⟩, fun _ q => absurd (by rw [Rx, clj]; exact Or.inl cB) q⟩
  · rw [zz_mix_self hd]
    obtain ⟨hh, hv⟩ := hp
    rw [hh]
    have cX : (x = 0 ∨ isP x = false) := by
      by_cases e : (x = 0 ∨ isP x = false)
      · exact e
      · rw [if_neg e] at hv; cases hv
    rw [if_pos cX] at hv
    cases hv
    exact zr_out C E (by decide) (by decide) ⟨fun _ => ⟨rfl, W⟩, fun q => absurd cX q, fun q => absurd cX q⟩
theorem zz_wid {l : Launch} {D : va_G} {aC : Nat → ClassId} {y : MethodName} {rm : Room} {av : List Value} {h : zz_Hp} {post : zz_R → zz_Hp → Prop} (M : zz_Ct l D aC y rm av h post) (rm' : Room) (h1 : rm.frames ≤ rm'.frames) (h2 : rm.cells = rm'.cells) (h3 : rm.slots = rm'.slots) (h4 : rm.locals ≤ rm'.locals) : zz_Ct l D aC y rm' av h post := fun sz => by
  have z := M sz
  rw [h2, h3] at z
  exact MetFree.respec (S' := headSpec zz_g rm') z (fun a s q => q) h1 h4 (Nat.le_of_eq h2) (Nat.le_of_eq h3)
set_option maxHeartbeats 4000000 in
theorem c_T_remove (l : Launch) (hst : l.stackTraces = false) (D : va_G) (aC : Nat → ClassId) (h : zz_Hp) (t la sa : Nat) (A : zA5) (m : Nat) (Ls : zLs) (W : tW h aC t la sa A (m + 1) Ls) (x : Int32) :
    zz_Ct l D aC y_T_remove (zrm 8 12 80 260) [.ref t, .int x] h (fun r' h' => (x = 0 ∨ isP x = false → r' = .inr "java/lang/IllegalArgumentException" ∧ tW h' aC t la sa A (m + 1) Ls) ∧ (¬ (x = 0 ∨ isP x = false) → (vw Ls (Rx x)).1 (m + 1) = -1 → r' = .inr "java/util/NoSuchElementException" ∧ tW h' aC t la sa A (m + 1) Ls) ∧ (¬ (x = 0 ∨ isP x = false) → ¬ (vw Ls (Rx x)).1 (m + 1) = -1 → r' = .inl (some (.int (nI (cnS Ls (m + 1) (4 - (Rx x).length) (Rx x))))) ∧ ∃ u, tW h' aC t la sa A (m + 1) (lyU Ls m u) ∧ ∀ y, ctS (u y) = taC (fun y => ctS (Ls m y)) (Rx x) ((vw Ls (Rx x)).1 m) y)) := by
  refine zz_ct md_T_remove rfl (by simp [Value.category]) (Nat.le_of_ble_eq_true rfl) fun K C E hI => ?_
  obtain rfl := E.ac
  refine zz_go C [(0, .iload_n 1)] (by decide +kernel) (pc' := 1) (lv' := [some (.ref t), some (.int x), none]) (st' := [.int x]) rfl ?_
  refine zz_cS C E (As := [.int x]) (rest := []) (hc := h) md_T_checkBelowRoot (c_T_checkBelowRoot l hst D (zz_ac K) h x) ml_T_29 sm_T_checkBelowRoot (fun _ _ q => q) rfl rfl (Nat.le_of_ble_eq_true rfl) ⟨by decide, by decide⟩ ⟨(by decide), (by decide)⟩ (by decide +kernel) (fun v0 h0 hp hn hd => ?_) (fun v0 h0 hp hn hd => ?_)
  · rw [zz_mix_self hd]
    obtain ⟨hh, hv⟩ := hp
    rw [hh]
    have cX : ¬ (x = 0 ∨ isP x = false) := fun e => by rw [if_pos e] at hv; cases hv
    rw [if_neg cX] at hv
    cases hv
    show zz_Z _ _ _ _ _ _ _ _ []
    obtain ⟨j, rfl, hj9j, hokj⟩ := isP_of (fun q => cX (Or.inr q))
    have hj0j : ¬ j = 0 := fun e => cX (Or.inl (by rw [e]; rfl))
    have clj : (nI j).toNatClampNeg = j := nI_clamp (by omega)
    refine zz_go C [(4, .aload_n 0), (5, .iload_n 1), (6, .aload_n 0)] (by decide +kernel) (pc' := 7) (lv' := [some (.ref t), some (.int (nI j)), none]) (st' := [.ref t, .int (nI j), .ref t]) rfl ?_
    refine zz_get C fd_T_18 W.2.2.2.1 (v := .int (nI (m + 1))) rfl (by decide +kernel) ?_
    refine zz_cV C E (ci := 2) (As := [.int (nI j), .int (nI (m + 1))]) (rest := []) (hc := h) md_T_look (c_T_look l D (zz_ac K) h t la sa A (m + 1) Ls W j (m + 1) ⟨hj9j, hokj⟩ (Nat.le_refl _)) ml_T_36 im_T_look se_T_look rfl W.2.2.2.1 (fun _ _ q => q) rfl rfl (Nat.le_of_ble_eq_true rfl) ⟨by decide, by decide⟩ ⟨(by decide), (by decide)⟩ (by decide +kernel) (fun v0 h2 hp hn hd => ?_) (fun v0 h2 hp hn hd => ?_)
    · rw [zz_mix_self hd]
      obtain ⟨hv, fr2, S2, T2, hlen⟩ := hp
      cases hv
      show zz_Z _ _ _ _ _ _ _ _ [.ref ((A (rp j).length).1)]
      have W2 := W.fr fr2 S2
      have hl5 : (rp j).length < 5 := by omega
      refine zz_go C [(13, .aload_n 0)] (by decide +kernel) (pc' := 14) (lv' := [some (.ref t), some (.int (nI j)), none]) (st' := [.ref t, .ref ((A (rp j).length).1)]) rfl ?_
      refine zz_get C fd_T_18 W2.2.2.2.1 (v := .int (nI (m + 1))) rfl (by decide +kernel) ?_
      refine zz_cV C E (ci := 1) (As := [.int (nI (m + 1))]) (rest := []) (hc := h2) md_S_kindIn (c_kind l D S2 hl5 T2 (Nat.le_refl _) W.1.2) ml_T_40 im_S_kindIn se_S_kindIn rfl (S2 _ hl5).1 (fun _ _ q => q) rfl rfl (Nat.le_of_ble_eq_true rfl) ⟨by decide, by decide⟩ ⟨(by decide), (by decide)⟩ (by decide +kernel) (fun v0 h9 hp hn hd => ?_) (fun v0 h9 hp hn hd => ?_)
      · rw [zz_mix_self hd]
        obtain ⟨hh, hv⟩ := hp
        rw [hh]
        cases hv
        show zz_Z _ _ _ _ _ _ _ _ [.int ((vw Ls (rp j)).1 (m + 1))]
        refine zz_go C [(20, .iconst (-1))] (by decide +kernel) (pc' := 21) (lv' := [some (.ref t), some (.int (nI j)), none]) (st' := [.int ((-1)), .int ((vw Ls (rp j)).1 (m + 1))]) rfl ?_
        refine zz_if C (i := .if_icmp .ne 13) (by decide +kernel) (Pt := ¬ ((vw Ls (rp j)).1 (m + 1)) = ((-1))) (Pf := ((vw Ls (rp j)).1 (m + 1)) = ((-1))) (off := 13) (r := []) (tgt := 34) rfl (by decide) (fun cC => ?_) (fun cC => ?_)
        · refine zz_go C [(34, .aload_n 0), (35, .iload_n 1)] (by decide +kernel) (pc' := 36) (lv' := [some (.ref t), some (.int (nI j)), none]) (st' := [.int (nI j), .ref t]) rfl ?_
          refine zz_cS C E (As := [.int (nI j)]) (rest := [.ref t]) (hc := h2) md_T_depthOf (c_T_depthOf l D (zz_ac K) h2 j hj9j) ml_T_63 sm_T_depthOf (fun _ _ q => q) rfl rfl (Nat.le_of_ble_eq_true rfl) ⟨by decide, by decide⟩ ⟨(by decide), (by decide)⟩ (by decide +kernel) (fun v0 h9 hp hn hd => ?_) (fun v0 h9 hp hn hd => ?_)
          · rw [zz_mix_self hd]
            obtain ⟨hh, hv⟩ := hp
            rw [hh]
            cases hv
            show zz_Z _ _ _ _ _ _ _ _ [.int (nI (nmF 4 j).length), .ref t]
            rw [← rp_len j]
            refine zz_cV C E (ci := 2) (As := [.int (nI (rp j).length)]) (rest := []) (hc := h2) md_T_countSeen (zz_wid (c_T_countSeen l D (zz_ac K) t la sa A (m + 1) Ls (4 - (rp j).length) (rp j).length (rp j) h2 (by omega) W2 T2) (zrm 6 0 0 220) (by show 4 - (rp j).length + 2 ≤ 6; omega) rfl rfl (by show 100 + 30 * (4 - (rp j).length) ≤ 220; omega)) ml_T_66 im_T_countSeen se_T_countSeen rfl W2.2.2.2.1 (fun _ _ q => q) rfl rfl (Nat.le_of_ble_eq_true rfl) ⟨by decide, by decide⟩ ⟨(by decide), (by decide)⟩ (by decide +kernel) (fun v0 h3 hp hn hd => ?_) (fun v0 h3 hp hn hd => ?_)
            · rw [zz_mix_self hd]
              obtain ⟨hv, fr3, S3⟩ := hp
              cases hv
              show zz_Z _ _ _ _ _ _ _ _ [.int (nI (cnS Ls (m + 1) (4 - (rp j).length) (rp j)))]
              have W3 := W2.fr (fr3.lo (Nat.zero_le _)) S3
              refine zz_go C [(42, .istore_n 2), (43, .aload_n 0), (44, .iload_n 1)] (by decide +kernel) (pc' := 45) (lv' := [some (.ref t), some (.int (nI j)), some (.int (nI (cnS Ls (m + 1) (4 - (rp j).length) (rp j))))]) (st' := [.int (nI j), .ref t]) rfl ?_
              refine zz_cV C E (ci := 2) (As := [.int (nI j)]) (rest := []) (hc := h3) md_T_takeAway (c_T_takeAway l D (zz_ac K) h3 t la sa A m Ls W3 j hj0j ⟨hj9j, hokj⟩) ml_T_69 im_T_takeAway se_T_takeAway rfl W3.2.2.2.1 (fun _ _ q => q) rfl rfl (Nat.le_of_ble_eq_true rfl) ⟨by decide, by decide⟩ ⟨(by decide), (by decide)⟩ (by decide +kernel) (fun v0 h4 hp hn hd => ?_) (fun v0 h4 hp hn hd => ?_)
              · rw [zz_mix_self hd]
                obtain ⟨hv, u, W4, hu⟩ := hp
                cases hv
                show zz_Z _ _ _ _ _ _ _ _ []
                refine zz_go C [(48, .iload_n 2)] (by decide +kernel) (pc' := 49) (lv' := [some (.ref t), some (.int (nI j)), some (.int (nI (cnS Ls (m + 1) (4 - (rp j).length) (rp j))))]) (st' := [.int (nI (cnS Ls (m + 1) (4 - (rp j).length) (rp j)))]) rfl ?_
                exact zr_i C E (by decide) (by decide) (by decide +kernel) (⟨fun q => absurd q cX, fun _ q => absurd (by rw [Rx, clj] at q; exact q) cC, fun _ _ => ⟨by rw [Rx, clj], u, W4, by rw [Rx, clj]; exact hu⟩⟩)
              · cases hp.1
            · cases hp.1
          · cases hp.2
        · exact zz_throwN C E hst xn_60 (⟨fun q => absurd q cX, fun _ _ => ⟨rfl, W2⟩, fun _ q => absurd (by rw [Rx, clj]; exact cC) q⟩) (by decide) (by decide) (by decide) (by decide) (by decide +kernel) (by decide +kernel) (by decide +kernel) (by decide +kernel) (by decide +kernel)
      · cases hp.2
    · cases hp.1
  · rw [zz_mix_self hd]
    obtain ⟨hh, hv⟩ := hp
    rw [hh]
    have cX : (x = 0 ∨ isP x = false) := by
      by_cases e : (x = 0 ∨ isP x = false)
      · exact e
      · rw [if_neg e] at hv; cases hv
    rw [if_pos cX] at hv
    cases hv
    exact zr_out C E (by decide) (by decide) ⟨fun _ => ⟨rfl, W⟩, fun q => absurd cX q, fun q => absurd cX q⟩
set_option maxHeartbeats 4000000 in
theorem c_T_move (l : Launch) (hst : l.stackTraces = false) (D : va_G) (aC : Nat → ClassId) (h : zz_Hp) (t la sa : Nat) (A : zA5) (m : Nat) (Ls : zLs) (W : tW h aC t la sa A (m + 1) Ls) (x y : Int32) :
    zz_Ct l D aC y_T_move (zrm 8 24 160 200) [.ref t, .int x, .int y] h (fun r' h' => ((x = 0 ∨ isP x = false) ∨ (y = 0 ∨ isP y = false) → r' = .inr "java/lang/IllegalArgumentException" ∧ tW h' aC t la sa A (m + 1) Ls) ∧ (¬ ((x = 0 ∨ isP x = false) ∨ (y = 0 ∨ isP y = false)) → ¬ (vw Ls (Rx x)).1 (m + 1) = 0 → r' = .inr "java/util/NoSuchElementException" ∧ tW h' aC t la sa A (m + 1) Ls) ∧ (¬ ((x = 0 ∨ isP x = false) ∨ (y = 0 ∨ isP y = false)) → (vw Ls (Rx x)).1 (m + 1) = 0 → ¬ (vw Ls (Rx y).tail).1 (m + 1) = nI 1 ∨ (vw Ls (Rx y)).1 (m + 1) = nI 1 → r' = .inr "java/lang/IllegalStateException" ∧ tW h' aC t la sa A (m + 1) Ls) ∧ (¬ ((x = 0 ∨ isP x = false) ∨ (y = 0 ∨ isP y = false)) → (vw Ls (Rx x)).1 (m + 1) = 0 → ¬ (¬ (vw Ls (Rx y).tail).1 (m + 1) = nI 1 ∨ (vw Ls (Rx y)).1 (m + 1) = nI 1) → r' = .inl none ∧ (x = y → tW h' aC t la sa A (m + 1) Ls) ∧ (¬ x = y → ∃ u, tW h' aC t la sa A (m + 1) (lyU Ls m u) ∧ ∀ z, ctS (u z) = stC (taC (fun z => ctS (Ls m z)) (Rx x) ((vw Ls (Rx x)).1 m)) (Rx y) (nI 0) (vwV Ls (Rx x) (m + 1)) z))) := by
  refine zz_ct md_T_move rfl (by simp [Value.category]) (Nat.le_of_ble_eq_true rfl) fun K C E hI => ?_
  obtain rfl := E.ac
  refine zz_go C [(0, .iload_n 1)] (by decide +kernel) (pc' := 1) (lv' := [some (.ref t), some (.int x), some (.int y), none]) (st' := [.int x]) rfl ?_
  refine zz_cS C E (As := [.int x]) (rest := []) (hc := h) md_T_checkBelowRoot (c_T_checkBelowRoot l hst D (zz_ac K) h x) ml_T_29 sm_T_checkBelowRoot (fun _ _ q => q) rfl rfl (Nat.le_of_ble_eq_true rfl) ⟨by decide, by decide⟩ ⟨(by decide), (by decide)⟩ (by decide +kernel) (fun v0 h0 hp hn hd => ?_) (fun v0 h0 hp hn hd => ?_)
  · rw [zz_mix_self hd]
    obtain ⟨hh, hv⟩ := hp
    rw [hh]
    have cX : ¬ (x = 0 ∨ isP x = false) := fun e => by rw [if_pos e] at hv; cases hv
    rw [if_neg cX] at hv
    cases hv
    show zz_Z _ _ _ _ _ _ _ _ []
    refine zz_go C [(4, .iload_n 2)] (by decide +kernel) (pc' := 5) (lv' := [some (.ref t), some (.int x), some (.int y), none]) (st' := [.int y]) rfl ?_
    refine zz_cS C E (As := [.int y]) (rest := []) (hc := h) md_T_checkBelowRoot (c_T_checkBelowRoot l hst D (zz_ac K) h y) ml_T_29 sm_T_checkBelowRoot (fun _ _ q => q) rfl rfl (Nat.le_of_ble_eq_true rfl) ⟨by decide, by decide⟩ ⟨(by decide), (by decide)⟩ (by decide +kernel) (fun v0 h0 hp hn hd => ?_) (fun v0 h0 hp hn hd => ?_)
    · rw [zz_mix_self hd]
      obtain ⟨hh, hv⟩ := hp
      rw [hh]
      have cY : ¬ (y = 0 ∨ isP y = false) := fun e => by rw [if_pos e] at hv; cases hv
      rw [if_neg cY] at hv
      cases hv
      show zz_Z _ _ _ _ _ _ _ _ []
      obtain ⟨i, rfl, hj9i, hoki⟩ := isP_of (fun q => cX (Or.inr q))
      have hj0i : ¬ i = 0 := fun e => cX (Or.inl (by rw [e]; rfl))
      have cli : (nI i).toNatClampNeg = i := nI_clamp (by omega)
      obtain ⟨j, rfl, hj9j, hokj⟩ := isP_of (fun q => cY (Or.inr q))
      have hj0j : ¬ j = 0 := fun e => cY (Or.inl (by rw [e]; rfl))
      have clj : (nI j).toNatClampNeg = j := nI_clamp (by omega)
      have cXY : ¬ ((nI i = 0 ∨ isP (nI i) = false) ∨ (nI j = 0 ∨ isP (nI j) = false)) := fun q => q.elim cX cY
      refine zz_go C [(8, .aload_n 0), (9, .iload_n 1), (10, .aload_n 0)] (by decide +kernel) (pc' := 11) (lv' := [some (.ref t), some (.int (nI i)), some (.int (nI j)), none]) (st' := [.ref t, .int (nI i), .ref t]) rfl ?_
      refine zz_get C fd_T_18 W.2.2.2.1 (v := .int (nI (m + 1))) rfl (by decide +kernel) ?_
      refine zz_cV C E (ci := 2) (As := [.int (nI i), .int (nI (m + 1))]) (rest := []) (hc := h) md_T_fileValue (c_T_fileValue l hst D (zz_ac K) h t la sa A (m + 1) Ls W i (m + 1) ⟨hj9i, hoki⟩ (Nat.le_refl _)) ml_T_72 im_T_fileValue se_T_fileValue rfl W.2.2.2.1 (fun _ _ q => q) rfl rfl (Nat.le_of_ble_eq_true rfl) ⟨by decide, by decide⟩ ⟨(by decide), (by decide)⟩ (by decide +kernel) (fun v0 h1 hp hn hd => ?_) (fun v0 h1 hp hn hd => ?_)
      · rw [zz_mix_self hd]
        obtain ⟨hv, fr0, S0⟩ := hp
        have cF : (vw Ls (rp i)).1 (m + 1) = 0 := by
          by_cases e : (vw Ls (rp i)).1 (m + 1) = 0
          · exact e
          · rw [if_neg e] at hv; cases hv
        rw [if_pos cF] at hv
        cases hv
        have W1 := W.fr fr0 S0
        show zz_Z _ _ _ _ _ _ _ [some (.ref t), some (.int (nI i)), some (.int (nI j)), none] [.int (vwV Ls (rp i) (m + 1))]
        refine zz_go C [(17, .istore_n 3), (18, .aload_n 0), (19, .iload_n 2)] (by decide +kernel) (pc' := 20) (lv' := [some (.ref t), some (.int (nI i)), some (.int (nI j)), some (.int (vwV Ls (rp i) (m + 1)))]) (st' := [.int (nI j), .ref t]) rfl ?_
        refine zz_cV C E (ci := 2) (As := [.int (nI j)]) (rest := []) (hc := h1) md_T_checkWritable (c_T_checkWritable l hst D (zz_ac K) h1 t la sa A (m + 1) Ls W1 j ⟨hj9j, hokj⟩) ml_T_33 im_T_checkWritable se_T_checkWritable rfl W1.2.2.2.1 (fun _ _ q => q) rfl rfl (Nat.le_of_ble_eq_true rfl) ⟨by decide, by decide⟩ ⟨(by decide), (by decide)⟩ (by decide +kernel) (fun v0 h2 hp hn hd => ?_) (fun v0 h2 hp hn hd => ?_)
        · rw [zz_mix_self hd]
          obtain ⟨hv, fr3, S3⟩ := hp
          have cB : ¬ (¬ (vw Ls (rp j).tail).1 (m + 1) = nI 1 ∨ (vw Ls (rp j)).1 (m + 1) = nI 1) := fun e => by rw [if_pos e] at hv; cases hv
          rw [if_neg cB] at hv
          cases hv
          have W2 := W1.fr fr3 S3
          show zz_Z _ _ _ _ _ _ _ _ []
          refine zz_go C [(23, .iload_n 1), (24, .iload_n 2)] (by decide +kernel) (pc' := 25) (lv' := [some (.ref t), some (.int (nI i)), some (.int (nI j)), some (.int (vwV Ls (rp i) (m + 1)))]) (st' := [.int (nI j), .int (nI i)]) rfl ?_
          refine zz_if C (i := .if_icmp .eq 15) (by decide +kernel) (Pt := (nI i) = (nI j)) (Pf := ¬ (nI i) = (nI j)) (off := 15) (r := []) (tgt := 40) rfl (by decide) (fun cE => ?_) (fun cE => ?_)
          · have e : i = j := (nI_eq (by omega) (by omega)).mp cE
            subst e
            exact zr_v C E (by decide) (by decide) (by decide +kernel) (⟨fun q => absurd q cXY, fun _ q => absurd (by rw [Rx, cli]; exact cF) q, fun _ _ q => absurd (by rw [Rx, clj] at q; exact q) cB, fun _ _ _ => ⟨rfl, fun _ => W2, fun q => absurd rfl q⟩⟩)
          · refine zz_go C [(28, .aload_n 0), (29, .iload_n 1)] (by decide +kernel) (pc' := 30) (lv' := [some (.ref t), some (.int (nI i)), some (.int (nI j)), some (.int (vwV Ls (rp i) (m + 1)))]) (st' := [.int (nI i), .ref t]) rfl ?_
            refine zz_cV C E (ci := 2) (As := [.int (nI i)]) (rest := []) (hc := h2) md_T_takeAway (c_T_takeAway l D (zz_ac K) h2 t la sa A m Ls W2 i hj0i ⟨hj9i, hoki⟩) ml_T_69 im_T_takeAway se_T_takeAway rfl W2.2.2.2.1 (fun _ _ q => q) rfl rfl (Nat.le_of_ble_eq_true rfl) ⟨by decide, by decide⟩ ⟨(by decide), (by decide)⟩ (by decide +kernel) (fun v0 h3 hp hn hd => ?_) (fun v0 h3 hp hn hd => ?_)
            · rw [zz_mix_self hd]
              obtain ⟨hv, u, W3, hu⟩ := hp
              cases hv
              show zz_Z _ _ _ _ _ _ _ _ []
              refine zz_go C [(33, .aload_n 0), (34, .iload_n 2), (35, .iconst 0), (36, .iload_n 3)] (by decide +kernel) (pc' := 37) (lv' := [some (.ref t), some (.int (nI i)), some (.int (nI j)), some (.int (vwV Ls (rp i) (m + 1)))]) (st' := [.int (vwV Ls (rp i) (m + 1)), .int (nI 0), .int (nI j), .ref t]) rfl ?_
              refine zz_cV C E (ci := 2) (As := [.int (nI j), .int (nI 0), .int (vwV Ls (rp i) (m + 1))]) (rest := []) (hc := h3) md_T_setMark (c_T_setMark l D (zz_ac K) h3 t la sa A m (lyU Ls m u) W3 j (nI 0) (vwV Ls (rp i) (m + 1)) hj0j ⟨hj9j, hokj⟩) ml_T_44 im_T_setMark se_T_setMark rfl W3.2.2.2.1 (fun _ _ q => q) rfl rfl (Nat.le_of_ble_eq_true rfl) ⟨by decide, by decide⟩ ⟨(by decide), (by decide)⟩ (by decide +kernel) (fun v0 h4 hp hn hd => ?_) (fun v0 h4 hp hn hd => ?_)
              · rw [zz_mix_self hd]
                obtain ⟨hv, u4, W4, hu4⟩ := hp
                cases hv
                show zz_Z _ _ _ _ _ _ _ _ []
                rw [lyU_lyU] at W4
                rw [lyU_k, funext hu] at hu4
                exact zr_v C E (by decide) (by decide) (by decide +kernel) (⟨fun q => absurd q cXY, fun _ q => absurd (by rw [Rx, cli]; exact cF) q, fun _ _ q => absurd (by rw [Rx, clj] at q; exact q) cB, fun _ _ _ => ⟨rfl, fun q => absurd q cE, fun _ => ⟨u4, W4, by rw [Rx, Rx, cli, clj]; exact hu4⟩⟩⟩)
              · cases hp.1
            · cases hp.1
        · rw [zz_mix_self hd]
          obtain ⟨hv, fr3, S3⟩ := hp
          have cB : ¬ (vw Ls (rp j).tail).1 (m + 1) = nI 1 ∨ (vw Ls (rp j)).1 (m + 1) = nI 1 := by
            by_cases e : ¬ (vw Ls (rp j).tail).1 (m + 1) = nI 1 ∨ (vw Ls (rp j)).1 (m + 1) = nI 1
            · exact e
            · rw [if_neg e] at hv; cases hv
          rw [if_pos cB] at hv
          cases hv
          have W2 := W1.fr fr3 S3
          exact zr_out C E (by decide) (by decide) ⟨fun q => absurd q cXY, fun _ q => absurd (by rw [Rx, cli]; exact cF) q, fun _ _ _ => ⟨rfl, W2⟩, fun _ _ q => absurd (by rw [Rx, clj]; exact cB) q⟩
      · rw [zz_mix_self hd]
        obtain ⟨hv, fr0, S0⟩ := hp
        have cF : ¬ ((vw Ls (rp i)).1 (m + 1) = 0) := fun e => by rw [if_pos e] at hv; cases hv
        rw [if_neg cF] at hv
        cases hv
        have W1 := W.fr fr0 S0
        exact zr_out C E (by decide) (by decide) ⟨fun q => absurd q cXY, fun _ _ => ⟨rfl, W1⟩, fun _ q => absurd (by rw [Rx, cli] at q; exact q) cF, fun _ q => absurd (by rw [Rx, cli] at q; exact q) cF⟩
    · rw [zz_mix_self hd]
      obtain ⟨hh, hv⟩ := hp
      rw [hh]
      have cY : (y = 0 ∨ isP y = false) := by
        by_cases e : (y = 0 ∨ isP y = false)
        · exact e
        · rw [if_neg e] at hv; cases hv
      rw [if_pos cY] at hv
      cases hv
      exact zr_out C E (by decide) (by decide) ⟨fun _ => ⟨rfl, W⟩, fun q => absurd (Or.inr cY) q, fun q => absurd (Or.inr cY) q, fun q => absurd (Or.inr cY) q⟩
  · rw [zz_mix_self hd]
    obtain ⟨hh, hv⟩ := hp
    rw [hh]
    have cX : (x = 0 ∨ isP x = false) := by
      by_cases e : (x = 0 ∨ isP x = false)
      · exact e
      · rw [if_neg e] at hv; cases hv
    rw [if_pos cX] at hv
    cases hv
    exact zr_out C E (by decide) (by decide) ⟨fun _ => ⟨rfl, W⟩, fun q => absurd (Or.inl cX) q, fun q => absurd (Or.inl cX) q, fun q => absurd (Or.inl cX) q⟩
