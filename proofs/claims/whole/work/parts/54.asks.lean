/-! ===== what the model is asked ===== -/
def asB (x y : Int32) (n : Nat) : Bool := isP x && inB y (nI 1) (nI n)
theorem asB_of {x y : Int32} {n : Nat} (hn : n ≤ 8) (h : asB x y n = true) : ∃ j m : Nat, x = nI j ∧ y = nI m ∧ (j ≤ 9999 ∧ pok j = true) ∧ 1 ≤ m ∧ m ≤ n := by
  unfold asB at h
  rw [Bool.and_eq_true] at h
  have h2 := of_decide_eq_true h.2
  exact vwOk hn (fun z => z.elim (fun e => by rw [e] at h; cases h.1) (fun z => z.elim (fun e => absurd h2.1 (Int32.not_le.mpr e)) (fun e => absurd h2.2 (Int32.not_le.mpr e))))
theorem add1_1 (K : Int32) : K + nI 1 = nI 1 ↔ K = 0 := ⟨fun e => by
    have h2 : K + nI 1 - nI 1 = nI 1 - nI 1 := by rw [e]
    rw [Int32.add_sub_cancel] at h2
    exact h2.trans (by decide), fun e => by rw [e]; decide⟩
set_option maxHeartbeats 4000000 in
theorem c_O_isAsked (l : Launch) (D : va_G) (aC : Nat → ClassId) (h : zz_Hp) (o : Nat) (ad : Nat → Nat) (th : Int32) (n : Nat) (M V vs sn sh : Nat → Int32) (W : mW h aC o ad th n M V vs sn sh) (x y : Int32) :
    zz_Ct l D aC y_O_isAsked (zrm 2 0 0 80) [.ref o, .int x, .int y] h (fun r h' => h' = h ∧ r = .inl (some (.int (bI (asB x y n))))) := by
  refine zz_ct md_O_isAsked rfl (by simp [Value.category]) (Nat.le_of_ble_eq_true rfl) fun K C E hI => ?_
  obtain rfl := E.ac
  refine zz_go C [(0, .iload_n 1)] (by decide +kernel) (pc' := 1) (lv' := [some (.ref o), some (.int x), some (.int y)]) (st' := [.int x]) rfl ?_
  refine zz_cS C E (As := [.int x]) (rest := []) (hc := h) md_O_isPath (c_O_isPath l D (zz_ac K) h x) ml_O_37 sm_O_isPath (fun _ _ q => q) rfl rfl (Nat.le_of_ble_eq_true rfl) ⟨by decide, by decide⟩ ⟨(by decide), (by decide)⟩ (by decide +kernel) (fun v h' hp hn hd => ?_) (fun v h' hp hn hd => ?_)
  · rw [zz_mix_self hd]
    obtain ⟨hh, hv⟩ := hp
    rw [hh]
    cases hv
    show zz_Z _ _ _ _ _ _ _ _ [.int (bI (isP x))]
    refine zz_if C (i := .ifCond .eq 19) (by decide +kernel) (Pt := (bI (isP x)) = 0) (Pf := ¬ (bI (isP x)) = 0) (off := 19) (r := []) (tgt := 23) rfl (by decide) (fun cA => ?_) (fun cA => ?_)
    · refine zz_go C [(23, .iconst 0)] (by decide +kernel) (pc' := 24) (lv' := [some (.ref o), some (.int x), some (.int y)]) (st' := [.int (nI 0)]) rfl ?_
      exact zr_z C E false rfl (by decide) (by decide) (by decide +kernel) (⟨rfl, by rw [asB, (bI_0 _).mp cA, Bool.false_and]⟩)
    · refine zz_go C [(7, .iload_n 2), (8, .iconst 1), (9, .aload_n 0)] (by decide +kernel) (pc' := 10) (lv' := [some (.ref o), some (.int x), some (.int y)]) (st' := [.ref o, .int (nI 1), .int y]) rfl ?_
      refine zz_get C fd_O_7 W.ob (v := .int (nI n)) rfl (by decide +kernel) ?_
      refine zz_cS C E (As := [.int y, .int (nI 1), .int (nI n)]) (rest := []) (hc := h) md_O_in (c_O_in l D (zz_ac K) h y (nI 1) (nI n)) ml_O_51 sm_O_in (fun _ _ q => q) rfl rfl (Nat.le_of_ble_eq_true rfl) ⟨by decide, by decide⟩ ⟨(by decide), (by decide)⟩ (by decide +kernel) (fun v h' hp hn hd => ?_) (fun v h' hp hn hd => ?_)
      · rw [zz_mix_self hd]
        obtain ⟨hh, hv⟩ := hp
        rw [hh]
        cases hv
        show zz_Z _ _ _ _ _ _ _ _ [.int (bI (inB y (nI 1) (nI n)))]
        refine zz_if C (i := .ifCond .eq 7) (by decide +kernel) (Pt := (bI (inB y (nI 1) (nI n))) = 0) (Pf := ¬ (bI (inB y (nI 1) (nI n))) = 0) (off := 7) (r := []) (tgt := 23) rfl (by decide) (fun cB => ?_) (fun cB => ?_)
        · refine zz_go C [(23, .iconst 0)] (by decide +kernel) (pc' := 24) (lv' := [some (.ref o), some (.int x), some (.int y)]) (st' := [.int (nI 0)]) rfl ?_
          exact zr_z C E false rfl (by decide) (by decide) (by decide +kernel) (⟨rfl, by rw [asB, (bI_0 _).mp cB, Bool.and_false]⟩)
        · refine zz_go C [(19, .iconst 1), (20, .goto 4)] (by decide +kernel) (pc' := 24) (lv' := [some (.ref o), some (.int x), some (.int y)]) (st' := [.int (nI 1)]) rfl ?_
          exact zr_z C E true rfl (by decide) (by decide) (by decide +kernel) (⟨rfl, by rw [asB, bI_1 cA, bI_1 cB]; rfl⟩)
      · cases hp.2
  · cases hp.2
set_option maxHeartbeats 4000000 in
theorem c_O_kind (l : Launch) (D : va_G) (aC : Nat → ClassId) (h : zz_Hp) (o : Nat) (ad : Nat → Nat) (th : Int32) (n : Nat) (M V vs sn sh : Nat → Int32) (W : mW h aC o ad th n M V vs sn sh) (hM : okM M) (x y : Int32) :
    zz_Ct l D aC y_O_kind (zrm 3 0 0 120) [.ref o, .int x, .int y] h (fun r' h' => ∃ (r : Int32) (vs' sn' sh' : Nat → Int32), r' = .inl (some (.int r)) ∧ mW h' aC o ad (rfC (!(asB x y n)) false false) n M V vs' sn' sh' ∧ (asB x y n = true → r = vwK (Lm M V) x y)) := by
  refine zz_ct md_O_kind rfl (by simp [Value.category]) (Nat.le_of_ble_eq_true rfl) fun K C E hI => ?_
  obtain rfl := E.ac
  have n8 := W.1.2
  refine zz_go C [(0, .aload_n 0), (1, .aload_n 0), (2, .iload_n 1), (3, .iload_n 2)] (by decide +kernel) (pc' := 4) (lv' := [some (.ref o), some (.int x), some (.int y)]) (st' := [.int y, .int x, .ref o, .ref o]) rfl ?_
  refine zz_cV C E (ci := 3) (As := [.int x, .int y]) (rest := [.ref o]) (hc := h) md_O_isAsked (c_O_isAsked l D (zz_ac K) h o ad th n M V vs sn sh W x y) ml_O_84 im_O_isAsked se_O_isAsked rfl W.ob (fun _ _ q => q) rfl rfl (Nat.le_of_ble_eq_true rfl) ⟨by decide, by decide⟩ ⟨(by decide), (by decide)⟩ (by decide +kernel) (fun v h' hp hn hd => ?_) (fun v h' hp hn hd => ?_)
  · rw [zz_mix_self hd]
    obtain ⟨hh, hv⟩ := hp
    rw [hh]
    cases hv
    show zz_Z _ _ _ _ _ _ _ _ [.int (bI (asB x y n)), .ref o]
    cases hg : asB x y n with
    | false =>
      show zz_Z _ _ _ _ _ _ _ [some (.ref o), some (.int x), some (.int y)] [.int (bI false), .ref o]
      refine zz_if C (i := .ifCond .ne 7) (by decide +kernel) (Pt := ¬ (bI false) = 0) (Pf := (bI false) = 0) (off := 7) (r := [.ref o]) (tgt := 14) rfl (by decide) (fun cA => ?_) (fun cA => ?_)
      · exact absurd rfl cA
      · refine zz_go C [(10, .iconst 1), (11, .goto 4), (15, .iconst 0), (16, .iconst 0)] (by decide +kernel) (pc' := 17) (lv' := [some (.ref o), some (.int x), some (.int y)]) (st' := [.int (nI 0), .int (nI 0), .int (nI 1), .ref o]) rfl ?_
        show zz_Z _ _ _ _ _ _ _ [some (.ref o), some (.int x), some (.int y)] [.int (bI false), .int (bI false), .int (bI true), .ref o]
        refine zz_cV C E (ci := 3) (As := [.int (bI true), .int (bI false), .int (bI false)]) (rest := []) (hc := h) md_O_refuse (c_O_refuse l D (zz_ac K) h o ad th n M V vs sn sh W true false false) ml_O_66 im_O_refuse se_O_refuse rfl W.ob (fun _ _ q => q) rfl rfl (Nat.le_of_ble_eq_true rfl) ⟨by decide, by decide⟩ ⟨(by decide), (by decide)⟩ (by decide +kernel) (fun v0 h2 hp hn hd => ?_) (fun v0 h2 hp hn hd => ?_)
        · rw [zz_mix_self hd]
          obtain ⟨hv, W2⟩ := hp
          cases hv
          show zz_Z _ _ _ _ _ _ _ _ [.int (bI (true || false || false))]
          refine zz_if C (i := .ifCond .eq 5) (by decide +kernel) (Pt := (bI (true || false || false)) = 0) (Pf := ¬ (bI (true || false || false)) = 0) (off := 5) (r := []) (tgt := 25) rfl (by decide) (fun cB => ?_) (fun cB => ?_)
          · exact absurd cB (by decide)
          · refine zz_go C [(23, .iconst 0)] (by decide +kernel) (pc' := 24) (lv' := [some (.ref o), some (.int x), some (.int y)]) (st' := [.int (nI 0)]) rfl ?_
            exact zr_i C E (by decide) (by decide) (by decide +kernel) (⟨_, vs, sn, sh, rfl, W2, fun z => by cases z⟩)
        · cases hp.1
    | true =>
      show zz_Z _ _ _ _ _ _ _ [some (.ref o), some (.int x), some (.int y)] [.int (bI true), .ref o]
      refine zz_if C (i := .ifCond .ne 7) (by decide +kernel) (Pt := ¬ (bI true) = 0) (Pf := (bI true) = 0) (off := 7) (r := [.ref o]) (tgt := 14) rfl (by decide) (fun cA => ?_) (fun cA => ?_)
      · refine zz_go C [(14, .iconst 0), (15, .iconst 0), (16, .iconst 0)] (by decide +kernel) (pc' := 17) (lv' := [some (.ref o), some (.int x), some (.int y)]) (st' := [.int (nI 0), .int (nI 0), .int (nI 0), .ref o]) rfl ?_
        show zz_Z _ _ _ _ _ _ _ [some (.ref o), some (.int x), some (.int y)] [.int (bI false), .int (bI false), .int (bI false), .ref o]
        refine zz_cV C E (ci := 3) (As := [.int (bI false), .int (bI false), .int (bI false)]) (rest := []) (hc := h) md_O_refuse (c_O_refuse l D (zz_ac K) h o ad th n M V vs sn sh W false false false) ml_O_66 im_O_refuse se_O_refuse rfl W.ob (fun _ _ q => q) rfl rfl (Nat.le_of_ble_eq_true rfl) ⟨by decide, by decide⟩ ⟨(by decide), (by decide)⟩ (by decide +kernel) (fun v0 h2 hp hn hd => ?_) (fun v0 h2 hp hn hd => ?_)
        · rw [zz_mix_self hd]
          obtain ⟨hv, W2⟩ := hp
          cases hv
          show zz_Z _ _ _ _ _ _ _ _ [.int (bI (false || false || false))]
          refine zz_if C (i := .ifCond .eq 5) (by decide +kernel) (Pt := (bI (false || false || false)) = 0) (Pf := ¬ (bI (false || false || false)) = 0) (off := 5) (r := []) (tgt := 25) rfl (by decide) (fun cB => ?_) (fun cB => ?_)
          · obtain ⟨j, m, rfl, rfl, hj, hm1, hm⟩ := asB_of n8 hg
            refine zz_go C [(25, .aload_n 0), (26, .iload_n 2)] (by decide +kernel) (pc' := 27) (lv' := [some (.ref o), some (.int (nI j)), some (.int (nI m))]) (st' := [.int (nI m), .ref o]) rfl ?_
            refine zz_cV C E (ci := 3) (As := [.int (nI m)]) (rest := []) (hc := h2) md_O_look (c_O_look l D (zz_ac K) h2 o ad (rfC false false false) n M V vs sn sh W2 m (by omega) hM) ml_O_63 im_O_look se_O_look rfl W2.ob (fun _ _ q => q) rfl rfl (Nat.le_of_ble_eq_true rfl) ⟨by decide, by decide⟩ ⟨(by decide), (by decide)⟩ (by decide +kernel) (fun v0 h3 hp hn hd => ?_) (fun v0 h3 hp hn hd => ?_)
            · rw [zz_mix_self hd]
              obtain ⟨hv, vs3, sn3, sh3, W3, I3⟩ := hp
              cases hv
              show zz_Z _ _ _ _ _ _ _ _ []
              obtain ⟨q1, q2⟩ := cvI_at I3 hj.1 hj.2
              refine zz_go C [(30, .aload_n 0)] (by decide +kernel) (pc' := 31) (lv' := [some (.ref o), some (.int (nI j)), some (.int (nI m))]) (st' := [.ref o]) rfl ?_
              refine zz_get C fd_O_21 W3.ob (v := .ref (ad 2)) rfl (by decide +kernel) ?_
              refine zz_go C [(34, .iload_n 1)] (by decide +kernel) (pc' := 35) (lv' := [some (.ref o), some (.int (nI j)), some (.int (nI m))]) (st' := [.int (nI j), .ref (ad 2)]) rfl ?_
              refine ga_ild C W3.2.2.2.2.2.1 (by omega) (by decide) (by decide +kernel) ?_
              rw [q1]
              refine zz_go C [(36, .iconst 1), (37, .isub)] (by decide +kernel) (pc' := 38) (lv' := [some (.ref o), some (.int (nI j)), some (.int (nI m))]) (st' := [.int (((vw (Lm M V) (rp j)).1 m + nI 1) - (nI 1))]) rfl ?_
              rw [Int32.add_sub_cancel]
              exact zr_i C E (by decide) (by decide) (by decide +kernel) (⟨_, vs3, sn3, sh3, rfl, W3, fun _ => by rw [vwK_of hj.1 (by omega)]⟩)
            · cases hp.1
          · exact absurd rfl cB
        · cases hp.1
      · exact absurd cA (by decide)
  · cases hp.2
