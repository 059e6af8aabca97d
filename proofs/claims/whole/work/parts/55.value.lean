/-! ===== value of the model ===== -/
set_option maxHeartbeats 4000000 in
theorem c_O_value (l : Launch) (D : va_G) (aC : Nat → ClassId) (h : zz_Hp) (o : Nat) (ad : Nat → Nat) (th : Int32) (n : Nat) (M V vs sn sh : Nat → Int32) (W : mW h aC o ad th n M V vs sn sh) (hM : okM M) (x y : Int32) :
    zz_Ct l D aC y_O_value (zrm 3 0 0 120) [.ref o, .int x, .int y] h (fun r' h' => ∃ (r : Int32) (vs' sn' sh' : Nat → Int32), r' = .inl (some (.int r)) ∧ mW h' aC o ad (rfC (!(asB x y n)) (asB x y n && !decide (vwK (Lm M V) x y = 0)) false) n M V vs' sn' sh' ∧ (asB x y n = true → vwK (Lm M V) x y = 0 → r = vwW (Lm M V) x y)) := by
  refine zz_ct md_O_value rfl (by simp [Value.category]) (Nat.le_of_ble_eq_true rfl) fun K C E hI => ?_
  obtain rfl := E.ac
  have n8 := W.1.2
  refine zz_go C [(0, .aload_n 0), (1, .iload_n 1), (2, .iload_n 2)] (by decide +kernel) (pc' := 3) (lv' := [some (.ref o), some (.int x), some (.int y), none]) (st' := [.int y, .int x, .ref o]) rfl ?_
  refine zz_cV C E (ci := 3) (As := [.int x, .int y]) (rest := []) (hc := h) md_O_isAsked (c_O_isAsked l D (zz_ac K) h o ad th n M V vs sn sh W x y) ml_O_84 im_O_isAsked se_O_isAsked rfl W.ob (fun _ _ q => q) rfl rfl (Nat.le_of_ble_eq_true rfl) ⟨by decide, by decide⟩ ⟨(by decide), (by decide)⟩ (by decide +kernel) (fun v h' hp hn hd => ?_) (fun v h' hp hn hd => ?_)
  · rw [zz_mix_self hd]
    obtain ⟨hh, hv⟩ := hp
    rw [hh]
    cases hv
    show zz_Z _ _ _ _ _ _ _ _ [.int (bI (asB x y n))]
    cases hg : asB x y n with
    | false =>
      show zz_Z _ _ _ _ _ _ _ [some (.ref o), some (.int x), some (.int y), none] [.int (bI false)]
      refine zz_go C [(6, .istore_n 3), (7, .aload_n 0), (8, .iload_n 3)] (by decide +kernel) (pc' := 9) (lv' := [some (.ref o), some (.int x), some (.int y), some (.int (bI false))]) (st' := [.int (bI false), .ref o]) rfl ?_
      refine zz_if C (i := .ifCond .eq 7) (by decide +kernel) (Pt := (bI false) = 0) (Pf := ¬ (bI false) = 0) (off := 7) (r := [.ref o]) (tgt := 16) rfl (by decide) (fun cA => ?_) (fun cA => ?_)
      · refine zz_go C [(16, .iconst 0)] (by decide +kernel) (pc' := 17) (lv' := [some (.ref o), some (.int x), some (.int y), some (.int (bI false))]) (st' := [.int (nI 0), .ref o]) rfl ?_
        refine zz_cV C E (ci := 3) (As := [.int (nI 0)]) (rest := []) (hc := h) md_O_look (c_O_look l D (zz_ac K) h o ad th n M V vs sn sh W 0 (by decide) hM) ml_O_63 im_O_look se_O_look rfl W.ob (fun _ _ q => q) rfl rfl (Nat.le_of_ble_eq_true rfl) ⟨by decide, by decide⟩ ⟨(by decide), (by decide)⟩ (by decide +kernel) (fun v0 h1 hp hn hd => ?_) (fun v0 h1 hp hn hd => ?_)
        · rw [zz_mix_self hd]
          obtain ⟨hv, vs1, sn1, sh1, W1, I1⟩ := hp
          cases hv
          show zz_Z _ _ _ _ _ _ _ _ []
          refine zz_go C [(20, .aload_n 0), (21, .iload_n 3)] (by decide +kernel) (pc' := 22) (lv' := [some (.ref o), some (.int x), some (.int y), some (.int (bI false))]) (st' := [.int (bI false), .ref o]) rfl ?_
          refine zz_if C (i := .ifCond .ne 7) (by decide +kernel) (Pt := ¬ (bI false) = 0) (Pf := (bI false) = 0) (off := 7) (r := [.ref o]) (tgt := 29) rfl (by decide) (fun cB => ?_) (fun cB => ?_)
          · exact absurd rfl cB
          · refine zz_go C [(25, .iconst 1), (26, .goto 4), (30, .iload_n 3)] (by decide +kernel) (pc' := 31) (lv' := [some (.ref o), some (.int x), some (.int y), some (.int (bI false))]) (st' := [.int (bI false), .int (nI 1), .ref o]) rfl ?_
            refine zz_if C (i := .ifCond .eq 25) (by decide +kernel) (Pt := (bI false) = 0) (Pf := ¬ (bI false) = 0) (off := 25) (r := [.int (nI 1), .ref o]) (tgt := 56) rfl (by decide) (fun cC => ?_) (fun cC => ?_)
            · refine zz_go C [(56, .iconst 0), (57, .iconst 0)] (by decide +kernel) (pc' := 58) (lv' := [some (.ref o), some (.int x), some (.int y), some (.int (bI false))]) (st' := [.int (nI 0), .int (nI 0), .int (nI 1), .ref o]) rfl ?_
              show zz_Z _ _ _ _ _ _ _ [some (.ref o), some (.int x), some (.int y), some (.int (bI false))] [.int (bI false), .int (bI false), .int (bI true), .ref o]
              refine zz_cV C E (ci := 3) (As := [.int (bI true), .int (bI false), .int (bI false)]) (rest := []) (hc := h1) md_O_refuse (c_O_refuse l D (zz_ac K) h1 o ad th n M V vs1 sn1 sh1 W1 true false false) ml_O_66 im_O_refuse se_O_refuse rfl W1.ob (fun _ _ q => q) rfl rfl (Nat.le_of_ble_eq_true rfl) ⟨by decide, by decide⟩ ⟨(by decide), (by decide)⟩ (by decide +kernel) (fun v0 h2 hp hn hd => ?_) (fun v0 h2 hp hn hd => ?_)
              · rw [zz_mix_self hd]
                obtain ⟨hv, W2⟩ := hp
                cases hv
                show zz_Z _ _ _ _ _ _ _ _ [.int (bI (true || false || false))]
                refine zz_if C (i := .ifCond .eq 5) (by decide +kernel) (Pt := (bI (true || false || false)) = 0) (Pf := ¬ (bI (true || false || false)) = 0) (off := 5) (r := []) (tgt := 66) rfl (by decide) (fun cD => ?_) (fun cD => ?_)
                · exact absurd cD (by decide)
                · refine zz_go C [(64, .iconst 0)] (by decide +kernel) (pc' := 65) (lv' := [some (.ref o), some (.int x), some (.int y), some (.int (bI false))]) (st' := [.int (nI 0)]) rfl ?_
                  exact zr_i C E (by decide) (by decide) (by decide +kernel) (⟨_, vs1, sn1, sh1, rfl, W2, fun z => by cases z⟩)
              · cases hp.1
            · exact absurd rfl cC
        · cases hp.1
      · exact absurd rfl cA
    | true =>
      show zz_Z _ _ _ _ _ _ _ [some (.ref o), some (.int x), some (.int y), none] [.int (bI true)]
      obtain ⟨j, m, rfl, rfl, hj, hm1, hm⟩ := asB_of n8 hg
      refine zz_go C [(6, .istore_n 3), (7, .aload_n 0), (8, .iload_n 3)] (by decide +kernel) (pc' := 9) (lv' := [some (.ref o), some (.int (nI j)), some (.int (nI m)), some (.int (bI true))]) (st' := [.int (bI true), .ref o]) rfl ?_
      refine zz_if C (i := .ifCond .eq 7) (by decide +kernel) (Pt := (bI true) = 0) (Pf := ¬ (bI true) = 0) (off := 7) (r := [.ref o]) (tgt := 16) rfl (by decide) (fun cA => ?_) (fun cA => ?_)
      · exact absurd cA (by decide)
      · refine zz_go C [(12, .iload_n 2), (13, .goto 4)] (by decide +kernel) (pc' := 17) (lv' := [some (.ref o), some (.int (nI j)), some (.int (nI m)), some (.int (bI true))]) (st' := [.int (nI m), .ref o]) rfl ?_
        refine zz_cV C E (ci := 3) (As := [.int (nI m)]) (rest := []) (hc := h) md_O_look (c_O_look l D (zz_ac K) h o ad th n M V vs sn sh W m (by omega) hM) ml_O_63 im_O_look se_O_look rfl W.ob (fun _ _ q => q) rfl rfl (Nat.le_of_ble_eq_true rfl) ⟨by decide, by decide⟩ ⟨(by decide), (by decide)⟩ (by decide +kernel) (fun v0 h1 hp hn hd => ?_) (fun v0 h1 hp hn hd => ?_)
        · rw [zz_mix_self hd]
          obtain ⟨hv, vs1, sn1, sh1, W1, I1⟩ := hp
          cases hv
          show zz_Z _ _ _ _ _ _ _ _ []
          obtain ⟨q1, q2⟩ := cvI_at I1 hj.1 hj.2
          have vk := vwK_of (Ls := Lm M V) hj.1 (show m ≤ 8 by omega)
          refine zz_go C [(20, .aload_n 0), (21, .iload_n 3)] (by decide +kernel) (pc' := 22) (lv' := [some (.ref o), some (.int (nI j)), some (.int (nI m)), some (.int (bI true))]) (st' := [.int (bI true), .ref o]) rfl ?_
          refine zz_if C (i := .ifCond .ne 7) (by decide +kernel) (Pt := ¬ (bI true) = 0) (Pf := (bI true) = 0) (off := 7) (r := [.ref o]) (tgt := 29) rfl (by decide) (fun cB => ?_) (fun cB => ?_)
          · refine zz_go C [(29, .iconst 0), (30, .iload_n 3)] (by decide +kernel) (pc' := 31) (lv' := [some (.ref o), some (.int (nI j)), some (.int (nI m)), some (.int (bI true))]) (st' := [.int (bI true), .int (nI 0), .ref o]) rfl ?_
            refine zz_if C (i := .ifCond .eq 25) (by decide +kernel) (Pt := (bI true) = 0) (Pf := ¬ (bI true) = 0) (off := 25) (r := [.int (nI 0), .ref o]) (tgt := 56) rfl (by decide) (fun cC => ?_) (fun cC => ?_)
            · exact absurd cC (by decide)
            · refine zz_go C [(34, .aload_n 0)] (by decide +kernel) (pc' := 35) (lv' := [some (.ref o), some (.int (nI j)), some (.int (nI m)), some (.int (bI true))]) (st' := [.ref o, .int (nI 0), .ref o]) rfl ?_
              refine zz_get C fd_O_21 W1.ob (v := .ref (ad 2)) rfl (by decide +kernel) ?_
              refine zz_go C [(38, .iload_n 3)] (by decide +kernel) (pc' := 39) (lv' := [some (.ref o), some (.int (nI j)), some (.int (nI m)), some (.int (bI true))]) (st' := [.int (bI true), .ref (ad 2), .int (nI 0), .ref o]) rfl ?_
              refine zz_if C (i := .ifCond .eq 7) (by decide +kernel) (Pt := (bI true) = 0) (Pf := ¬ (bI true) = 0) (off := 7) (r := [.ref (ad 2), .int (nI 0), .ref o]) (tgt := 46) rfl (by decide) (fun cD => ?_) (fun cD => ?_)
              · exact absurd cD (by decide)
              · refine zz_go C [(42, .iload_n 1), (43, .goto 4)] (by decide +kernel) (pc' := 47) (lv' := [some (.ref o), some (.int (nI j)), some (.int (nI m)), some (.int (bI true))]) (st' := [.int (nI j), .ref (ad 2), .int (nI 0), .ref o]) rfl ?_
                refine ga_ild C W1.2.2.2.2.2.1 (by omega) (by decide) (by decide +kernel) ?_
                rw [q1]
                refine zz_go C [(48, .iconst 1)] (by decide +kernel) (pc' := 49) (lv' := [some (.ref o), some (.int (nI j)), some (.int (nI m)), some (.int (bI true))]) (st' := [.int (nI 1), .int ((vw (Lm M V) (rp j)).1 m + nI 1), .int (nI 0), .ref o]) rfl ?_
                refine zz_if C (i := .if_icmp .eq 7) (by decide +kernel) (Pt := ((vw (Lm M V) (rp j)).1 m + nI 1) = (nI 1)) (Pf := ¬ ((vw (Lm M V) (rp j)).1 m + nI 1) = (nI 1)) (off := 7) (r := [.int (nI 0), .ref o]) (tgt := 56) rfl (by decide) (fun cE => ?_) (fun cE => ?_)
                · refine zz_go C [(56, .iconst 0), (57, .iconst 0)] (by decide +kernel) (pc' := 58) (lv' := [some (.ref o), some (.int (nI j)), some (.int (nI m)), some (.int (bI true))]) (st' := [.int (nI 0), .int (nI 0), .int (nI 0), .ref o]) rfl ?_
                  show zz_Z _ _ _ _ _ _ _ [some (.ref o), some (.int (nI j)), some (.int (nI m)), some (.int (bI true))] [.int (bI false), .int (bI false), .int (bI false), .ref o]
                  refine zz_cV C E (ci := 3) (As := [.int (bI false), .int (bI false), .int (bI false)]) (rest := []) (hc := h1) md_O_refuse (c_O_refuse l D (zz_ac K) h1 o ad th n M V vs1 sn1 sh1 W1 false false false) ml_O_66 im_O_refuse se_O_refuse rfl W1.ob (fun _ _ q => q) rfl rfl (Nat.le_of_ble_eq_true rfl) ⟨by decide, by decide⟩ ⟨(by decide), (by decide)⟩ (by decide +kernel) (fun v0 h2 hp hn hd => ?_) (fun v0 h2 hp hn hd => ?_)
                  · rw [zz_mix_self hd]
                    obtain ⟨hv, W2⟩ := hp
                    cases hv
                    show zz_Z _ _ _ _ _ _ _ _ [.int (bI (false || false || false))]
                    have hth : rfC false false false = rfC (!true) (true && !decide (vwK (Lm M V) (nI j) (nI m) = 0)) false := by rw [vk, decide_eq_true ((add1_1 _).mp cE)]; rfl
                    rw [hth] at W2
                    refine zz_if C (i := .ifCond .eq 5) (by decide +kernel) (Pt := (bI (false || false || false)) = 0) (Pf := ¬ (bI (false || false || false)) = 0) (off := 5) (r := []) (tgt := 66) rfl (by decide) (fun cF => ?_) (fun cF => ?_)
                    · refine zz_go C [(66, .aload_n 0)] (by decide +kernel) (pc' := 67) (lv' := [some (.ref o), some (.int (nI j)), some (.int (nI m)), some (.int (bI true))]) (st' := [.ref o]) rfl ?_
                      refine zz_get C fd_O_24 W2.ob (v := .ref (ad 3)) rfl (by decide +kernel) ?_
                      refine zz_go C [(70, .iload_n 1)] (by decide +kernel) (pc' := 71) (lv' := [some (.ref o), some (.int (nI j)), some (.int (nI m)), some (.int (bI true))]) (st' := [.int (nI j), .ref (ad 3)]) rfl ?_
                      refine ga_ild C W2.2.2.2.2.2.2.1 (by omega) (by decide) (by decide +kernel) ?_
                      exact zr_i C E (by decide) (by decide) (by decide +kernel) (⟨_, vs1, sn1, sh1, rfl, W2, fun _ _ => by rw [vwW_of hj.1 (by omega)]; exact q2 ((add1_1 _).mp cE)⟩)
                    · exact absurd rfl cF
                  · cases hp.1
                · refine zz_go C [(52, .iconst 1), (53, .goto 4), (57, .iconst 0)] (by decide +kernel) (pc' := 58) (lv' := [some (.ref o), some (.int (nI j)), some (.int (nI m)), some (.int (bI true))]) (st' := [.int (nI 0), .int (nI 1), .int (nI 0), .ref o]) rfl ?_
                  show zz_Z _ _ _ _ _ _ _ [some (.ref o), some (.int (nI j)), some (.int (nI m)), some (.int (bI true))] [.int (bI false), .int (bI true), .int (bI false), .ref o]
                  refine zz_cV C E (ci := 3) (As := [.int (bI false), .int (bI true), .int (bI false)]) (rest := []) (hc := h1) md_O_refuse (c_O_refuse l D (zz_ac K) h1 o ad th n M V vs1 sn1 sh1 W1 false true false) ml_O_66 im_O_refuse se_O_refuse rfl W1.ob (fun _ _ q => q) rfl rfl (Nat.le_of_ble_eq_true rfl) ⟨by decide, by decide⟩ ⟨(by decide), (by decide)⟩ (by decide +kernel) (fun v0 h2 hp hn hd => ?_) (fun v0 h2 hp hn hd => ?_)
                  · rw [zz_mix_self hd]
                    obtain ⟨hv, W2⟩ := hp
                    cases hv
                    show zz_Z _ _ _ _ _ _ _ _ [.int (bI (false || true || false))]
                    have hth : rfC false true false = rfC (!true) (true && !decide (vwK (Lm M V) (nI j) (nI m) = 0)) false := by rw [vk, decide_eq_false (fun z => cE ((add1_1 _).mpr z))]; rfl
                    rw [hth] at W2
                    refine zz_if C (i := .ifCond .eq 5) (by decide +kernel) (Pt := (bI (false || true || false)) = 0) (Pf := ¬ (bI (false || true || false)) = 0) (off := 5) (r := []) (tgt := 66) rfl (by decide) (fun cF => ?_) (fun cF => ?_)
                    · exact absurd cF (by decide)
                    · refine zz_go C [(64, .iconst 0)] (by decide +kernel) (pc' := 65) (lv' := [some (.ref o), some (.int (nI j)), some (.int (nI m)), some (.int (bI true))]) (st' := [.int (nI 0)]) rfl ?_
                      exact zr_i C E (by decide) (by decide) (by decide +kernel) (⟨_, vs1, sn1, sh1, rfl, W2, fun _ z => absurd (by rw [vk] at z; exact (add1_1 _).mpr z) cE⟩)
                  · cases hp.1
          · exact absurd cB (by decide)
        · cases hp.1
  · cases hp.2
