/-! ===== the model makes ===== -/
set_option maxRecDepth 4096 in
set_option maxHeartbeats 4000000 in
theorem c_O_make (l : Launch) (D : va_G) (aC : Nat → ClassId) (h : zz_Hp) (o : Nat) (ad : Nat → Nat) (th : Int32) (m : Nat) (M V vs sn sh : Nat → Int32) (W : mW h aC o ad th (m + 1) M V vs sn sh) (hM : okM M) (x : Int32) :
    zz_Ct l D aC y_O_make (zrm 2 0 0 90) [.ref o, .int x] h (fun r' h' => ∃ (vs' sn' sh' : Nat → Int32), r' = .inl none ∧ (pbB x = false → mW h' aC o ad (rfC true false false) (m + 1) M V vs' sn' sh') ∧ (pbB x = true → (¬ (vw (Lm M V) (Rx x).tail).1 (m + 1) = nI 1 ∨ ¬ (vw (Lm M V) (Rx x)).1 (m + 1) = -1) → mW h' aC o ad (rfC false true false) (m + 1) M V vs' sn' sh') ∧ (pbB x = true → ¬ (¬ (vw (Lm M V) (Rx x).tail).1 (m + 1) = nI 1 ∨ ¬ (vw (Lm M V) (Rx x)).1 (m + 1) = -1) → ∃ M', mW h' aC o ad (rfC false false false) (m + 1) M' (upd V (10000 * m + x.toNatClampNeg) (nI 0)) vs' sn' sh' ∧ ptI M M' (10000 * m) x.toNatClampNeg 0 (if (vw (Lm M V) (Rx x)).1 m = -1 then nI 2 else nI 3) ∧ ptJ M M' (10000 * m) x.toNatClampNeg 0 (if (vw (Lm M V) (Rx x)).1 m = -1 then nI 2 else nI 3))) := by
  refine zz_ct md_O_make rfl (by simp [Value.category]) (Nat.le_of_ble_eq_true rfl) fun K C E hI => ?_
  obtain rfl := E.ac
  have n8 := W.1.2
  refine zz_go C [(0, .iload_n 1)] (by decide +kernel) (pc' := 1) (lv' := [some (.ref o), some (.int x), none, none]) (st' := [.int x]) rfl ?_
  refine zz_cS C E (As := [.int x]) (rest := []) (hc := h) md_O_isPath (c_O_isPath l D (zz_ac K) h x) ml_O_37 sm_O_isPath (fun _ _ q => q) rfl rfl (Nat.le_of_ble_eq_true rfl) ⟨by decide, by decide⟩ ⟨(by decide), (by decide)⟩ (by decide +kernel) (fun v h' hp hn hd => ?_) (fun v h' hp hn hd => ?_)
  · rw [zz_mix_self hd]
    obtain ⟨hh, hv⟩ := hp
    rw [hh]
    cases hv
    show zz_Z _ _ _ _ _ _ _ _ [.int (bI (isP x))]
    refine zz_if C (i := .ifCond .eq 11) (by decide +kernel) (Pt := (bI (isP x)) = 0) (Pf := ¬ (bI (isP x)) = 0) (off := 11) (r := []) (tgt := 15) rfl (by decide) (fun cA => ?_) (fun cA => ?_)
    · have hb : pbB x = false := by rw [pbB, (bI_0 _).mp cA, Bool.false_and]
      refine zz_go C [(15, .iconst 0)] (by decide +kernel) (pc' := 16) (lv' := [some (.ref o), some (.int x), none, none]) (st' := [.int (nI 0)]) rfl ?_
      show zz_Z _ _ _ _ _ _ _ [some (.ref o), some (.int x), none, none] [.int (bI false)]
      refine zz_go C [(16, .istore_n 2), (17, .aload_n 0), (18, .aload_n 0)] (by decide +kernel) (pc' := 19) (lv' := [some (.ref o), some (.int x), some (.int (bI false)), none]) (st' := [.ref o, .ref o]) rfl ?_
      refine zz_get C fd_O_7 W.ob (v := .int (nI (m + 1))) rfl (by decide +kernel) ?_
      refine zz_cV C E (ci := 3) (As := [.int (nI (m + 1))]) (rest := []) (hc := h) md_O_look (c_O_look l D (zz_ac K) h o ad th (m + 1) M V vs sn sh W (m + 1) n8 hM) ml_O_63 im_O_look se_O_look rfl W.ob (fun _ _ q => q) rfl rfl (Nat.le_of_ble_eq_true rfl) ⟨by decide, by decide⟩ ⟨(by decide), (by decide)⟩ (by decide +kernel) (fun v0 h1 hp hn hd => ?_) (fun v0 h1 hp hn hd => ?_)
      · rw [zz_mix_self hd]
        obtain ⟨hv, vs1, sn1, sh1, W1, I1⟩ := hp
        cases hv
        show zz_Z _ _ _ _ _ _ _ _ []
        refine zz_go C [(25, .iload_n 2)] (by decide +kernel) (pc' := 26) (lv' := [some (.ref o), some (.int x), some (.int (bI false)), none]) (st' := [.int (bI false)]) rfl ?_
        refine zz_if C (i := .ifCond .eq 45) (by decide +kernel) (Pt := (bI false) = 0) (Pf := ¬ (bI false) = 0) (off := 45) (r := []) (tgt := 71) rfl (by decide) (fun cB => ?_) (fun cB => ?_)
        · refine zz_go C [(71, .iconst 0), (72, .istore_n 3), (73, .aload_n 0), (74, .iload_n 2)] (by decide +kernel) (pc' := 75) (lv' := [some (.ref o), some (.int x), some (.int (bI false)), some (.int (nI 0))]) (st' := [.int (bI false), .ref o]) rfl ?_
          show zz_Z _ _ _ _ _ _ _ [some (.ref o), some (.int x), some (.int (bI false)), some (.int (bI false))] [.int (bI false), .ref o]
          refine zz_if C (i := .ifCond .ne 7) (by decide +kernel) (Pt := ¬ (bI false) = 0) (Pf := (bI false) = 0) (off := 7) (r := [.ref o]) (tgt := 82) rfl (by decide) (fun cD => ?_) (fun cD => ?_)
          · exact absurd rfl cD
          · refine zz_go C [(78, .iconst 1), (79, .goto 4), (83, .iload_n 2)] (by decide +kernel) (pc' := 84) (lv' := [some (.ref o), some (.int x), some (.int (bI false)), some (.int (bI false))]) (st' := [.int (bI false), .int (nI 1), .ref o]) rfl ?_
            refine zz_if C (i := .ifCond .eq 11) (by decide +kernel) (Pt := (bI false) = 0) (Pf := ¬ (bI false) = 0) (off := 11) (r := [.int (nI 1), .ref o]) (tgt := 95) rfl (by decide) (fun cE => ?_) (fun cE => ?_)
            · refine zz_go C [(95, .iconst 0), (96, .iconst 0)] (by decide +kernel) (pc' := 97) (lv' := [some (.ref o), some (.int x), some (.int (bI false)), some (.int (bI false))]) (st' := [.int (nI 0), .int (nI 0), .int (nI 1), .ref o]) rfl ?_
              show zz_Z _ _ _ _ _ _ _ [some (.ref o), some (.int x), some (.int (bI false)), some (.int (bI false))] [.int (bI false), .int (bI false), .int (bI true), .ref o]
              refine zz_cV C E (ci := 3) (As := [.int (bI true), .int (bI false), .int (bI false)]) (rest := []) (hc := h1) md_O_refuse (c_O_refuse l D (zz_ac K) h1 o ad th (m + 1) M V vs1 sn1 sh1 W1 true false false) ml_O_66 im_O_refuse se_O_refuse rfl W1.ob (fun _ _ q => q) rfl rfl (Nat.le_of_ble_eq_true rfl) ⟨by decide, by decide⟩ ⟨(by decide), (by decide)⟩ (by decide +kernel) (fun v0 h2 hp hn hd => ?_) (fun v0 h2 hp hn hd => ?_)
              · rw [zz_mix_self hd]
                obtain ⟨hv, W2⟩ := hp
                cases hv
                show zz_Z _ _ _ _ _ _ _ _ [.int (bI (true || false || false))]
                refine zz_if C (i := .ifCond .ne 33) (by decide +kernel) (Pt := ¬ (bI (true || false || false)) = 0) (Pf := (bI (true || false || false)) = 0) (off := 33) (r := []) (tgt := 133) rfl (by decide) (fun cF => ?_) (fun cF => ?_)
                · exact zr_v C E (by decide) (by decide) (by decide +kernel) (⟨vs1, sn1, sh1, rfl, (fun _ => W2), (fun z => by rw [hb] at z; cases z), (fun z => by rw [hb] at z; cases z)⟩)
                · exact absurd cF (by decide)
              · cases hp.1
            · exact absurd rfl cE
        · exact absurd rfl cB
      · cases hp.1
    · refine zz_go C [(7, .iload_n 1)] (by decide +kernel) (pc' := 8) (lv' := [some (.ref o), some (.int x), none, none]) (st' := [.int x]) rfl ?_
      refine zz_if C (i := .ifCond .le 7) (by decide +kernel) (Pt := x ≤ 0) (Pf := ¬ x ≤ 0) (off := 7) (r := []) (tgt := 15) rfl (by decide) (fun cP => ?_) (fun cP => ?_)
      · have hb : pbB x = false := by
          cases hq : pbB x with
          | false => rfl
          | true =>
            obtain ⟨j, rfl, hj, hj0⟩ := pbB_of hq
            exact absurd cP (nI_nle (by omega) (by omega))
        refine zz_go C [(15, .iconst 0)] (by decide +kernel) (pc' := 16) (lv' := [some (.ref o), some (.int x), none, none]) (st' := [.int (nI 0)]) rfl ?_
        show zz_Z _ _ _ _ _ _ _ [some (.ref o), some (.int x), none, none] [.int (bI false)]
        refine zz_go C [(16, .istore_n 2), (17, .aload_n 0), (18, .aload_n 0)] (by decide +kernel) (pc' := 19) (lv' := [some (.ref o), some (.int x), some (.int (bI false)), none]) (st' := [.ref o, .ref o]) rfl ?_
        refine zz_get C fd_O_7 W.ob (v := .int (nI (m + 1))) rfl (by decide +kernel) ?_
        refine zz_cV C E (ci := 3) (As := [.int (nI (m + 1))]) (rest := []) (hc := h) md_O_look (c_O_look l D (zz_ac K) h o ad th (m + 1) M V vs sn sh W (m + 1) n8 hM) ml_O_63 im_O_look se_O_look rfl W.ob (fun _ _ q => q) rfl rfl (Nat.le_of_ble_eq_true rfl) ⟨by decide, by decide⟩ ⟨(by decide), (by decide)⟩ (by decide +kernel) (fun v0 h1 hp hn hd => ?_) (fun v0 h1 hp hn hd => ?_)
        · rw [zz_mix_self hd]
          obtain ⟨hv, vs1, sn1, sh1, W1, I1⟩ := hp
          cases hv
          show zz_Z _ _ _ _ _ _ _ _ []
          refine zz_go C [(25, .iload_n 2)] (by decide +kernel) (pc' := 26) (lv' := [some (.ref o), some (.int x), some (.int (bI false)), none]) (st' := [.int (bI false)]) rfl ?_
          refine zz_if C (i := .ifCond .eq 45) (by decide +kernel) (Pt := (bI false) = 0) (Pf := ¬ (bI false) = 0) (off := 45) (r := []) (tgt := 71) rfl (by decide) (fun cB => ?_) (fun cB => ?_)
          · refine zz_go C [(71, .iconst 0), (72, .istore_n 3), (73, .aload_n 0), (74, .iload_n 2)] (by decide +kernel) (pc' := 75) (lv' := [some (.ref o), some (.int x), some (.int (bI false)), some (.int (nI 0))]) (st' := [.int (bI false), .ref o]) rfl ?_
            show zz_Z _ _ _ _ _ _ _ [some (.ref o), some (.int x), some (.int (bI false)), some (.int (bI false))] [.int (bI false), .ref o]
            refine zz_if C (i := .ifCond .ne 7) (by decide +kernel) (Pt := ¬ (bI false) = 0) (Pf := (bI false) = 0) (off := 7) (r := [.ref o]) (tgt := 82) rfl (by decide) (fun cD => ?_) (fun cD => ?_)
            · exact absurd rfl cD
            · refine zz_go C [(78, .iconst 1), (79, .goto 4), (83, .iload_n 2)] (by decide +kernel) (pc' := 84) (lv' := [some (.ref o), some (.int x), some (.int (bI false)), some (.int (bI false))]) (st' := [.int (bI false), .int (nI 1), .ref o]) rfl ?_
              refine zz_if C (i := .ifCond .eq 11) (by decide +kernel) (Pt := (bI false) = 0) (Pf := ¬ (bI false) = 0) (off := 11) (r := [.int (nI 1), .ref o]) (tgt := 95) rfl (by decide) (fun cE => ?_) (fun cE => ?_)
              · refine zz_go C [(95, .iconst 0), (96, .iconst 0)] (by decide +kernel) (pc' := 97) (lv' := [some (.ref o), some (.int x), some (.int (bI false)), some (.int (bI false))]) (st' := [.int (nI 0), .int (nI 0), .int (nI 1), .ref o]) rfl ?_
                show zz_Z _ _ _ _ _ _ _ [some (.ref o), some (.int x), some (.int (bI false)), some (.int (bI false))] [.int (bI false), .int (bI false), .int (bI true), .ref o]
                refine zz_cV C E (ci := 3) (As := [.int (bI true), .int (bI false), .int (bI false)]) (rest := []) (hc := h1) md_O_refuse (c_O_refuse l D (zz_ac K) h1 o ad th (m + 1) M V vs1 sn1 sh1 W1 true false false) ml_O_66 im_O_refuse se_O_refuse rfl W1.ob (fun _ _ q => q) rfl rfl (Nat.le_of_ble_eq_true rfl) ⟨by decide, by decide⟩ ⟨(by decide), (by decide)⟩ (by decide +kernel) (fun v0 h2 hp hn hd => ?_) (fun v0 h2 hp hn hd => ?_)
                · rw [zz_mix_self hd]
                  obtain ⟨hv, W2⟩ := hp
                  cases hv
                  show zz_Z _ _ _ _ _ _ _ _ [.int (bI (true || false || false))]
                  refine zz_if C (i := .ifCond .ne 33) (by decide +kernel) (Pt := ¬ (bI (true || false || false)) = 0) (Pf := (bI (true || false || false)) = 0) (off := 33) (r := []) (tgt := 133) rfl (by decide) (fun cF => ?_) (fun cF => ?_)
                  · exact zr_v C E (by decide) (by decide) (by decide +kernel) (⟨vs1, sn1, sh1, rfl, (fun _ => W2), (fun z => by rw [hb] at z; cases z), (fun z => by rw [hb] at z; cases z)⟩)
                  · exact absurd cF (by decide)
                · cases hp.1
              · exact absurd rfl cE
          · exact absurd rfl cB
        · cases hp.1
      · have hb : pbB x = true := by rw [pbB, bI_1 cA, decide_eq_true (show ¬ x = 0 from fun e => cP (by rw [e]; decide))]; rfl
        refine zz_go C [(11, .iconst 1), (12, .goto 4)] (by decide +kernel) (pc' := 16) (lv' := [some (.ref o), some (.int x), none, none]) (st' := [.int (nI 1)]) rfl ?_
        show zz_Z _ _ _ _ _ _ _ [some (.ref o), some (.int x), none, none] [.int (bI true)]
        obtain ⟨j, rfl, hj, hj0⟩ := pbB_of hb
        have clj : (nI j).toNatClampNeg = j := nI_clamp (by omega)
        refine zz_go C [(16, .istore_n 2), (17, .aload_n 0), (18, .aload_n 0)] (by decide +kernel) (pc' := 19) (lv' := [some (.ref o), some (.int (nI j)), some (.int (bI true)), none]) (st' := [.ref o, .ref o]) rfl ?_
        refine zz_get C fd_O_7 W.ob (v := .int (nI (m + 1))) rfl (by decide +kernel) ?_
        refine zz_cV C E (ci := 3) (As := [.int (nI (m + 1))]) (rest := []) (hc := h) md_O_look (c_O_look l D (zz_ac K) h o ad th (m + 1) M V vs sn sh W (m + 1) n8 hM) ml_O_63 im_O_look se_O_look rfl W.ob (fun _ _ q => q) rfl rfl (Nat.le_of_ble_eq_true rfl) ⟨by decide, by decide⟩ ⟨(by decide), (by decide)⟩ (by decide +kernel) (fun v0 h1 hp hn hd => ?_) (fun v0 h1 hp hn hd => ?_)
        · rw [zz_mix_self hd]
          obtain ⟨hv, vs1, sn1, sh1, W1, I1⟩ := hp
          cases hv
          show zz_Z _ _ _ _ _ _ _ _ []
          obtain ⟨e1, e2, e3⟩ := rp_par hj.1 hj.2
          obtain ⟨q1, -⟩ := cvI_at I1 hj.1 hj.2
          obtain ⟨q2, -⟩ := cvI_at I1 e3 e2
          rw [e1] at q2
          refine zz_go C [(25, .iload_n 2)] (by decide +kernel) (pc' := 26) (lv' := [some (.ref o), some (.int (nI j)), some (.int (bI true)), none]) (st' := [.int (bI true)]) rfl ?_
          refine zz_if C (i := .ifCond .eq 45) (by decide +kernel) (Pt := (bI true) = 0) (Pf := ¬ (bI true) = 0) (off := 45) (r := []) (tgt := 71) rfl (by decide) (fun cB => ?_) (fun cB => ?_)
          · exact absurd cB (by decide)
          · refine zz_go C [(29, .aload_n 0)] (by decide +kernel) (pc' := 30) (lv' := [some (.ref o), some (.int (nI j)), some (.int (bI true)), none]) (st' := [.ref o]) rfl ?_
            refine zz_get C fd_O_21 W1.ob (v := .ref (ad 2)) rfl (by decide +kernel) ?_
            refine zz_go C [(33, .iload_n 2)] (by decide +kernel) (pc' := 34) (lv' := [some (.ref o), some (.int (nI j)), some (.int (bI true)), none]) (st' := [.int (bI true), .ref (ad 2)]) rfl ?_
            refine zz_if C (i := .ifCond .eq 10) (by decide +kernel) (Pt := (bI true) = 0) (Pf := ¬ (bI true) = 0) (off := 10) (r := [.ref (ad 2)]) (tgt := 44) rfl (by decide) (fun cB2 => ?_) (fun cB2 => ?_)
            · exact absurd cB2 (by decide)
            · refine zz_go C [(37, .iload_n 1)] (by decide +kernel) (pc' := 38) (lv' := [some (.ref o), some (.int (nI j)), some (.int (bI true)), none]) (st' := [.int (nI j), .ref (ad 2)]) rfl ?_
              refine zz_cS C E (As := [.int (nI j)]) (rest := [.ref (ad 2)]) (hc := h1) md_O_parentOf (c_O_parentOf l D (zz_ac K) h1 j hj.1) ml_O_44 sm_O_parentOf (fun _ _ q => q) rfl rfl (Nat.le_of_ble_eq_true rfl) ⟨by decide, by decide⟩ ⟨(by decide), (by decide)⟩ (by decide +kernel) (fun v0 h9 hp hn hd => ?_) (fun v0 h9 hp hn hd => ?_)
              · rw [zz_mix_self hd]
                obtain ⟨hh, hv⟩ := hp
                rw [hh]
                cases hv
                show zz_Z _ _ _ _ _ _ _ _ [.int (nI (prN j)), .ref (ad 2)]
                refine zz_go C [(41, .goto 4)] (by decide +kernel) (pc' := 45) (lv' := [some (.ref o), some (.int (nI j)), some (.int (bI true)), none]) (st' := [.int (nI (prN j)), .ref (ad 2)]) rfl ?_
                refine ga_ild C W1.2.2.2.2.2.1 (by omega) (by decide) (by decide +kernel) ?_
                rw [q2]
                refine zz_go C [(46, .iconst 2)] (by decide +kernel) (pc' := 47) (lv' := [some (.ref o), some (.int (nI j)), some (.int (bI true)), none]) (st' := [.int (nI 2), .int ((vw (Lm M V) (rp j).tail).1 (m + 1) + nI 1)]) rfl ?_
                refine zz_if C (i := .if_icmp .ne 24) (by decide +kernel) (Pt := ¬ ((vw (Lm M V) (rp j).tail).1 (m + 1) + nI 1) = (nI 2)) (Pf := ((vw (Lm M V) (rp j).tail).1 (m + 1) + nI 1) = (nI 2)) (off := 24) (r := []) (tgt := 71) rfl (by decide) (fun cC => ?_) (fun cC => ?_)
                · refine zz_go C [(71, .iconst 0), (72, .istore_n 3), (73, .aload_n 0), (74, .iload_n 2)] (by decide +kernel) (pc' := 75) (lv' := [some (.ref o), some (.int (nI j)), some (.int (bI true)), some (.int (nI 0))]) (st' := [.int (bI true), .ref o]) rfl ?_
                  show zz_Z _ _ _ _ _ _ _ [some (.ref o), some (.int (nI j)), some (.int (bI true)), some (.int (bI false))] [.int (bI true), .ref o]
                  refine zz_if C (i := .ifCond .ne 7) (by decide +kernel) (Pt := ¬ (bI true) = 0) (Pf := (bI true) = 0) (off := 7) (r := [.ref o]) (tgt := 82) rfl (by decide) (fun cF => ?_) (fun cF => ?_)
                  · refine zz_go C [(82, .iconst 0), (83, .iload_n 2)] (by decide +kernel) (pc' := 84) (lv' := [some (.ref o), some (.int (nI j)), some (.int (bI true)), some (.int (bI false))]) (st' := [.int (bI true), .int (nI 0), .ref o]) rfl ?_
                    refine zz_if C (i := .ifCond .eq 11) (by decide +kernel) (Pt := (bI true) = 0) (Pf := ¬ (bI true) = 0) (off := 11) (r := [.int (nI 0), .ref o]) (tgt := 95) rfl (by decide) (fun cG => ?_) (fun cG => ?_)
                    · exact absurd cG (by decide)
                    · refine zz_go C [(87, .iload_n 3)] (by decide +kernel) (pc' := 88) (lv' := [some (.ref o), some (.int (nI j)), some (.int (bI true)), some (.int (bI false))]) (st' := [.int (bI false), .int (nI 0), .ref o]) rfl ?_
                      refine zz_if C (i := .ifCond .ne 7) (by decide +kernel) (Pt := ¬ (bI false) = 0) (Pf := (bI false) = 0) (off := 7) (r := [.int (nI 0), .ref o]) (tgt := 95) rfl (by decide) (fun cH => ?_) (fun cH => ?_)
                      · exact absurd rfl cH
                      · refine zz_go C [(91, .iconst 1), (92, .goto 4), (96, .iconst 0)] (by decide +kernel) (pc' := 97) (lv' := [some (.ref o), some (.int (nI j)), some (.int (bI true)), some (.int (bI false))]) (st' := [.int (nI 0), .int (nI 1), .int (nI 0), .ref o]) rfl ?_
                        show zz_Z _ _ _ _ _ _ _ [some (.ref o), some (.int (nI j)), some (.int (bI true)), some (.int (bI false))] [.int (bI false), .int (bI true), .int (bI false), .ref o]
                        refine zz_cV C E (ci := 3) (As := [.int (bI false), .int (bI true), .int (bI false)]) (rest := []) (hc := h1) md_O_refuse (c_O_refuse l D (zz_ac K) h1 o ad th (m + 1) M V vs1 sn1 sh1 W1 false true false) ml_O_66 im_O_refuse se_O_refuse rfl W1.ob (fun _ _ q => q) rfl rfl (Nat.le_of_ble_eq_true rfl) ⟨by decide, by decide⟩ ⟨(by decide), (by decide)⟩ (by decide +kernel) (fun v0 h2 hp hn hd => ?_) (fun v0 h2 hp hn hd => ?_)
                        · rw [zz_mix_self hd]
                          obtain ⟨hv, W2⟩ := hp
                          cases hv
                          show zz_Z _ _ _ _ _ _ _ _ [.int (bI (false || true || false))]
                          refine zz_if C (i := .ifCond .ne 33) (by decide +kernel) (Pt := ¬ (bI (false || true || false)) = 0) (Pf := (bI (false || true || false)) = 0) (off := 33) (r := []) (tgt := 133) rfl (by decide) (fun cI => ?_) (fun cI => ?_)
                          · exact zr_v C E (by decide) (by decide) (by decide +kernel) (⟨vs1, sn1, sh1, rfl, (fun z => by rw [hb] at z; cases z), (fun _ _ => W2), (fun _ z => absurd (by rw [Rx, clj]; exact Or.inl (fun z => cC ((add1_2 _).mpr z))) z)⟩)
                          · exact absurd cI (by decide)
                        · cases hp.1
                  · exact absurd cF (by decide)
                · refine zz_go C [(50, .aload_n 0)] (by decide +kernel) (pc' := 51) (lv' := [some (.ref o), some (.int (nI j)), some (.int (bI true)), none]) (st' := [.ref o]) rfl ?_
                  refine zz_get C fd_O_21 W1.ob (v := .ref (ad 2)) rfl (by decide +kernel) ?_
                  refine zz_go C [(54, .iload_n 2)] (by decide +kernel) (pc' := 55) (lv' := [some (.ref o), some (.int (nI j)), some (.int (bI true)), none]) (st' := [.int (bI true), .ref (ad 2)]) rfl ?_
                  refine zz_if C (i := .ifCond .eq 7) (by decide +kernel) (Pt := (bI true) = 0) (Pf := ¬ (bI true) = 0) (off := 7) (r := [.ref (ad 2)]) (tgt := 62) rfl (by decide) (fun cD => ?_) (fun cD => ?_)
                  · exact absurd cD (by decide)
                  · refine zz_go C [(58, .iload_n 1), (59, .goto 4)] (by decide +kernel) (pc' := 63) (lv' := [some (.ref o), some (.int (nI j)), some (.int (bI true)), none]) (st' := [.int (nI j), .ref (ad 2)]) rfl ?_
                    refine ga_ild C W1.2.2.2.2.2.1 (by omega) (by decide) (by decide +kernel) ?_
                    rw [q1]
                    refine zz_if C (i := .ifCond .ne 7) (by decide +kernel) (Pt := ¬ ((vw (Lm M V) (rp j)).1 (m + 1) + nI 1) = 0) (Pf := ((vw (Lm M V) (rp j)).1 (m + 1) + nI 1) = 0) (off := 7) (r := []) (tgt := 71) rfl (by decide) (fun cE => ?_) (fun cE => ?_)
                    · refine zz_go C [(71, .iconst 0), (72, .istore_n 3), (73, .aload_n 0), (74, .iload_n 2)] (by decide +kernel) (pc' := 75) (lv' := [some (.ref o), some (.int (nI j)), some (.int (bI true)), some (.int (nI 0))]) (st' := [.int (bI true), .ref o]) rfl ?_
                      show zz_Z _ _ _ _ _ _ _ [some (.ref o), some (.int (nI j)), some (.int (bI true)), some (.int (bI false))] [.int (bI true), .ref o]
                      refine zz_if C (i := .ifCond .ne 7) (by decide +kernel) (Pt := ¬ (bI true) = 0) (Pf := (bI true) = 0) (off := 7) (r := [.ref o]) (tgt := 82) rfl (by decide) (fun cF => ?_) (fun cF => ?_)
                      · refine zz_go C [(82, .iconst 0), (83, .iload_n 2)] (by decide +kernel) (pc' := 84) (lv' := [some (.ref o), some (.int (nI j)), some (.int (bI true)), some (.int (bI false))]) (st' := [.int (bI true), .int (nI 0), .ref o]) rfl ?_
                        refine zz_if C (i := .ifCond .eq 11) (by decide +kernel) (Pt := (bI true) = 0) (Pf := ¬ (bI true) = 0) (off := 11) (r := [.int (nI 0), .ref o]) (tgt := 95) rfl (by decide) (fun cG => ?_) (fun cG => ?_)
                        · exact absurd cG (by decide)
                        · refine zz_go C [(87, .iload_n 3)] (by decide +kernel) (pc' := 88) (lv' := [some (.ref o), some (.int (nI j)), some (.int (bI true)), some (.int (bI false))]) (st' := [.int (bI false), .int (nI 0), .ref o]) rfl ?_
                          refine zz_if C (i := .ifCond .ne 7) (by decide +kernel) (Pt := ¬ (bI false) = 0) (Pf := (bI false) = 0) (off := 7) (r := [.int (nI 0), .ref o]) (tgt := 95) rfl (by decide) (fun cH => ?_) (fun cH => ?_)
                          · exact absurd rfl cH
                          · refine zz_go C [(91, .iconst 1), (92, .goto 4), (96, .iconst 0)] (by decide +kernel) (pc' := 97) (lv' := [some (.ref o), some (.int (nI j)), some (.int (bI true)), some (.int (bI false))]) (st' := [.int (nI 0), .int (nI 1), .int (nI 0), .ref o]) rfl ?_
                            show zz_Z _ _ _ _ _ _ _ [some (.ref o), some (.int (nI j)), some (.int (bI true)), some (.int (bI false))] [.int (bI false), .int (bI true), .int (bI false), .ref o]
                            refine zz_cV C E (ci := 3) (As := [.int (bI false), .int (bI true), .int (bI false)]) (rest := []) (hc := h1) md_O_refuse (c_O_refuse l D (zz_ac K) h1 o ad th (m + 1) M V vs1 sn1 sh1 W1 false true false) ml_O_66 im_O_refuse se_O_refuse rfl W1.ob (fun _ _ q => q) rfl rfl (Nat.le_of_ble_eq_true rfl) ⟨by decide, by decide⟩ ⟨(by decide), (by decide)⟩ (by decide +kernel) (fun v0 h2 hp hn hd => ?_) (fun v0 h2 hp hn hd => ?_)
                            · rw [zz_mix_self hd]
                              obtain ⟨hv, W2⟩ := hp
                              cases hv
                              show zz_Z _ _ _ _ _ _ _ _ [.int (bI (false || true || false))]
                              refine zz_if C (i := .ifCond .ne 33) (by decide +kernel) (Pt := ¬ (bI (false || true || false)) = 0) (Pf := (bI (false || true || false)) = 0) (off := 33) (r := []) (tgt := 133) rfl (by decide) (fun cI => ?_) (fun cI => ?_)
                              · exact zr_v C E (by decide) (by decide) (by decide +kernel) (⟨vs1, sn1, sh1, rfl, (fun z => by rw [hb] at z; cases z), (fun _ _ => W2), (fun _ z => absurd (by rw [Rx, clj]; exact Or.inr (fun z => cE ((add1_0 _).mpr z))) z)⟩)
                              · exact absurd cI (by decide)
                            · cases hp.1
                      · exact absurd cF (by decide)
                    · have nbad : ¬ (¬ (vw (Lm M V) (rp j).tail).1 (m + 1) = nI 1 ∨ ¬ (vw (Lm M V) (rp j)).1 (m + 1) = -1) := fun z => z.elim (fun e => e ((add1_2 _).mp cC)) (fun e => e ((add1_0 _).mp cE))
                      refine zz_go C [(67, .iconst 1), (68, .goto 4), (72, .istore_n 3), (73, .aload_n 0), (74, .iload_n 2)] (by decide +kernel) (pc' := 75) (lv' := [some (.ref o), some (.int (nI j)), some (.int (bI true)), some (.int (nI 1))]) (st' := [.int (bI true), .ref o]) rfl ?_
                      show zz_Z _ _ _ _ _ _ _ [some (.ref o), some (.int (nI j)), some (.int (bI true)), some (.int (bI true))] [.int (bI true), .ref o]
                      refine zz_if C (i := .ifCond .ne 7) (by decide +kernel) (Pt := ¬ (bI true) = 0) (Pf := (bI true) = 0) (off := 7) (r := [.ref o]) (tgt := 82) rfl (by decide) (fun cF => ?_) (fun cF => ?_)
                      · refine zz_go C [(82, .iconst 0), (83, .iload_n 2)] (by decide +kernel) (pc' := 84) (lv' := [some (.ref o), some (.int (nI j)), some (.int (bI true)), some (.int (bI true))]) (st' := [.int (bI true), .int (nI 0), .ref o]) rfl ?_
                        refine zz_if C (i := .ifCond .eq 11) (by decide +kernel) (Pt := (bI true) = 0) (Pf := ¬ (bI true) = 0) (off := 11) (r := [.int (nI 0), .ref o]) (tgt := 95) rfl (by decide) (fun cG => ?_) (fun cG => ?_)
                        · exact absurd cG (by decide)
                        · refine zz_go C [(87, .iload_n 3)] (by decide +kernel) (pc' := 88) (lv' := [some (.ref o), some (.int (nI j)), some (.int (bI true)), some (.int (bI true))]) (st' := [.int (bI true), .int (nI 0), .ref o]) rfl ?_
                          refine zz_if C (i := .ifCond .ne 7) (by decide +kernel) (Pt := ¬ (bI true) = 0) (Pf := (bI true) = 0) (off := 7) (r := [.int (nI 0), .ref o]) (tgt := 95) rfl (by decide) (fun cH => ?_) (fun cH => ?_)
                          · refine zz_go C [(95, .iconst 0), (96, .iconst 0)] (by decide +kernel) (pc' := 97) (lv' := [some (.ref o), some (.int (nI j)), some (.int (bI true)), some (.int (bI true))]) (st' := [.int (nI 0), .int (nI 0), .int (nI 0), .ref o]) rfl ?_
                            show zz_Z _ _ _ _ _ _ _ [some (.ref o), some (.int (nI j)), some (.int (bI true)), some (.int (bI true))] [.int (bI false), .int (bI false), .int (bI false), .ref o]
                            refine zz_cV C E (ci := 3) (As := [.int (bI false), .int (bI false), .int (bI false)]) (rest := []) (hc := h1) md_O_refuse (c_O_refuse l D (zz_ac K) h1 o ad th (m + 1) M V vs1 sn1 sh1 W1 false false false) ml_O_66 im_O_refuse se_O_refuse rfl W1.ob (fun _ _ q => q) rfl rfl (Nat.le_of_ble_eq_true rfl) ⟨by decide, by decide⟩ ⟨(by decide), (by decide)⟩ (by decide +kernel) (fun v0 h2 hp hn hd => ?_) (fun v0 h2 hp hn hd => ?_)
                            · rw [zz_mix_self hd]
                              obtain ⟨hv, W2⟩ := hp
                              cases hv
                              show zz_Z _ _ _ _ _ _ _ _ [.int (bI (false || false || false))]
                              refine zz_if C (i := .ifCond .ne 33) (by decide +kernel) (Pt := ¬ (bI (false || false || false)) = 0) (Pf := (bI (false || false || false)) = 0) (off := 33) (r := []) (tgt := 133) rfl (by decide) (fun cI => ?_) (fun cI => ?_)
                              · exact absurd rfl cI
                              · refine zz_go C [(103, .aload_n 0), (104, .aload_n 0)] (by decide +kernel) (pc' := 105) (lv' := [some (.ref o), some (.int (nI j)), some (.int (bI true)), some (.int (bI true))]) (st' := [.ref o, .ref o]) rfl ?_
                                refine zz_get C fd_O_7 W2.ob (v := .int (nI (m + 1))) rfl (by decide +kernel) ?_
                                refine zz_go C [(108, .iconst 1), (109, .isub)] (by decide +kernel) (pc' := 110) (lv' := [some (.ref o), some (.int (nI j)), some (.int (bI true)), some (.int (bI true))]) (st' := [.int ((nI (m + 1)) - (nI 1)), .ref o]) rfl ?_
                                rw [show nI (m + 1) - nI 1 = nI m from nI_pred m]
                                refine zz_cV C E (ci := 3) (As := [.int (nI m)]) (rest := []) (hc := h2) md_O_look (c_O_look l D (zz_ac K) h2 o ad _ (m + 1) M V vs1 sn1 sh1 W2 m (by omega) hM) ml_O_63 im_O_look se_O_look rfl W2.ob (fun _ _ q => q) rfl rfl (Nat.le_of_ble_eq_true rfl) ⟨by decide, by decide⟩ ⟨(by decide), (by decide)⟩ (by decide +kernel) (fun v0 h3 hp hn hd => ?_) (fun v0 h3 hp hn hd => ?_)
                                · rw [zz_mix_self hd]
                                  obtain ⟨hv, vs3, sn3, sh3, W3, I3⟩ := hp
                                  cases hv
                                  show zz_Z _ _ _ _ _ _ _ _ []
                                  obtain ⟨q3, -⟩ := cvI_at I3 hj.1 hj.2
                                  refine zz_go C [(113, .aload_n 0), (114, .iload_n 1), (115, .aload_n 0)] (by decide +kernel) (pc' := 116) (lv' := [some (.ref o), some (.int (nI j)), some (.int (bI true)), some (.int (bI true))]) (st' := [.ref o, .int (nI j), .ref o]) rfl ?_
                                  refine zz_get C fd_O_21 W3.ob (v := .ref (ad 2)) rfl (by decide +kernel) ?_
                                  refine zz_go C [(119, .iload_n 1)] (by decide +kernel) (pc' := 120) (lv' := [some (.ref o), some (.int (nI j)), some (.int (bI true)), some (.int (bI true))]) (st' := [.int (nI j), .ref (ad 2), .int (nI j), .ref o]) rfl ?_
                                  refine ga_ild C W3.2.2.2.2.2.1 (by omega) (by decide) (by decide +kernel) ?_
                                  rw [q3]
                                  refine zz_if C (i := .ifCond .eq 7) (by decide +kernel) (Pt := ((vw (Lm M V) (rp j)).1 m + nI 1) = 0) (Pf := ¬ ((vw (Lm M V) (rp j)).1 m + nI 1) = 0) (off := 7) (r := [.int (nI j), .ref o]) (tgt := 128) rfl (by decide) (fun cK => ?_) (fun cK => ?_)
                                  · refine zz_go C [(128, .iconst 2), (129, .iconst 0)] (by decide +kernel) (pc' := 130) (lv' := [some (.ref o), some (.int (nI j)), some (.int (bI true)), some (.int (bI true))]) (st' := [.int (nI 0), .int (nI 2), .int (nI j), .ref o]) rfl ?_
                                    refine zz_cV C E (ci := 3) (As := [.int (nI j), .int (nI 2), .int (nI 0)]) (rest := []) (hc := h3) md_O_put (c_O_put l D (zz_ac K) h3 o ad _ m M V vs3 sn3 sh3 W3 j (nI 2) (nI 0) hj0 hj) ml_O_70 im_O_put se_O_put rfl W3.ob (fun _ _ q => q) rfl rfl (Nat.le_of_ble_eq_true rfl) ⟨by decide, by decide⟩ ⟨(by decide), (by decide)⟩ (by decide +kernel) (fun v0 h4 hp hn hd => ?_) (fun v0 h4 hp hn hd => ?_)
                                    · rw [zz_mix_self hd]
                                      obtain ⟨hv, M', W4, I4, J4⟩ := hp
                                      cases hv
                                      show zz_Z _ _ _ _ _ _ _ _ []
                                      exact zr_v C E (by decide) (by decide) (by decide +kernel) (⟨vs3, sn3, sh3, rfl, (fun z => by rw [hb] at z; cases z), (fun _ z => absurd (by rw [Rx, clj] at z; exact z) nbad), (fun _ _ => ⟨M', by rw [Rx, clj, if_pos ((add1_0 _).mp cK)]; exact ⟨W4, I4, J4⟩⟩)⟩)
                                    · cases hp.1
                                  · refine zz_go C [(124, .iconst 3), (125, .goto 4), (129, .iconst 0)] (by decide +kernel) (pc' := 130) (lv' := [some (.ref o), some (.int (nI j)), some (.int (bI true)), some (.int (bI true))]) (st' := [.int (nI 0), .int (nI 3), .int (nI j), .ref o]) rfl ?_
                                    refine zz_cV C E (ci := 3) (As := [.int (nI j), .int (nI 3), .int (nI 0)]) (rest := []) (hc := h3) md_O_put (c_O_put l D (zz_ac K) h3 o ad _ m M V vs3 sn3 sh3 W3 j (nI 3) (nI 0) hj0 hj) ml_O_70 im_O_put se_O_put rfl W3.ob (fun _ _ q => q) rfl rfl (Nat.le_of_ble_eq_true rfl) ⟨by decide, by decide⟩ ⟨(by decide), (by decide)⟩ (by decide +kernel) (fun v0 h4 hp hn hd => ?_) (fun v0 h4 hp hn hd => ?_)
                                    · rw [zz_mix_self hd]
                                      obtain ⟨hv, M', W4, I4, J4⟩ := hp
                                      cases hv
                                      show zz_Z _ _ _ _ _ _ _ _ []
                                      exact zr_v C E (by decide) (by decide) (by decide +kernel) (⟨vs3, sn3, sh3, rfl, (fun z => by rw [hb] at z; cases z), (fun _ z => absurd (by rw [Rx, clj] at z; exact z) nbad), (fun _ _ => ⟨M', by rw [Rx, clj, if_neg (fun z => cK ((add1_0 _).mpr z))]; exact ⟨W4, I4, J4⟩⟩)⟩)
                                    · cases hp.1
                                · cases hp.1
                            · cases hp.1
                          · exact absurd cH (by decide)
                      · exact absurd cF (by decide)
              · cases hp.2
        · cases hp.1
  · cases hp.2
