/-! ===== the model moves ===== -/
/-- what takeAway leaves -/
def tkP (M V : Nat → Int32) (m p : Nat) (M1 V1 : Nat → Int32) : Prop := ((vw (Lm (tkM M (10000 * m) p 10000) V) (rp p)).1 m = -1 ∧ M1 = tkM M (10000 * m) p 10000 ∧ V1 = V) ∨ (¬ (vw (Lm (tkM M (10000 * m) p 10000) V) (rp p)).1 m = -1 ∧ V1 = upd V (10000 * m + p) (nI 0) ∧ ptI (tkM M (10000 * m) p 10000) M1 (10000 * m) p 0 (nI 4) ∧ ptJ (tkM M (10000 * m) p 10000) M1 (10000 * m) p 0 (nI 4))
theorem pb2_l {a b : Bool} (h : a = false) : (a && b) = false := by rw [h]; rfl
theorem pb2_r {a b : Bool} (h : b = false) : (a && b) = false := by rw [h, Bool.and_false]
set_option maxRecDepth 4096 in
set_option maxHeartbeats 4000000 in
theorem c_O_move (l : Launch) (D : va_G) (aC : Nat → ClassId) (h : zz_Hp) (o : Nat) (ad : Nat → Nat) (th : Int32) (m : Nat) (M V vs sn sh : Nat → Int32) (W : mW h aC o ad th (m + 1) M V vs sn sh) (hM : okM M) (x y : Int32) :
    zz_Ct l D aC y_O_move (zrm 3 0 0 130) [.ref o, .int x, .int y] h (fun r' h' => r' = .inl none ∧ ∃ (vs' sn' sh' : Nat → Int32), ((pbB x && pbB y) = false → mW h' aC o ad (rfC true false false) (m + 1) M V vs' sn' sh') ∧ ((pbB x && pbB y) = true → ¬ (vw (Lm M V) (Rx x)).1 (m + 1) = 0 → mW h' aC o ad (rfC false true false) (m + 1) M V vs' sn' sh') ∧ ((pbB x && pbB y) = true → (vw (Lm M V) (Rx x)).1 (m + 1) = 0 → (¬ (vw (Lm M V) (Rx y).tail).1 (m + 1) = nI 1 ∨ (vw (Lm M V) (Rx y)).1 (m + 1) = nI 1) → mW h' aC o ad (rfC false false true) (m + 1) M V vs' sn' sh') ∧ ((pbB x && pbB y) = true → (vw (Lm M V) (Rx x)).1 (m + 1) = 0 → ¬ (¬ (vw (Lm M V) (Rx y).tail).1 (m + 1) = nI 1 ∨ (vw (Lm M V) (Rx y)).1 (m + 1) = nI 1) → x = y → mW h' aC o ad (rfC false false false) (m + 1) M V vs' sn' sh') ∧ ((pbB x && pbB y) = true → (vw (Lm M V) (Rx x)).1 (m + 1) = 0 → ¬ (¬ (vw (Lm M V) (Rx y).tail).1 (m + 1) = nI 1 ∨ (vw (Lm M V) (Rx y)).1 (m + 1) = nI 1) → ¬ x = y → ∃ (M1 V1 M2 : Nat → Int32), tkP M V m x.toNatClampNeg M1 V1 ∧ mW h' aC o ad (rfC false false false) (m + 1) M2 (upd V1 (10000 * m + y.toNatClampNeg) (vwV (Lm M V) (Rx x) (m + 1))) vs' sn' sh' ∧ ptI M1 M2 (10000 * m) y.toNatClampNeg 0 (nI 1) ∧ ptJ M1 M2 (10000 * m) y.toNatClampNeg 0 (nI 1))) := by
  refine zz_ct md_O_move rfl (by simp [Value.category]) (Nat.le_of_ble_eq_true rfl) fun K C E hI => ?_
  obtain rfl := E.ac
  have n8 := W.1.2
  refine zz_go C [(0, .iload_n 1)] (by decide +kernel) (pc' := 1) (lv' := [some (.ref o), some (.int x), some (.int y), none, none, none, none]) (st' := [.int x]) rfl ?_
  refine zz_cS C E (As := [.int x]) (rest := []) (hc := h) md_O_isPath (c_O_isPath l D (zz_ac K) h x) ml_O_37 sm_O_isPath (fun _ _ q => q) rfl rfl (Nat.le_of_ble_eq_true rfl) ⟨by decide, by decide⟩ ⟨(by decide), (by decide)⟩ (by decide +kernel) (fun v h' hp hn hd => ?_) (fun v h' hp hn hd => ?_)
  · rw [zz_mix_self hd]
    obtain ⟨hh, hv⟩ := hp
    rw [hh]
    cases hv
    show zz_Z _ _ _ _ _ _ _ _ [.int (bI (isP x))]
    refine zz_if C (i := .ifCond .eq 22) (by decide +kernel) (Pt := (bI (isP x)) = 0) (Pf := ¬ (bI (isP x)) = 0) (off := 22) (r := []) (tgt := 26) rfl (by decide) (fun cA => ?_) (fun cA => ?_)
    · have hb : (pbB x && pbB y) = false := pb2_l (by rw [pbB, (bI_0 _).mp cA, Bool.false_and])
      refine zz_go C [(26, .iconst 0)] (by decide +kernel) (pc' := 27) (lv' := [some (.ref o), some (.int x), some (.int y), none, none, none, none]) (st' := [.int (nI 0)]) rfl ?_
      show zz_Z _ _ _ _ _ _ _ [some (.ref o), some (.int x), some (.int y), none, none, none, none] [.int (bI false)]
      refine zz_go C [(27, .istore_n 3), (28, .aload_n 0), (29, .aload_n 0)] (by decide +kernel) (pc' := 30) (lv' := [some (.ref o), some (.int x), some (.int y), some (.int (bI false)), none, none, none]) (st' := [.ref o, .ref o]) rfl ?_
      refine zz_get C fd_O_7 W.ob (v := .int (nI (m + 1))) rfl (by decide +kernel) ?_
      refine zz_cV C E (ci := 3) (As := [.int (nI (m + 1))]) (rest := []) (hc := h) md_O_look (c_O_look l D (zz_ac K) h o ad th (m + 1) M V vs sn sh W (m + 1) n8 hM) ml_O_63 im_O_look se_O_look rfl W.ob (fun _ _ q => q) rfl rfl (Nat.le_of_ble_eq_true rfl) ⟨by decide, by decide⟩ ⟨(by decide), (by decide)⟩ (by decide +kernel) (fun v0 h1 hp hn hd => ?_) (fun v0 h1 hp hn hd => ?_)
      · rw [zz_mix_self hd]
        obtain ⟨hv, vs1, sn1, sh1, W1, I1⟩ := hp
        cases hv
        show zz_Z _ _ _ _ _ _ _ _ []
        refine zz_go C [(36, .iload_n 3)] (by decide +kernel) (pc' := 37) (lv' := [some (.ref o), some (.int x), some (.int y), some (.int (bI false)), none, none, none]) (st' := [.int (bI false)]) rfl ?_
        refine zz_if C (i := .ifCond .eq 25) (by decide +kernel) (Pt := (bI false) = 0) (Pf := ¬ (bI false) = 0) (off := 25) (r := []) (tgt := 62) rfl (by decide) (fun cB => ?_) (fun cB => ?_)
        · refine zz_go C [(62, .iconst 0), (63, .istore 4)] (by decide +kernel) (pc' := 65) (lv' := [some (.ref o), some (.int x), some (.int y), some (.int (bI false)), some (.int (nI 0)), none, none]) (st' := []) rfl ?_
          show zz_Z _ _ _ _ _ _ _ [some (.ref o), some (.int x), some (.int y), some (.int (bI false)), some (.int (bI false)), none, none] []
          refine zz_go C [(65, .iload 4)] (by decide +kernel) (pc' := 67) (lv' := [some (.ref o), some (.int x), some (.int y), some (.int (bI false)), some (.int (bI false)), none, none]) (st' := [.int (bI false)]) rfl ?_
          refine zz_if C (i := .ifCond .eq 48) (by decide +kernel) (Pt := (bI false) = 0) (Pf := ¬ (bI false) = 0) (off := 48) (r := []) (tgt := 115) rfl (by decide) (fun cC => ?_) (fun cC => ?_)
          · refine zz_go C [(115, .iconst 0), (116, .istore 5)] (by decide +kernel) (pc' := 118) (lv' := [some (.ref o), some (.int x), some (.int y), some (.int (bI false)), some (.int (bI false)), some (.int (nI 0)), none]) (st' := []) rfl ?_
            show zz_Z _ _ _ _ _ _ _ [some (.ref o), some (.int x), some (.int y), some (.int (bI false)), some (.int (bI false)), some (.int (bI false)), none] []
            refine zz_go C [(118, .aload_n 0), (119, .iload_n 3)] (by decide +kernel) (pc' := 120) (lv' := [some (.ref o), some (.int x), some (.int y), some (.int (bI false)), some (.int (bI false)), some (.int (bI false)), none]) (st' := [.int (bI false), .ref o]) rfl ?_
            refine zz_if C (i := .ifCond .ne 7) (by decide +kernel) (Pt := ¬ (bI false) = 0) (Pf := (bI false) = 0) (off := 7) (r := [.ref o]) (tgt := 127) rfl (by decide) (fun d1 => ?_) (fun d1 => ?_)
            · exact absurd rfl d1
            · refine zz_go C [(123, .iconst 1), (124, .goto 4), (128, .iload_n 3)] (by decide +kernel) (pc' := 129) (lv' := [some (.ref o), some (.int x), some (.int y), some (.int (bI false)), some (.int (bI false)), some (.int (bI false)), none]) (st' := [.int (bI false), .int (nI 1), .ref o]) rfl ?_
              refine zz_if C (i := .ifCond .eq 12) (by decide +kernel) (Pt := (bI false) = 0) (Pf := ¬ (bI false) = 0) (off := 12) (r := [.int (nI 1), .ref o]) (tgt := 141) rfl (by decide) (fun d2 => ?_) (fun d2 => ?_)
              · refine zz_go C [(141, .iconst 0), (142, .iload 4)] (by decide +kernel) (pc' := 144) (lv' := [some (.ref o), some (.int x), some (.int y), some (.int (bI false)), some (.int (bI false)), some (.int (bI false)), none]) (st' := [.int (bI false), .int (nI 0), .int (nI 1), .ref o]) rfl ?_
                refine zz_if C (i := .ifCond .eq 12) (by decide +kernel) (Pt := (bI false) = 0) (Pf := ¬ (bI false) = 0) (off := 12) (r := [.int (nI 0), .int (nI 1), .ref o]) (tgt := 156) rfl (by decide) (fun d4 => ?_) (fun d4 => ?_)
                · refine zz_go C [(156, .iconst 0)] (by decide +kernel) (pc' := 157) (lv' := [some (.ref o), some (.int x), some (.int y), some (.int (bI false)), some (.int (bI false)), some (.int (bI false)), none]) (st' := [.int (nI 0), .int (nI 0), .int (nI 1), .ref o]) rfl ?_
                  show zz_Z _ _ _ _ _ _ _ [some (.ref o), some (.int x), some (.int y), some (.int (bI false)), some (.int (bI false)), some (.int (bI false)), none] [.int (bI false), .int (bI false), .int (bI true), .ref o]
                  refine zz_cV C E (ci := 3) (As := [.int (bI true), .int (bI false), .int (bI false)]) (rest := []) (hc := h1) md_O_refuse (c_O_refuse l D (zz_ac K) h1 o ad th (m + 1) M V vs1 sn1 sh1 W1 true false false) ml_O_66 im_O_refuse se_O_refuse rfl W1.ob (fun _ _ q => q) rfl rfl (Nat.le_of_ble_eq_true rfl) ⟨by decide, by decide⟩ ⟨(by decide), (by decide)⟩ (by decide +kernel) (fun v0 h2 hp hn hd => ?_) (fun v0 h2 hp hn hd => ?_)
                  · rw [zz_mix_self hd]
                    obtain ⟨hv, W2⟩ := hp
                    cases hv
                    show zz_Z _ _ _ _ _ _ _ _ [.int (bI (true || false || false))]
                    refine zz_if C (i := .ifCond .ne 8) (by decide +kernel) (Pt := ¬ (bI (true || false || false)) = 0) (Pf := (bI (true || false || false)) = 0) (off := 8) (r := []) (tgt := 168) rfl (by decide) (fun cF => ?_) (fun cF => ?_)
                    · exact zr_v C E (by decide) (by decide) (by decide +kernel) (⟨rfl, vs1, sn1, sh1, (fun _ => W2), (fun z => by rw [hb] at z; cases z), (fun z => by rw [hb] at z; cases z), (fun z => by rw [hb] at z; cases z), (fun z => by rw [hb] at z; cases z)⟩)
                    · exact absurd cF (by decide)
                  · cases hp.1
                · exact absurd rfl d4
              · exact absurd rfl d2
          · exact absurd rfl cC
        · exact absurd rfl cB
      · cases hp.1
    · refine zz_go C [(7, .iload_n 1)] (by decide +kernel) (pc' := 8) (lv' := [some (.ref o), some (.int x), some (.int y), none, none, none, none]) (st' := [.int x]) rfl ?_
      refine zz_if C (i := .ifCond .le 18) (by decide +kernel) (Pt := x ≤ 0) (Pf := ¬ x ≤ 0) (off := 18) (r := []) (tgt := 26) rfl (by decide) (fun cP => ?_) (fun cP => ?_)
      · have hb : (pbB x && pbB y) = false := pb2_l (by
          cases hq : pbB x with
          | false => rfl
          | true =>
            obtain ⟨j, rfl, hj, hj0⟩ := pbB_of hq
            exact absurd cP (nI_nle (by omega) (by omega)))
        refine zz_go C [(26, .iconst 0)] (by decide +kernel) (pc' := 27) (lv' := [some (.ref o), some (.int x), some (.int y), none, none, none, none]) (st' := [.int (nI 0)]) rfl ?_
        show zz_Z _ _ _ _ _ _ _ [some (.ref o), some (.int x), some (.int y), none, none, none, none] [.int (bI false)]
        refine zz_go C [(27, .istore_n 3), (28, .aload_n 0), (29, .aload_n 0)] (by decide +kernel) (pc' := 30) (lv' := [some (.ref o), some (.int x), some (.int y), some (.int (bI false)), none, none, none]) (st' := [.ref o, .ref o]) rfl ?_
        refine zz_get C fd_O_7 W.ob (v := .int (nI (m + 1))) rfl (by decide +kernel) ?_
        refine zz_cV C E (ci := 3) (As := [.int (nI (m + 1))]) (rest := []) (hc := h) md_O_look (c_O_look l D (zz_ac K) h o ad th (m + 1) M V vs sn sh W (m + 1) n8 hM) ml_O_63 im_O_look se_O_look rfl W.ob (fun _ _ q => q) rfl rfl (Nat.le_of_ble_eq_true rfl) ⟨by decide, by decide⟩ ⟨(by decide), (by decide)⟩ (by decide +kernel) (fun v0 h1 hp hn hd => ?_) (fun v0 h1 hp hn hd => ?_)
        · rw [zz_mix_self hd]
          obtain ⟨hv, vs1, sn1, sh1, W1, I1⟩ := hp
          cases hv
          show zz_Z _ _ _ _ _ _ _ _ []
          refine zz_go C [(36, .iload_n 3)] (by decide +kernel) (pc' := 37) (lv' := [some (.ref o), some (.int x), some (.int y), some (.int (bI false)), none, none, none]) (st' := [.int (bI false)]) rfl ?_
          refine zz_if C (i := .ifCond .eq 25) (by decide +kernel) (Pt := (bI false) = 0) (Pf := ¬ (bI false) = 0) (off := 25) (r := []) (tgt := 62) rfl (by decide) (fun cB => ?_) (fun cB => ?_)
          · refine zz_go C [(62, .iconst 0), (63, .istore 4)] (by decide +kernel) (pc' := 65) (lv' := [some (.ref o), some (.int x), some (.int y), some (.int (bI false)), some (.int (nI 0)), none, none]) (st' := []) rfl ?_
            show zz_Z _ _ _ _ _ _ _ [some (.ref o), some (.int x), some (.int y), some (.int (bI false)), some (.int (bI false)), none, none] []
            refine zz_go C [(65, .iload 4)] (by decide +kernel) (pc' := 67) (lv' := [some (.ref o), some (.int x), some (.int y), some (.int (bI false)), some (.int (bI false)), none, none]) (st' := [.int (bI false)]) rfl ?_
            refine zz_if C (i := .ifCond .eq 48) (by decide +kernel) (Pt := (bI false) = 0) (Pf := ¬ (bI false) = 0) (off := 48) (r := []) (tgt := 115) rfl (by decide) (fun cC => ?_) (fun cC => ?_)
            · refine zz_go C [(115, .iconst 0), (116, .istore 5)] (by decide +kernel) (pc' := 118) (lv' := [some (.ref o), some (.int x), some (.int y), some (.int (bI false)), some (.int (bI false)), some (.int (nI 0)), none]) (st' := []) rfl ?_
              show zz_Z _ _ _ _ _ _ _ [some (.ref o), some (.int x), some (.int y), some (.int (bI false)), some (.int (bI false)), some (.int (bI false)), none] []
              refine zz_go C [(118, .aload_n 0), (119, .iload_n 3)] (by decide +kernel) (pc' := 120) (lv' := [some (.ref o), some (.int x), some (.int y), some (.int (bI false)), some (.int (bI false)), some (.int (bI false)), none]) (st' := [.int (bI false), .ref o]) rfl ?_
              refine zz_if C (i := .ifCond .ne 7) (by decide +kernel) (Pt := ¬ (bI false) = 0) (Pf := (bI false) = 0) (off := 7) (r := [.ref o]) (tgt := 127) rfl (by decide) (fun d1 => ?_) (fun d1 => ?_)
              · exact absurd rfl d1
              · refine zz_go C [(123, .iconst 1), (124, .goto 4), (128, .iload_n 3)] (by decide +kernel) (pc' := 129) (lv' := [some (.ref o), some (.int x), some (.int y), some (.int (bI false)), some (.int (bI false)), some (.int (bI false)), none]) (st' := [.int (bI false), .int (nI 1), .ref o]) rfl ?_
                refine zz_if C (i := .ifCond .eq 12) (by decide +kernel) (Pt := (bI false) = 0) (Pf := ¬ (bI false) = 0) (off := 12) (r := [.int (nI 1), .ref o]) (tgt := 141) rfl (by decide) (fun d2 => ?_) (fun d2 => ?_)
                · refine zz_go C [(141, .iconst 0), (142, .iload 4)] (by decide +kernel) (pc' := 144) (lv' := [some (.ref o), some (.int x), some (.int y), some (.int (bI false)), some (.int (bI false)), some (.int (bI false)), none]) (st' := [.int (bI false), .int (nI 0), .int (nI 1), .ref o]) rfl ?_
                  refine zz_if C (i := .ifCond .eq 12) (by decide +kernel) (Pt := (bI false) = 0) (Pf := ¬ (bI false) = 0) (off := 12) (r := [.int (nI 0), .int (nI 1), .ref o]) (tgt := 156) rfl (by decide) (fun d4 => ?_) (fun d4 => ?_)
                  · refine zz_go C [(156, .iconst 0)] (by decide +kernel) (pc' := 157) (lv' := [some (.ref o), some (.int x), some (.int y), some (.int (bI false)), some (.int (bI false)), some (.int (bI false)), none]) (st' := [.int (nI 0), .int (nI 0), .int (nI 1), .ref o]) rfl ?_
                    show zz_Z _ _ _ _ _ _ _ [some (.ref o), some (.int x), some (.int y), some (.int (bI false)), some (.int (bI false)), some (.int (bI false)), none] [.int (bI false), .int (bI false), .int (bI true), .ref o]
                    refine zz_cV C E (ci := 3) (As := [.int (bI true), .int (bI false), .int (bI false)]) (rest := []) (hc := h1) md_O_refuse (c_O_refuse l D (zz_ac K) h1 o ad th (m + 1) M V vs1 sn1 sh1 W1 true false false) ml_O_66 im_O_refuse se_O_refuse rfl W1.ob (fun _ _ q => q) rfl rfl (Nat.le_of_ble_eq_true rfl) ⟨by decide, by decide⟩ ⟨(by decide), (by decide)⟩ (by decide +kernel) (fun v0 h2 hp hn hd => ?_) (fun v0 h2 hp hn hd => ?_)
                    · rw [zz_mix_self hd]
                      obtain ⟨hv, W2⟩ := hp
                      cases hv
                      show zz_Z _ _ _ _ _ _ _ _ [.int (bI (true || false || false))]
                      refine zz_if C (i := .ifCond .ne 8) (by decide +kernel) (Pt := ¬ (bI (true || false || false)) = 0) (Pf := (bI (true || false || false)) = 0) (off := 8) (r := []) (tgt := 168) rfl (by decide) (fun cF => ?_) (fun cF => ?_)
                      · exact zr_v C E (by decide) (by decide) (by decide +kernel) (⟨rfl, vs1, sn1, sh1, (fun _ => W2), (fun z => by rw [hb] at z; cases z), (fun z => by rw [hb] at z; cases z), (fun z => by rw [hb] at z; cases z), (fun z => by rw [hb] at z; cases z)⟩)
                      · exact absurd cF (by decide)
                    · cases hp.1
                  · exact absurd rfl d4
                · exact absurd rfl d2
            · exact absurd rfl cC
          · exact absurd rfl cB
        · cases hp.1
      · have hx : pbB x = true := by rw [pbB, bI_1 cA, decide_eq_true (show ¬ x = 0 from fun e => cP (by rw [e]; decide))]; rfl
        refine zz_go C [(11, .iload_n 2)] (by decide +kernel) (pc' := 12) (lv' := [some (.ref o), some (.int x), some (.int y), none, none, none, none]) (st' := [.int y]) rfl ?_
        refine zz_cS C E (As := [.int y]) (rest := []) (hc := h) md_O_isPath (c_O_isPath l D (zz_ac K) h y) ml_O_37 sm_O_isPath (fun _ _ q => q) rfl rfl (Nat.le_of_ble_eq_true rfl) ⟨by decide, by decide⟩ ⟨(by decide), (by decide)⟩ (by decide +kernel) (fun v h' hp hn hd => ?_) (fun v h' hp hn hd => ?_)
        · rw [zz_mix_self hd]
          obtain ⟨hh, hv⟩ := hp
          rw [hh]
          cases hv
          show zz_Z _ _ _ _ _ _ _ _ [.int (bI (isP y))]
          refine zz_if C (i := .ifCond .eq 11) (by decide +kernel) (Pt := (bI (isP y)) = 0) (Pf := ¬ (bI (isP y)) = 0) (off := 11) (r := []) (tgt := 26) rfl (by decide) (fun cA2 => ?_) (fun cA2 => ?_)
          · have hb : (pbB x && pbB y) = false := pb2_r (by rw [pbB, (bI_0 _).mp cA2, Bool.false_and])
            refine zz_go C [(26, .iconst 0)] (by decide +kernel) (pc' := 27) (lv' := [some (.ref o), some (.int x), some (.int y), none, none, none, none]) (st' := [.int (nI 0)]) rfl ?_
            show zz_Z _ _ _ _ _ _ _ [some (.ref o), some (.int x), some (.int y), none, none, none, none] [.int (bI false)]
            refine zz_go C [(27, .istore_n 3), (28, .aload_n 0), (29, .aload_n 0)] (by decide +kernel) (pc' := 30) (lv' := [some (.ref o), some (.int x), some (.int y), some (.int (bI false)), none, none, none]) (st' := [.ref o, .ref o]) rfl ?_
            refine zz_get C fd_O_7 W.ob (v := .int (nI (m + 1))) rfl (by decide +kernel) ?_
            refine zz_cV C E (ci := 3) (As := [.int (nI (m + 1))]) (rest := []) (hc := h) md_O_look (c_O_look l D (zz_ac K) h o ad th (m + 1) M V vs sn sh W (m + 1) n8 hM) ml_O_63 im_O_look se_O_look rfl W.ob (fun _ _ q => q) rfl rfl (Nat.le_of_ble_eq_true rfl) ⟨by decide, by decide⟩ ⟨(by decide), (by decide)⟩ (by decide +kernel) (fun v0 h1 hp hn hd => ?_) (fun v0 h1 hp hn hd => ?_)
            · rw [zz_mix_self hd]
              obtain ⟨hv, vs1, sn1, sh1, W1, I1⟩ := hp
              cases hv
              show zz_Z _ _ _ _ _ _ _ _ []
              refine zz_go C [(36, .iload_n 3)] (by decide +kernel) (pc' := 37) (lv' := [some (.ref o), some (.int x), some (.int y), some (.int (bI false)), none, none, none]) (st' := [.int (bI false)]) rfl ?_
              refine zz_if C (i := .ifCond .eq 25) (by decide +kernel) (Pt := (bI false) = 0) (Pf := ¬ (bI false) = 0) (off := 25) (r := []) (tgt := 62) rfl (by decide) (fun cB => ?_) (fun cB => ?_)
              · refine zz_go C [(62, .iconst 0), (63, .istore 4)] (by decide +kernel) (pc' := 65) (lv' := [some (.ref o), some (.int x), some (.int y), some (.int (bI false)), some (.int (nI 0)), none, none]) (st' := []) rfl ?_
                show zz_Z _ _ _ _ _ _ _ [some (.ref o), some (.int x), some (.int y), some (.int (bI false)), some (.int (bI false)), none, none] []
                refine zz_go C [(65, .iload 4)] (by decide +kernel) (pc' := 67) (lv' := [some (.ref o), some (.int x), some (.int y), some (.int (bI false)), some (.int (bI false)), none, none]) (st' := [.int (bI false)]) rfl ?_
                refine zz_if C (i := .ifCond .eq 48) (by decide +kernel) (Pt := (bI false) = 0) (Pf := ¬ (bI false) = 0) (off := 48) (r := []) (tgt := 115) rfl (by decide) (fun cC => ?_) (fun cC => ?_)
                · refine zz_go C [(115, .iconst 0), (116, .istore 5)] (by decide +kernel) (pc' := 118) (lv' := [some (.ref o), some (.int x), some (.int y), some (.int (bI false)), some (.int (bI false)), some (.int (nI 0)), none]) (st' := []) rfl ?_
                  show zz_Z _ _ _ _ _ _ _ [some (.ref o), some (.int x), some (.int y), some (.int (bI false)), some (.int (bI false)), some (.int (bI false)), none] []
                  refine zz_go C [(118, .aload_n 0), (119, .iload_n 3)] (by decide +kernel) (pc' := 120) (lv' := [some (.ref o), some (.int x), some (.int y), some (.int (bI false)), some (.int (bI false)), some (.int (bI false)), none]) (st' := [.int (bI false), .ref o]) rfl ?_
                  refine zz_if C (i := .ifCond .ne 7) (by decide +kernel) (Pt := ¬ (bI false) = 0) (Pf := (bI false) = 0) (off := 7) (r := [.ref o]) (tgt := 127) rfl (by decide) (fun d1 => ?_) (fun d1 => ?_)
                  · exact absurd rfl d1
                  · refine zz_go C [(123, .iconst 1), (124, .goto 4), (128, .iload_n 3)] (by decide +kernel) (pc' := 129) (lv' := [some (.ref o), some (.int x), some (.int y), some (.int (bI false)), some (.int (bI false)), some (.int (bI false)), none]) (st' := [.int (bI false), .int (nI 1), .ref o]) rfl ?_
                    refine zz_if C (i := .ifCond .eq 12) (by decide +kernel) (Pt := (bI false) = 0) (Pf := ¬ (bI false) = 0) (off := 12) (r := [.int (nI 1), .ref o]) (tgt := 141) rfl (by decide) (fun d2 => ?_) (fun d2 => ?_)
                    · refine zz_go C [(141, .iconst 0), (142, .iload 4)] (by decide +kernel) (pc' := 144) (lv' := [some (.ref o), some (.int x), some (.int y), some (.int (bI false)), some (.int (bI false)), some (.int (bI false)), none]) (st' := [.int (bI false), .int (nI 0), .int (nI 1), .ref o]) rfl ?_
                      refine zz_if C (i := .ifCond .eq 12) (by decide +kernel) (Pt := (bI false) = 0) (Pf := ¬ (bI false) = 0) (off := 12) (r := [.int (nI 0), .int (nI 1), .ref o]) (tgt := 156) rfl (by decide) (fun d4 => ?_) (fun d4 => ?_)
                      · refine zz_go C [(156, .iconst 0)] (by decide +kernel) (pc' := 157) (lv' := [some (.ref o), some (.int x), some (.int y), some (.int (bI false)), some (.int (bI false)), some (.int (bI false)), none]) (st' := [.int (nI 0), .int (nI 0), .int (nI 1), .ref o]) rfl ?_
                        show zz_Z _ _ _ _ _ _ _ [some (.ref o), some (.int x), some (.int y), some (.int (bI false)), some (.int (bI false)), some (.int (bI false)), none] [.int (bI false), .int (bI false), .int (bI true), .ref o]
                        refine zz_cV C E (ci := 3) (As := [.int (bI true), .int (bI false), .int (bI false)]) (rest := []) (hc := h1) md_O_refuse (c_O_refuse l D (zz_ac K) h1 o ad th (m + 1) M V vs1 sn1 sh1 W1 true false false) ml_O_66 im_O_refuse se_O_refuse rfl W1.ob (fun _ _ q => q) rfl rfl (Nat.le_of_ble_eq_true rfl) ⟨by decide, by decide⟩ ⟨(by decide), (by decide)⟩ (by decide +kernel) (fun v0 h2 hp hn hd => ?_) (fun v0 h2 hp hn hd => ?_)
                        · rw [zz_mix_self hd]
                          obtain ⟨hv, W2⟩ := hp
                          cases hv
                          show zz_Z _ _ _ _ _ _ _ _ [.int (bI (true || false || false))]
                          refine zz_if C (i := .ifCond .ne 8) (by decide +kernel) (Pt := ¬ (bI (true || false || false)) = 0) (Pf := (bI (true || false || false)) = 0) (off := 8) (r := []) (tgt := 168) rfl (by decide) (fun cF => ?_) (fun cF => ?_)
                          · exact zr_v C E (by decide) (by decide) (by decide +kernel) (⟨rfl, vs1, sn1, sh1, (fun _ => W2), (fun z => by rw [hb] at z; cases z), (fun z => by rw [hb] at z; cases z), (fun z => by rw [hb] at z; cases z), (fun z => by rw [hb] at z; cases z)⟩)
                          · exact absurd cF (by decide)
                        · cases hp.1
                      · exact absurd rfl d4
                    · exact absurd rfl d2
                · exact absurd rfl cC
              · exact absurd rfl cB
            · cases hp.1
          · refine zz_go C [(18, .iload_n 2)] (by decide +kernel) (pc' := 19) (lv' := [some (.ref o), some (.int x), some (.int y), none, none, none, none]) (st' := [.int y]) rfl ?_
            refine zz_if C (i := .ifCond .le 7) (by decide +kernel) (Pt := y ≤ 0) (Pf := ¬ y ≤ 0) (off := 7) (r := []) (tgt := 26) rfl (by decide) (fun cP => ?_) (fun cP => ?_)
            · have hb : (pbB x && pbB y) = false := pb2_r (by
                cases hq : pbB y with
                | false => rfl
                | true =>
                  obtain ⟨j, rfl, hj, hj0⟩ := pbB_of hq
                  exact absurd cP (nI_nle (by omega) (by omega)))
              refine zz_go C [(26, .iconst 0)] (by decide +kernel) (pc' := 27) (lv' := [some (.ref o), some (.int x), some (.int y), none, none, none, none]) (st' := [.int (nI 0)]) rfl ?_
              show zz_Z _ _ _ _ _ _ _ [some (.ref o), some (.int x), some (.int y), none, none, none, none] [.int (bI false)]
              refine zz_go C [(27, .istore_n 3), (28, .aload_n 0), (29, .aload_n 0)] (by decide +kernel) (pc' := 30) (lv' := [some (.ref o), some (.int x), some (.int y), some (.int (bI false)), none, none, none]) (st' := [.ref o, .ref o]) rfl ?_
              refine zz_get C fd_O_7 W.ob (v := .int (nI (m + 1))) rfl (by decide +kernel) ?_
              refine zz_cV C E (ci := 3) (As := [.int (nI (m + 1))]) (rest := []) (hc := h) md_O_look (c_O_look l D (zz_ac K) h o ad th (m + 1) M V vs sn sh W (m + 1) n8 hM) ml_O_63 im_O_look se_O_look rfl W.ob (fun _ _ q => q) rfl rfl (Nat.le_of_ble_eq_true rfl) ⟨by decide, by decide⟩ ⟨(by decide), (by decide)⟩ (by decide +kernel) (fun v0 h1 hp hn hd => ?_) (fun v0 h1 hp hn hd => ?_)
              · rw [zz_mix_self hd]
                obtain ⟨hv, vs1, sn1, sh1, W1, I1⟩ := hp
                cases hv
                show zz_Z _ _ _ _ _ _ _ _ []
                refine zz_go C [(36, .iload_n 3)] (by decide +kernel) (pc' := 37) (lv' := [some (.ref o), some (.int x), some (.int y), some (.int (bI false)), none, none, none]) (st' := [.int (bI false)]) rfl ?_
                refine zz_if C (i := .ifCond .eq 25) (by decide +kernel) (Pt := (bI false) = 0) (Pf := ¬ (bI false) = 0) (off := 25) (r := []) (tgt := 62) rfl (by decide) (fun cB => ?_) (fun cB => ?_)
                · refine zz_go C [(62, .iconst 0), (63, .istore 4)] (by decide +kernel) (pc' := 65) (lv' := [some (.ref o), some (.int x), some (.int y), some (.int (bI false)), some (.int (nI 0)), none, none]) (st' := []) rfl ?_
                  show zz_Z _ _ _ _ _ _ _ [some (.ref o), some (.int x), some (.int y), some (.int (bI false)), some (.int (bI false)), none, none] []
                  refine zz_go C [(65, .iload 4)] (by decide +kernel) (pc' := 67) (lv' := [some (.ref o), some (.int x), some (.int y), some (.int (bI false)), some (.int (bI false)), none, none]) (st' := [.int (bI false)]) rfl ?_
                  refine zz_if C (i := .ifCond .eq 48) (by decide +kernel) (Pt := (bI false) = 0) (Pf := ¬ (bI false) = 0) (off := 48) (r := []) (tgt := 115) rfl (by decide) (fun cC => ?_) (fun cC => ?_)
                  · refine zz_go C [(115, .iconst 0), (116, .istore 5)] (by decide +kernel) (pc' := 118) (lv' := [some (.ref o), some (.int x), some (.int y), some (.int (bI false)), some (.int (bI false)), some (.int (nI 0)), none]) (st' := []) rfl ?_
                    show zz_Z _ _ _ _ _ _ _ [some (.ref o), some (.int x), some (.int y), some (.int (bI false)), some (.int (bI false)), some (.int (bI false)), none] []
                    refine zz_go C [(118, .aload_n 0), (119, .iload_n 3)] (by decide +kernel) (pc' := 120) (lv' := [some (.ref o), some (.int x), some (.int y), some (.int (bI false)), some (.int (bI false)), some (.int (bI false)), none]) (st' := [.int (bI false), .ref o]) rfl ?_
                    refine zz_if C (i := .ifCond .ne 7) (by decide +kernel) (Pt := ¬ (bI false) = 0) (Pf := (bI false) = 0) (off := 7) (r := [.ref o]) (tgt := 127) rfl (by decide) (fun d1 => ?_) (fun d1 => ?_)
                    · exact absurd rfl d1
                    · refine zz_go C [(123, .iconst 1), (124, .goto 4), (128, .iload_n 3)] (by decide +kernel) (pc' := 129) (lv' := [some (.ref o), some (.int x), some (.int y), some (.int (bI false)), some (.int (bI false)), some (.int (bI false)), none]) (st' := [.int (bI false), .int (nI 1), .ref o]) rfl ?_
                      refine zz_if C (i := .ifCond .eq 12) (by decide +kernel) (Pt := (bI false) = 0) (Pf := ¬ (bI false) = 0) (off := 12) (r := [.int (nI 1), .ref o]) (tgt := 141) rfl (by decide) (fun d2 => ?_) (fun d2 => ?_)
                      · refine zz_go C [(141, .iconst 0), (142, .iload 4)] (by decide +kernel) (pc' := 144) (lv' := [some (.ref o), some (.int x), some (.int y), some (.int (bI false)), some (.int (bI false)), some (.int (bI false)), none]) (st' := [.int (bI false), .int (nI 0), .int (nI 1), .ref o]) rfl ?_
                        refine zz_if C (i := .ifCond .eq 12) (by decide +kernel) (Pt := (bI false) = 0) (Pf := ¬ (bI false) = 0) (off := 12) (r := [.int (nI 0), .int (nI 1), .ref o]) (tgt := 156) rfl (by decide) (fun d4 => ?_) (fun d4 => ?_)
                        · refine zz_go C [(156, .iconst 0)] (by decide +kernel) (pc' := 157) (lv' := [some (.ref o), some (.int x), some (.int y), some (.int (bI false)), some (.int (bI false)), some (.int (bI false)), none]) (st' := [.int (nI 0), .int (nI 0), .int (nI 1), .ref o]) rfl ?_
                          show zz_Z _ _ _ _ _ _ _ [some (.ref o), some (.int x), some (.int y), some (.int (bI false)), some (.int (bI false)), some (.int (bI false)), none] [.int (bI false), .int (bI false), .int (bI true), .ref o]
                          refine zz_cV C E (ci := 3) (As := [.int (bI true), .int (bI false), .int (bI false)]) (rest := []) (hc := h1) md_O_refuse (c_O_refuse l D (zz_ac K) h1 o ad th (m + 1) M V vs1 sn1 sh1 W1 true false false) ml_O_66 im_O_refuse se_O_refuse rfl W1.ob (fun _ _ q => q) rfl rfl (Nat.le_of_ble_eq_true rfl) ⟨by decide, by decide⟩ ⟨(by decide), (by decide)⟩ (by decide +kernel) (fun v0 h2 hp hn hd => ?_) (fun v0 h2 hp hn hd => ?_)
                          · rw [zz_mix_self hd]
                            obtain ⟨hv, W2⟩ := hp
                            cases hv
                            show zz_Z _ _ _ _ _ _ _ _ [.int (bI (true || false || false))]
                            refine zz_if C (i := .ifCond .ne 8) (by decide +kernel) (Pt := ¬ (bI (true || false || false)) = 0) (Pf := (bI (true || false || false)) = 0) (off := 8) (r := []) (tgt := 168) rfl (by decide) (fun cF => ?_) (fun cF => ?_)
                            · exact zr_v C E (by decide) (by decide) (by decide +kernel) (⟨rfl, vs1, sn1, sh1, (fun _ => W2), (fun z => by rw [hb] at z; cases z), (fun z => by rw [hb] at z; cases z), (fun z => by rw [hb] at z; cases z), (fun z => by rw [hb] at z; cases z)⟩)
                            · exact absurd cF (by decide)
                          · cases hp.1
                        · exact absurd rfl d4
                      · exact absurd rfl d2
                  · exact absurd rfl cC
                · exact absurd rfl cB
              · cases hp.1
            · have hy : pbB y = true := by rw [pbB, bI_1 cA2, decide_eq_true (show ¬ y = 0 from fun e => cP (by rw [e]; decide))]; rfl
              have hb : (pbB x && pbB y) = true := by rw [hx, hy]; rfl
              refine zz_go C [(22, .iconst 1), (23, .goto 4)] (by decide +kernel) (pc' := 27) (lv' := [some (.ref o), some (.int x), some (.int y), none, none, none, none]) (st' := [.int (nI 1)]) rfl ?_
              show zz_Z _ _ _ _ _ _ _ [some (.ref o), some (.int x), some (.int y), none, none, none, none] [.int (bI true)]
              obtain ⟨hbx, hby⟩ := (Bool.and_eq_true _ _).mp hb
              obtain ⟨j, rfl, hj, hj0⟩ := pbB_of hbx
              obtain ⟨k, rfl, hk, hk0⟩ := pbB_of hby
              have clj : (nI j).toNatClampNeg = j := nI_clamp (by omega)
              have clk : (nI k).toNatClampNeg = k := nI_clamp (by omega)
              refine zz_go C [(27, .istore_n 3), (28, .aload_n 0), (29, .aload_n 0)] (by decide +kernel) (pc' := 30) (lv' := [some (.ref o), some (.int (nI j)), some (.int (nI k)), some (.int (bI true)), none, none, none]) (st' := [.ref o, .ref o]) rfl ?_
              refine zz_get C fd_O_7 W.ob (v := .int (nI (m + 1))) rfl (by decide +kernel) ?_
              refine zz_cV C E (ci := 3) (As := [.int (nI (m + 1))]) (rest := []) (hc := h) md_O_look (c_O_look l D (zz_ac K) h o ad th (m + 1) M V vs sn sh W (m + 1) n8 hM) ml_O_63 im_O_look se_O_look rfl W.ob (fun _ _ q => q) rfl rfl (Nat.le_of_ble_eq_true rfl) ⟨by decide, by decide⟩ ⟨(by decide), (by decide)⟩ (by decide +kernel) (fun v0 h1 hp hn hd => ?_) (fun v0 h1 hp hn hd => ?_)
              · rw [zz_mix_self hd]
                obtain ⟨hv, vs1, sn1, sh1, W1, I1⟩ := hp
                cases hv
                show zz_Z _ _ _ _ _ _ _ _ []
                obtain ⟨e1, e2, e3⟩ := rp_par hk.1 hk.2
                obtain ⟨q1, q1s⟩ := cvI_at I1 hj.1 hj.2
                obtain ⟨q2, -⟩ := cvI_at I1 e3 e2
                rw [e1] at q2
                obtain ⟨q3, -⟩ := cvI_at I1 hk.1 hk.2
                refine zz_go C [(36, .iload_n 3)] (by decide +kernel) (pc' := 37) (lv' := [some (.ref o), some (.int (nI j)), some (.int (nI k)), some (.int (bI true)), none, none, none]) (st' := [.int (bI true)]) rfl ?_
                refine zz_if C (i := .ifCond .eq 25) (by decide +kernel) (Pt := (bI true) = 0) (Pf := ¬ (bI true) = 0) (off := 25) (r := []) (tgt := 62) rfl (by decide) (fun cB => ?_) (fun cB => ?_)
                · exact absurd cB (by decide)
                · refine zz_go C [(40, .aload_n 0)] (by decide +kernel) (pc' := 41) (lv' := [some (.ref o), some (.int (nI j)), some (.int (nI k)), some (.int (bI true)), none, none, none]) (st' := [.ref o]) rfl ?_
                  refine zz_get C fd_O_21 W1.ob (v := .ref (ad 2)) rfl (by decide +kernel) ?_
                  refine zz_go C [(44, .iload_n 3)] (by decide +kernel) (pc' := 45) (lv' := [some (.ref o), some (.int (nI j)), some (.int (nI k)), some (.int (bI true)), none, none, none]) (st' := [.int (bI true), .ref (ad 2)]) rfl ?_
                  refine zz_if C (i := .ifCond .eq 7) (by decide +kernel) (Pt := (bI true) = 0) (Pf := ¬ (bI true) = 0) (off := 7) (r := [.ref (ad 2)]) (tgt := 52) rfl (by decide) (fun cD => ?_) (fun cD => ?_)
                  · exact absurd cD (by decide)
                  · refine zz_go C [(48, .iload_n 1), (49, .goto 4)] (by decide +kernel) (pc' := 53) (lv' := [some (.ref o), some (.int (nI j)), some (.int (nI k)), some (.int (bI true)), none, none, none]) (st' := [.int (nI j), .ref (ad 2)]) rfl ?_
                    refine ga_ild C W1.2.2.2.2.2.1 (by omega) (by decide) (by decide +kernel) ?_
                    rw [q1]
                    refine zz_go C [(54, .iconst 1)] (by decide +kernel) (pc' := 55) (lv' := [some (.ref o), some (.int (nI j)), some (.int (nI k)), some (.int (bI true)), none, none, none]) (st' := [.int (nI 1), .int ((vw (Lm M V) (rp j)).1 (m + 1) + nI 1)]) rfl ?_
                    refine zz_if C (i := .if_icmp .ne 7) (by decide +kernel) (Pt := ¬ ((vw (Lm M V) (rp j)).1 (m + 1) + nI 1) = (nI 1)) (Pf := ((vw (Lm M V) (rp j)).1 (m + 1) + nI 1) = (nI 1)) (off := 7) (r := []) (tgt := 62) rfl (by decide) (fun cE => ?_) (fun cE => ?_)
                    · refine zz_go C [(62, .iconst 0), (63, .istore 4)] (by decide +kernel) (pc' := 65) (lv' := [some (.ref o), some (.int (nI j)), some (.int (nI k)), some (.int (bI true)), some (.int (nI 0)), none, none]) (st' := []) rfl ?_
                      show zz_Z _ _ _ _ _ _ _ [some (.ref o), some (.int (nI j)), some (.int (nI k)), some (.int (bI true)), some (.int (bI false)), none, none] []
                      refine zz_go C [(65, .iload 4)] (by decide +kernel) (pc' := 67) (lv' := [some (.ref o), some (.int (nI j)), some (.int (nI k)), some (.int (bI true)), some (.int (bI false)), none, none]) (st' := [.int (bI false)]) rfl ?_
                      refine zz_if C (i := .ifCond .eq 48) (by decide +kernel) (Pt := (bI false) = 0) (Pf := ¬ (bI false) = 0) (off := 48) (r := []) (tgt := 115) rfl (by decide) (fun cG => ?_) (fun cG => ?_)
                      · refine zz_go C [(115, .iconst 0), (116, .istore 5)] (by decide +kernel) (pc' := 118) (lv' := [some (.ref o), some (.int (nI j)), some (.int (nI k)), some (.int (bI true)), some (.int (bI false)), some (.int (nI 0)), none]) (st' := []) rfl ?_
                        show zz_Z _ _ _ _ _ _ _ [some (.ref o), some (.int (nI j)), some (.int (nI k)), some (.int (bI true)), some (.int (bI false)), some (.int (bI false)), none] []
                        refine zz_go C [(118, .aload_n 0), (119, .iload_n 3)] (by decide +kernel) (pc' := 120) (lv' := [some (.ref o), some (.int (nI j)), some (.int (nI k)), some (.int (bI true)), some (.int (bI false)), some (.int (bI false)), none]) (st' := [.int (bI true), .ref o]) rfl ?_
                        refine zz_if C (i := .ifCond .ne 7) (by decide +kernel) (Pt := ¬ (bI true) = 0) (Pf := (bI true) = 0) (off := 7) (r := [.ref o]) (tgt := 127) rfl (by decide) (fun d1 => ?_) (fun d1 => ?_)
                        · refine zz_go C [(127, .iconst 0), (128, .iload_n 3)] (by decide +kernel) (pc' := 129) (lv' := [some (.ref o), some (.int (nI j)), some (.int (nI k)), some (.int (bI true)), some (.int (bI false)), some (.int (bI false)), none]) (st' := [.int (bI true), .int (nI 0), .ref o]) rfl ?_
                          refine zz_if C (i := .ifCond .eq 12) (by decide +kernel) (Pt := (bI true) = 0) (Pf := ¬ (bI true) = 0) (off := 12) (r := [.int (nI 0), .ref o]) (tgt := 141) rfl (by decide) (fun d2 => ?_) (fun d2 => ?_)
                          · exact absurd d2 (by decide)
                          · refine zz_go C [(132, .iload 4)] (by decide +kernel) (pc' := 134) (lv' := [some (.ref o), some (.int (nI j)), some (.int (nI k)), some (.int (bI true)), some (.int (bI false)), some (.int (bI false)), none]) (st' := [.int (bI false), .int (nI 0), .ref o]) rfl ?_
                            refine zz_if C (i := .ifCond .ne 7) (by decide +kernel) (Pt := ¬ (bI false) = 0) (Pf := (bI false) = 0) (off := 7) (r := [.int (nI 0), .ref o]) (tgt := 141) rfl (by decide) (fun d3 => ?_) (fun d3 => ?_)
                            · exact absurd rfl d3
                            · refine zz_go C [(137, .iconst 1), (138, .goto 4), (142, .iload 4)] (by decide +kernel) (pc' := 144) (lv' := [some (.ref o), some (.int (nI j)), some (.int (nI k)), some (.int (bI true)), some (.int (bI false)), some (.int (bI false)), none]) (st' := [.int (bI false), .int (nI 1), .int (nI 0), .ref o]) rfl ?_
                              refine zz_if C (i := .ifCond .eq 12) (by decide +kernel) (Pt := (bI false) = 0) (Pf := ¬ (bI false) = 0) (off := 12) (r := [.int (nI 1), .int (nI 0), .ref o]) (tgt := 156) rfl (by decide) (fun d4 => ?_) (fun d4 => ?_)
                              · refine zz_go C [(156, .iconst 0)] (by decide +kernel) (pc' := 157) (lv' := [some (.ref o), some (.int (nI j)), some (.int (nI k)), some (.int (bI true)), some (.int (bI false)), some (.int (bI false)), none]) (st' := [.int (nI 0), .int (nI 1), .int (nI 0), .ref o]) rfl ?_
                                show zz_Z _ _ _ _ _ _ _ [some (.ref o), some (.int (nI j)), some (.int (nI k)), some (.int (bI true)), some (.int (bI false)), some (.int (bI false)), none] [.int (bI false), .int (bI true), .int (bI false), .ref o]
                                refine zz_cV C E (ci := 3) (As := [.int (bI false), .int (bI true), .int (bI false)]) (rest := []) (hc := h1) md_O_refuse (c_O_refuse l D (zz_ac K) h1 o ad th (m + 1) M V vs1 sn1 sh1 W1 false true false) ml_O_66 im_O_refuse se_O_refuse rfl W1.ob (fun _ _ q => q) rfl rfl (Nat.le_of_ble_eq_true rfl) ⟨by decide, by decide⟩ ⟨(by decide), (by decide)⟩ (by decide +kernel) (fun v0 h2 hp hn hd => ?_) (fun v0 h2 hp hn hd => ?_)
                                · rw [zz_mix_self hd]
                                  obtain ⟨hv, W2⟩ := hp
                                  cases hv
                                  show zz_Z _ _ _ _ _ _ _ _ [.int (bI (false || true || false))]
                                  refine zz_if C (i := .ifCond .ne 8) (by decide +kernel) (Pt := ¬ (bI (false || true || false)) = 0) (Pf := (bI (false || true || false)) = 0) (off := 8) (r := []) (tgt := 168) rfl (by decide) (fun cF => ?_) (fun cF => ?_)
                                  · exact zr_v C E (by decide) (by decide) (by decide +kernel) (⟨rfl, vs1, sn1, sh1, (fun z => by rw [hb] at z; cases z), (fun _ _ => W2), (fun _ z => absurd ((add1_1 _).mpr (by simp only [Rx, clj, clk] at z; exact z)) cE), (fun _ z => absurd ((add1_1 _).mpr (by simp only [Rx, clj, clk] at z; exact z)) cE), (fun _ z => absurd ((add1_1 _).mpr (by simp only [Rx, clj, clk] at z; exact z)) cE)⟩)
                                  · exact absurd cF (by decide)
                                · cases hp.1
                              · exact absurd rfl d4
                        · exact absurd d1 (by decide)
                      · exact absurd rfl cG
                    · have kz : (vw (Lm M V) (rp j)).1 (m + 1) = 0 := (add1_1 _).mp cE
                      refine zz_go C [(58, .iconst 1), (59, .goto 4), (63, .istore 4)] (by decide +kernel) (pc' := 65) (lv' := [some (.ref o), some (.int (nI j)), some (.int (nI k)), some (.int (bI true)), some (.int (nI 1)), none, none]) (st' := []) rfl ?_
                      show zz_Z _ _ _ _ _ _ _ [some (.ref o), some (.int (nI j)), some (.int (nI k)), some (.int (bI true)), some (.int (bI true)), none, none] []
                      refine zz_go C [(65, .iload 4)] (by decide +kernel) (pc' := 67) (lv' := [some (.ref o), some (.int (nI j)), some (.int (nI k)), some (.int (bI true)), some (.int (bI true)), none, none]) (st' := [.int (bI true)]) rfl ?_
                      refine zz_if C (i := .ifCond .eq 48) (by decide +kernel) (Pt := (bI true) = 0) (Pf := ¬ (bI true) = 0) (off := 48) (r := []) (tgt := 115) rfl (by decide) (fun cG => ?_) (fun cG => ?_)
                      · exact absurd cG (by decide)
                      · refine zz_go C [(70, .aload_n 0)] (by decide +kernel) (pc' := 71) (lv' := [some (.ref o), some (.int (nI j)), some (.int (nI k)), some (.int (bI true)), some (.int (bI true)), none, none]) (st' := [.ref o]) rfl ?_
                        refine zz_get C fd_O_21 W1.ob (v := .ref (ad 2)) rfl (by decide +kernel) ?_
                        refine zz_go C [(74, .iload 4)] (by decide +kernel) (pc' := 76) (lv' := [some (.ref o), some (.int (nI j)), some (.int (nI k)), some (.int (bI true)), some (.int (bI true)), none, none]) (st' := [.int (bI true), .ref (ad 2)]) rfl ?_
                        refine zz_if C (i := .ifCond .eq 10) (by decide +kernel) (Pt := (bI true) = 0) (Pf := ¬ (bI true) = 0) (off := 10) (r := [.ref (ad 2)]) (tgt := 86) rfl (by decide) (fun cG2 => ?_) (fun cG2 => ?_)
                        · exact absurd cG2 (by decide)
                        · refine zz_go C [(79, .iload_n 2)] (by decide +kernel) (pc' := 80) (lv' := [some (.ref o), some (.int (nI j)), some (.int (nI k)), some (.int (bI true)), some (.int (bI true)), none, none]) (st' := [.int (nI k), .ref (ad 2)]) rfl ?_
                          refine zz_cS C E (As := [.int (nI k)]) (rest := [.ref (ad 2)]) (hc := h1) md_O_parentOf (c_O_parentOf l D (zz_ac K) h1 k hk.1) ml_O_44 sm_O_parentOf (fun _ _ q => q) rfl rfl (Nat.le_of_ble_eq_true rfl) ⟨by decide, by decide⟩ ⟨(by decide), (by decide)⟩ (by decide +kernel) (fun v0 h9 hp hn hd => ?_) (fun v0 h9 hp hn hd => ?_)
                          · rw [zz_mix_self hd]
                            obtain ⟨hh, hv⟩ := hp
                            rw [hh]
                            cases hv
                            show zz_Z _ _ _ _ _ _ _ _ [.int (nI (prN k)), .ref (ad 2)]
                            refine zz_go C [(83, .goto 4)] (by decide +kernel) (pc' := 87) (lv' := [some (.ref o), some (.int (nI j)), some (.int (nI k)), some (.int (bI true)), some (.int (bI true)), none, none]) (st' := [.int (nI (prN k)), .ref (ad 2)]) rfl ?_
                            refine ga_ild C W1.2.2.2.2.2.1 (by omega) (by decide) (by decide +kernel) ?_
                            rw [q2]
                            refine zz_go C [(88, .iconst 2)] (by decide +kernel) (pc' := 89) (lv' := [some (.ref o), some (.int (nI j)), some (.int (nI k)), some (.int (bI true)), some (.int (bI true)), none, none]) (st' := [.int (nI 2), .int ((vw (Lm M V) (rp k).tail).1 (m + 1) + nI 1)]) rfl ?_
                            refine zz_if C (i := .if_icmp .ne 26) (by decide +kernel) (Pt := ¬ ((vw (Lm M V) (rp k).tail).1 (m + 1) + nI 1) = (nI 2)) (Pf := ((vw (Lm M V) (rp k).tail).1 (m + 1) + nI 1) = (nI 2)) (off := 26) (r := []) (tgt := 115) rfl (by decide) (fun cH => ?_) (fun cH => ?_)
                            · have hbad : (¬ (vw (Lm M V) (rp k).tail).1 (m + 1) = nI 1 ∨ (vw (Lm M V) (rp k)).1 (m + 1) = nI 1) := Or.inl (fun z => cH ((add1_2 _).mpr z))
                              refine zz_go C [(115, .iconst 0), (116, .istore 5)] (by decide +kernel) (pc' := 118) (lv' := [some (.ref o), some (.int (nI j)), some (.int (nI k)), some (.int (bI true)), some (.int (bI true)), some (.int (nI 0)), none]) (st' := []) rfl ?_
                              show zz_Z _ _ _ _ _ _ _ [some (.ref o), some (.int (nI j)), some (.int (nI k)), some (.int (bI true)), some (.int (bI true)), some (.int (bI false)), none] []
                              refine zz_go C [(118, .aload_n 0), (119, .iload_n 3)] (by decide +kernel) (pc' := 120) (lv' := [some (.ref o), some (.int (nI j)), some (.int (nI k)), some (.int (bI true)), some (.int (bI true)), some (.int (bI false)), none]) (st' := [.int (bI true), .ref o]) rfl ?_
                              refine zz_if C (i := .ifCond .ne 7) (by decide +kernel) (Pt := ¬ (bI true) = 0) (Pf := (bI true) = 0) (off := 7) (r := [.ref o]) (tgt := 127) rfl (by decide) (fun d1 => ?_) (fun d1 => ?_)
                              · refine zz_go C [(127, .iconst 0), (128, .iload_n 3)] (by decide +kernel) (pc' := 129) (lv' := [some (.ref o), some (.int (nI j)), some (.int (nI k)), some (.int (bI true)), some (.int (bI true)), some (.int (bI false)), none]) (st' := [.int (bI true), .int (nI 0), .ref o]) rfl ?_
                                refine zz_if C (i := .ifCond .eq 12) (by decide +kernel) (Pt := (bI true) = 0) (Pf := ¬ (bI true) = 0) (off := 12) (r := [.int (nI 0), .ref o]) (tgt := 141) rfl (by decide) (fun d2 => ?_) (fun d2 => ?_)
                                · exact absurd d2 (by decide)
                                · refine zz_go C [(132, .iload 4)] (by decide +kernel) (pc' := 134) (lv' := [some (.ref o), some (.int (nI j)), some (.int (nI k)), some (.int (bI true)), some (.int (bI true)), some (.int (bI false)), none]) (st' := [.int (bI true), .int (nI 0), .ref o]) rfl ?_
                                  refine zz_if C (i := .ifCond .ne 7) (by decide +kernel) (Pt := ¬ (bI true) = 0) (Pf := (bI true) = 0) (off := 7) (r := [.int (nI 0), .ref o]) (tgt := 141) rfl (by decide) (fun d3 => ?_) (fun d3 => ?_)
                                  · refine zz_go C [(141, .iconst 0), (142, .iload 4)] (by decide +kernel) (pc' := 144) (lv' := [some (.ref o), some (.int (nI j)), some (.int (nI k)), some (.int (bI true)), some (.int (bI true)), some (.int (bI false)), none]) (st' := [.int (bI true), .int (nI 0), .int (nI 0), .ref o]) rfl ?_
                                    refine zz_if C (i := .ifCond .eq 12) (by decide +kernel) (Pt := (bI true) = 0) (Pf := ¬ (bI true) = 0) (off := 12) (r := [.int (nI 0), .int (nI 0), .ref o]) (tgt := 156) rfl (by decide) (fun d4 => ?_) (fun d4 => ?_)
                                    · exact absurd d4 (by decide)
                                    · refine zz_go C [(147, .iload 5)] (by decide +kernel) (pc' := 149) (lv' := [some (.ref o), some (.int (nI j)), some (.int (nI k)), some (.int (bI true)), some (.int (bI true)), some (.int (bI false)), none]) (st' := [.int (bI false), .int (nI 0), .int (nI 0), .ref o]) rfl ?_
                                      refine zz_if C (i := .ifCond .ne 7) (by decide +kernel) (Pt := ¬ (bI false) = 0) (Pf := (bI false) = 0) (off := 7) (r := [.int (nI 0), .int (nI 0), .ref o]) (tgt := 156) rfl (by decide) (fun d5 => ?_) (fun d5 => ?_)
                                      · exact absurd rfl d5
                                      · refine zz_go C [(152, .iconst 1), (153, .goto 4)] (by decide +kernel) (pc' := 157) (lv' := [some (.ref o), some (.int (nI j)), some (.int (nI k)), some (.int (bI true)), some (.int (bI true)), some (.int (bI false)), none]) (st' := [.int (nI 1), .int (nI 0), .int (nI 0), .ref o]) rfl ?_
                                        show zz_Z _ _ _ _ _ _ _ [some (.ref o), some (.int (nI j)), some (.int (nI k)), some (.int (bI true)), some (.int (bI true)), some (.int (bI false)), none] [.int (bI true), .int (bI false), .int (bI false), .ref o]
                                        refine zz_cV C E (ci := 3) (As := [.int (bI false), .int (bI false), .int (bI true)]) (rest := []) (hc := h1) md_O_refuse (c_O_refuse l D (zz_ac K) h1 o ad th (m + 1) M V vs1 sn1 sh1 W1 false false true) ml_O_66 im_O_refuse se_O_refuse rfl W1.ob (fun _ _ q => q) rfl rfl (Nat.le_of_ble_eq_true rfl) ⟨by decide, by decide⟩ ⟨(by decide), (by decide)⟩ (by decide +kernel) (fun v0 h2 hp hn hd => ?_) (fun v0 h2 hp hn hd => ?_)
                                        · rw [zz_mix_self hd]
                                          obtain ⟨hv, W2⟩ := hp
                                          cases hv
                                          show zz_Z _ _ _ _ _ _ _ _ [.int (bI (false || false || true))]
                                          refine zz_if C (i := .ifCond .ne 8) (by decide +kernel) (Pt := ¬ (bI (false || false || true)) = 0) (Pf := (bI (false || false || true)) = 0) (off := 8) (r := []) (tgt := 168) rfl (by decide) (fun cF => ?_) (fun cF => ?_)
                                          · exact zr_v C E (by decide) (by decide) (by decide +kernel) (⟨rfl, vs1, sn1, sh1, (fun z => by rw [hb] at z; cases z), (fun _ z => absurd (by simp only [Rx, clj, clk]; exact kz) z), (fun _ _ _ => W2), (fun _ _ z => absurd (by simp only [Rx, clj, clk]; exact hbad) z), (fun _ _ z => absurd (by simp only [Rx, clj, clk]; exact hbad) z)⟩)
                                          · exact absurd cF (by decide)
                                        · cases hp.1
                                  · exact absurd d3 (by decide)
                              · exact absurd d1 (by decide)
                            · refine zz_go C [(92, .aload_n 0)] (by decide +kernel) (pc' := 93) (lv' := [some (.ref o), some (.int (nI j)), some (.int (nI k)), some (.int (bI true)), some (.int (bI true)), none, none]) (st' := [.ref o]) rfl ?_
                              refine zz_get C fd_O_21 W1.ob (v := .ref (ad 2)) rfl (by decide +kernel) ?_
                              refine zz_go C [(96, .iload 4)] (by decide +kernel) (pc' := 98) (lv' := [some (.ref o), some (.int (nI j)), some (.int (nI k)), some (.int (bI true)), some (.int (bI true)), none, none]) (st' := [.int (bI true), .ref (ad 2)]) rfl ?_
                              refine zz_if C (i := .ifCond .eq 7) (by decide +kernel) (Pt := (bI true) = 0) (Pf := ¬ (bI true) = 0) (off := 7) (r := [.ref (ad 2)]) (tgt := 105) rfl (by decide) (fun cH2 => ?_) (fun cH2 => ?_)
                              · exact absurd cH2 (by decide)
                              · refine zz_go C [(101, .iload_n 2), (102, .goto 4)] (by decide +kernel) (pc' := 106) (lv' := [some (.ref o), some (.int (nI j)), some (.int (nI k)), some (.int (bI true)), some (.int (bI true)), none, none]) (st' := [.int (nI k), .ref (ad 2)]) rfl ?_
                                refine ga_ild C W1.2.2.2.2.2.1 (by omega) (by decide) (by decide +kernel) ?_
                                rw [q3]
                                refine zz_go C [(107, .iconst 2)] (by decide +kernel) (pc' := 108) (lv' := [some (.ref o), some (.int (nI j)), some (.int (nI k)), some (.int (bI true)), some (.int (bI true)), none, none]) (st' := [.int (nI 2), .int ((vw (Lm M V) (rp k)).1 (m + 1) + nI 1)]) rfl ?_
                                refine zz_if C (i := .if_icmp .eq 7) (by decide +kernel) (Pt := ((vw (Lm M V) (rp k)).1 (m + 1) + nI 1) = (nI 2)) (Pf := ¬ ((vw (Lm M V) (rp k)).1 (m + 1) + nI 1) = (nI 2)) (off := 7) (r := []) (tgt := 115) rfl (by decide) (fun cI => ?_) (fun cI => ?_)
                                · have hbad : (¬ (vw (Lm M V) (rp k).tail).1 (m + 1) = nI 1 ∨ (vw (Lm M V) (rp k)).1 (m + 1) = nI 1) := Or.inr ((add1_2 _).mp cI)
                                  refine zz_go C [(115, .iconst 0), (116, .istore 5)] (by decide +kernel) (pc' := 118) (lv' := [some (.ref o), some (.int (nI j)), some (.int (nI k)), some (.int (bI true)), some (.int (bI true)), some (.int (nI 0)), none]) (st' := []) rfl ?_
                                  show zz_Z _ _ _ _ _ _ _ [some (.ref o), some (.int (nI j)), some (.int (nI k)), some (.int (bI true)), some (.int (bI true)), some (.int (bI false)), none] []
                                  refine zz_go C [(118, .aload_n 0), (119, .iload_n 3)] (by decide +kernel) (pc' := 120) (lv' := [some (.ref o), some (.int (nI j)), some (.int (nI k)), some (.int (bI true)), some (.int (bI true)), some (.int (bI false)), none]) (st' := [.int (bI true), .ref o]) rfl ?_
                                  refine zz_if C (i := .ifCond .ne 7) (by decide +kernel) (Pt := ¬ (bI true) = 0) (Pf := (bI true) = 0) (off := 7) (r := [.ref o]) (tgt := 127) rfl (by decide) (fun d1 => ?_) (fun d1 => ?_)
                                  · refine zz_go C [(127, .iconst 0), (128, .iload_n 3)] (by decide +kernel) (pc' := 129) (lv' := [some (.ref o), some (.int (nI j)), some (.int (nI k)), some (.int (bI true)), some (.int (bI true)), some (.int (bI false)), none]) (st' := [.int (bI true), .int (nI 0), .ref o]) rfl ?_
                                    refine zz_if C (i := .ifCond .eq 12) (by decide +kernel) (Pt := (bI true) = 0) (Pf := ¬ (bI true) = 0) (off := 12) (r := [.int (nI 0), .ref o]) (tgt := 141) rfl (by decide) (fun d2 => ?_) (fun d2 => ?_)
                                    · exact absurd d2 (by decide)
                                    · refine zz_go C [(132, .iload 4)] (by decide +kernel) (pc' := 134) (lv' := [some (.ref o), some (.int (nI j)), some (.int (nI k)), some (.int (bI true)), some (.int (bI true)), some (.int (bI false)), none]) (st' := [.int (bI true), .int (nI 0), .ref o]) rfl ?_
                                      refine zz_if C (i := .ifCond .ne 7) (by decide +kernel) (Pt := ¬ (bI true) = 0) (Pf := (bI true) = 0) (off := 7) (r := [.int (nI 0), .ref o]) (tgt := 141) rfl (by decide) (fun d3 => ?_) (fun d3 => ?_)
                                      · refine zz_go C [(141, .iconst 0), (142, .iload 4)] (by decide +kernel) (pc' := 144) (lv' := [some (.ref o), some (.int (nI j)), some (.int (nI k)), some (.int (bI true)), some (.int (bI true)), some (.int (bI false)), none]) (st' := [.int (bI true), .int (nI 0), .int (nI 0), .ref o]) rfl ?_
                                        refine zz_if C (i := .ifCond .eq 12) (by decide +kernel) (Pt := (bI true) = 0) (Pf := ¬ (bI true) = 0) (off := 12) (r := [.int (nI 0), .int (nI 0), .ref o]) (tgt := 156) rfl (by decide) (fun d4 => ?_) (fun d4 => ?_)
                                        · exact absurd d4 (by decide)
                                        · refine zz_go C [(147, .iload 5)] (by decide +kernel) (pc' := 149) (lv' := [some (.ref o), some (.int (nI j)), some (.int (nI k)), some (.int (bI true)), some (.int (bI true)), some (.int (bI false)), none]) (st' := [.int (bI false), .int (nI 0), .int (nI 0), .ref o]) rfl ?_
                                          refine zz_if C (i := .ifCond .ne 7) (by decide +kernel) (Pt := ¬ (bI false) = 0) (Pf := (bI false) = 0) (off := 7) (r := [.int (nI 0), .int (nI 0), .ref o]) (tgt := 156) rfl (by decide) (fun d5 => ?_) (fun d5 => ?_)
                                          · exact absurd rfl d5
                                          · refine zz_go C [(152, .iconst 1), (153, .goto 4)] (by decide +kernel) (pc' := 157) (lv' := [some (.ref o), some (.int (nI j)), some (.int (nI k)), some (.int (bI true)), some (.int (bI true)), some (.int (bI false)), none]) (st' := [.int (nI 1), .int (nI 0), .int (nI 0), .ref o]) rfl ?_
                                            show zz_Z _ _ _ _ _ _ _ [some (.ref o), some (.int (nI j)), some (.int (nI k)), some (.int (bI true)), some (.int (bI true)), some (.int (bI false)), none] [.int (bI true), .int (bI false), .int (bI false), .ref o]
                                            refine zz_cV C E (ci := 3) (As := [.int (bI false), .int (bI false), .int (bI true)]) (rest := []) (hc := h1) md_O_refuse (c_O_refuse l D (zz_ac K) h1 o ad th (m + 1) M V vs1 sn1 sh1 W1 false false true) ml_O_66 im_O_refuse se_O_refuse rfl W1.ob (fun _ _ q => q) rfl rfl (Nat.le_of_ble_eq_true rfl) ⟨by decide, by decide⟩ ⟨(by decide), (by decide)⟩ (by decide +kernel) (fun v0 h2 hp hn hd => ?_) (fun v0 h2 hp hn hd => ?_)
                                            · rw [zz_mix_self hd]
                                              obtain ⟨hv, W2⟩ := hp
                                              cases hv
                                              show zz_Z _ _ _ _ _ _ _ _ [.int (bI (false || false || true))]
                                              refine zz_if C (i := .ifCond .ne 8) (by decide +kernel) (Pt := ¬ (bI (false || false || true)) = 0) (Pf := (bI (false || false || true)) = 0) (off := 8) (r := []) (tgt := 168) rfl (by decide) (fun cF => ?_) (fun cF => ?_)
                                              · exact zr_v C E (by decide) (by decide) (by decide +kernel) (⟨rfl, vs1, sn1, sh1, (fun z => by rw [hb] at z; cases z), (fun _ z => absurd (by simp only [Rx, clj, clk]; exact kz) z), (fun _ _ _ => W2), (fun _ _ z => absurd (by simp only [Rx, clj, clk]; exact hbad) z), (fun _ _ z => absurd (by simp only [Rx, clj, clk]; exact hbad) z)⟩)
                                              · exact absurd cF (by decide)
                                            · cases hp.1
                                      · exact absurd d3 (by decide)
                                  · exact absurd d1 (by decide)
                                · have nbad : ¬ (¬ (vw (Lm M V) (rp k).tail).1 (m + 1) = nI 1 ∨ (vw (Lm M V) (rp k)).1 (m + 1) = nI 1) := fun z => z.elim (fun e => e ((add1_2 _).mp cH)) (fun e => cI ((add1_2 _).mpr e))
                                  refine zz_go C [(111, .iconst 1), (112, .goto 4), (116, .istore 5)] (by decide +kernel) (pc' := 118) (lv' := [some (.ref o), some (.int (nI j)), some (.int (nI k)), some (.int (bI true)), some (.int (bI true)), some (.int (nI 1)), none]) (st' := []) rfl ?_
                                  show zz_Z _ _ _ _ _ _ _ [some (.ref o), some (.int (nI j)), some (.int (nI k)), some (.int (bI true)), some (.int (bI true)), some (.int (bI true)), none] []
                                  refine zz_go C [(118, .aload_n 0), (119, .iload_n 3)] (by decide +kernel) (pc' := 120) (lv' := [some (.ref o), some (.int (nI j)), some (.int (nI k)), some (.int (bI true)), some (.int (bI true)), some (.int (bI true)), none]) (st' := [.int (bI true), .ref o]) rfl ?_
                                  refine zz_if C (i := .ifCond .ne 7) (by decide +kernel) (Pt := ¬ (bI true) = 0) (Pf := (bI true) = 0) (off := 7) (r := [.ref o]) (tgt := 127) rfl (by decide) (fun d1 => ?_) (fun d1 => ?_)
                                  · refine zz_go C [(127, .iconst 0), (128, .iload_n 3)] (by decide +kernel) (pc' := 129) (lv' := [some (.ref o), some (.int (nI j)), some (.int (nI k)), some (.int (bI true)), some (.int (bI true)), some (.int (bI true)), none]) (st' := [.int (bI true), .int (nI 0), .ref o]) rfl ?_
                                    refine zz_if C (i := .ifCond .eq 12) (by decide +kernel) (Pt := (bI true) = 0) (Pf := ¬ (bI true) = 0) (off := 12) (r := [.int (nI 0), .ref o]) (tgt := 141) rfl (by decide) (fun d2 => ?_) (fun d2 => ?_)
                                    · exact absurd d2 (by decide)
                                    · refine zz_go C [(132, .iload 4)] (by decide +kernel) (pc' := 134) (lv' := [some (.ref o), some (.int (nI j)), some (.int (nI k)), some (.int (bI true)), some (.int (bI true)), some (.int (bI true)), none]) (st' := [.int (bI true), .int (nI 0), .ref o]) rfl ?_
                                      refine zz_if C (i := .ifCond .ne 7) (by decide +kernel) (Pt := ¬ (bI true) = 0) (Pf := (bI true) = 0) (off := 7) (r := [.int (nI 0), .ref o]) (tgt := 141) rfl (by decide) (fun d3 => ?_) (fun d3 => ?_)
                                      · refine zz_go C [(141, .iconst 0), (142, .iload 4)] (by decide +kernel) (pc' := 144) (lv' := [some (.ref o), some (.int (nI j)), some (.int (nI k)), some (.int (bI true)), some (.int (bI true)), some (.int (bI true)), none]) (st' := [.int (bI true), .int (nI 0), .int (nI 0), .ref o]) rfl ?_
                                        refine zz_if C (i := .ifCond .eq 12) (by decide +kernel) (Pt := (bI true) = 0) (Pf := ¬ (bI true) = 0) (off := 12) (r := [.int (nI 0), .int (nI 0), .ref o]) (tgt := 156) rfl (by decide) (fun d4 => ?_) (fun d4 => ?_)
                                        · exact absurd d4 (by decide)
                                        · refine zz_go C [(147, .iload 5)] (by decide +kernel) (pc' := 149) (lv' := [some (.ref o), some (.int (nI j)), some (.int (nI k)), some (.int (bI true)), some (.int (bI true)), some (.int (bI true)), none]) (st' := [.int (bI true), .int (nI 0), .int (nI 0), .ref o]) rfl ?_
                                          refine zz_if C (i := .ifCond .ne 7) (by decide +kernel) (Pt := ¬ (bI true) = 0) (Pf := (bI true) = 0) (off := 7) (r := [.int (nI 0), .int (nI 0), .ref o]) (tgt := 156) rfl (by decide) (fun d5 => ?_) (fun d5 => ?_)
                                          · refine zz_go C [(156, .iconst 0)] (by decide +kernel) (pc' := 157) (lv' := [some (.ref o), some (.int (nI j)), some (.int (nI k)), some (.int (bI true)), some (.int (bI true)), some (.int (bI true)), none]) (st' := [.int (nI 0), .int (nI 0), .int (nI 0), .ref o]) rfl ?_
                                            show zz_Z _ _ _ _ _ _ _ [some (.ref o), some (.int (nI j)), some (.int (nI k)), some (.int (bI true)), some (.int (bI true)), some (.int (bI true)), none] [.int (bI false), .int (bI false), .int (bI false), .ref o]
                                            refine zz_cV C E (ci := 3) (As := [.int (bI false), .int (bI false), .int (bI false)]) (rest := []) (hc := h1) md_O_refuse (c_O_refuse l D (zz_ac K) h1 o ad th (m + 1) M V vs1 sn1 sh1 W1 false false false) ml_O_66 im_O_refuse se_O_refuse rfl W1.ob (fun _ _ q => q) rfl rfl (Nat.le_of_ble_eq_true rfl) ⟨by decide, by decide⟩ ⟨(by decide), (by decide)⟩ (by decide +kernel) (fun v0 h2 hp hn hd => ?_) (fun v0 h2 hp hn hd => ?_)
                                            · rw [zz_mix_self hd]
                                              obtain ⟨hv, W2⟩ := hp
                                              cases hv
                                              show zz_Z _ _ _ _ _ _ _ _ [.int (bI (false || false || false))]
                                              refine zz_if C (i := .ifCond .ne 8) (by decide +kernel) (Pt := ¬ (bI (false || false || false)) = 0) (Pf := (bI (false || false || false)) = 0) (off := 8) (r := []) (tgt := 168) rfl (by decide) (fun cF => ?_) (fun cF => ?_)
                                              · exact absurd rfl cF
                                              · refine zz_go C [(163, .iload_n 1), (164, .iload_n 2)] (by decide +kernel) (pc' := 165) (lv' := [some (.ref o), some (.int (nI j)), some (.int (nI k)), some (.int (bI true)), some (.int (bI true)), some (.int (bI true)), none]) (st' := [.int (nI k), .int (nI j)]) rfl ?_
                                                refine zz_if C (i := .if_icmp .ne 4) (by decide +kernel) (Pt := ¬ (nI j) = (nI k)) (Pf := (nI j) = (nI k)) (off := 4) (r := []) (tgt := 169) rfl (by decide) (fun cJ => ?_) (fun cJ => ?_)
                                                · refine zz_go C [(169, .aload_n 0)] (by decide +kernel) (pc' := 170) (lv' := [some (.ref o), some (.int (nI j)), some (.int (nI k)), some (.int (bI true)), some (.int (bI true)), some (.int (bI true)), none]) (st' := [.ref o]) rfl ?_
                                                  refine zz_get C fd_O_24 W2.ob (v := .ref (ad 3)) rfl (by decide +kernel) ?_
                                                  refine zz_go C [(173, .iload_n 1)] (by decide +kernel) (pc' := 174) (lv' := [some (.ref o), some (.int (nI j)), some (.int (nI k)), some (.int (bI true)), some (.int (bI true)), some (.int (bI true)), none]) (st' := [.int (nI j), .ref (ad 3)]) rfl ?_
                                                  refine ga_ild C W2.2.2.2.2.2.2.1 (by omega) (by decide) (by decide +kernel) ?_
                                                  refine zz_go C [(175, .istore 6), (177, .aload_n 0), (178, .iload_n 1)] (by decide +kernel) (pc' := 179) (lv' := [some (.ref o), some (.int (nI j)), some (.int (nI k)), some (.int (bI true)), some (.int (bI true)), some (.int (bI true)), some (.int (sn1 j))]) (st' := [.int (nI j), .ref o]) rfl ?_
                                                  refine zz_cV C E (ci := 3) (As := [.int (nI j)]) (rest := []) (hc := h2) md_O_takeAway (c_O_takeAway l D (zz_ac K) h2 o ad _ m M V vs1 sn1 sh1 W2 hM j hj0 hj) ml_O_78 im_O_takeAway se_O_takeAway rfl W2.ob (fun _ _ q => q) rfl rfl (Nat.le_of_ble_eq_true rfl) ⟨by decide, by decide⟩ ⟨(by decide), (by decide)⟩ (by decide +kernel) (fun v0 h3 hp hn hd => ?_) (fun v0 h3 hp hn hd => ?_)
                                                  · rw [zz_mix_self hd]
                                                    obtain ⟨hv, vs3, sn3, sh3, t1, t2⟩ := hp
                                                    cases hv
                                                    show zz_Z _ _ _ _ _ _ _ _ []
                                                    refine zz_go C [(182, .aload_n 0), (183, .iload_n 2), (184, .iconst 1), (185, .iload 6)] (by decide +kernel) (pc' := 187) (lv' := [some (.ref o), some (.int (nI j)), some (.int (nI k)), some (.int (bI true)), some (.int (bI true)), some (.int (bI true)), some (.int (sn1 j))]) (st' := [.int (sn1 j), .int (nI 1), .int (nI k), .ref o]) rfl ?_
                                                    by_cases hz : (vw (Lm (tkM M (10000 * m) j 10000) V) (rp j)).1 m = -1
                                                    · have W3 := t1 hz
                                                      refine zz_cV C E (ci := 3) (As := [.int (nI k), .int (nI 1), .int (sn1 j)]) (rest := []) (hc := h3) md_O_put (c_O_put l D (zz_ac K) h3 o ad _ m (tkM M (10000 * m) j 10000) V vs3 sn3 sh3 W3 k (nI 1) (sn1 j) hk0 hk) ml_O_70 im_O_put se_O_put rfl W3.ob (fun _ _ q => q) rfl rfl (Nat.le_of_ble_eq_true rfl) ⟨by decide, by decide⟩ ⟨(by decide), (by decide)⟩ (by decide +kernel) (fun v0 h4 hp hn hd => ?_) (fun v0 h4 hp hn hd => ?_)
                                                      · rw [zz_mix_self hd]
                                                        obtain ⟨hv, M2, W4, I4, J4⟩ := hp
                                                        cases hv
                                                        show zz_Z _ _ _ _ _ _ _ _ []
                                                        exact zr_v C E (by decide) (by decide) (by decide +kernel) (⟨rfl, vs3, sn3, sh3, (fun z => by rw [hb] at z; cases z), (fun _ z => absurd (by simp only [Rx, clj, clk]; exact kz) z), (fun _ _ z => absurd (by simp only [Rx, clj, clk] at z; exact z) nbad), (fun _ _ _ z => absurd z cJ), (fun _ _ _ _ => ⟨(tkM M (10000 * m) j 10000), V, M2, by simp only [Rx, clj, clk]; exact Or.inl ⟨hz, rfl, rfl⟩, by simp only [Rx, clj, clk]; rw [← q1s kz]; exact W4, by rw [clk]; exact I4, by rw [clk]; exact J4⟩)⟩)
                                                      · cases hp.1
                                                    · obtain ⟨M1, W3, I3, J3⟩ := t2 hz
                                                      refine zz_cV C E (ci := 3) (As := [.int (nI k), .int (nI 1), .int (sn1 j)]) (rest := []) (hc := h3) md_O_put (c_O_put l D (zz_ac K) h3 o ad _ m M1 (upd V (10000 * m + j) (nI 0)) vs3 sn3 sh3 W3 k (nI 1) (sn1 j) hk0 hk) ml_O_70 im_O_put se_O_put rfl W3.ob (fun _ _ q => q) rfl rfl (Nat.le_of_ble_eq_true rfl) ⟨by decide, by decide⟩ ⟨(by decide), (by decide)⟩ (by decide +kernel) (fun v0 h4 hp hn hd => ?_) (fun v0 h4 hp hn hd => ?_)
                                                      · rw [zz_mix_self hd]
                                                        obtain ⟨hv, M2, W4, I4, J4⟩ := hp
                                                        cases hv
                                                        show zz_Z _ _ _ _ _ _ _ _ []
                                                        exact zr_v C E (by decide) (by decide) (by decide +kernel) (⟨rfl, vs3, sn3, sh3, (fun z => by rw [hb] at z; cases z), (fun _ z => absurd (by simp only [Rx, clj, clk]; exact kz) z), (fun _ _ z => absurd (by simp only [Rx, clj, clk] at z; exact z) nbad), (fun _ _ _ z => absurd z cJ), (fun _ _ _ _ => ⟨M1, (upd V (10000 * m + j) (nI 0)), M2, by simp only [Rx, clj, clk]; exact Or.inr ⟨hz, rfl, I3, J3⟩, by simp only [Rx, clj, clk]; rw [← q1s kz]; exact W4, by rw [clk]; exact I4, by rw [clk]; exact J4⟩)⟩)
                                                      · cases hp.1
                                                  · cases hp.1
                                                · exact zr_v C E (by decide) (by decide) (by decide +kernel) (⟨rfl, vs1, sn1, sh1, (fun z => by rw [hb] at z; cases z), (fun _ z => absurd (by simp only [Rx, clj, clk]; exact kz) z), (fun _ _ z => absurd (by simp only [Rx, clj, clk] at z; exact z) nbad), (fun _ _ _ _ => W2), (fun _ _ _ z => absurd cJ z)⟩)
                                            · cases hp.1
                                          · exact absurd d5 (by decide)
                                      · exact absurd d3 (by decide)
                                  · exact absurd d1 (by decide)
                          · cases hp.2
              · cases hp.1
        · cases hp.2
  · cases hp.2
