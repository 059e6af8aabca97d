/-! ===== the model removes ===== -/
def rmQ (L : zLs) (n p q : Nat) : Bool := decide (¬ q = 0) && (pok q && decide (¬ (vw L (rp q)).1 n = -1) && (decide (q = p) || blB q p))
theorem rmQ_v {M V vs sn sh : Nat → Int32} {n p q : Nat} (I : cvI M V 0 n vs sn sh) (nv : ∀ q, q ≤ 9999 → pok q = false → vs q = 0) (q1 : 1 ≤ q) (q9 : q ≤ 9999) : (vs q = 0 → rmQ (Lm M V) n p q = false) ∧ (¬ vs q = 0 → pok q = true ∧ rmQ (Lm M V) n p q = (decide (q = p) || blB q p)) := by
  cases hk : pok q with
  | false => exact ⟨fun _ => by rw [rmQ, hk, Bool.false_and, Bool.false_and, Bool.and_false], fun z => absurd (nv q q9 hk) z⟩
  | true =>
    have e := (cvI_at I q9 hk).1
    refine ⟨fun z => ?_, fun z => ⟨rfl, ?_⟩⟩
    · rw [e] at z
      rw [rmQ, decide_eq_false (show ¬ ¬ (vw (Lm M V) (rp q)).1 n = -1 from fun c => c ((add1_0 _).mp z)), Bool.and_false, Bool.false_and, Bool.and_false]
    · rw [e] at z
      rw [rmQ, hk, decide_eq_true (show ¬ (vw (Lm M V) (rp q)).1 n = -1 from fun c => z ((add1_0 _).mpr c)), decide_eq_true (show ¬ q = 0 by omega)]; rfl
set_option maxRecDepth 4096 in
set_option maxHeartbeats 4000000 in
theorem c_O_remove (l : Launch) (D : va_G) (aC : Nat → ClassId) (h : zz_Hp) (o : Nat) (ad : Nat → Nat) (th : Int32) (m : Nat) (M V vs sn sh : Nat → Int32) (W : mW h aC o ad th (m + 1) M V vs sn sh) (hM : okM M) (x : Int32) :
    zz_Ct l D aC y_O_remove (zrm 3 0 0 130) [.ref o, .int x] h (fun r' h' => ∃ (r : Int32) (vs' sn' sh' : Nat → Int32), r' = .inl (some (.int r)) ∧ (pbB x = false → mW h' aC o ad (rfC true false false) (m + 1) M V vs' sn' sh') ∧ (pbB x = true → (vw (Lm M V) (Rx x)).1 (m + 1) = -1 → mW h' aC o ad (rfC false true false) (m + 1) M V vs' sn' sh') ∧ (pbB x = true → ¬ (vw (Lm M V) (Rx x)).1 (m + 1) = -1 → r = nI (cnQ (rmQ (Lm M V) (m + 1) x.toNatClampNeg) 10000) ∧ ((vw (Lm (tkM M (10000 * m) x.toNatClampNeg 10000) V) (Rx x)).1 m = -1 → mW h' aC o ad (rfC false false false) (m + 1) (tkM M (10000 * m) x.toNatClampNeg 10000) V vs' sn' sh') ∧ (¬ (vw (Lm (tkM M (10000 * m) x.toNatClampNeg 10000) V) (Rx x)).1 m = -1 → ∃ M', mW h' aC o ad (rfC false false false) (m + 1) M' (upd V (10000 * m + x.toNatClampNeg) (nI 0)) vs' sn' sh' ∧ ptI (tkM M (10000 * m) x.toNatClampNeg 10000) M' (10000 * m) x.toNatClampNeg 0 (nI 4) ∧ ptJ (tkM M (10000 * m) x.toNatClampNeg 10000) M' (10000 * m) x.toNatClampNeg 0 (nI 4)))) := by
  refine zz_ct md_O_remove rfl (by simp [Value.category]) (Nat.le_of_ble_eq_true rfl) fun K C E hI => ?_
  obtain rfl := E.ac
  have n8 := W.1.2
  refine zz_go C [(0, .iload_n 1)] (by decide +kernel) (pc' := 1) (lv' := [some (.ref o), some (.int x), none, none, none, none]) (st' := [.int x]) rfl ?_
  refine zz_cS C E (As := [.int x]) (rest := []) (hc := h) md_O_isPath (c_O_isPath l D (zz_ac K) h x) ml_O_37 sm_O_isPath (fun _ _ q => q) rfl rfl (Nat.le_of_ble_eq_true rfl) ⟨by decide, by decide⟩ ⟨(by decide), (by decide)⟩ (by decide +kernel) (fun v h' hp hn hd => ?_) (fun v h' hp hn hd => ?_)
  · rw [zz_mix_self hd]
    obtain ⟨hh, hv⟩ := hp
    rw [hh]
    cases hv
    show zz_Z _ _ _ _ _ _ _ _ [.int (bI (isP x))]
    refine zz_if C (i := .ifCond .eq 11) (by decide +kernel) (Pt := (bI (isP x)) = 0) (Pf := ¬ (bI (isP x)) = 0) (off := 11) (r := []) (tgt := 15) rfl (by decide) (fun cA => ?_) (fun cA => ?_)
    · have hb : pbB x = false := by rw [pbB, (bI_0 _).mp cA, Bool.false_and]
      refine zz_go C [(15, .iconst 0)] (by decide +kernel) (pc' := 16) (lv' := [some (.ref o), some (.int x), none, none, none, none]) (st' := [.int (nI 0)]) rfl ?_
      show zz_Z _ _ _ _ _ _ _ [some (.ref o), some (.int x), none, none, none, none] [.int (bI false)]
      refine zz_go C [(16, .istore_n 2), (17, .aload_n 0), (18, .aload_n 0)] (by decide +kernel) (pc' := 19) (lv' := [some (.ref o), some (.int x), some (.int (bI false)), none, none, none]) (st' := [.ref o, .ref o]) rfl ?_
      refine zz_get C fd_O_7 W.ob (v := .int (nI (m + 1))) rfl (by decide +kernel) ?_
      refine zz_cV C E (ci := 3) (As := [.int (nI (m + 1))]) (rest := []) (hc := h) md_O_look (c_O_look l D (zz_ac K) h o ad th (m + 1) M V vs sn sh W (m + 1) n8 hM) ml_O_63 im_O_look se_O_look rfl W.ob (fun _ _ q => q) rfl rfl (Nat.le_of_ble_eq_true rfl) ⟨by decide, by decide⟩ ⟨(by decide), (by decide)⟩ (by decide +kernel) (fun v0 h1 hp hn hd => ?_) (fun v0 h1 hp hn hd => ?_)
      · rw [zz_mix_self hd]
        obtain ⟨hv, vs1, sn1, sh1, W1, I1⟩ := hp
        cases hv
        show zz_Z _ _ _ _ _ _ _ _ []
        refine zz_go C [(25, .iload_n 2)] (by decide +kernel) (pc' := 26) (lv' := [some (.ref o), some (.int x), some (.int (bI false)), none, none, none]) (st' := [.int (bI false)]) rfl ?_
        refine zz_if C (i := .ifCond .eq 24) (by decide +kernel) (Pt := (bI false) = 0) (Pf := ¬ (bI false) = 0) (off := 24) (r := []) (tgt := 50) rfl (by decide) (fun cB => ?_) (fun cB => ?_)
        · refine zz_go C [(50, .iconst 0), (51, .istore_n 3), (52, .aload_n 0), (53, .iload_n 2)] (by decide +kernel) (pc' := 54) (lv' := [some (.ref o), some (.int x), some (.int (bI false)), some (.int (nI 0)), none, none]) (st' := [.int (bI false), .ref o]) rfl ?_
          show zz_Z _ _ _ _ _ _ _ [some (.ref o), some (.int x), some (.int (bI false)), some (.int (bI false)), none, none] [.int (bI false), .ref o]
          refine zz_if C (i := .ifCond .ne 7) (by decide +kernel) (Pt := ¬ (bI false) = 0) (Pf := (bI false) = 0) (off := 7) (r := [.ref o]) (tgt := 61) rfl (by decide) (fun cD => ?_) (fun cD => ?_)
          · exact absurd rfl cD
          · refine zz_go C [(57, .iconst 1), (58, .goto 4), (62, .iload_n 2)] (by decide +kernel) (pc' := 63) (lv' := [some (.ref o), some (.int x), some (.int (bI false)), some (.int (bI false)), none, none]) (st' := [.int (bI false), .int (nI 1), .ref o]) rfl ?_
            refine zz_if C (i := .ifCond .eq 11) (by decide +kernel) (Pt := (bI false) = 0) (Pf := ¬ (bI false) = 0) (off := 11) (r := [.int (nI 1), .ref o]) (tgt := 74) rfl (by decide) (fun cE => ?_) (fun cE => ?_)
            · refine zz_go C [(74, .iconst 0), (75, .iconst 0)] (by decide +kernel) (pc' := 76) (lv' := [some (.ref o), some (.int x), some (.int (bI false)), some (.int (bI false)), none, none]) (st' := [.int (nI 0), .int (nI 0), .int (nI 1), .ref o]) rfl ?_
              show zz_Z _ _ _ _ _ _ _ [some (.ref o), some (.int x), some (.int (bI false)), some (.int (bI false)), none, none] [.int (bI false), .int (bI false), .int (bI true), .ref o]
              refine zz_cV C E (ci := 3) (As := [.int (bI true), .int (bI false), .int (bI false)]) (rest := []) (hc := h1) md_O_refuse (c_O_refuse l D (zz_ac K) h1 o ad th (m + 1) M V vs1 sn1 sh1 W1 true false false) ml_O_66 im_O_refuse se_O_refuse rfl W1.ob (fun _ _ q => q) rfl rfl (Nat.le_of_ble_eq_true rfl) ⟨by decide, by decide⟩ ⟨(by decide), (by decide)⟩ (by decide +kernel) (fun v0 h2 hp hn hd => ?_) (fun v0 h2 hp hn hd => ?_)
              · rw [zz_mix_self hd]
                obtain ⟨hv, W2⟩ := hp
                cases hv
                show zz_Z _ _ _ _ _ _ _ _ [.int (bI (true || false || false))]
                refine zz_if C (i := .ifCond .eq 5) (by decide +kernel) (Pt := (bI (true || false || false)) = 0) (Pf := ¬ (bI (true || false || false)) = 0) (off := 5) (r := []) (tgt := 84) rfl (by decide) (fun cF => ?_) (fun cF => ?_)
                · exact absurd cF (by decide)
                · refine zz_go C [(82, .iconst 0)] (by decide +kernel) (pc' := 83) (lv' := [some (.ref o), some (.int x), some (.int (bI false)), some (.int (bI false)), none, none]) (st' := [.int (nI 0)]) rfl ?_
                  exact zr_i C E (by decide) (by decide) (by decide +kernel) (⟨_, vs1, sn1, sh1, rfl, (fun _ => W2), (fun z => by rw [hb] at z; cases z), (fun z => by rw [hb] at z; cases z)⟩)
              · cases hp.1
            · exact absurd rfl cE
        · exact absurd rfl cB
      · cases hp.1
    · refine zz_go C [(7, .iload_n 1)] (by decide +kernel) (pc' := 8) (lv' := [some (.ref o), some (.int x), none, none, none, none]) (st' := [.int x]) rfl ?_
      refine zz_if C (i := .ifCond .le 7) (by decide +kernel) (Pt := x ≤ 0) (Pf := ¬ x ≤ 0) (off := 7) (r := []) (tgt := 15) rfl (by decide) (fun cP => ?_) (fun cP => ?_)
      · have hb : pbB x = false := by
          cases hq : pbB x with
          | false => rfl
          | true =>
            obtain ⟨j, rfl, hj, hj0⟩ := pbB_of hq
            exact absurd cP (nI_nle (by omega) (by omega))
        refine zz_go C [(15, .iconst 0)] (by decide +kernel) (pc' := 16) (lv' := [some (.ref o), some (.int x), none, none, none, none]) (st' := [.int (nI 0)]) rfl ?_
        show zz_Z _ _ _ _ _ _ _ [some (.ref o), some (.int x), none, none, none, none] [.int (bI false)]
        refine zz_go C [(16, .istore_n 2), (17, .aload_n 0), (18, .aload_n 0)] (by decide +kernel) (pc' := 19) (lv' := [some (.ref o), some (.int x), some (.int (bI false)), none, none, none]) (st' := [.ref o, .ref o]) rfl ?_
        refine zz_get C fd_O_7 W.ob (v := .int (nI (m + 1))) rfl (by decide +kernel) ?_
        refine zz_cV C E (ci := 3) (As := [.int (nI (m + 1))]) (rest := []) (hc := h) md_O_look (c_O_look l D (zz_ac K) h o ad th (m + 1) M V vs sn sh W (m + 1) n8 hM) ml_O_63 im_O_look se_O_look rfl W.ob (fun _ _ q => q) rfl rfl (Nat.le_of_ble_eq_true rfl) ⟨by decide, by decide⟩ ⟨(by decide), (by decide)⟩ (by decide +kernel) (fun v0 h1 hp hn hd => ?_) (fun v0 h1 hp hn hd => ?_)
        · rw [zz_mix_self hd]
          obtain ⟨hv, vs1, sn1, sh1, W1, I1⟩ := hp
          cases hv
          show zz_Z _ _ _ _ _ _ _ _ []
          refine zz_go C [(25, .iload_n 2)] (by decide +kernel) (pc' := 26) (lv' := [some (.ref o), some (.int x), some (.int (bI false)), none, none, none]) (st' := [.int (bI false)]) rfl ?_
          refine zz_if C (i := .ifCond .eq 24) (by decide +kernel) (Pt := (bI false) = 0) (Pf := ¬ (bI false) = 0) (off := 24) (r := []) (tgt := 50) rfl (by decide) (fun cB => ?_) (fun cB => ?_)
          · refine zz_go C [(50, .iconst 0), (51, .istore_n 3), (52, .aload_n 0), (53, .iload_n 2)] (by decide +kernel) (pc' := 54) (lv' := [some (.ref o), some (.int x), some (.int (bI false)), some (.int (nI 0)), none, none]) (st' := [.int (bI false), .ref o]) rfl ?_
            show zz_Z _ _ _ _ _ _ _ [some (.ref o), some (.int x), some (.int (bI false)), some (.int (bI false)), none, none] [.int (bI false), .ref o]
            refine zz_if C (i := .ifCond .ne 7) (by decide +kernel) (Pt := ¬ (bI false) = 0) (Pf := (bI false) = 0) (off := 7) (r := [.ref o]) (tgt := 61) rfl (by decide) (fun cD => ?_) (fun cD => ?_)
            · exact absurd rfl cD
            · refine zz_go C [(57, .iconst 1), (58, .goto 4), (62, .iload_n 2)] (by decide +kernel) (pc' := 63) (lv' := [some (.ref o), some (.int x), some (.int (bI false)), some (.int (bI false)), none, none]) (st' := [.int (bI false), .int (nI 1), .ref o]) rfl ?_
              refine zz_if C (i := .ifCond .eq 11) (by decide +kernel) (Pt := (bI false) = 0) (Pf := ¬ (bI false) = 0) (off := 11) (r := [.int (nI 1), .ref o]) (tgt := 74) rfl (by decide) (fun cE => ?_) (fun cE => ?_)
              · refine zz_go C [(74, .iconst 0), (75, .iconst 0)] (by decide +kernel) (pc' := 76) (lv' := [some (.ref o), some (.int x), some (.int (bI false)), some (.int (bI false)), none, none]) (st' := [.int (nI 0), .int (nI 0), .int (nI 1), .ref o]) rfl ?_
                show zz_Z _ _ _ _ _ _ _ [some (.ref o), some (.int x), some (.int (bI false)), some (.int (bI false)), none, none] [.int (bI false), .int (bI false), .int (bI true), .ref o]
                refine zz_cV C E (ci := 3) (As := [.int (bI true), .int (bI false), .int (bI false)]) (rest := []) (hc := h1) md_O_refuse (c_O_refuse l D (zz_ac K) h1 o ad th (m + 1) M V vs1 sn1 sh1 W1 true false false) ml_O_66 im_O_refuse se_O_refuse rfl W1.ob (fun _ _ q => q) rfl rfl (Nat.le_of_ble_eq_true rfl) ⟨by decide, by decide⟩ ⟨(by decide), (by decide)⟩ (by decide +kernel) (fun v0 h2 hp hn hd => ?_) (fun v0 h2 hp hn hd => ?_)
                · rw [zz_mix_self hd]
                  obtain ⟨hv, W2⟩ := hp
                  cases hv
                  show zz_Z _ _ _ _ _ _ _ _ [.int (bI (true || false || false))]
                  refine zz_if C (i := .ifCond .eq 5) (by decide +kernel) (Pt := (bI (true || false || false)) = 0) (Pf := ¬ (bI (true || false || false)) = 0) (off := 5) (r := []) (tgt := 84) rfl (by decide) (fun cF => ?_) (fun cF => ?_)
                  · exact absurd cF (by decide)
                  · refine zz_go C [(82, .iconst 0)] (by decide +kernel) (pc' := 83) (lv' := [some (.ref o), some (.int x), some (.int (bI false)), some (.int (bI false)), none, none]) (st' := [.int (nI 0)]) rfl ?_
                    exact zr_i C E (by decide) (by decide) (by decide +kernel) (⟨_, vs1, sn1, sh1, rfl, (fun _ => W2), (fun z => by rw [hb] at z; cases z), (fun z => by rw [hb] at z; cases z)⟩)
                · cases hp.1
              · exact absurd rfl cE
          · exact absurd rfl cB
        · cases hp.1
      · have hb : pbB x = true := by rw [pbB, bI_1 cA, decide_eq_true (show ¬ x = 0 from fun e => cP (by rw [e]; decide))]; rfl
        refine zz_go C [(11, .iconst 1), (12, .goto 4)] (by decide +kernel) (pc' := 16) (lv' := [some (.ref o), some (.int x), none, none, none, none]) (st' := [.int (nI 1)]) rfl ?_
        show zz_Z _ _ _ _ _ _ _ [some (.ref o), some (.int x), none, none, none, none] [.int (bI true)]
        obtain ⟨j, rfl, hj, hj0⟩ := pbB_of hb
        have clj : (nI j).toNatClampNeg = j := nI_clamp (by omega)
        refine zz_go C [(16, .istore_n 2), (17, .aload_n 0), (18, .aload_n 0)] (by decide +kernel) (pc' := 19) (lv' := [some (.ref o), some (.int (nI j)), some (.int (bI true)), none, none, none]) (st' := [.ref o, .ref o]) rfl ?_
        refine zz_get C fd_O_7 W.ob (v := .int (nI (m + 1))) rfl (by decide +kernel) ?_
        refine zz_cV C E (ci := 3) (As := [.int (nI (m + 1))]) (rest := []) (hc := h) md_O_look (c_O_look l D (zz_ac K) h o ad th (m + 1) M V vs sn sh W (m + 1) n8 hM) ml_O_63 im_O_look se_O_look rfl W.ob (fun _ _ q => q) rfl rfl (Nat.le_of_ble_eq_true rfl) ⟨by decide, by decide⟩ ⟨(by decide), (by decide)⟩ (by decide +kernel) (fun v0 h1 hp hn hd => ?_) (fun v0 h1 hp hn hd => ?_)
        · rw [zz_mix_self hd]
          obtain ⟨hv, vs1, sn1, sh1, W1, I1⟩ := hp
          cases hv
          show zz_Z _ _ _ _ _ _ _ _ []
          obtain ⟨q1, -⟩ := cvI_at I1 hj.1 hj.2
          refine zz_go C [(25, .iload_n 2)] (by decide +kernel) (pc' := 26) (lv' := [some (.ref o), some (.int (nI j)), some (.int (bI true)), none, none, none]) (st' := [.int (bI true)]) rfl ?_
          refine zz_if C (i := .ifCond .eq 24) (by decide +kernel) (Pt := (bI true) = 0) (Pf := ¬ (bI true) = 0) (off := 24) (r := []) (tgt := 50) rfl (by decide) (fun cB => ?_) (fun cB => ?_)
          · exact absurd cB (by decide)
          · refine zz_go C [(29, .aload_n 0)] (by decide +kernel) (pc' := 30) (lv' := [some (.ref o), some (.int (nI j)), some (.int (bI true)), none, none, none]) (st' := [.ref o]) rfl ?_
            refine zz_get C fd_O_21 W1.ob (v := .ref (ad 2)) rfl (by decide +kernel) ?_
            refine zz_go C [(33, .iload_n 2)] (by decide +kernel) (pc' := 34) (lv' := [some (.ref o), some (.int (nI j)), some (.int (bI true)), none, none, none]) (st' := [.int (bI true), .ref (ad 2)]) rfl ?_
            refine zz_if C (i := .ifCond .eq 7) (by decide +kernel) (Pt := (bI true) = 0) (Pf := ¬ (bI true) = 0) (off := 7) (r := [.ref (ad 2)]) (tgt := 41) rfl (by decide) (fun cD => ?_) (fun cD => ?_)
            · exact absurd cD (by decide)
            · refine zz_go C [(37, .iload_n 1), (38, .goto 4)] (by decide +kernel) (pc' := 42) (lv' := [some (.ref o), some (.int (nI j)), some (.int (bI true)), none, none, none]) (st' := [.int (nI j), .ref (ad 2)]) rfl ?_
              refine ga_ild C W1.2.2.2.2.2.1 (by omega) (by decide) (by decide +kernel) ?_
              rw [q1]
              refine zz_if C (i := .ifCond .eq 7) (by decide +kernel) (Pt := ((vw (Lm M V) (rp j)).1 (m + 1) + nI 1) = 0) (Pf := ¬ ((vw (Lm M V) (rp j)).1 (m + 1) + nI 1) = 0) (off := 7) (r := []) (tgt := 50) rfl (by decide) (fun cE => ?_) (fun cE => ?_)
              · refine zz_go C [(50, .iconst 0), (51, .istore_n 3), (52, .aload_n 0), (53, .iload_n 2)] (by decide +kernel) (pc' := 54) (lv' := [some (.ref o), some (.int (nI j)), some (.int (bI true)), some (.int (nI 0)), none, none]) (st' := [.int (bI true), .ref o]) rfl ?_
                show zz_Z _ _ _ _ _ _ _ [some (.ref o), some (.int (nI j)), some (.int (bI true)), some (.int (bI false)), none, none] [.int (bI true), .ref o]
                refine zz_if C (i := .ifCond .ne 7) (by decide +kernel) (Pt := ¬ (bI true) = 0) (Pf := (bI true) = 0) (off := 7) (r := [.ref o]) (tgt := 61) rfl (by decide) (fun cF => ?_) (fun cF => ?_)
                · refine zz_go C [(61, .iconst 0), (62, .iload_n 2)] (by decide +kernel) (pc' := 63) (lv' := [some (.ref o), some (.int (nI j)), some (.int (bI true)), some (.int (bI false)), none, none]) (st' := [.int (bI true), .int (nI 0), .ref o]) rfl ?_
                  refine zz_if C (i := .ifCond .eq 11) (by decide +kernel) (Pt := (bI true) = 0) (Pf := ¬ (bI true) = 0) (off := 11) (r := [.int (nI 0), .ref o]) (tgt := 74) rfl (by decide) (fun cG => ?_) (fun cG => ?_)
                  · exact absurd cG (by decide)
                  · refine zz_go C [(66, .iload_n 3)] (by decide +kernel) (pc' := 67) (lv' := [some (.ref o), some (.int (nI j)), some (.int (bI true)), some (.int (bI false)), none, none]) (st' := [.int (bI false), .int (nI 0), .ref o]) rfl ?_
                    refine zz_if C (i := .ifCond .ne 7) (by decide +kernel) (Pt := ¬ (bI false) = 0) (Pf := (bI false) = 0) (off := 7) (r := [.int (nI 0), .ref o]) (tgt := 74) rfl (by decide) (fun cH => ?_) (fun cH => ?_)
                    · exact absurd rfl cH
                    · refine zz_go C [(70, .iconst 1), (71, .goto 4), (75, .iconst 0)] (by decide +kernel) (pc' := 76) (lv' := [some (.ref o), some (.int (nI j)), some (.int (bI true)), some (.int (bI false)), none, none]) (st' := [.int (nI 0), .int (nI 1), .int (nI 0), .ref o]) rfl ?_
                      show zz_Z _ _ _ _ _ _ _ [some (.ref o), some (.int (nI j)), some (.int (bI true)), some (.int (bI false)), none, none] [.int (bI false), .int (bI true), .int (bI false), .ref o]
                      refine zz_cV C E (ci := 3) (As := [.int (bI false), .int (bI true), .int (bI false)]) (rest := []) (hc := h1) md_O_refuse (c_O_refuse l D (zz_ac K) h1 o ad th (m + 1) M V vs1 sn1 sh1 W1 false true false) ml_O_66 im_O_refuse se_O_refuse rfl W1.ob (fun _ _ q => q) rfl rfl (Nat.le_of_ble_eq_true rfl) ⟨by decide, by decide⟩ ⟨(by decide), (by decide)⟩ (by decide +kernel) (fun v0 h2 hp hn hd => ?_) (fun v0 h2 hp hn hd => ?_)
                      · rw [zz_mix_self hd]
                        obtain ⟨hv, W2⟩ := hp
                        cases hv
                        show zz_Z _ _ _ _ _ _ _ _ [.int (bI (false || true || false))]
                        refine zz_if C (i := .ifCond .eq 5) (by decide +kernel) (Pt := (bI (false || true || false)) = 0) (Pf := ¬ (bI (false || true || false)) = 0) (off := 5) (r := []) (tgt := 84) rfl (by decide) (fun cI => ?_) (fun cI => ?_)
                        · exact absurd cI (by decide)
                        · refine zz_go C [(82, .iconst 0)] (by decide +kernel) (pc' := 83) (lv' := [some (.ref o), some (.int (nI j)), some (.int (bI true)), some (.int (bI false)), none, none]) (st' := [.int (nI 0)]) rfl ?_
                          exact zr_i C E (by decide) (by decide) (by decide +kernel) (⟨_, vs1, sn1, sh1, rfl, (fun z => by rw [hb] at z; cases z), (fun _ _ => W2), (fun _ z => absurd (by rw [Rx, clj]; exact (add1_0 _).mp cE) z)⟩)
                      · cases hp.1
                · exact absurd cF (by decide)
              · refine zz_go C [(46, .iconst 1), (47, .goto 4), (51, .istore_n 3), (52, .aload_n 0), (53, .iload_n 2)] (by decide +kernel) (pc' := 54) (lv' := [some (.ref o), some (.int (nI j)), some (.int (bI true)), some (.int (nI 1)), none, none]) (st' := [.int (bI true), .ref o]) rfl ?_
                show zz_Z _ _ _ _ _ _ _ [some (.ref o), some (.int (nI j)), some (.int (bI true)), some (.int (bI true)), none, none] [.int (bI true), .ref o]
                refine zz_if C (i := .ifCond .ne 7) (by decide +kernel) (Pt := ¬ (bI true) = 0) (Pf := (bI true) = 0) (off := 7) (r := [.ref o]) (tgt := 61) rfl (by decide) (fun cF => ?_) (fun cF => ?_)
                · refine zz_go C [(61, .iconst 0), (62, .iload_n 2)] (by decide +kernel) (pc' := 63) (lv' := [some (.ref o), some (.int (nI j)), some (.int (bI true)), some (.int (bI true)), none, none]) (st' := [.int (bI true), .int (nI 0), .ref o]) rfl ?_
                  refine zz_if C (i := .ifCond .eq 11) (by decide +kernel) (Pt := (bI true) = 0) (Pf := ¬ (bI true) = 0) (off := 11) (r := [.int (nI 0), .ref o]) (tgt := 74) rfl (by decide) (fun cG => ?_) (fun cG => ?_)
                  · exact absurd cG (by decide)
                  · refine zz_go C [(66, .iload_n 3)] (by decide +kernel) (pc' := 67) (lv' := [some (.ref o), some (.int (nI j)), some (.int (bI true)), some (.int (bI true)), none, none]) (st' := [.int (bI true), .int (nI 0), .ref o]) rfl ?_
                    refine zz_if C (i := .ifCond .ne 7) (by decide +kernel) (Pt := ¬ (bI true) = 0) (Pf := (bI true) = 0) (off := 7) (r := [.int (nI 0), .ref o]) (tgt := 74) rfl (by decide) (fun cH => ?_) (fun cH => ?_)
                    · refine zz_go C [(74, .iconst 0), (75, .iconst 0)] (by decide +kernel) (pc' := 76) (lv' := [some (.ref o), some (.int (nI j)), some (.int (bI true)), some (.int (bI true)), none, none]) (st' := [.int (nI 0), .int (nI 0), .int (nI 0), .ref o]) rfl ?_
                      show zz_Z _ _ _ _ _ _ _ [some (.ref o), some (.int (nI j)), some (.int (bI true)), some (.int (bI true)), none, none] [.int (bI false), .int (bI false), .int (bI false), .ref o]
                      refine zz_cV C E (ci := 3) (As := [.int (bI false), .int (bI false), .int (bI false)]) (rest := []) (hc := h1) md_O_refuse (c_O_refuse l D (zz_ac K) h1 o ad th (m + 1) M V vs1 sn1 sh1 W1 false false false) ml_O_66 im_O_refuse se_O_refuse rfl W1.ob (fun _ _ q => q) rfl rfl (Nat.le_of_ble_eq_true rfl) ⟨by decide, by decide⟩ ⟨(by decide), (by decide)⟩ (by decide +kernel) (fun v0 h2 hp hn hd => ?_) (fun v0 h2 hp hn hd => ?_)
                      · rw [zz_mix_self hd]
                        obtain ⟨hv, W2⟩ := hp
                        cases hv
                        show zz_Z _ _ _ _ _ _ _ _ [.int (bI (false || false || false))]
                        refine zz_if C (i := .ifCond .eq 5) (by decide +kernel) (Pt := (bI (false || false || false)) = 0) (Pf := ¬ (bI (false || false || false)) = 0) (off := 5) (r := []) (tgt := 84) rfl (by decide) (fun cI => ?_) (fun cI => ?_)
                        · have loop : ∀ (g q : Nat), q + g = 10000 → 1 ≤ q → zz_Z K (zz_End K h (fun r' h' => ∃ (r : Int32) (vs' sn' sh' : Nat → Int32), r' = .inl (some (.int r)) ∧ (pbB (nI j) = false → mW h' (zz_ac K) o ad (rfC true false false) (m + 1) M V vs' sn' sh') ∧ (pbB (nI j) = true → (vw (Lm M V) (Rx (nI j))).1 (m + 1) = -1 → mW h' (zz_ac K) o ad (rfC false true false) (m + 1) M V vs' sn' sh') ∧ (pbB (nI j) = true → ¬ (vw (Lm M V) (Rx (nI j))).1 (m + 1) = -1 → r = nI (cnQ (rmQ (Lm M V) (m + 1) (nI j).toNatClampNeg) 10000) ∧ ((vw (Lm (tkM M (10000 * m) (nI j).toNatClampNeg 10000) V) (Rx (nI j))).1 m = -1 → mW h' (zz_ac K) o ad (rfC false false false) (m + 1) (tkM M (10000 * m) (nI j).toNatClampNeg 10000) V vs' sn' sh') ∧ (¬ (vw (Lm (tkM M (10000 * m) (nI j).toNatClampNeg 10000) V) (Rx (nI j))).1 m = -1 → ∃ M', mW h' (zz_ac K) o ad (rfC false false false) (m + 1) M' (upd V (10000 * m + (nI j).toNatClampNeg) (nI 0)) vs' sn' sh' ∧ ptI (tkM M (10000 * m) (nI j).toNatClampNeg 10000) M' (10000 * m) (nI j).toNatClampNeg 0 (nI 4) ∧ ptJ (tkM M (10000 * m) (nI j).toNatClampNeg 10000) M' (10000 * m) (nI j).toNatClampNeg 0 (nI 4))))) h h2 0 0 90 [some (.ref o), some (.int (nI j)), some (.int (bI true)), some (.int (bI true)), some (.int (nI (cnQ (rmQ (Lm M V) (m + 1) j) q))), some (.int (nI q))] [] := by
                            intro g
                            induction g with
                            | zero =>
                              intro q hqg hq1
                              refine zz_go C [(90, .iload 5), (92, .sipush 10000)] (by decide +kernel) (pc' := 95) (lv' := [some (.ref o), some (.int (nI j)), some (.int (bI true)), some (.int (bI true)), some (.int (nI (cnQ (rmQ (Lm M V) (m + 1) j) q))), some (.int (nI q))]) (st' := [.int (nI 10000), .int (nI q)]) rfl ?_
                              refine zz_if C (i := .if_icmp .ge 45) (by decide +kernel) (Pt := (nI 10000) ≤ (nI q)) (Pf := ¬ (nI 10000) ≤ (nI q)) (off := 45) (r := []) (tgt := 140) rfl (by decide) (fun cK => ?_) (fun cK => ?_)
                              · have hq : q = 10000 := by omega
                                refine zz_go C [(140, .aload_n 0), (141, .iload_n 1)] (by decide +kernel) (pc' := 142) (lv' := [some (.ref o), some (.int (nI j)), some (.int (bI true)), some (.int (bI true)), some (.int (nI (cnQ (rmQ (Lm M V) (m + 1) j) q))), some (.int (nI q))]) (st' := [.int (nI j), .ref o]) rfl ?_
                                refine zz_cV C E (ci := 3) (As := [.int (nI j)]) (rest := []) (hc := h2) md_O_takeAway (c_O_takeAway l D (zz_ac K) h2 o ad _ m M V vs1 sn1 sh1 W2 hM j hj0 hj) ml_O_78 im_O_takeAway se_O_takeAway rfl W2.ob (fun _ _ q => q) rfl rfl (Nat.le_of_ble_eq_true rfl) ⟨by decide, by decide⟩ ⟨(by decide), (by decide)⟩ (by decide +kernel) (fun v0 h3 hp hn hd => ?_) (fun v0 h3 hp hn hd => ?_)
                                · rw [zz_mix_self hd]
                                  obtain ⟨hv, vs3, sn3, sh3, t1, t2⟩ := hp
                                  cases hv
                                  show zz_Z _ _ _ _ _ _ _ _ []
                                  refine zz_go C [(145, .iload 4)] (by decide +kernel) (pc' := 147) (lv' := [some (.ref o), some (.int (nI j)), some (.int (bI true)), some (.int (bI true)), some (.int (nI (cnQ (rmQ (Lm M V) (m + 1) j) q))), some (.int (nI q))]) (st' := [.int (nI (cnQ (rmQ (Lm M V) (m + 1) j) q))]) rfl ?_
                                  exact zr_i C E (by decide) (by decide) (by decide +kernel) (⟨_, vs3, sn3, sh3, rfl, (fun z => by rw [hb] at z; cases z), (fun _ z => absurd (by rw [Rx, clj] at z; exact (add1_0 _).mpr z) cE), (fun _ _ => by rw [Rx, clj, hq]; exact ⟨rfl, t1, t2⟩)⟩)
                                · cases hp.1
                              · exact absurd (nI_le (by omega) (by omega)) cK
                            | succ g ih =>
                              intro q hqg hq1
                              refine zz_go C [(90, .iload 5), (92, .sipush 10000)] (by decide +kernel) (pc' := 95) (lv' := [some (.ref o), some (.int (nI j)), some (.int (bI true)), some (.int (bI true)), some (.int (nI (cnQ (rmQ (Lm M V) (m + 1) j) q))), some (.int (nI q))]) (st' := [.int (nI 10000), .int (nI q)]) rfl ?_
                              refine zz_if C (i := .if_icmp .ge 45) (by decide +kernel) (Pt := (nI 10000) ≤ (nI q)) (Pf := ¬ (nI 10000) ≤ (nI q)) (off := 45) (r := []) (tgt := 140) rfl (by decide) (fun cK => ?_) (fun cK => ?_)
                              · exact absurd ((nI_leI (by omega) (by omega)).mp cK) (by omega)
                              · obtain ⟨r1, r2⟩ := rmQ_v (p := j) I1 W1.2.1.2 hq1 (show q ≤ 9999 by omega)
                                refine zz_go C [(98, .aload_n 0)] (by decide +kernel) (pc' := 99) (lv' := [some (.ref o), some (.int (nI j)), some (.int (bI true)), some (.int (bI true)), some (.int (nI (cnQ (rmQ (Lm M V) (m + 1) j) q))), some (.int (nI q))]) (st' := [.ref o]) rfl ?_
                                refine zz_get C fd_O_21 W2.ob (v := .ref (ad 2)) rfl (by decide +kernel) ?_
                                refine zz_go C [(102, .iload 5)] (by decide +kernel) (pc' := 104) (lv' := [some (.ref o), some (.int (nI j)), some (.int (bI true)), some (.int (bI true)), some (.int (nI (cnQ (rmQ (Lm M V) (m + 1) j) q))), some (.int (nI q))]) (st' := [.int (nI q), .ref (ad 2)]) rfl ?_
                                refine ga_ild C W2.2.2.2.2.2.1 (by omega) (by decide) (by decide +kernel) ?_
                                refine zz_if C (i := .ifCond .eq 25) (by decide +kernel) (Pt := (vs1 q) = 0) (Pf := ¬ (vs1 q) = 0) (off := 25) (r := []) (tgt := 130) rfl (by decide) (fun cL => ?_) (fun cL => ?_)
                                · have hz := ih (q + 1) (by omega) (by omega)
                                  refine zz_go C [(130, .iload 4), (132, .istore 4), (134, .iinc 5 1), (137, .goto (-47))] (by decide +kernel) (pc' := 90) (lv' := [some (.ref o), some (.int (nI j)), some (.int (bI true)), some (.int (bI true)), some (.int (nI (cnQ (rmQ (Lm M V) (m + 1) j) q))), some (.int ((nI q) + (nI 1)))]) (st' := []) rfl ?_
                                  rw [show nI q + nI 1 = nI (q + 1) from nI_add q 1]
                                  rw [show cnQ (rmQ (Lm M V) (m + 1) j) (q + 1) = cnQ (rmQ (Lm M V) (m + 1) j) q from by rw [cnQ, show rmQ (Lm M V) (m + 1) j q = false from r1 cL]; rfl] at hz
                                  exact hz
                                · obtain ⟨r3, r4⟩ := r2 cL
                                  refine zz_go C [(108, .iload 5), (110, .iload_n 1)] (by decide +kernel) (pc' := 111) (lv' := [some (.ref o), some (.int (nI j)), some (.int (bI true)), some (.int (bI true)), some (.int (nI (cnQ (rmQ (Lm M V) (m + 1) j) q))), some (.int (nI q))]) (st' := [.int (nI j), .int (nI q)]) rfl ?_
                                  refine zz_if C (i := .if_icmp .eq 12) (by decide +kernel) (Pt := (nI q) = (nI j)) (Pf := ¬ (nI q) = (nI j)) (off := 12) (r := []) (tgt := 123) rfl (by decide) (fun cM => ?_) (fun cM => ?_)
                                  · have hz := ih (q + 1) (by omega) (by omega)
                                    refine zz_go C [(123, .iload 4), (125, .iconst 1), (126, .iadd), (127, .goto 5), (132, .istore 4), (134, .iinc 5 1), (137, .goto (-47))] (by decide +kernel) (pc' := 90) (lv' := [some (.ref o), some (.int (nI j)), some (.int (bI true)), some (.int (bI true)), some (.int ((nI (cnQ (rmQ (Lm M V) (m + 1) j) q)) + (nI 1))), some (.int ((nI q) + (nI 1)))]) (st' := []) rfl ?_
                                    rw [show nI q + nI 1 = nI (q + 1) from nI_add q 1, nI_add]
                                    rw [show cnQ (rmQ (Lm M V) (m + 1) j) (q + 1) = cnQ (rmQ (Lm M V) (m + 1) j) q + 1 from by rw [cnQ, show rmQ (Lm M V) (m + 1) j q = true from by rw [r4, decide_eq_true ((nI_eq (by omega) (by omega)).mp cM)]; rfl]; rfl] at hz
                                    exact hz
                                  · refine zz_go C [(114, .iload 5), (116, .iload_n 1)] (by decide +kernel) (pc' := 117) (lv' := [some (.ref o), some (.int (nI j)), some (.int (bI true)), some (.int (bI true)), some (.int (nI (cnQ (rmQ (Lm M V) (m + 1) j) q))), some (.int (nI q))]) (st' := [.int (nI j), .int (nI q)]) rfl ?_
                                    refine zz_cS C E (As := [.int (nI q), .int (nI j)]) (rest := []) (hc := h2) md_O_isBelow (c_O_isBelow l D (zz_ac K) h2 q j ⟨by omega, r3⟩ hj hj0) ml_O_74 sm_O_isBelow (fun _ _ q => q) rfl rfl (Nat.le_of_ble_eq_true rfl) ⟨by decide, by decide⟩ ⟨(by decide), (by decide)⟩ (by decide +kernel) (fun v0 h9 hp hn hd => ?_) (fun v0 h9 hp hn hd => ?_)
                                    · rw [zz_mix_self hd]
                                      obtain ⟨hh, hv⟩ := hp
                                      rw [hh]
                                      cases hv
                                      show zz_Z _ _ _ _ _ _ _ _ [.int (bI (blB q j))]
                                      refine zz_if C (i := .ifCond .eq 10) (by decide +kernel) (Pt := (bI (blB q j)) = 0) (Pf := ¬ (bI (blB q j)) = 0) (off := 10) (r := []) (tgt := 130) rfl (by decide) (fun cN => ?_) (fun cN => ?_)
                                      · have hz := ih (q + 1) (by omega) (by omega)
                                        refine zz_go C [(130, .iload 4), (132, .istore 4), (134, .iinc 5 1), (137, .goto (-47))] (by decide +kernel) (pc' := 90) (lv' := [some (.ref o), some (.int (nI j)), some (.int (bI true)), some (.int (bI true)), some (.int (nI (cnQ (rmQ (Lm M V) (m + 1) j) q))), some (.int ((nI q) + (nI 1)))]) (st' := []) rfl ?_
                                        rw [show nI q + nI 1 = nI (q + 1) from nI_add q 1]
                                        rw [show cnQ (rmQ (Lm M V) (m + 1) j) (q + 1) = cnQ (rmQ (Lm M V) (m + 1) j) q from by rw [cnQ, show rmQ (Lm M V) (m + 1) j q = false from by rw [r4, decide_eq_false (show ¬ q = j from fun e => cM (by rw [e])), (bI_0 _).mp cN]; rfl]; rfl] at hz
                                        exact hz
                                      · have hz := ih (q + 1) (by omega) (by omega)
                                        refine zz_go C [(123, .iload 4), (125, .iconst 1), (126, .iadd), (127, .goto 5), (132, .istore 4), (134, .iinc 5 1), (137, .goto (-47))] (by decide +kernel) (pc' := 90) (lv' := [some (.ref o), some (.int (nI j)), some (.int (bI true)), some (.int (bI true)), some (.int ((nI (cnQ (rmQ (Lm M V) (m + 1) j) q)) + (nI 1))), some (.int ((nI q) + (nI 1)))]) (st' := []) rfl ?_
                                        rw [show nI q + nI 1 = nI (q + 1) from nI_add q 1, nI_add]
                                        rw [show cnQ (rmQ (Lm M V) (m + 1) j) (q + 1) = cnQ (rmQ (Lm M V) (m + 1) j) q + 1 from by rw [cnQ, show rmQ (Lm M V) (m + 1) j q = true from by rw [r4, bI_1 cN, Bool.or_true]]; rfl] at hz
                                        exact hz
                                    · cases hp.2
                          refine zz_go C [(84, .iconst 0), (85, .istore 4), (87, .iconst 1), (88, .istore 5)] (by decide +kernel) (pc' := 90) (lv' := [some (.ref o), some (.int (nI j)), some (.int (bI true)), some (.int (bI true)), some (.int (nI 0)), some (.int (nI 1))]) (st' := []) rfl ?_
                          exact loop 9999 1 (by omega) (by omega)
                        · exact absurd rfl cI
                      · cases hp.1
                    · exact absurd cH (by decide)
                · exact absurd cF (by decide)
        · cases hp.1
  · cases hp.2
