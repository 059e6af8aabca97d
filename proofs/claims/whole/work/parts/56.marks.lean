/-! ===== marks of the model ===== -/
def lyB (y : Int32) (n : Nat) : Bool := inB y (nI 0) (nI (n - 1))
def pbB (x : Int32) : Bool := isP x && decide (¬ x = 0)
theorem lyB_of {y : Int32} {n : Nat} (h1 : 1 ≤ n) (hn : n ≤ 8) (h : lyB y n = true) : ∃ i : Nat, y = nI i ∧ i < n := by
  have h2 := of_decide_eq_true h
  obtain ⟨i, hi, rfl⟩ := nI_of (x := y) (fun e => absurd (show (0 : Int32) ≤ y from h2.1) (Int32.not_le.mpr e))
  have := (nI_leI hi (by omega)).mp h2.2
  exact ⟨i, rfl, by omega⟩
theorem pbB_of {x : Int32} (h : pbB x = true) : ∃ j : Nat, x = nI j ∧ (j ≤ 9999 ∧ pok j = true) ∧ ¬ j = 0 := by
  unfold pbB at h
  rw [Bool.and_eq_true] at h
  obtain ⟨j, rfl, h9, hp⟩ := isP_of (x := x) (fun e => by rw [e] at h; cases h.1)
  exact ⟨j, rfl, ⟨h9, hp⟩, fun e => of_decide_eq_true h.2 (by rw [e]; rfl)⟩
theorem n_pred {n : Nat} (h : 1 ≤ n) : nI n - nI 1 = nI (n - 1) := by
  obtain ⟨m, rfl⟩ : ∃ m, n = m + 1 := ⟨n - 1, by omega⟩
  exact nI_pred m
/-- how many marks a layer has among the numbers below p -/
def cnQ (f : Nat → Bool) : Nat → Nat
  | 0 => 0
  | p + 1 => cnQ f p + (if f p then 1 else 0)
def mkQ (M : Nat → Int32) (i p : Nat) : Bool := decide (¬ p = 0) && decide (¬ M (10000 * i + p) = 0)
set_option maxHeartbeats 4000000 in
theorem c_O_mark (l : Launch) (D : va_G) (aC : Nat → ClassId) (h : zz_Hp) (o : Nat) (ad : Nat → Nat) (th : Int32) (n : Nat) (M V vs sn sh : Nat → Int32) (W : mW h aC o ad th n M V vs sn sh) (y x : Int32) :
    zz_Ct l D aC y_O_mark (zrm 2 0 0 80) [.ref o, .int y, .int x] h (fun r' h' => ∃ r : Int32, r' = .inl (some (.int r)) ∧ mW h' aC o ad (rfC (!(lyB y n)) (lyB y n && !(pbB x)) false) n M V vs sn sh ∧ (lyB y n = true → pbB x = true → r = M (10000 * y.toNatClampNeg + x.toNatClampNeg) - nI 1)) := by
  refine zz_ct md_O_mark rfl (by simp [Value.category]) (Nat.le_of_ble_eq_true rfl) fun K C E hI => ?_
  obtain rfl := E.ac
  have n8 := W.1
  refine zz_go C [(0, .iload_n 1), (1, .iconst 0), (2, .aload_n 0)] (by decide +kernel) (pc' := 3) (lv' := [some (.ref o), some (.int y), some (.int x), none]) (st' := [.ref o, .int (nI 0), .int y]) rfl ?_
  refine zz_get C fd_O_7 W.ob (v := .int (nI n)) rfl (by decide +kernel) ?_
  refine zz_go C [(6, .iconst 1), (7, .isub)] (by decide +kernel) (pc' := 8) (lv' := [some (.ref o), some (.int y), some (.int x), none]) (st' := [.int ((nI n) - (nI 1)), .int (nI 0), .int y]) rfl ?_
  rw [n_pred n8.1]
  refine zz_cS C E (As := [.int y, .int (nI 0), .int (nI (n - 1))]) (rest := []) (hc := h) md_O_in (c_O_in l D (zz_ac K) h y (nI 0) (nI (n - 1))) ml_O_51 sm_O_in (fun _ _ q => q) rfl rfl (Nat.le_of_ble_eq_true rfl) ⟨by decide, by decide⟩ ⟨(by decide), (by decide)⟩ (by decide +kernel) (fun v h' hp hn hd => ?_) (fun v h' hp hn hd => ?_)
  · rw [zz_mix_self hd]
    obtain ⟨hh, hv⟩ := hp
    rw [hh]
    cases hv
    show zz_Z _ _ _ _ _ _ _ _ [.int (bI (inB y (nI 0) (nI (n - 1))))]
    cases hg : inB y (nI 0) (nI (n - 1)) with
    | false =>
      have hl : lyB y n = false := hg
      show zz_Z _ _ _ _ _ _ _ [some (.ref o), some (.int y), some (.int x), none] [.int (bI false)]
      refine zz_go C [(11, .istore_n 3), (12, .aload_n 0), (13, .iload_n 3)] (by decide +kernel) (pc' := 14) (lv' := [some (.ref o), some (.int y), some (.int x), some (.int (bI false))]) (st' := [.int (bI false), .ref o]) rfl ?_
      refine zz_if C (i := .ifCond .ne 7) (by decide +kernel) (Pt := ¬ (bI false) = 0) (Pf := (bI false) = 0) (off := 7) (r := [.ref o]) (tgt := 21) rfl (by decide) (fun cB => ?_) (fun cB => ?_)
      · exact absurd rfl cB
      · refine zz_go C [(17, .iconst 1), (18, .goto 4), (22, .iload_n 3)] (by decide +kernel) (pc' := 23) (lv' := [some (.ref o), some (.int y), some (.int x), some (.int (bI false))]) (st' := [.int (bI false), .int (nI 1), .ref o]) rfl ?_
        refine zz_if C (i := .ifCond .eq 18) (by decide +kernel) (Pt := (bI false) = 0) (Pf := ¬ (bI false) = 0) (off := 18) (r := [.int (nI 1), .ref o]) (tgt := 41) rfl (by decide) (fun cC => ?_) (fun cC => ?_)
        · refine zz_go C [(41, .iconst 0), (42, .iconst 0)] (by decide +kernel) (pc' := 43) (lv' := [some (.ref o), some (.int y), some (.int x), some (.int (bI false))]) (st' := [.int (nI 0), .int (nI 0), .int (nI 1), .ref o]) rfl ?_
          show zz_Z _ _ _ _ _ _ _ [some (.ref o), some (.int y), some (.int x), some (.int (bI false))] [.int (bI false), .int (bI false), .int (bI true), .ref o]
          refine zz_cV C E (ci := 3) (As := [.int (bI true), .int (bI false), .int (bI false)]) (rest := []) (hc := h) md_O_refuse (c_O_refuse l D (zz_ac K) h o ad th n M V vs sn sh W true false false) ml_O_66 im_O_refuse se_O_refuse rfl W.ob (fun _ _ q => q) rfl rfl (Nat.le_of_ble_eq_true rfl) ⟨by decide, by decide⟩ ⟨(by decide), (by decide)⟩ (by decide +kernel) (fun v0 h2 hp hn hd => ?_) (fun v0 h2 hp hn hd => ?_)
          · rw [zz_mix_self hd]
            obtain ⟨hv, W2⟩ := hp
            cases hv
            show zz_Z _ _ _ _ _ _ _ _ [.int (bI (true || false || false))]
            refine zz_if C (i := .ifCond .eq 5) (by decide +kernel) (Pt := (bI (true || false || false)) = 0) (Pf := ¬ (bI (true || false || false)) = 0) (off := 5) (r := []) (tgt := 51) rfl (by decide) (fun cD => ?_) (fun cD => ?_)
            · exact absurd cD (by decide)
            · refine zz_go C [(49, .iconst 0)] (by decide +kernel) (pc' := 50) (lv' := [some (.ref o), some (.int y), some (.int x), some (.int (bI false))]) (st' := [.int (nI 0)]) rfl ?_
              exact zr_i C E (by decide) (by decide) (by decide +kernel) (⟨_, rfl, by rw [hl]; exact W2, fun z => by rw [hl] at z; cases z⟩)
          · cases hp.1
        · exact absurd rfl cC
    | true =>
      have hl : lyB y n = true := hg
      show zz_Z _ _ _ _ _ _ _ [some (.ref o), some (.int y), some (.int x), none] [.int (bI true)]
      refine zz_go C [(11, .istore_n 3), (12, .aload_n 0), (13, .iload_n 3)] (by decide +kernel) (pc' := 14) (lv' := [some (.ref o), some (.int y), some (.int x), some (.int (bI true))]) (st' := [.int (bI true), .ref o]) rfl ?_
      refine zz_if C (i := .ifCond .ne 7) (by decide +kernel) (Pt := ¬ (bI true) = 0) (Pf := (bI true) = 0) (off := 7) (r := [.ref o]) (tgt := 21) rfl (by decide) (fun cB => ?_) (fun cB => ?_)
      · refine zz_go C [(21, .iconst 0), (22, .iload_n 3)] (by decide +kernel) (pc' := 23) (lv' := [some (.ref o), some (.int y), some (.int x), some (.int (bI true))]) (st' := [.int (bI true), .int (nI 0), .ref o]) rfl ?_
        refine zz_if C (i := .ifCond .eq 18) (by decide +kernel) (Pt := (bI true) = 0) (Pf := ¬ (bI true) = 0) (off := 18) (r := [.int (nI 0), .ref o]) (tgt := 41) rfl (by decide) (fun cC => ?_) (fun cC => ?_)
        · exact absurd cC (by decide)
        · refine zz_go C [(26, .iload_n 2)] (by decide +kernel) (pc' := 27) (lv' := [some (.ref o), some (.int y), some (.int x), some (.int (bI true))]) (st' := [.int x, .int (nI 0), .ref o]) rfl ?_
          refine zz_cS C E (As := [.int x]) (rest := [.int (nI 0), .ref o]) (hc := h) md_O_isPath (c_O_isPath l D (zz_ac K) h x) ml_O_37 sm_O_isPath (fun _ _ q => q) rfl rfl (Nat.le_of_ble_eq_true rfl) ⟨by decide, by decide⟩ ⟨(by decide), (by decide)⟩ (by decide +kernel) (fun v h' hp hn hd => ?_) (fun v h' hp hn hd => ?_)
          · rw [zz_mix_self hd]
            obtain ⟨hh, hv⟩ := hp
            rw [hh]
            cases hv
            show zz_Z _ _ _ _ _ _ _ _ [.int (bI (isP x)), .int (nI 0), .ref o]
            refine zz_if C (i := .ifCond .eq 7) (by decide +kernel) (Pt := (bI (isP x)) = 0) (Pf := ¬ (bI (isP x)) = 0) (off := 7) (r := [.int (nI 0), .ref o]) (tgt := 37) rfl (by decide) (fun cD => ?_) (fun cD => ?_)
            · have hb : pbB x = false := by rw [pbB, (bI_0 _).mp cD, Bool.false_and]
              refine zz_go C [(37, .iconst 1), (38, .goto 4), (42, .iconst 0)] (by decide +kernel) (pc' := 43) (lv' := [some (.ref o), some (.int y), some (.int x), some (.int (bI true))]) (st' := [.int (nI 0), .int (nI 1), .int (nI 0), .ref o]) rfl ?_
              show zz_Z _ _ _ _ _ _ _ [some (.ref o), some (.int y), some (.int x), some (.int (bI true))] [.int (bI false), .int (bI true), .int (bI false), .ref o]
              refine zz_cV C E (ci := 3) (As := [.int (bI false), .int (bI true), .int (bI false)]) (rest := []) (hc := h) md_O_refuse (c_O_refuse l D (zz_ac K) h o ad th n M V vs sn sh W false true false) ml_O_66 im_O_refuse se_O_refuse rfl W.ob (fun _ _ q => q) rfl rfl (Nat.le_of_ble_eq_true rfl) ⟨by decide, by decide⟩ ⟨(by decide), (by decide)⟩ (by decide +kernel) (fun v0 h2 hp hn hd => ?_) (fun v0 h2 hp hn hd => ?_)
              · rw [zz_mix_self hd]
                obtain ⟨hv, W2⟩ := hp
                cases hv
                show zz_Z _ _ _ _ _ _ _ _ [.int (bI (false || true || false))]
                refine zz_if C (i := .ifCond .eq 5) (by decide +kernel) (Pt := (bI (false || true || false)) = 0) (Pf := ¬ (bI (false || true || false)) = 0) (off := 5) (r := []) (tgt := 51) rfl (by decide) (fun cF => ?_) (fun cF => ?_)
                · exact absurd cF (by decide)
                · refine zz_go C [(49, .iconst 0)] (by decide +kernel) (pc' := 50) (lv' := [some (.ref o), some (.int y), some (.int x), some (.int (bI true))]) (st' := [.int (nI 0)]) rfl ?_
                  exact zr_i C E (by decide) (by decide) (by decide +kernel) (⟨_, rfl, by rw [hl, hb]; exact W2, fun _ z => by rw [hb] at z; cases z⟩)
              · cases hp.1
            · refine zz_go C [(33, .iload_n 2)] (by decide +kernel) (pc' := 34) (lv' := [some (.ref o), some (.int y), some (.int x), some (.int (bI true))]) (st' := [.int x, .int (nI 0), .ref o]) rfl ?_
              refine zz_if C (i := .ifCond .ne 7) (by decide +kernel) (Pt := ¬ x = 0) (Pf := x = 0) (off := 7) (r := [.int (nI 0), .ref o]) (tgt := 41) rfl (by decide) (fun cE => ?_) (fun cE => ?_)
              · have hb : pbB x = true := by rw [pbB, bI_1 cD, decide_eq_true cE]; rfl
                refine zz_go C [(41, .iconst 0), (42, .iconst 0)] (by decide +kernel) (pc' := 43) (lv' := [some (.ref o), some (.int y), some (.int x), some (.int (bI true))]) (st' := [.int (nI 0), .int (nI 0), .int (nI 0), .ref o]) rfl ?_
                show zz_Z _ _ _ _ _ _ _ [some (.ref o), some (.int y), some (.int x), some (.int (bI true))] [.int (bI false), .int (bI false), .int (bI false), .ref o]
                refine zz_cV C E (ci := 3) (As := [.int (bI false), .int (bI false), .int (bI false)]) (rest := []) (hc := h) md_O_refuse (c_O_refuse l D (zz_ac K) h o ad th n M V vs sn sh W false false false) ml_O_66 im_O_refuse se_O_refuse rfl W.ob (fun _ _ q => q) rfl rfl (Nat.le_of_ble_eq_true rfl) ⟨by decide, by decide⟩ ⟨(by decide), (by decide)⟩ (by decide +kernel) (fun v0 h2 hp hn hd => ?_) (fun v0 h2 hp hn hd => ?_)
                · rw [zz_mix_self hd]
                  obtain ⟨hv, W2⟩ := hp
                  cases hv
                  show zz_Z _ _ _ _ _ _ _ _ [.int (bI (false || false || false))]
                  refine zz_if C (i := .ifCond .eq 5) (by decide +kernel) (Pt := (bI (false || false || false)) = 0) (Pf := ¬ (bI (false || false || false)) = 0) (off := 5) (r := []) (tgt := 51) rfl (by decide) (fun cF => ?_) (fun cF => ?_)
                  · obtain ⟨i, rfl, hi⟩ := lyB_of n8.1 n8.2 hl
                    obtain ⟨j, rfl, hj, hj0⟩ := pbB_of hb
                    refine zz_go C [(51, .aload_n 0)] (by decide +kernel) (pc' := 52) (lv' := [some (.ref o), some (.int (nI i)), some (.int (nI j)), some (.int (bI true))]) (st' := [.ref o]) rfl ?_
                    refine zz_get C fd_O_14 W2.ob (v := .ref (ad 0)) rfl (by decide +kernel) ?_
                    refine zz_go C [(55, .sipush 10000), (58, .iload_n 1), (59, .imul), (60, .iload_n 2), (61, .iadd)] (by decide +kernel) (pc' := 62) (lv' := [some (.ref o), some (.int (nI i)), some (.int (nI j)), some (.int (bI true))]) (st' := [.int (((nI 10000) * (nI i)) + (nI j)), .ref (ad 0)]) rfl ?_
                    rw [ix_m]
                    refine ga_ild C W2.2.2.2.1 (by omega) (by decide) (by decide +kernel) ?_
                    refine zz_go C [(63, .iconst 1), (64, .isub)] (by decide +kernel) (pc' := 65) (lv' := [some (.ref o), some (.int (nI i)), some (.int (nI j)), some (.int (bI true))]) (st' := [.int ((M (10000 * i + j)) - (nI 1))]) rfl ?_
                    exact zr_i C E (by decide) (by decide) (by decide +kernel) (⟨_, rfl, by rw [hl, hb]; exact W2, fun _ _ => by rw [nI_clamp (by omega), nI_clamp (by omega)]⟩)
                  · exact absurd rfl cF
                · cases hp.1
              · have hb : pbB x = false := by rw [pbB, decide_eq_false (fun z => z cE), Bool.and_false]
                refine zz_go C [(37, .iconst 1), (38, .goto 4), (42, .iconst 0)] (by decide +kernel) (pc' := 43) (lv' := [some (.ref o), some (.int y), some (.int x), some (.int (bI true))]) (st' := [.int (nI 0), .int (nI 1), .int (nI 0), .ref o]) rfl ?_
                show zz_Z _ _ _ _ _ _ _ [some (.ref o), some (.int y), some (.int x), some (.int (bI true))] [.int (bI false), .int (bI true), .int (bI false), .ref o]
                refine zz_cV C E (ci := 3) (As := [.int (bI false), .int (bI true), .int (bI false)]) (rest := []) (hc := h) md_O_refuse (c_O_refuse l D (zz_ac K) h o ad th n M V vs sn sh W false true false) ml_O_66 im_O_refuse se_O_refuse rfl W.ob (fun _ _ q => q) rfl rfl (Nat.le_of_ble_eq_true rfl) ⟨by decide, by decide⟩ ⟨(by decide), (by decide)⟩ (by decide +kernel) (fun v0 h2 hp hn hd => ?_) (fun v0 h2 hp hn hd => ?_)
                · rw [zz_mix_self hd]
                  obtain ⟨hv, W2⟩ := hp
                  cases hv
                  show zz_Z _ _ _ _ _ _ _ _ [.int (bI (false || true || false))]
                  refine zz_if C (i := .ifCond .eq 5) (by decide +kernel) (Pt := (bI (false || true || false)) = 0) (Pf := ¬ (bI (false || true || false)) = 0) (off := 5) (r := []) (tgt := 51) rfl (by decide) (fun cF => ?_) (fun cF => ?_)
                  · exact absurd cF (by decide)
                  · refine zz_go C [(49, .iconst 0)] (by decide +kernel) (pc' := 50) (lv' := [some (.ref o), some (.int y), some (.int x), some (.int (bI true))]) (st' := [.int (nI 0)]) rfl ?_
                    exact zr_i C E (by decide) (by decide) (by decide +kernel) (⟨_, rfl, by rw [hl, hb]; exact W2, fun _ z => by rw [hb] at z; cases z⟩)
                · cases hp.1
          · cases hp.2
      · exact absurd cB (by decide)
  · cases hp.2
set_option maxHeartbeats 4000000 in
theorem c_O_marks (l : Launch) (D : va_G) (aC : Nat → ClassId) (h : zz_Hp) (o : Nat) (ad : Nat → Nat) (th : Int32) (n : Nat) (M V vs sn sh : Nat → Int32) (W : mW h aC o ad th n M V vs sn sh) (y : Int32) :
    zz_Ct l D aC y_O_marks (zrm 2 0 0 80) [.ref o, .int y] h (fun r' h' => ∃ r : Int32, r' = .inl (some (.int r)) ∧ mW h' aC o ad (rfC (!(lyB y n)) false false) n M V vs sn sh ∧ (lyB y n = true → r = nI (cnQ (mkQ M y.toNatClampNeg) 10000))) := by
  refine zz_ct md_O_marks rfl (by simp [Value.category]) (Nat.le_of_ble_eq_true rfl) fun K C E hI => ?_
  obtain rfl := E.ac
  have n8 := W.1
  refine zz_go C [(0, .aload_n 0), (1, .iload_n 1), (2, .iconst 0), (3, .aload_n 0)] (by decide +kernel) (pc' := 4) (lv' := [some (.ref o), some (.int y), none, none]) (st' := [.ref o, .int (nI 0), .int y, .ref o]) rfl ?_
  refine zz_get C fd_O_7 W.ob (v := .int (nI n)) rfl (by decide +kernel) ?_
  refine zz_go C [(7, .iconst 1), (8, .isub)] (by decide +kernel) (pc' := 9) (lv' := [some (.ref o), some (.int y), none, none]) (st' := [.int ((nI n) - (nI 1)), .int (nI 0), .int y, .ref o]) rfl ?_
  rw [n_pred n8.1]
  refine zz_cS C E (As := [.int y, .int (nI 0), .int (nI (n - 1))]) (rest := [.ref o]) (hc := h) md_O_in (c_O_in l D (zz_ac K) h y (nI 0) (nI (n - 1))) ml_O_51 sm_O_in (fun _ _ q => q) rfl rfl (Nat.le_of_ble_eq_true rfl) ⟨by decide, by decide⟩ ⟨(by decide), (by decide)⟩ (by decide +kernel) (fun v h' hp hn hd => ?_) (fun v h' hp hn hd => ?_)
  · rw [zz_mix_self hd]
    obtain ⟨hh, hv⟩ := hp
    rw [hh]
    cases hv
    show zz_Z _ _ _ _ _ _ _ _ [.int (bI (inB y (nI 0) (nI (n - 1)))), .ref o]
    cases hg : inB y (nI 0) (nI (n - 1)) with
    | false =>
      have hl : lyB y n = false := hg
      show zz_Z _ _ _ _ _ _ _ [some (.ref o), some (.int y), none, none] [.int (bI false), .ref o]
      refine zz_if C (i := .ifCond .ne 7) (by decide +kernel) (Pt := ¬ (bI false) = 0) (Pf := (bI false) = 0) (off := 7) (r := [.ref o]) (tgt := 19) rfl (by decide) (fun cB => ?_) (fun cB => ?_)
      · exact absurd rfl cB
      · refine zz_go C [(15, .iconst 1), (16, .goto 4), (20, .iconst 0), (21, .iconst 0)] (by decide +kernel) (pc' := 22) (lv' := [some (.ref o), some (.int y), none, none]) (st' := [.int (nI 0), .int (nI 0), .int (nI 1), .ref o]) rfl ?_
        show zz_Z _ _ _ _ _ _ _ [some (.ref o), some (.int y), none, none] [.int (bI false), .int (bI false), .int (bI true), .ref o]
        refine zz_cV C E (ci := 3) (As := [.int (bI true), .int (bI false), .int (bI false)]) (rest := []) (hc := h) md_O_refuse (c_O_refuse l D (zz_ac K) h o ad th n M V vs sn sh W true false false) ml_O_66 im_O_refuse se_O_refuse rfl W.ob (fun _ _ q => q) rfl rfl (Nat.le_of_ble_eq_true rfl) ⟨by decide, by decide⟩ ⟨(by decide), (by decide)⟩ (by decide +kernel) (fun v0 h2 hp hn hd => ?_) (fun v0 h2 hp hn hd => ?_)
        · rw [zz_mix_self hd]
          obtain ⟨hv, W2⟩ := hp
          cases hv
          show zz_Z _ _ _ _ _ _ _ _ [.int (bI (true || false || false))]
          refine zz_if C (i := .ifCond .eq 5) (by decide +kernel) (Pt := (bI (true || false || false)) = 0) (Pf := ¬ (bI (true || false || false)) = 0) (off := 5) (r := []) (tgt := 30) rfl (by decide) (fun cD => ?_) (fun cD => ?_)
          · exact absurd cD (by decide)
          · refine zz_go C [(28, .iconst 0)] (by decide +kernel) (pc' := 29) (lv' := [some (.ref o), some (.int y), none, none]) (st' := [.int (nI 0)]) rfl ?_
            exact zr_i C E (by decide) (by decide) (by decide +kernel) (⟨_, rfl, by rw [hl]; exact W2, fun z => by rw [hl] at z; cases z⟩)
        · cases hp.1
    | true =>
      have hl : lyB y n = true := hg
      show zz_Z _ _ _ _ _ _ _ [some (.ref o), some (.int y), none, none] [.int (bI true), .ref o]
      refine zz_if C (i := .ifCond .ne 7) (by decide +kernel) (Pt := ¬ (bI true) = 0) (Pf := (bI true) = 0) (off := 7) (r := [.ref o]) (tgt := 19) rfl (by decide) (fun cB => ?_) (fun cB => ?_)
      · refine zz_go C [(19, .iconst 0), (20, .iconst 0), (21, .iconst 0)] (by decide +kernel) (pc' := 22) (lv' := [some (.ref o), some (.int y), none, none]) (st' := [.int (nI 0), .int (nI 0), .int (nI 0), .ref o]) rfl ?_
        show zz_Z _ _ _ _ _ _ _ [some (.ref o), some (.int y), none, none] [.int (bI false), .int (bI false), .int (bI false), .ref o]
        refine zz_cV C E (ci := 3) (As := [.int (bI false), .int (bI false), .int (bI false)]) (rest := []) (hc := h) md_O_refuse (c_O_refuse l D (zz_ac K) h o ad th n M V vs sn sh W false false false) ml_O_66 im_O_refuse se_O_refuse rfl W.ob (fun _ _ q => q) rfl rfl (Nat.le_of_ble_eq_true rfl) ⟨by decide, by decide⟩ ⟨(by decide), (by decide)⟩ (by decide +kernel) (fun v0 h2 hp hn hd => ?_) (fun v0 h2 hp hn hd => ?_)
        · rw [zz_mix_self hd]
          obtain ⟨hv, W2⟩ := hp
          cases hv
          show zz_Z _ _ _ _ _ _ _ _ [.int (bI (false || false || false))]
          refine zz_if C (i := .ifCond .eq 5) (by decide +kernel) (Pt := (bI (false || false || false)) = 0) (Pf := ¬ (bI (false || false || false)) = 0) (off := 5) (r := []) (tgt := 30) rfl (by decide) (fun cD => ?_) (fun cD => ?_)
          · obtain ⟨i, rfl, hi⟩ := lyB_of n8.1 n8.2 hl
            have loop : ∀ (g p : Nat), p + g = 10000 → 1 ≤ p → zz_Z K (zz_End K h (fun r' h' => ∃ r : Int32, r' = .inl (some (.int r)) ∧ mW h' (zz_ac K) o ad (rfC (!(lyB (nI i) n)) false false) n M V vs sn sh ∧ (lyB (nI i) n = true → r = nI (cnQ (mkQ M (nI i).toNatClampNeg) 10000)))) h h2 (0 + (zrm 0 0 0 0).cells + (zrm 0 0 0 0).cells) (0 + (zrm 0 0 0 0).slots + (zrm 0 0 0 0).slots) 34 [some (.ref o), some (.int (nI i)), some (.int (nI (cnQ (mkQ M i) p))), some (.int (nI p))] [] := by
              intro g
              induction g with
              | zero =>
                intro p hpg hp1
                refine zz_go C [(34, .iload_n 3), (35, .sipush 10000)] (by decide +kernel) (pc' := 38) (lv' := [some (.ref o), some (.int (nI i)), some (.int (nI (cnQ (mkQ M i) p))), some (.int (nI p))]) (st' := [.int (nI 10000), .int (nI p)]) rfl ?_
                refine zz_if C (i := .if_icmp .ge 32) (by decide +kernel) (Pt := (nI 10000) ≤ (nI p)) (Pf := ¬ (nI 10000) ≤ (nI p)) (off := 32) (r := []) (tgt := 70) rfl (by decide) (fun cE => ?_) (fun cE => ?_)
                · have hp : p = 10000 := by omega
                  refine zz_go C [(70, .iload_n 2)] (by decide +kernel) (pc' := 71) (lv' := [some (.ref o), some (.int (nI i)), some (.int (nI (cnQ (mkQ M i) p))), some (.int (nI p))]) (st' := [.int (nI (cnQ (mkQ M i) p))]) rfl ?_
                  exact zr_i C E (by decide) (by decide) (by decide +kernel) (⟨_, rfl, by rw [hl]; exact W2, fun _ => by rw [nI_clamp (by omega), hp]⟩)
                · exact absurd (nI_le (by omega) (by omega)) cE
              | succ g ih =>
                intro p hpg hp1
                refine zz_go C [(34, .iload_n 3), (35, .sipush 10000)] (by decide +kernel) (pc' := 38) (lv' := [some (.ref o), some (.int (nI i)), some (.int (nI (cnQ (mkQ M i) p))), some (.int (nI p))]) (st' := [.int (nI 10000), .int (nI p)]) rfl ?_
                refine zz_if C (i := .if_icmp .ge 32) (by decide +kernel) (Pt := (nI 10000) ≤ (nI p)) (Pf := ¬ (nI 10000) ≤ (nI p)) (off := 32) (r := []) (tgt := 70) rfl (by decide) (fun cE => ?_) (fun cE => ?_)
                · exact absurd ((nI_leI (by omega) (by omega)).mp cE) (by omega)
                · refine zz_go C [(41, .aload_n 0)] (by decide +kernel) (pc' := 42) (lv' := [some (.ref o), some (.int (nI i)), some (.int (nI (cnQ (mkQ M i) p))), some (.int (nI p))]) (st' := [.ref o]) rfl ?_
                  refine zz_get C fd_O_14 W2.ob (v := .ref (ad 0)) rfl (by decide +kernel) ?_
                  refine zz_go C [(45, .sipush 10000), (48, .iload_n 1), (49, .imul), (50, .iload_n 3), (51, .iadd)] (by decide +kernel) (pc' := 52) (lv' := [some (.ref o), some (.int (nI i)), some (.int (nI (cnQ (mkQ M i) p))), some (.int (nI p))]) (st' := [.int (((nI 10000) * (nI i)) + (nI p)), .ref (ad 0)]) rfl ?_
                  rw [ix_m]
                  refine ga_ild C W2.2.2.2.1 (by omega) (by decide) (by decide +kernel) ?_
                  refine zz_if C (i := .ifCond .eq 9) (by decide +kernel) (Pt := (M (10000 * i + p)) = 0) (Pf := ¬ (M (10000 * i + p)) = 0) (off := 9) (r := []) (tgt := 62) rfl (by decide) (fun cF => ?_) (fun cF => ?_)
                  · refine zz_go C [(62, .iload_n 2), (63, .istore_n 2), (64, .iinc 3 1), (67, .goto (-33))] (by decide +kernel) (pc' := 34) (lv' := [some (.ref o), some (.int (nI i)), some (.int (nI (cnQ (mkQ M i) p))), some (.int ((nI p) + (nI 1)))]) (st' := []) rfl ?_
                    rw [show nI p + nI 1 = nI (p + 1) from nI_add p 1]
                    have hz := ih (p + 1) (by omega) (by omega)
                    rw [show cnQ (mkQ M i) (p + 1) = cnQ (mkQ M i) p from by rw [cnQ, show mkQ M i p = false from by rw [mkQ, decide_eq_false (show ¬ ¬ M (10000 * i + p) = 0 from fun z => z cF), Bool.and_false]]; rfl] at hz
                    exact hz
                  · refine zz_go C [(56, .iload_n 2), (57, .iconst 1), (58, .iadd), (59, .goto 4), (63, .istore_n 2), (64, .iinc 3 1), (67, .goto (-33))] (by decide +kernel) (pc' := 34) (lv' := [some (.ref o), some (.int (nI i)), some (.int ((nI (cnQ (mkQ M i) p)) + (nI 1))), some (.int ((nI p) + (nI 1)))]) (st' := []) rfl ?_
                    rw [show nI p + nI 1 = nI (p + 1) from nI_add p 1, nI_add]
                    have hz := ih (p + 1) (by omega) (by omega)
                    rw [show cnQ (mkQ M i) (p + 1) = cnQ (mkQ M i) p + 1 from by rw [cnQ, show mkQ M i p = true from by rw [mkQ, decide_eq_true cF, decide_eq_true (show ¬ p = 0 by omega)]; rfl]; rfl] at hz
                    exact hz
            refine zz_go C [(30, .iconst 0), (31, .istore_n 2), (32, .iconst 1), (33, .istore_n 3)] (by decide +kernel) (pc' := 34) (lv' := [some (.ref o), some (.int (nI i)), some (.int (nI 0)), some (.int (nI 1))]) (st' := []) rfl ?_
            exact loop 9999 1 (by omega) (by omega)
          · exact absurd rfl cD
        · cases hp.1
      · exact absurd cB (by decide)
  · cases hp.2
