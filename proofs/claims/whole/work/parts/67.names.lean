/-! ===== names of the model ===== -/
def ntU (j : Nat) : Nat := if j = 0 then 1 else if j < 10 then 10 else if j < 100 then 100 else if j < 1000 then 1000 else 0
def chC (j : Nat) : Bool := !(pok j) || (decide ((rp j).length < 4) == decide (j < 1000)) && (decide (1000 ≤ j) || (List.range 9).all fun x => pok (j + ntU j * (x + 1)) && decide (rp (j + ntU j * (x + 1)) = (x + 1) :: rp j) && decide (j + ntU j * (x + 1) ≤ 9999))
theorem chC_ok : ((List.range 10).all fun a => (List.range 10).all fun b => (List.range 10).all fun c => (List.range 10).all fun d => chC (a + 10 * b + 100 * c + 1000 * d)) = true := by decide +kernel
theorem rp_l4 {j : Nat} (h9 : j ≤ 9999) (hp : pok j = true) : (rp j).length < 4 ↔ j < 1000 := by
  have h := dg_all chC chC_ok j h9
  unfold chC at h
  rw [hp, Bool.not_true, Bool.false_or, Bool.and_eq_true] at h
  have e := eq_of_beq h.1
  exact ⟨fun z => of_decide_eq_true (e ▸ decide_eq_true z), fun z => of_decide_eq_true (e.symm ▸ decide_eq_true z)⟩
theorem rp_kid {j x : Nat} (h9 : j < 1000) (hp : pok j = true) (hx : x < 9) : pok (j + ntU j * (x + 1)) = true ∧ rp (j + ntU j * (x + 1)) = (x + 1) :: rp j ∧ j + ntU j * (x + 1) ≤ 9999 := by
  have h := dg_all chC chC_ok j (by omega)
  unfold chC at h
  rw [hp, Bool.not_true, Bool.false_or, Bool.and_eq_true, decide_eq_false (show ¬ 1000 ≤ j by omega), Bool.false_or] at h
  have q := List.all_eq_true.mp h.2 x (List.mem_range.mpr hx)
  rw [Bool.and_eq_true, Bool.and_eq_true] at q
  exact ⟨q.1.1, of_decide_eq_true q.1.2, of_decide_eq_true q.2⟩
theorem ntU_pos {j : Nat} (h : j < 1000) : 1 ≤ ntU j ∧ ntU j ≤ 1000 := by
  unfold ntU
  by_cases a : j = 0
  · rw [if_pos a]; omega
  · rw [if_neg a]; by_cases b : j < 10
    · rw [if_pos b]; omega
    · rw [if_neg b]; by_cases c : j < 100
      · rw [if_pos c]; omega
      · rw [if_neg c, if_pos h]; omega
theorem nt_ix (j u x : Nat) : nI j + nI u * nI x = nI (j + u * x) := by
  rw [show nI u * nI x = nI (u * x) from (Int32.ofNat_mul _ _).symm, nI_add]
set_option maxRecDepth 8192 in
set_option maxHeartbeats 4000000 in
theorem c_O_names (l : Launch) (D : va_G) (aC : Nat → ClassId) (h : zz_Hp) (o : Nat) (ad : Nat → Nat) (th : Int32) (n : Nat) (M V vs sn sh : Nat → Int32) (W : mW h aC o ad th n M V vs sn sh) (hM : okM M) (x y : Int32) :
    zz_Ct l D aC y_O_names (zrm 3 0 0 120) [.ref o, .int x, .int y] h (fun r' h' => ∃ (r : Int32) (vs' sn' sh' : Nat → Int32), r' = .inl (some (.int r)) ∧ mW h' aC o ad (rfC (!(asB x y n)) (asB x y n && !decide (vwK (Lm M V) x y = nI 1)) false) n M V vs' sn' sh' ∧ (asB x y n = true → vwK (Lm M V) x y = nI 1 → r = nmW (Lm M V) x y)) := by
  refine zz_ct md_O_names rfl (by simp [Value.category]) (Nat.le_of_ble_eq_true rfl) fun K C E hI => ?_
  obtain rfl := E.ac
  have n8 := W.1.2
  refine zz_go C [(0, .aload_n 0), (1, .iload_n 1), (2, .iload_n 2)] (by decide +kernel) (pc' := 3) (lv' := [some (.ref o), some (.int x), some (.int y), none, none, none, none]) (st' := [.int y, .int x, .ref o]) rfl ?_
  refine zz_cV C E (ci := 3) (As := [.int x, .int y]) (rest := []) (hc := h) md_O_isAsked (c_O_isAsked l D (zz_ac K) h o ad th n M V vs sn sh W x y) ml_O_84 im_O_isAsked se_O_isAsked rfl W.ob (fun _ _ q => q) rfl rfl (Nat.le_of_ble_eq_true rfl) ⟨by decide, by decide⟩ ⟨(by decide), (by decide)⟩ (by decide +kernel) (fun v h' hp hn hd => ?_) (fun v h' hp hn hd => ?_)
  · rw [zz_mix_self hd]
    obtain ⟨hh, hv⟩ := hp
    rw [hh]
    cases hv
    show zz_Z _ _ _ _ _ _ _ _ [.int (bI (asB x y n))]
    cases hg : asB x y n with
    | false =>
      show zz_Z _ _ _ _ _ _ _ [some (.ref o), some (.int x), some (.int y), none, none, none, none] [.int (bI false)]
      refine zz_go C [(6, .istore_n 3), (7, .aload_n 0), (8, .iload_n 3)] (by decide +kernel) (pc' := 9) (lv' := [some (.ref o), some (.int x), some (.int y), some (.int (bI false)), none, none, none]) (st' := [.int (bI false), .ref o]) rfl ?_
      refine zz_if C (i := .ifCond .eq 7) (by decide +kernel) (Pt := (bI false) = 0) (Pf := ¬ (bI false) = 0) (off := 7) (r := [.ref o]) (tgt := 16) rfl (by decide) (fun cA => ?_) (fun cA => ?_)
      · refine zz_go C [(16, .iconst 0)] (by decide +kernel) (pc' := 17) (lv' := [some (.ref o), some (.int x), some (.int y), some (.int (bI false)), none, none, none]) (st' := [.int (nI 0), .ref o]) rfl ?_
        refine zz_cV C E (ci := 3) (As := [.int (nI 0)]) (rest := []) (hc := h) md_O_look (c_O_look l D (zz_ac K) h o ad th n M V vs sn sh W 0 (by decide) hM) ml_O_63 im_O_look se_O_look rfl W.ob (fun _ _ q => q) rfl rfl (Nat.le_of_ble_eq_true rfl) ⟨by decide, by decide⟩ ⟨(by decide), (by decide)⟩ (by decide +kernel) (fun v0 h1 hp hn hd => ?_) (fun v0 h1 hp hn hd => ?_)
        · rw [zz_mix_self hd]
          obtain ⟨hv, vs1, sn1, sh1, W1, I1⟩ := hp
          cases hv
          show zz_Z _ _ _ _ _ _ _ _ []
          refine zz_go C [(20, .aload_n 0), (21, .iload_n 3)] (by decide +kernel) (pc' := 22) (lv' := [some (.ref o), some (.int x), some (.int y), some (.int (bI false)), none, none, none]) (st' := [.int (bI false), .ref o]) rfl ?_
          refine zz_if C (i := .ifCond .ne 7) (by decide +kernel) (Pt := ¬ (bI false) = 0) (Pf := (bI false) = 0) (off := 7) (r := [.ref o]) (tgt := 29) rfl (by decide) (fun cB => ?_) (fun cB => ?_)
          · exact absurd rfl cB
          · refine zz_go C [(25, .iconst 1), (26, .goto 4), (30, .iload_n 3)] (by decide +kernel) (pc' := 31) (lv' := [some (.ref o), some (.int x), some (.int y), some (.int (bI false)), none, none, none]) (st' := [.int (bI false), .int (nI 1), .ref o]) rfl ?_
            refine zz_if C (i := .ifCond .eq 25) (by decide +kernel) (Pt := (bI false) = 0) (Pf := ¬ (bI false) = 0) (off := 25) (r := [.int (nI 1), .ref o]) (tgt := 56) rfl (by decide) (fun cC => ?_) (fun cC => ?_)
            · refine zz_go C [(56, .iconst 0), (57, .iconst 0)] (by decide +kernel) (pc' := 58) (lv' := [some (.ref o), some (.int x), some (.int y), some (.int (bI false)), none, none, none]) (st' := [.int (nI 0), .int (nI 0), .int (nI 1), .ref o]) rfl ?_
              show zz_Z _ _ _ _ _ _ _ [some (.ref o), some (.int x), some (.int y), some (.int (bI false)), none, none, none] [.int (bI false), .int (bI false), .int (bI true), .ref o]
              refine zz_cV C E (ci := 3) (As := [.int (bI true), .int (bI false), .int (bI false)]) (rest := []) (hc := h1) md_O_refuse (c_O_refuse l D (zz_ac K) h1 o ad th n M V vs1 sn1 sh1 W1 true false false) ml_O_66 im_O_refuse se_O_refuse rfl W1.ob (fun _ _ q => q) rfl rfl (Nat.le_of_ble_eq_true rfl) ⟨by decide, by decide⟩ ⟨(by decide), (by decide)⟩ (by decide +kernel) (fun v0 h2 hp hn hd => ?_) (fun v0 h2 hp hn hd => ?_)
              · rw [zz_mix_self hd]
                obtain ⟨hv, W2⟩ := hp
                cases hv
                show zz_Z _ _ _ _ _ _ _ _ [.int (bI (true || false || false))]
                refine zz_if C (i := .ifCond .eq 5) (by decide +kernel) (Pt := (bI (true || false || false)) = 0) (Pf := ¬ (bI (true || false || false)) = 0) (off := 5) (r := []) (tgt := 66) rfl (by decide) (fun cD => ?_) (fun cD => ?_)
                · exact absurd cD (by decide)
                · refine zz_go C [(64, .iconst 0)] (by decide +kernel) (pc' := 65) (lv' := [some (.ref o), some (.int x), some (.int y), some (.int (bI false)), none, none, none]) (st' := [.int (nI 0)]) rfl ?_
                  exact zr_i C E (by decide) (by decide) (by decide +kernel) (⟨_, vs1, sn1, sh1, rfl, W2, fun z => by cases z⟩)
              · cases hp.1
            · exact absurd rfl cC
        · cases hp.1
      · exact absurd rfl cA
    | true =>
      show zz_Z _ _ _ _ _ _ _ [some (.ref o), some (.int x), some (.int y), none, none, none, none] [.int (bI true)]
      obtain ⟨j, m, rfl, rfl, hj, hm1, hm⟩ := asB_of n8 hg
      refine zz_go C [(6, .istore_n 3), (7, .aload_n 0), (8, .iload_n 3)] (by decide +kernel) (pc' := 9) (lv' := [some (.ref o), some (.int (nI j)), some (.int (nI m)), some (.int (bI true)), none, none, none]) (st' := [.int (bI true), .ref o]) rfl ?_
      refine zz_if C (i := .ifCond .eq 7) (by decide +kernel) (Pt := (bI true) = 0) (Pf := ¬ (bI true) = 0) (off := 7) (r := [.ref o]) (tgt := 16) rfl (by decide) (fun cA => ?_) (fun cA => ?_)
      · exact absurd cA (by decide)
      · refine zz_go C [(12, .iload_n 2), (13, .goto 4)] (by decide +kernel) (pc' := 17) (lv' := [some (.ref o), some (.int (nI j)), some (.int (nI m)), some (.int (bI true)), none, none, none]) (st' := [.int (nI m), .ref o]) rfl ?_
        refine zz_cV C E (ci := 3) (As := [.int (nI m)]) (rest := []) (hc := h) md_O_look (c_O_look l D (zz_ac K) h o ad th n M V vs sn sh W m (by omega) hM) ml_O_63 im_O_look se_O_look rfl W.ob (fun _ _ q => q) rfl rfl (Nat.le_of_ble_eq_true rfl) ⟨by decide, by decide⟩ ⟨(by decide), (by decide)⟩ (by decide +kernel) (fun v0 h1 hp hn hd => ?_) (fun v0 h1 hp hn hd => ?_)
        · rw [zz_mix_self hd]
          obtain ⟨hv, vs1, sn1, sh1, W1, I1⟩ := hp
          cases hv
          show zz_Z _ _ _ _ _ _ _ _ []
          obtain ⟨q1, q2⟩ := cvI_at I1 hj.1 hj.2
          have vk := vwK_of (Ls := Lm M V) hj.1 (show m ≤ 8 by omega)
          refine zz_go C [(20, .aload_n 0), (21, .iload_n 3)] (by decide +kernel) (pc' := 22) (lv' := [some (.ref o), some (.int (nI j)), some (.int (nI m)), some (.int (bI true)), none, none, none]) (st' := [.int (bI true), .ref o]) rfl ?_
          refine zz_if C (i := .ifCond .ne 7) (by decide +kernel) (Pt := ¬ (bI true) = 0) (Pf := (bI true) = 0) (off := 7) (r := [.ref o]) (tgt := 29) rfl (by decide) (fun cB => ?_) (fun cB => ?_)
          · refine zz_go C [(29, .iconst 0), (30, .iload_n 3)] (by decide +kernel) (pc' := 31) (lv' := [some (.ref o), some (.int (nI j)), some (.int (nI m)), some (.int (bI true)), none, none, none]) (st' := [.int (bI true), .int (nI 0), .ref o]) rfl ?_
            refine zz_if C (i := .ifCond .eq 25) (by decide +kernel) (Pt := (bI true) = 0) (Pf := ¬ (bI true) = 0) (off := 25) (r := [.int (nI 0), .ref o]) (tgt := 56) rfl (by decide) (fun cC => ?_) (fun cC => ?_)
            · exact absurd cC (by decide)
            · refine zz_go C [(34, .aload_n 0)] (by decide +kernel) (pc' := 35) (lv' := [some (.ref o), some (.int (nI j)), some (.int (nI m)), some (.int (bI true)), none, none, none]) (st' := [.ref o, .int (nI 0), .ref o]) rfl ?_
              refine zz_get C fd_O_21 W1.ob (v := .ref (ad 2)) rfl (by decide +kernel) ?_
              refine zz_go C [(38, .iload_n 3)] (by decide +kernel) (pc' := 39) (lv' := [some (.ref o), some (.int (nI j)), some (.int (nI m)), some (.int (bI true)), none, none, none]) (st' := [.int (bI true), .ref (ad 2), .int (nI 0), .ref o]) rfl ?_
              refine zz_if C (i := .ifCond .eq 7) (by decide +kernel) (Pt := (bI true) = 0) (Pf := ¬ (bI true) = 0) (off := 7) (r := [.ref (ad 2), .int (nI 0), .ref o]) (tgt := 46) rfl (by decide) (fun cD => ?_) (fun cD => ?_)
              · exact absurd cD (by decide)
              · refine zz_go C [(42, .iload_n 1), (43, .goto 4)] (by decide +kernel) (pc' := 47) (lv' := [some (.ref o), some (.int (nI j)), some (.int (nI m)), some (.int (bI true)), none, none, none]) (st' := [.int (nI j), .ref (ad 2), .int (nI 0), .ref o]) rfl ?_
                refine ga_ild C W1.2.2.2.2.2.1 (by omega) (by decide) (by decide +kernel) ?_
                rw [q1]
                refine zz_go C [(48, .iconst 2)] (by decide +kernel) (pc' := 49) (lv' := [some (.ref o), some (.int (nI j)), some (.int (nI m)), some (.int (bI true)), none, none, none]) (st' := [.int (nI 2), .int ((vw (Lm M V) (rp j)).1 m + nI 1), .int (nI 0), .ref o]) rfl ?_
                refine zz_if C (i := .if_icmp .eq 7) (by decide +kernel) (Pt := ((vw (Lm M V) (rp j)).1 m + nI 1) = (nI 2)) (Pf := ¬ ((vw (Lm M V) (rp j)).1 m + nI 1) = (nI 2)) (off := 7) (r := [.int (nI 0), .ref o]) (tgt := 56) rfl (by decide) (fun cE => ?_) (fun cE => ?_)
                · refine zz_go C [(56, .iconst 0), (57, .iconst 0)] (by decide +kernel) (pc' := 58) (lv' := [some (.ref o), some (.int (nI j)), some (.int (nI m)), some (.int (bI true)), none, none, none]) (st' := [.int (nI 0), .int (nI 0), .int (nI 0), .ref o]) rfl ?_
                  show zz_Z _ _ _ _ _ _ _ [some (.ref o), some (.int (nI j)), some (.int (nI m)), some (.int (bI true)), none, none, none] [.int (bI false), .int (bI false), .int (bI false), .ref o]
                  refine zz_cV C E (ci := 3) (As := [.int (bI false), .int (bI false), .int (bI false)]) (rest := []) (hc := h1) md_O_refuse (c_O_refuse l D (zz_ac K) h1 o ad th n M V vs1 sn1 sh1 W1 false false false) ml_O_66 im_O_refuse se_O_refuse rfl W1.ob (fun _ _ q => q) rfl rfl (Nat.le_of_ble_eq_true rfl) ⟨by decide, by decide⟩ ⟨(by decide), (by decide)⟩ (by decide +kernel) (fun v0 h2 hp hn hd => ?_) (fun v0 h2 hp hn hd => ?_)
                  · rw [zz_mix_self hd]
                    obtain ⟨hv, W2⟩ := hp
                    cases hv
                    show zz_Z _ _ _ _ _ _ _ _ [.int (bI (false || false || false))]
                    have hth : rfC false false false = rfC (!true) (true && !decide (vwK (Lm M V) (nI j) (nI m) = nI 1)) false := by rw [vk, decide_eq_true ((add1_2 _).mp cE)]; rfl
                    rw [hth] at W2
                    refine zz_if C (i := .ifCond .eq 5) (by decide +kernel) (Pt := (bI (false || false || false)) = 0) (Pf := ¬ (bI (false || false || false)) = 0) (off := 5) (r := []) (tgt := 66) rfl (by decide) (fun cF => ?_) (fun cF => ?_)
                    · have loop : j < 1000 → ∀ (g x : Nat), x + g = 9 → zz_Z K (zz_End K h (fun r' h' => ∃ (r : Int32) (vs' sn' sh' : Nat → Int32), r' = .inl (some (.int r)) ∧ mW h' (zz_ac K) o ad (rfC (!(true)) (true && !decide (vwK (Lm M V) (nI j) (nI m) = nI 1)) false) n M V vs' sn' sh' ∧ (true = true → vwK (Lm M V) (nI j) (nI m) = nI 1 → r = nmW (Lm M V) (nI j) (nI m)))) h h2 0 0 118 [some (.ref o), some (.int (nI j)), some (.int (nI m)), some (.int (bI true)), some (.int (nmB (Lm M V) m (rp j) x)), some (.int (nI (ntU j))), some (.int (nI (x + 1)))] [] := by
                        intro j3 g
                        obtain ⟨u1, u2⟩ := ntU_pos j3
                        induction g with
                        | zero =>
                          intro x hxg
                          refine zz_go C [(118, .iload 6), (120, .bipush 10)] (by decide +kernel) (pc' := 122) (lv' := [some (.ref o), some (.int (nI j)), some (.int (nI m)), some (.int (bI true)), some (.int (nmB (Lm M V) m (rp j) x)), some (.int (nI (ntU j))), some (.int (nI (x + 1)))]) (st' := [.int (nI 10), .int (nI (x + 1))]) rfl ?_
                          refine zz_if C (i := .if_icmp .ge 43) (by decide +kernel) (Pt := (nI 10) ≤ (nI (x + 1))) (Pf := ¬ (nI 10) ≤ (nI (x + 1))) (off := 43) (r := []) (tgt := 165) rfl (by decide) (fun cK => ?_) (fun cK => ?_)
                          · refine zz_go C [(165, .iload 4)] (by decide +kernel) (pc' := 167) (lv' := [some (.ref o), some (.int (nI j)), some (.int (nI m)), some (.int (bI true)), some (.int (nmB (Lm M V) m (rp j) x)), some (.int (nI (ntU j))), some (.int (nI (x + 1)))]) (st' := [.int (nmB (Lm M V) m (rp j) x)]) rfl ?_
                            exact zr_i C E (by decide) (by decide) (by decide +kernel) (⟨_, vs1, sn1, sh1, rfl, W2, fun _ _ => by rw [nmW_of hj.1 (by omega), if_pos ((rp_l4 hj.1 hj.2).mpr j3), show x = 9 by omega]⟩)
                          · exact absurd (nI_le (by omega) (by omega)) cK
                        | succ g ih =>
                          intro x hxg
                          refine zz_go C [(118, .iload 6), (120, .bipush 10)] (by decide +kernel) (pc' := 122) (lv' := [some (.ref o), some (.int (nI j)), some (.int (nI m)), some (.int (bI true)), some (.int (nmB (Lm M V) m (rp j) x)), some (.int (nI (ntU j))), some (.int (nI (x + 1)))]) (st' := [.int (nI 10), .int (nI (x + 1))]) rfl ?_
                          refine zz_if C (i := .if_icmp .ge 43) (by decide +kernel) (Pt := (nI 10) ≤ (nI (x + 1))) (Pf := ¬ (nI 10) ≤ (nI (x + 1))) (off := 43) (r := []) (tgt := 165) rfl (by decide) (fun cK => ?_) (fun cK => ?_)
                          · exact absurd ((nI_leI (by omega) (by omega)).mp cK) (by omega)
                          · refine zz_go C [(125, .iload 5)] (by decide +kernel) (pc' := 127) (lv' := [some (.ref o), some (.int (nI j)), some (.int (nI m)), some (.int (bI true)), some (.int (nmB (Lm M V) m (rp j) x)), some (.int (nI (ntU j))), some (.int (nI (x + 1)))]) (st' := [.int (nI (ntU j))]) rfl ?_
                            refine zz_if C (i := .ifCond .le 38) (by decide +kernel) (Pt := (nI (ntU j)) ≤ 0) (Pf := ¬ (nI (ntU j)) ≤ 0) (off := 38) (r := []) (tgt := 165) rfl (by decide) (fun cL => ?_) (fun cL => ?_)
                            · exact absurd cL (nI_nle (by omega) (by omega))
                            · obtain ⟨k1, k2, k3⟩ := rp_kid (x := x) j3 hj.2 (by omega)
                              obtain ⟨qx, -⟩ := cvI_at I1 k3 k1
                              rw [k2] at qx
                              refine zz_go C [(130, .aload_n 0)] (by decide +kernel) (pc' := 131) (lv' := [some (.ref o), some (.int (nI j)), some (.int (nI m)), some (.int (bI true)), some (.int (nmB (Lm M V) m (rp j) x)), some (.int (nI (ntU j))), some (.int (nI (x + 1)))]) (st' := [.ref o]) rfl ?_
                              refine zz_get C fd_O_21 W2.ob (v := .ref (ad 2)) rfl (by decide +kernel) ?_
                              refine zz_go C [(134, .iload_n 1), (135, .iload 5), (137, .iload 6), (139, .imul), (140, .iadd)] (by decide +kernel) (pc' := 141) (lv' := [some (.ref o), some (.int (nI j)), some (.int (nI m)), some (.int (bI true)), some (.int (nmB (Lm M V) m (rp j) x)), some (.int (nI (ntU j))), some (.int (nI (x + 1)))]) (st' := [.int ((nI j) + ((nI (ntU j)) * (nI (x + 1)))), .ref (ad 2)]) rfl ?_
                              rw [nt_ix]
                              refine ga_ild C W2.2.2.2.2.2.1 (by omega) (by decide) (by decide +kernel) ?_
                              rw [qx]
                              refine zz_if C (i := .ifCond .eq 13) (by decide +kernel) (Pt := ((vw (Lm M V) ((x + 1) :: rp j)).1 m + nI 1) = 0) (Pf := ¬ ((vw (Lm M V) ((x + 1) :: rp j)).1 m + nI 1) = 0) (off := 13) (r := []) (tgt := 155) rfl (by decide) (fun cM => ?_) (fun cM => ?_)
                              · have hz := ih (x + 1) (by omega)
                                rw [show nmB (Lm M V) m (rp j) (x + 1) = nmB (Lm M V) m (rp j) x from if_pos ((add1_0 _).mp cM)] at hz
                                refine zz_go C [(155, .iload 4), (157, .istore 4), (159, .iinc 6 1), (162, .goto (-44))] (by decide +kernel) (pc' := 118) (lv' := [some (.ref o), some (.int (nI j)), some (.int (nI m)), some (.int (bI true)), some (.int (nmB (Lm M V) m (rp j) x)), some (.int (nI (ntU j))), some (.int ((nI (x + 1)) + (nI 1)))]) (st' := []) rfl ?_
                                rw [show nI (x + 1) + nI 1 = nI (x + 1 + 1) from nI_add (x + 1) 1]
                                exact hz
                              · have hz := ih (x + 1) (by omega)
                                rw [show nmB (Lm M V) m (rp j) (x + 1) = nmB (Lm M V) m (rp j) x ||| (nI 1 <<< (nI (x + 1) &&& 31)) from if_neg (fun z => cM ((add1_0 _).mpr z))] at hz
                                refine zz_go C [(145, .iload 4), (147, .iconst 1), (148, .iload 6), (150, .ishl), (151, .ior), (152, .goto 5), (157, .istore 4), (159, .iinc 6 1), (162, .goto (-44))] (by decide +kernel) (pc' := 118) (lv' := [some (.ref o), some (.int (nI j)), some (.int (nI m)), some (.int (bI true)), some (.int ((nmB (Lm M V) m (rp j) x) ||| ((nI 1) <<< ((nI (x + 1)) &&& 31)))), some (.int (nI (ntU j))), some (.int ((nI (x + 1)) + (nI 1)))]) (st' := []) rfl ?_
                                rw [show nI (x + 1) + nI 1 = nI (x + 1 + 1) from nI_add (x + 1) 1]
                                exact hz
                      have join : zz_Z K (zz_End K h (fun r' h' => ∃ (r : Int32) (vs' sn' sh' : Nat → Int32), r' = .inl (some (.int r)) ∧ mW h' (zz_ac K) o ad (rfC (!(true)) (true && !decide (vwK (Lm M V) (nI j) (nI m) = nI 1)) false) n M V vs' sn' sh' ∧ (true = true → vwK (Lm M V) (nI j) (nI m) = nI 1 → r = nmW (Lm M V) (nI j) (nI m)))) h h2 0 0 113 [some (.ref o), some (.int (nI j)), some (.int (nI m)), some (.int (bI true)), some (.int (nI 0)), none, none] [.int (nI (ntU j))] := by
                        refine zz_go C [(113, .istore 5), (115, .iconst 1), (116, .istore 6)] (by decide +kernel) (pc' := 118) (lv' := [some (.ref o), some (.int (nI j)), some (.int (nI m)), some (.int (bI true)), some (.int (nI 0)), some (.int (nI (ntU j))), some (.int (nI 1))]) (st' := []) rfl ?_
                        by_cases j3 : j < 1000
                        · exact loop j3 9 0 rfl
                        · have u0 : ntU j = 0 := by unfold ntU; rw [if_neg (by omega), if_neg (by omega), if_neg (by omega), if_neg j3]
                          refine zz_go C [(118, .iload 6), (120, .bipush 10)] (by decide +kernel) (pc' := 122) (lv' := [some (.ref o), some (.int (nI j)), some (.int (nI m)), some (.int (bI true)), some (.int (nI 0)), some (.int (nI (ntU j))), some (.int (nI 1))]) (st' := [.int (nI 10), .int (nI 1)]) rfl ?_
                          refine zz_if C (i := .if_icmp .ge 43) (by decide +kernel) (Pt := (nI 10) ≤ (nI 1)) (Pf := ¬ (nI 10) ≤ (nI 1)) (off := 43) (r := []) (tgt := 165) rfl (by decide) (fun cK => ?_) (fun cK => ?_)
                          · exact absurd cK (by decide)
                          · refine zz_go C [(125, .iload 5)] (by decide +kernel) (pc' := 127) (lv' := [some (.ref o), some (.int (nI j)), some (.int (nI m)), some (.int (bI true)), some (.int (nI 0)), some (.int (nI (ntU j))), some (.int (nI 1))]) (st' := [.int (nI (ntU j))]) rfl ?_
                            refine zz_if C (i := .ifCond .le 38) (by decide +kernel) (Pt := (nI (ntU j)) ≤ 0) (Pf := ¬ (nI (ntU j)) ≤ 0) (off := 38) (r := []) (tgt := 165) rfl (by decide) (fun cL => ?_) (fun cL => ?_)
                            · refine zz_go C [(165, .iload 4)] (by decide +kernel) (pc' := 167) (lv' := [some (.ref o), some (.int (nI j)), some (.int (nI m)), some (.int (bI true)), some (.int (nI 0)), some (.int (nI (ntU j))), some (.int (nI 1))]) (st' := [.int (nI 0)]) rfl ?_
                              exact zr_i C E (by decide) (by decide) (by decide +kernel) (⟨_, vs1, sn1, sh1, rfl, W2, fun _ _ => by rw [nmW_of hj.1 (by omega), if_neg (fun z => j3 ((rp_l4 hj.1 hj.2).mp z))]⟩)
                            · exact absurd (by rw [u0]; decide) cL
                      refine zz_go C [(66, .iconst 0), (67, .istore 4), (69, .iload_n 1)] (by decide +kernel) (pc' := 70) (lv' := [some (.ref o), some (.int (nI j)), some (.int (nI m)), some (.int (bI true)), some (.int (nI 0)), none, none]) (st' := [.int (nI j)]) rfl ?_
                      refine zz_if C (i := .ifCond .ne 7) (by decide +kernel) (Pt := ¬ (nI j) = 0) (Pf := (nI j) = 0) (off := 7) (r := []) (tgt := 77) rfl (by decide) (fun c0 => ?_) (fun c0 => ?_)
                      · have j0 : ¬ j = 0 := fun e => c0 (by rw [e]; rfl)
                        refine zz_go C [(77, .iload_n 1), (78, .bipush 10)] (by decide +kernel) (pc' := 80) (lv' := [some (.ref o), some (.int (nI j)), some (.int (nI m)), some (.int (bI true)), some (.int (nI 0)), none, none]) (st' := [.int (nI 10), .int (nI j)]) rfl ?_
                        refine zz_if C (i := .if_icmp .ge 8) (by decide +kernel) (Pt := (nI 10) ≤ (nI j)) (Pf := ¬ (nI 10) ≤ (nI j)) (off := 8) (r := []) (tgt := 88) rfl (by decide) (fun c1 => ?_) (fun c1 => ?_)
                        · have j1 : ¬ j < 10 := fun e => absurd c1 (nI_ge e (by decide))
                          refine zz_go C [(88, .iload_n 1), (89, .bipush 100)] (by decide +kernel) (pc' := 91) (lv' := [some (.ref o), some (.int (nI j)), some (.int (nI m)), some (.int (bI true)), some (.int (nI 0)), none, none]) (st' := [.int (nI 100), .int (nI j)]) rfl ?_
                          refine zz_if C (i := .if_icmp .ge 8) (by decide +kernel) (Pt := (nI 100) ≤ (nI j)) (Pf := ¬ (nI 100) ≤ (nI j)) (off := 8) (r := []) (tgt := 99) rfl (by decide) (fun c2 => ?_) (fun c2 => ?_)
                          · have j2 : ¬ j < 100 := fun e => absurd c2 (nI_ge e (by decide))
                            refine zz_go C [(99, .iload_n 1), (100, .sipush 1000)] (by decide +kernel) (pc' := 103) (lv' := [some (.ref o), some (.int (nI j)), some (.int (nI m)), some (.int (bI true)), some (.int (nI 0)), none, none]) (st' := [.int (nI 1000), .int (nI j)]) rfl ?_
                            refine zz_if C (i := .if_icmp .ge 9) (by decide +kernel) (Pt := (nI 1000) ≤ (nI j)) (Pf := ¬ (nI 1000) ≤ (nI j)) (off := 9) (r := []) (tgt := 112) rfl (by decide) (fun c3 => ?_) (fun c3 => ?_)
                            · have hu : ntU j = 0 := by unfold ntU; rw [if_neg j0, if_neg j1, if_neg j2, if_neg (fun e => absurd c3 (nI_ge e (by decide)))]
                              refine zz_go C [(112, .iconst 0)] (by decide +kernel) (pc' := 113) (lv' := [some (.ref o), some (.int (nI j)), some (.int (nI m)), some (.int (bI true)), some (.int (nI 0)), none, none]) (st' := [.int (nI 0)]) rfl ?_
                              exact zz_eq rfl (by rw [hu]) join
                            · have hu : ntU j = 1000 := by unfold ntU; rw [if_neg j0, if_neg j1, if_neg j2, if_pos (Nat.lt_of_not_le (fun e => c3 (nI_le e (by omega))))]
                              refine zz_go C [(106, .sipush 1000), (109, .goto 4)] (by decide +kernel) (pc' := 113) (lv' := [some (.ref o), some (.int (nI j)), some (.int (nI m)), some (.int (bI true)), some (.int (nI 0)), none, none]) (st' := [.int (nI 1000)]) rfl ?_
                              exact zz_eq rfl (by rw [hu]) join
                          · have hu : ntU j = 100 := by unfold ntU; rw [if_neg j0, if_neg j1, if_pos (Nat.lt_of_not_le (fun e => c2 (nI_le e (by omega))))]
                            refine zz_go C [(94, .bipush 100), (96, .goto 17)] (by decide +kernel) (pc' := 113) (lv' := [some (.ref o), some (.int (nI j)), some (.int (nI m)), some (.int (bI true)), some (.int (nI 0)), none, none]) (st' := [.int (nI 100)]) rfl ?_
                            exact zz_eq rfl (by rw [hu]) join
                        · have hu : ntU j = 10 := by unfold ntU; rw [if_neg j0, if_pos (Nat.lt_of_not_le (fun e => c1 (nI_le e (by omega))))]
                          refine zz_go C [(83, .bipush 10), (85, .goto 28)] (by decide +kernel) (pc' := 113) (lv' := [some (.ref o), some (.int (nI j)), some (.int (nI m)), some (.int (bI true)), some (.int (nI 0)), none, none]) (st' := [.int (nI 10)]) rfl ?_
                          exact zz_eq rfl (by rw [hu]) join
                      · have hu : ntU j = 1 := by unfold ntU; rw [if_pos ((nI_eq (by omega) (by decide)).mp c0)]
                        refine zz_go C [(73, .iconst 1), (74, .goto 39)] (by decide +kernel) (pc' := 113) (lv' := [some (.ref o), some (.int (nI j)), some (.int (nI m)), some (.int (bI true)), some (.int (nI 0)), none, none]) (st' := [.int (nI 1)]) rfl ?_
                        exact zz_eq rfl (by rw [hu]) join
                    · exact absurd rfl cF
                  · cases hp.1
                · refine zz_go C [(52, .iconst 1), (53, .goto 4), (57, .iconst 0)] (by decide +kernel) (pc' := 58) (lv' := [some (.ref o), some (.int (nI j)), some (.int (nI m)), some (.int (bI true)), none, none, none]) (st' := [.int (nI 0), .int (nI 1), .int (nI 0), .ref o]) rfl ?_
                  show zz_Z _ _ _ _ _ _ _ [some (.ref o), some (.int (nI j)), some (.int (nI m)), some (.int (bI true)), none, none, none] [.int (bI false), .int (bI true), .int (bI false), .ref o]
                  refine zz_cV C E (ci := 3) (As := [.int (bI false), .int (bI true), .int (bI false)]) (rest := []) (hc := h1) md_O_refuse (c_O_refuse l D (zz_ac K) h1 o ad th n M V vs1 sn1 sh1 W1 false true false) ml_O_66 im_O_refuse se_O_refuse rfl W1.ob (fun _ _ q => q) rfl rfl (Nat.le_of_ble_eq_true rfl) ⟨by decide, by decide⟩ ⟨(by decide), (by decide)⟩ (by decide +kernel) (fun v0 h2 hp hn hd => ?_) (fun v0 h2 hp hn hd => ?_)
                  · rw [zz_mix_self hd]
                    obtain ⟨hv, W2⟩ := hp
                    cases hv
                    show zz_Z _ _ _ _ _ _ _ _ [.int (bI (false || true || false))]
                    have hth : rfC false true false = rfC (!true) (true && !decide (vwK (Lm M V) (nI j) (nI m) = nI 1)) false := by rw [vk, decide_eq_false (fun z => cE ((add1_2 _).mpr z))]; rfl
                    rw [hth] at W2
                    refine zz_if C (i := .ifCond .eq 5) (by decide +kernel) (Pt := (bI (false || true || false)) = 0) (Pf := ¬ (bI (false || true || false)) = 0) (off := 5) (r := []) (tgt := 66) rfl (by decide) (fun cF => ?_) (fun cF => ?_)
                    · exact absurd cF (by decide)
                    · refine zz_go C [(64, .iconst 0)] (by decide +kernel) (pc' := 65) (lv' := [some (.ref o), some (.int (nI j)), some (.int (nI m)), some (.int (bI true)), none, none, none]) (st' := [.int (nI 0)]) rfl ?_
                      exact zr_i C E (by decide) (by decide) (by decide +kernel) (⟨_, vs1, sn1, sh1, rfl, W2, fun _ z => absurd (by rw [vk] at z; exact (add1_2 _).mpr z) cE⟩)
                  · cases hp.1
          · exact absurd cB (by decide)
        · cases hp.1
  · cases hp.2
