/-! ===== names and numbers seen ===== -/
set_option maxHeartbeats 4000000 in
theorem c_T_namesSeen (l : Launch) (D : va_G) (aC : Nat → ClassId) (h : zz_Hp) (t la sa : Nat) (A : zA5) (n : Nat) (Ls : zLs) (W : tW h aC t la sa A n Ls) (d m : Nat) (r : List Nat) (hd5 : d < 5) (hm : m ≤ n) (T : tS h aC (A d) m Ls r) :
    zz_Ct l D aC y_T_namesSeen (zrm 2 0 0 100) [.ref t, .int (nI d), .int (nI m)] h (fun r' h' => r' = .inl (some (.int (if d < 4 then nmB Ls m r 9 else nI 0))) ∧ sFr A (d + 1) h h' ∧ siH h' aC A) := by
  refine zz_ct md_T_namesSeen rfl (by simp [Value.category]) (Nat.le_of_ble_eq_true rfl) fun K C E hI => ?_
  obtain rfl := E.ac
  have loop : ∀ (g x : Nat) (hc : zz_Hp), d < 4 → x + g = 9 → sFr A (d + 1) h hc → siH hc (zz_ac K) A → zz_Z K (zz_End K h (fun r' h' => r' = .inl (some (.int (if d < 4 then nmB Ls m r 9 else nI 0))) ∧ sFr A (d + 1) h h' ∧ siH h' (zz_ac K) A)) h hc 0 0 16 [some (.ref t), some (.int (nI d)), some (.int (nI m)), some (.int (nmB Ls m r x)), some (.int (nI (x + 1)))] [] := by
    intro g
    induction g with
    | zero =>
      intro x hc h4 hxg hfr S
      have Wc := W.fr (hfr.lo (Nat.zero_le _)) S
      have Tc := T.fr W.2.1 (by omega) (Nat.lt_succ_self d) hfr
      refine zz_go C [(16, .iload 4), (18, .bipush 9)] (by decide +kernel) (pc' := 20) (lv' := [some (.ref t), some (.int (nI d)), some (.int (nI m)), some (.int (nmB Ls m r x)), some (.int (nI (x + 1)))]) (st' := [.int (nI 9), .int (nI (x + 1))]) rfl ?_
      refine zz_if C (i := .if_icmp .gt 52) (by decide +kernel) (Pt := (nI 9) < (nI (x + 1))) (Pf := ¬ (nI 9) < (nI (x + 1))) (off := 52) (r := []) (tgt := 72) rfl (by decide) (fun cA => ?_) (fun cA => ?_)
      · have hx9 : x = 9 := by omega
        refine zz_go C [(72, .iload_n 3)] (by decide +kernel) (pc' := 73) (lv' := [some (.ref t), some (.int (nI d)), some (.int (nI m)), some (.int (nmB Ls m r x)), some (.int (nI (x + 1)))]) (st' := [.int (nmB Ls m r x)]) rfl ?_
        exact zr_i C E (by decide) (by decide) (by decide +kernel) (⟨by rw [if_pos h4, hx9], hfr, S⟩)
      · exact absurd (nI_lt (by omega) (by omega)) cA
    | succ g ih =>
      intro x hc h4 hxg hfr S
      have Wc := W.fr (hfr.lo (Nat.zero_le _)) S
      have Tc := T.fr W.2.1 (by omega) (Nat.lt_succ_self d) hfr
      refine zz_go C [(16, .iload 4), (18, .bipush 9)] (by decide +kernel) (pc' := 20) (lv' := [some (.ref t), some (.int (nI d)), some (.int (nI m)), some (.int (nmB Ls m r x)), some (.int (nI (x + 1)))]) (st' := [.int (nI 9), .int (nI (x + 1))]) rfl ?_
      refine zz_if C (i := .if_icmp .gt 52) (by decide +kernel) (Pt := (nI 9) < (nI (x + 1))) (Pf := ¬ (nI 9) < (nI (x + 1))) (off := 52) (r := []) (tgt := 72) rfl (by decide) (fun cA => ?_) (fun cA => ?_)
      · exact absurd ((nI_ltI (by omega) (by omega)).mp cA) (by omega)
      · refine zz_go C [(23, .aload_n 0)] (by decide +kernel) (pc' := 24) (lv' := [some (.ref t), some (.int (nI d)), some (.int (nI m)), some (.int (nmB Ls m r x)), some (.int (nI (x + 1)))]) (st' := [.ref t]) rfl ?_
        refine zz_get C fd_T_24 Wc.2.2.2.1 (v := .ref sa) rfl (by decide +kernel) ?_
        refine zz_go C [(27, .iload_n 1), (28, .iconst 1), (29, .iadd)] (by decide +kernel) (pc' := 30) (lv' := [some (.ref t), some (.int (nI d)), some (.int (nI m)), some (.int (nmB Ls m r x)), some (.int (nI (x + 1)))]) (st' := [.int ((nI d) + (nI 1)), .ref sa]) rfl ?_
        rw [show nI d + nI 1 = nI (d + 1) from nI_add d 1]
        refine ts_ld C Wc.2.2.2.2.2.1 (by omega) (by decide +kernel) ?_
        refine zz_go C [(31, .aload_n 0)] (by decide +kernel) (pc' := 32) (lv' := [some (.ref t), some (.int (nI d)), some (.int (nI m)), some (.int (nmB Ls m r x)), some (.int (nI (x + 1)))]) (st' := [.ref t, .ref ((A (d + 1)).1)]) rfl ?_
        refine zz_get C fd_T_24 Wc.2.2.2.1 (v := .ref sa) rfl (by decide +kernel) ?_
        refine zz_go C [(35, .iload_n 1)] (by decide +kernel) (pc' := 36) (lv' := [some (.ref t), some (.int (nI d)), some (.int (nI m)), some (.int (nmB Ls m r x)), some (.int (nI (x + 1)))]) (st' := [.int (nI d), .ref sa, .ref ((A (d + 1)).1)]) rfl ?_
        refine ts_ld C Wc.2.2.2.2.2.1 (by omega) (by decide +kernel) ?_
        refine zz_go C [(37, .iload 4), (39, .iload_n 2)] (by decide +kernel) (pc' := 40) (lv' := [some (.ref t), some (.int (nI d)), some (.int (nI m)), some (.int (nmB Ls m r x)), some (.int (nI (x + 1)))]) (st' := [.int (nI m), .int (nI (x + 1)), .ref ((A d).1), .ref ((A (d + 1)).1)]) rfl ?_
        refine zz_cV C E (ci := 1) (As := [.ref ((A d).1), .int (nI (x + 1)), .int (nI m)]) (rest := []) (hc := hc) md_S_see (c_see l D Wc Tc h4 hm (show 1 ≤ x + 1 by omega) (by omega)) ml_T_142 im_S_see se_S_see rfl (S (d + 1) (by omega)).1 (fun _ _ q => q) rfl rfl (Nat.le_of_ble_eq_true rfl) ⟨by decide, by decide⟩ ⟨(by decide), (by decide)⟩ (by decide +kernel) (fun v h1 hp hn hd => ?_) (fun v h1 hp hn hd => ?_)
        · rw [zz_mix_self hd]
          obtain ⟨hv, hf2, T2⟩ := hp
          cases hv
          show zz_Z _ _ _ _ _ _ _ _ []
          have S2 : siH h1 (zz_ac K) A := S.see Wc.2.1 (by omega) hf2 T2
          have fr2 : sFr A (d + 1) hc h1 := sFr.one (Nat.le_refl (d + 1)) (by omega) hf2
          have W2 := Wc.fr (fr2.lo (Nat.zero_le _)) S2
          refine zz_go C [(43, .aload_n 0)] (by decide +kernel) (pc' := 44) (lv' := [some (.ref t), some (.int (nI d)), some (.int (nI m)), some (.int (nmB Ls m r x)), some (.int (nI (x + 1)))]) (st' := [.ref t]) rfl ?_
          refine zz_get C fd_T_24 W2.2.2.2.1 (v := .ref sa) rfl (by decide +kernel) ?_
          refine zz_go C [(47, .iload_n 1), (48, .iconst 1), (49, .iadd)] (by decide +kernel) (pc' := 50) (lv' := [some (.ref t), some (.int (nI d)), some (.int (nI m)), some (.int (nmB Ls m r x)), some (.int (nI (x + 1)))]) (st' := [.int ((nI d) + (nI 1)), .ref sa]) rfl ?_
          rw [show nI d + nI 1 = nI (d + 1) from nI_add d 1]
          refine ts_ld C W2.2.2.2.2.2.1 (by omega) (by decide +kernel) ?_
          refine zz_go C [(51, .iload_n 2)] (by decide +kernel) (pc' := 52) (lv' := [some (.ref t), some (.int (nI d)), some (.int (nI m)), some (.int (nmB Ls m r x)), some (.int (nI (x + 1)))]) (st' := [.int (nI m), .ref ((A (d + 1)).1)]) rfl ?_
          have hl5 : d + 1 < 5 := by omega
          refine zz_cV C E (ci := 1) (As := [.int (nI m)]) (rest := []) (hc := h1) md_S_kindIn (c_kind l D S2 hl5 T2 (Nat.le_refl m) (by have := W.1; omega)) ml_T_40 im_S_kindIn se_S_kindIn rfl (S2 _ hl5).1 (fun _ _ q => q) rfl rfl (Nat.le_of_ble_eq_true rfl) ⟨by decide, by decide⟩ ⟨(by decide), (by decide)⟩ (by decide +kernel) (fun v h9 hp hn hd => ?_) (fun v h9 hp hn hd => ?_)
          · rw [zz_mix_self hd]
            obtain ⟨hh, hv⟩ := hp
            rw [hh]
            cases hv
            show zz_Z _ _ _ _ _ _ _ _ [.int ((vw Ls ((x + 1) :: r)).1 m)]
            refine zz_go C [(55, .iconst (-1))] (by decide +kernel) (pc' := 56) (lv' := [some (.ref t), some (.int (nI d)), some (.int (nI m)), some (.int (nmB Ls m r x)), some (.int (nI (x + 1)))]) (st' := [.int ((-1)), .int ((vw Ls ((x + 1) :: r)).1 m)]) rfl ?_
            refine zz_if C (i := .if_icmp .eq 10) (by decide +kernel) (Pt := ((vw Ls ((x + 1) :: r)).1 m) = ((-1))) (Pf := ¬ ((vw Ls ((x + 1) :: r)).1 m) = ((-1))) (off := 10) (r := []) (tgt := 66) rfl (by decide) (fun cB => ?_) (fun cB => ?_)
            · refine zz_go C [(66, .iinc 4 1), (69, .goto (-53))] (by decide +kernel) (pc' := 16) (lv' := [some (.ref t), some (.int (nI d)), some (.int (nI m)), some (.int (nmB Ls m r x)), some (.int ((nI (x + 1)) + (nI 1)))]) (st' := []) rfl ?_
              rw [show nI (x + 1) + nI 1 = nI (x + 1 + 1) from nI_add (x + 1) 1]
              have hz := ih (x + 1) h1 h4 (by omega) (hfr.tr fr2) S2
              rw [show nmB Ls m r (x + 1) = nmB Ls m r x from if_pos cB] at hz
              exact hz
            · refine zz_go C [(59, .iload_n 3), (60, .iconst 1), (61, .iload 4), (63, .ishl), (64, .ior), (65, .istore_n 3), (66, .iinc 4 1), (69, .goto (-53))] (by decide +kernel) (pc' := 16) (lv' := [some (.ref t), some (.int (nI d)), some (.int (nI m)), some (.int ((nmB Ls m r x) ||| ((nI 1) <<< ((nI (x + 1)) &&& 31)))), some (.int ((nI (x + 1)) + (nI 1)))]) (st' := []) rfl ?_
              rw [show nI (x + 1) + nI 1 = nI (x + 1 + 1) from nI_add (x + 1) 1]
              have hz := ih (x + 1) h1 h4 (by omega) (hfr.tr fr2) S2
              rw [show nmB Ls m r (x + 1) = nmB Ls m r x ||| (nI 1 <<< (nI (x + 1) &&& 31)) from if_neg cB] at hz
              exact hz
          · cases hp.2
        · cases hp.1
  refine zz_go C [(0, .iload_n 1)] (by decide +kernel) (pc' := 1) (lv' := [some (.ref t), some (.int (nI d)), some (.int (nI m)), none, none]) (st' := [.int (nI d)]) rfl ?_
  refine zz_if C (i := .ifCond .lt 8) (by decide +kernel) (Pt := (nI d) < 0) (Pf := ¬ (nI d) < 0) (off := 8) (r := []) (tgt := 9) rfl (by decide) (fun cA => ?_) (fun cA => ?_)
  · exact absurd cA (nI_pos (by omega))
  · refine zz_go C [(4, .iload_n 1), (5, .iconst 4)] (by decide +kernel) (pc' := 6) (lv' := [some (.ref t), some (.int (nI d)), some (.int (nI m)), none, none]) (st' := [.int (nI 4), .int (nI d)]) rfl ?_
    refine zz_if C (i := .if_icmp .lt 5) (by decide +kernel) (Pt := (nI d) < (nI 4)) (Pf := ¬ (nI d) < (nI 4)) (off := 5) (r := []) (tgt := 11) rfl (by decide) (fun cB => ?_) (fun cB => ?_)
    · have h4 := (nI_ltI (by omega) (by omega)).mp cB
      refine zz_go C [(11, .iconst 0), (12, .istore_n 3), (13, .iconst 1), (14, .istore 4)] (by decide +kernel) (pc' := 16) (lv' := [some (.ref t), some (.int (nI d)), some (.int (nI m)), some (.int (nI 0)), some (.int (nI 1))]) (st' := []) rfl ?_
      exact loop 9 0 h h4 (by omega) sFr.rf W.2.2.2.2.2.2.1
    · have h4 : ¬ d < 4 := fun e => cB (nI_lt e (by decide))
      refine zz_go C [(9, .iconst 0)] (by decide +kernel) (pc' := 10) (lv' := [some (.ref t), some (.int (nI d)), some (.int (nI m)), none, none]) (st' := [.int (nI 0)]) rfl ?_
      exact zr_i C E (by decide) (by decide) (by decide +kernel) (⟨by rw [if_neg h4], sFr.rf, W.2.2.2.2.2.2.1⟩)
set_option maxHeartbeats 4000000 in
theorem c_T_countSeen (l : Launch) (D : va_G) (aC : Nat → ClassId) (t la sa : Nat) (A : zA5) (n : Nat) (Ls : zLs) : ∀ (g d : Nat) (r : List Nat) (h : zz_Hp), d + g = 4 → tW h aC t la sa A n Ls → tS h aC (A d) n Ls r →
    zz_Ct l D aC y_T_countSeen (zrm (g + 2) 0 0 (100 + 30 * g)) [.ref t, .int (nI d)] h (fun r' h' => r' = .inl (some (.int (nI (cnS Ls n g r)))) ∧ sFr A (d + 1) h h' ∧ siH h' aC A) := by
  intro g
  induction g with
  | zero =>
    intro d r h hdg W T
    refine zz_ct md_T_countSeen rfl (by simp [Value.category]) (Nat.le_of_ble_eq_true rfl) fun K C E hI => ?_
    obtain rfl := E.ac
    have hl5 : d < 5 := by omega
    have S := W.2.2.2.2.2.2.1
    refine zz_go C [(0, .iload_n 1)] (by decide +kernel) (pc' := 1) (lv' := [some (.ref t), some (.int (nI d)), none, none]) (st' := [.int (nI d)]) rfl ?_
    refine zz_if C (i := .ifCond .lt 25) (by decide +kernel) (Pt := (nI d) < 0) (Pf := ¬ (nI d) < 0) (off := 25) (r := []) (tgt := 26) rfl (by decide) (fun cA => ?_) (fun cA => ?_)
    · exact absurd cA (nI_pos (by omega))
    · refine zz_go C [(4, .iload_n 1), (5, .iconst 4)] (by decide +kernel) (pc' := 6) (lv' := [some (.ref t), some (.int (nI d)), none, none]) (st' := [.int (nI 4), .int (nI d)]) rfl ?_
      refine zz_if C (i := .if_icmp .gt 20) (by decide +kernel) (Pt := (nI 4) < (nI d)) (Pf := ¬ (nI 4) < (nI d)) (off := 20) (r := []) (tgt := 26) rfl (by decide) (fun cB => ?_) (fun cB => ?_)
      · exact absurd ((nI_ltI (by omega) (by omega)).mp cB) (by omega)
      · refine zz_go C [(9, .aload_n 0)] (by decide +kernel) (pc' := 10) (lv' := [some (.ref t), some (.int (nI d)), none, none]) (st' := [.ref t]) rfl ?_
        refine zz_get C fd_T_24 W.2.2.2.1 (v := .ref sa) rfl (by decide +kernel) ?_
        refine zz_go C [(13, .iload_n 1)] (by decide +kernel) (pc' := 14) (lv' := [some (.ref t), some (.int (nI d)), none, none]) (st' := [.int (nI d), .ref sa]) rfl ?_
        refine ts_ld C W.2.2.2.2.2.1 (by omega) (by decide +kernel) ?_
        refine zz_go C [(15, .aload_n 0)] (by decide +kernel) (pc' := 16) (lv' := [some (.ref t), some (.int (nI d)), none, none]) (st' := [.ref t, .ref ((A d).1)]) rfl ?_
        refine zz_get C fd_T_18 W.2.2.2.1 (v := .int (nI n)) rfl (by decide +kernel) ?_
        refine zz_cV C E (ci := 1) (As := [.int (nI n)]) (rest := []) (hc := h) md_S_kindIn (c_kind l D S hl5 T (Nat.le_refl n) W.1.2) ml_T_40 im_S_kindIn se_S_kindIn rfl (S _ hl5).1 (fun _ _ q => q) rfl rfl (Nat.le_of_ble_eq_true rfl) ⟨by show 0 + 1 ≤ 0 + 2; omega, by show 8 + (2 + 11) + 0 ≤ 100 + 30 * 0; omega⟩ ⟨(Nat.le_of_ble_eq_true rfl), (Nat.le_of_ble_eq_true rfl)⟩ (by decide +kernel) (fun v h9 hp hn hd => ?_) (fun v h9 hp hn hd => ?_)
        · rw [zz_mix_self hd]
          obtain ⟨hh, hv⟩ := hp
          rw [hh]
          cases hv
          show zz_Z _ _ _ _ _ _ _ _ [.int ((vw Ls r).1 n)]
          refine zz_go C [(22, .iconst (-1))] (by decide +kernel) (pc' := 23) (lv' := [some (.ref t), some (.int (nI d)), none, none]) (st' := [.int ((-1)), .int ((vw Ls r).1 n)]) rfl ?_
          refine zz_if C (i := .if_icmp .ne 5) (by decide +kernel) (Pt := ¬ ((vw Ls r).1 n) = ((-1))) (Pf := ((vw Ls r).1 n) = ((-1))) (off := 5) (r := []) (tgt := 28) rfl (by decide) (fun cC => ?_) (fun cC => ?_)
          · refine zz_go C [(28, .iconst 1), (29, .istore_n 2), (30, .iload_n 1), (31, .iconst 4)] (by decide +kernel) (pc' := 32) (lv' := [some (.ref t), some (.int (nI d)), some (.int (nI 1)), none]) (st' := [.int (nI 4), .int (nI d)]) rfl ?_
            refine zz_if C (i := .if_icmp .ge 66) (by decide +kernel) (Pt := (nI 4) ≤ (nI d)) (Pf := ¬ (nI 4) ≤ (nI d)) (off := 66) (r := []) (tgt := 98) rfl (by decide) (fun cD => ?_) (fun cD => ?_)
            · refine zz_go C [(98, .iload_n 2)] (by decide +kernel) (pc' := 99) (lv' := [some (.ref t), some (.int (nI d)), some (.int (nI 1)), none]) (st' := [.int (nI 1)]) rfl ?_
              exact zr_i C E (Nat.le_of_ble_eq_true rfl) (Nat.le_of_ble_eq_true rfl) (by decide +kernel) (⟨by rw [cnS, if_neg cC], sFr.rf, S⟩)
            · exact absurd (nI_le (by omega) (by omega)) cD
          · refine zz_go C [(26, .iconst 0)] (by decide +kernel) (pc' := 27) (lv' := [some (.ref t), some (.int (nI d)), none, none]) (st' := [.int (nI 0)]) rfl ?_
            exact zr_i C E (Nat.le_of_ble_eq_true rfl) (Nat.le_of_ble_eq_true rfl) (by decide +kernel) (⟨by rw [cnS, if_pos cC], sFr.rf, S⟩)
        · cases hp.2
  | succ g IH =>
    intro d r h hdg W T
    refine zz_ct md_T_countSeen rfl (by simp [Value.category]) (Nat.le_of_ble_eq_true rfl) fun K C E hI => ?_
    obtain rfl := E.ac
    have hl5 : d < 5 := by omega
    have S := W.2.2.2.2.2.2.1
    have loop : ∀ (q x : Nat) (hc : zz_Hp), x + q = 9 → ¬ (vw Ls r).1 n = -1 → (vw Ls r).1 n = nI 1 → sFr A (d + 1) h hc → siH hc (zz_ac K) A → zz_Z K (zz_End K h (fun r' h' => r' = .inl (some (.int (nI (cnS Ls n (g + 1) r)))) ∧ sFr A (d + 1) h h' ∧ siH h' (zz_ac K) A)) h hc 0 0 54 [some (.ref t), some (.int (nI d)), some (.int (nI (1 + cnL (fun x => cnS Ls n g (x :: r)) x))), some (.int (nI (x + 1)))] [] := by
      intro q
      induction q with
      | zero =>
        intro x hc hxg k1 k2 hfr Sc
        have Wc := W.fr (hfr.lo (Nat.zero_le _)) Sc
        have Tc := T.fr W.2.1 hl5 (Nat.lt_succ_self d) hfr
        refine zz_go C [(54, .iload_n 3), (55, .bipush 9)] (by decide +kernel) (pc' := 57) (lv' := [some (.ref t), some (.int (nI d)), some (.int (nI (1 + cnL (fun x => cnS Ls n g (x :: r)) x))), some (.int (nI (x + 1)))]) (st' := [.int (nI 9), .int (nI (x + 1))]) rfl ?_
        refine zz_if C (i := .if_icmp .gt 41) (by decide +kernel) (Pt := (nI 9) < (nI (x + 1))) (Pf := ¬ (nI 9) < (nI (x + 1))) (off := 41) (r := []) (tgt := 98) rfl (by decide) (fun cA => ?_) (fun cA => ?_)
        · have hx9 : x = 9 := by omega
          refine zz_go C [(98, .iload_n 2)] (by decide +kernel) (pc' := 99) (lv' := [some (.ref t), some (.int (nI d)), some (.int (nI (1 + cnL (fun x => cnS Ls n g (x :: r)) x))), some (.int (nI (x + 1)))]) (st' := [.int (nI (1 + cnL (fun x => cnS Ls n g (x :: r)) x))]) rfl ?_
          exact zr_i C E (Nat.le_of_ble_eq_true rfl) (Nat.le_of_ble_eq_true rfl) (by decide +kernel) (⟨by rw [cnS, if_neg k1, if_pos k2, hx9], hfr, Sc⟩)
        · exact absurd (nI_lt (by omega) (by omega)) cA
      | succ q ih =>
        intro x hc hxg k1 k2 hfr Sc
        have Wc := W.fr (hfr.lo (Nat.zero_le _)) Sc
        have Tc := T.fr W.2.1 hl5 (Nat.lt_succ_self d) hfr
        refine zz_go C [(54, .iload_n 3), (55, .bipush 9)] (by decide +kernel) (pc' := 57) (lv' := [some (.ref t), some (.int (nI d)), some (.int (nI (1 + cnL (fun x => cnS Ls n g (x :: r)) x))), some (.int (nI (x + 1)))]) (st' := [.int (nI 9), .int (nI (x + 1))]) rfl ?_
        refine zz_if C (i := .if_icmp .gt 41) (by decide +kernel) (Pt := (nI 9) < (nI (x + 1))) (Pf := ¬ (nI 9) < (nI (x + 1))) (off := 41) (r := []) (tgt := 98) rfl (by decide) (fun cA => ?_) (fun cA => ?_)
        · exact absurd ((nI_ltI (by omega) (by omega)).mp cA) (by omega)
        · refine zz_go C [(60, .aload_n 0)] (by decide +kernel) (pc' := 61) (lv' := [some (.ref t), some (.int (nI d)), some (.int (nI (1 + cnL (fun x => cnS Ls n g (x :: r)) x))), some (.int (nI (x + 1)))]) (st' := [.ref t]) rfl ?_
          refine zz_get C fd_T_24 Wc.2.2.2.1 (v := .ref sa) rfl (by decide +kernel) ?_
          refine zz_go C [(64, .iload_n 1), (65, .iconst 1), (66, .iadd)] (by decide +kernel) (pc' := 67) (lv' := [some (.ref t), some (.int (nI d)), some (.int (nI (1 + cnL (fun x => cnS Ls n g (x :: r)) x))), some (.int (nI (x + 1)))]) (st' := [.int ((nI d) + (nI 1)), .ref sa]) rfl ?_
          rw [show nI d + nI 1 = nI (d + 1) from nI_add d 1]
          refine ts_ld C Wc.2.2.2.2.2.1 (by omega) (by decide +kernel) ?_
          refine zz_go C [(68, .aload_n 0)] (by decide +kernel) (pc' := 69) (lv' := [some (.ref t), some (.int (nI d)), some (.int (nI (1 + cnL (fun x => cnS Ls n g (x :: r)) x))), some (.int (nI (x + 1)))]) (st' := [.ref t, .ref ((A (d + 1)).1)]) rfl ?_
          refine zz_get C fd_T_24 Wc.2.2.2.1 (v := .ref sa) rfl (by decide +kernel) ?_
          refine zz_go C [(72, .iload_n 1)] (by decide +kernel) (pc' := 73) (lv' := [some (.ref t), some (.int (nI d)), some (.int (nI (1 + cnL (fun x => cnS Ls n g (x :: r)) x))), some (.int (nI (x + 1)))]) (st' := [.int (nI d), .ref sa, .ref ((A (d + 1)).1)]) rfl ?_
          refine ts_ld C Wc.2.2.2.2.2.1 (by omega) (by decide +kernel) ?_
          refine zz_go C [(74, .iload_n 3), (75, .aload_n 0)] (by decide +kernel) (pc' := 76) (lv' := [some (.ref t), some (.int (nI d)), some (.int (nI (1 + cnL (fun x => cnS Ls n g (x :: r)) x))), some (.int (nI (x + 1)))]) (st' := [.ref t, .int (nI (x + 1)), .ref ((A d).1), .ref ((A (d + 1)).1)]) rfl ?_
          refine zz_get C fd_T_18 Wc.2.2.2.1 (v := .int (nI n)) rfl (by decide +kernel) ?_
          refine zz_cV C E (ci := 1) (As := [.ref ((A d).1), .int (nI (x + 1)), .int (nI n)]) (rest := []) (hc := hc) md_S_see (c_see l D Wc Tc (by omega) (Nat.le_refl n) (show 1 ≤ x + 1 by omega) (by omega)) ml_T_142 im_S_see se_S_see rfl (Sc (d + 1) (by omega)).1 (fun _ _ q => q) rfl rfl (Nat.le_of_ble_eq_true rfl) ⟨by show 1 + 1 ≤ g + 1 + 2; omega, by show 8 + (6 + 11) + 60 ≤ 100 + 30 * (g + 1); omega⟩ ⟨(Nat.le_of_ble_eq_true rfl), (Nat.le_of_ble_eq_true rfl)⟩ (by decide +kernel) (fun v h1 hp hn hd => ?_) (fun v h1 hp hn hd => ?_)
          · rw [zz_mix_self hd]
            obtain ⟨hv, hf2, T2⟩ := hp
            cases hv
            show zz_Z _ _ _ _ _ _ _ _ []
            have S2 : siH h1 (zz_ac K) A := Sc.see Wc.2.1 (by omega) hf2 T2
            have fr2 : sFr A (d + 1) hc h1 := sFr.one (Nat.le_refl (d + 1)) (by omega) hf2
            have W2 := Wc.fr (fr2.lo (Nat.zero_le _)) S2
            refine zz_go C [(82, .iload_n 2), (83, .aload_n 0), (84, .iload_n 1), (85, .iconst 1), (86, .iadd)] (by decide +kernel) (pc' := 87) (lv' := [some (.ref t), some (.int (nI d)), some (.int (nI (1 + cnL (fun x => cnS Ls n g (x :: r)) x))), some (.int (nI (x + 1)))]) (st' := [.int ((nI d) + (nI 1)), .ref t, .int (nI (1 + cnL (fun x => cnS Ls n g (x :: r)) x))]) rfl ?_
            rw [show nI d + nI 1 = nI (d + 1) from nI_add d 1]
            refine zz_cV C E (ci := 2) (As := [.int (nI (d + 1))]) (rest := [.int (nI (1 + cnL (fun x => cnS Ls n g (x :: r)) x))]) (hc := h1) md_T_countSeen (IH (d + 1) ((x + 1) :: r) h1 (by omega) W2 T2) ml_T_66 im_T_countSeen se_T_countSeen rfl W2.2.2.2.1 (fun _ _ q => q) rfl rfl (Nat.le_of_ble_eq_true rfl) ⟨by show g + 2 + 1 ≤ g + 1 + 2; omega, by show 8 + (4 + 11) + (100 + 30 * g) ≤ 100 + 30 * (g + 1); omega⟩ ⟨(Nat.le_of_ble_eq_true rfl), (Nat.le_of_ble_eq_true rfl)⟩ (by decide +kernel) (fun v h2 hp hn hd => ?_) (fun v h2 hp hn hd => ?_)
            · rw [zz_mix_self hd]
              obtain ⟨hv, fr3, S3⟩ := hp
              cases hv
              show zz_Z _ _ _ _ _ _ _ _ [.int (nI (cnS Ls n g ((x + 1) :: r))), .int (nI (1 + cnL (fun x => cnS Ls n g (x :: r)) x))]
              refine zz_go C [(90, .iadd), (91, .istore_n 2), (92, .iinc 3 1), (95, .goto (-41))] (by decide +kernel) (pc' := 54) (lv' := [some (.ref t), some (.int (nI d)), some (.int ((nI (1 + cnL (fun x => cnS Ls n g (x :: r)) x)) + (nI (cnS Ls n g ((x + 1) :: r))))), some (.int ((nI (x + 1)) + (nI 1)))]) (st' := []) rfl ?_
              rw [show nI (x + 1) + nI 1 = nI (x + 1 + 1) from nI_add (x + 1) 1, nI_add, Nat.add_assoc 1]
              exact ih (x + 1) h2 (by omega) k1 k2 (hfr.tr (fr2.tr (fr3.lo (by omega)))) S3
            · cases hp.1
          · cases hp.1
    refine zz_go C [(0, .iload_n 1)] (by decide +kernel) (pc' := 1) (lv' := [some (.ref t), some (.int (nI d)), none, none]) (st' := [.int (nI d)]) rfl ?_
    refine zz_if C (i := .ifCond .lt 25) (by decide +kernel) (Pt := (nI d) < 0) (Pf := ¬ (nI d) < 0) (off := 25) (r := []) (tgt := 26) rfl (by decide) (fun cA => ?_) (fun cA => ?_)
    · exact absurd cA (nI_pos (by omega))
    · refine zz_go C [(4, .iload_n 1), (5, .iconst 4)] (by decide +kernel) (pc' := 6) (lv' := [some (.ref t), some (.int (nI d)), none, none]) (st' := [.int (nI 4), .int (nI d)]) rfl ?_
      refine zz_if C (i := .if_icmp .gt 20) (by decide +kernel) (Pt := (nI 4) < (nI d)) (Pf := ¬ (nI 4) < (nI d)) (off := 20) (r := []) (tgt := 26) rfl (by decide) (fun cB => ?_) (fun cB => ?_)
      · exact absurd ((nI_ltI (by omega) (by omega)).mp cB) (by omega)
      · refine zz_go C [(9, .aload_n 0)] (by decide +kernel) (pc' := 10) (lv' := [some (.ref t), some (.int (nI d)), none, none]) (st' := [.ref t]) rfl ?_
        refine zz_get C fd_T_24 W.2.2.2.1 (v := .ref sa) rfl (by decide +kernel) ?_
        refine zz_go C [(13, .iload_n 1)] (by decide +kernel) (pc' := 14) (lv' := [some (.ref t), some (.int (nI d)), none, none]) (st' := [.int (nI d), .ref sa]) rfl ?_
        refine ts_ld C W.2.2.2.2.2.1 (by omega) (by decide +kernel) ?_
        refine zz_go C [(15, .aload_n 0)] (by decide +kernel) (pc' := 16) (lv' := [some (.ref t), some (.int (nI d)), none, none]) (st' := [.ref t, .ref ((A d).1)]) rfl ?_
        refine zz_get C fd_T_18 W.2.2.2.1 (v := .int (nI n)) rfl (by decide +kernel) ?_
        refine zz_cV C E (ci := 1) (As := [.int (nI n)]) (rest := []) (hc := h) md_S_kindIn (c_kind l D S hl5 T (Nat.le_refl n) W.1.2) ml_T_40 im_S_kindIn se_S_kindIn rfl (S _ hl5).1 (fun _ _ q => q) rfl rfl (Nat.le_of_ble_eq_true rfl) ⟨by show 0 + 1 ≤ g + 1 + 2; omega, by show 8 + (2 + 11) + 0 ≤ 100 + 30 * (g + 1); omega⟩ ⟨(Nat.le_of_ble_eq_true rfl), (Nat.le_of_ble_eq_true rfl)⟩ (by decide +kernel) (fun v h9 hp hn hd => ?_) (fun v h9 hp hn hd => ?_)
        · rw [zz_mix_self hd]
          obtain ⟨hh, hv⟩ := hp
          rw [hh]
          cases hv
          show zz_Z _ _ _ _ _ _ _ _ [.int ((vw Ls r).1 n)]
          refine zz_go C [(22, .iconst (-1))] (by decide +kernel) (pc' := 23) (lv' := [some (.ref t), some (.int (nI d)), none, none]) (st' := [.int ((-1)), .int ((vw Ls r).1 n)]) rfl ?_
          refine zz_if C (i := .if_icmp .ne 5) (by decide +kernel) (Pt := ¬ ((vw Ls r).1 n) = ((-1))) (Pf := ((vw Ls r).1 n) = ((-1))) (off := 5) (r := []) (tgt := 28) rfl (by decide) (fun cC => ?_) (fun cC => ?_)
          · refine zz_go C [(28, .iconst 1), (29, .istore_n 2), (30, .iload_n 1), (31, .iconst 4)] (by decide +kernel) (pc' := 32) (lv' := [some (.ref t), some (.int (nI d)), some (.int (nI 1)), none]) (st' := [.int (nI 4), .int (nI d)]) rfl ?_
            refine zz_if C (i := .if_icmp .ge 66) (by decide +kernel) (Pt := (nI 4) ≤ (nI d)) (Pf := ¬ (nI 4) ≤ (nI d)) (off := 66) (r := []) (tgt := 98) rfl (by decide) (fun cD => ?_) (fun cD => ?_)
            · exact absurd ((nI_leI (by omega) (by omega)).mp cD) (by omega)
            · refine zz_go C [(35, .aload_n 0)] (by decide +kernel) (pc' := 36) (lv' := [some (.ref t), some (.int (nI d)), some (.int (nI 1)), none]) (st' := [.ref t]) rfl ?_
              refine zz_get C fd_T_24 W.2.2.2.1 (v := .ref sa) rfl (by decide +kernel) ?_
              refine zz_go C [(39, .iload_n 1)] (by decide +kernel) (pc' := 40) (lv' := [some (.ref t), some (.int (nI d)), some (.int (nI 1)), none]) (st' := [.int (nI d), .ref sa]) rfl ?_
              refine ts_ld C W.2.2.2.2.2.1 (by omega) (by decide +kernel) ?_
              refine zz_go C [(41, .aload_n 0)] (by decide +kernel) (pc' := 42) (lv' := [some (.ref t), some (.int (nI d)), some (.int (nI 1)), none]) (st' := [.ref t, .ref ((A d).1)]) rfl ?_
              refine zz_get C fd_T_18 W.2.2.2.1 (v := .int (nI n)) rfl (by decide +kernel) ?_
              refine zz_cV C E (ci := 1) (As := [.int (nI n)]) (rest := []) (hc := h) md_S_kindIn (c_kind l D S hl5 T (Nat.le_refl n) W.1.2) ml_T_40 im_S_kindIn se_S_kindIn rfl (S _ hl5).1 (fun _ _ q => q) rfl rfl (Nat.le_of_ble_eq_true rfl) ⟨by show 0 + 1 ≤ g + 1 + 2; omega, by show 8 + (2 + 11) + 0 ≤ 100 + 30 * (g + 1); omega⟩ ⟨(Nat.le_of_ble_eq_true rfl), (Nat.le_of_ble_eq_true rfl)⟩ (by decide +kernel) (fun v h9 hp hn hd => ?_) (fun v h9 hp hn hd => ?_)
              · rw [zz_mix_self hd]
                obtain ⟨hh, hv⟩ := hp
                rw [hh]
                cases hv
                show zz_Z _ _ _ _ _ _ _ _ [.int ((vw Ls r).1 n)]
                refine zz_go C [(48, .iconst 1)] (by decide +kernel) (pc' := 49) (lv' := [some (.ref t), some (.int (nI d)), some (.int (nI 1)), none]) (st' := [.int (nI 1), .int ((vw Ls r).1 n)]) rfl ?_
                refine zz_if C (i := .if_icmp .ne 49) (by decide +kernel) (Pt := ¬ ((vw Ls r).1 n) = (nI 1)) (Pf := ((vw Ls r).1 n) = (nI 1)) (off := 49) (r := []) (tgt := 98) rfl (by decide) (fun cE => ?_) (fun cE => ?_)
                · refine zz_go C [(98, .iload_n 2)] (by decide +kernel) (pc' := 99) (lv' := [some (.ref t), some (.int (nI d)), some (.int (nI 1)), none]) (st' := [.int (nI 1)]) rfl ?_
                  exact zr_i C E (Nat.le_of_ble_eq_true rfl) (Nat.le_of_ble_eq_true rfl) (by decide +kernel) (⟨by rw [cnS, if_neg cC, if_neg cE], sFr.rf, S⟩)
                · refine zz_go C [(52, .iconst 1), (53, .istore_n 3)] (by decide +kernel) (pc' := 54) (lv' := [some (.ref t), some (.int (nI d)), some (.int (nI 1)), some (.int (nI 1))]) (st' := []) rfl ?_
                  exact loop 9 0 h (by omega) cC cE sFr.rf S
              · cases hp.2
          · refine zz_go C [(26, .iconst 0)] (by decide +kernel) (pc' := 27) (lv' := [some (.ref t), some (.int (nI d)), none, none]) (st' := [.int (nI 0)]) rfl ?_
            exact zr_i C E (Nat.le_of_ble_eq_true rfl) (Nat.le_of_ble_eq_true rfl) (by decide +kernel) (⟨by rw [cnS, if_pos cC], sFr.rf, S⟩)
        · cases hp.2
