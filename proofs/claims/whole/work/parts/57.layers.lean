/-! ===== layers of the model ===== -/
/-- marks with the numbers of one layer below p cleared -/
def clM (M : Nat → Int32) (n p : Nat) : Nat → Int32 := fun a => if 10000 * n ≤ a ∧ a < 10000 * n + p then nI 0 else M a
theorem clM_0 (M : Nat → Int32) (n : Nat) : clM M n 0 = M := by
  funext a; exact if_neg (by omega)
theorem clM_s (M : Nat → Int32) (n p : Nat) : upd (clM M n p) (10000 * n + p) (nI 0) = clM M n (p + 1) := by
  funext a
  by_cases e : a = 10000 * n + p
  · rw [e, upd_at]; exact (if_pos (by omega)).symm
  · rw [upd_ne _ _ e]
    unfold clM
    by_cases c : 10000 * n ≤ a ∧ a < 10000 * n + p
    · rw [if_pos c, if_pos (by omega)]
    · rw [if_neg c, if_neg (by omega)]
set_option maxHeartbeats 4000000 in
theorem c_O_drop (l : Launch) (D : va_G) (aC : Nat → ClassId) (h : zz_Hp) (o : Nat) (ad : Nat → Nat) (th : Int32) (n : Nat) (M V vs sn sh : Nat → Int32) (W : mW h aC o ad th n M V vs sn sh) :
    zz_Ct l D aC y_O_drop (zrm 1 0 0 40) [.ref o] h (fun r' h' => (n = 1 → (∃ r : Int32, r' = .inl (some (.int r))) ∧ mW h' aC o ad (rfC true false false) n M V vs sn sh) ∧ (¬ n = 1 → r' = .inl (some (.int (nI (n - 1)))) ∧ mW h' aC o ad (rfC false false false) (n - 1) M V vs sn sh)) := by
  refine zz_ct md_O_drop rfl (by simp [Value.category]) (Nat.le_of_ble_eq_true rfl) fun K C E hI => ?_
  obtain rfl := E.ac
  have n8 := W.1
  refine zz_go C [(0, .aload_n 0), (1, .aload_n 0)] (by decide +kernel) (pc' := 2) (lv' := [some (.ref o)]) (st' := [.ref o, .ref o]) rfl ?_
  refine zz_get C fd_O_7 W.ob (v := .int (nI n)) rfl (by decide +kernel) ?_
  refine zz_go C [(5, .iconst 1)] (by decide +kernel) (pc' := 6) (lv' := [some (.ref o)]) (st' := [.int (nI 1), .int (nI n), .ref o]) rfl ?_
  refine zz_if C (i := .if_icmp .ne 7) (by decide +kernel) (Pt := ¬ (nI n) = (nI 1)) (Pf := (nI n) = (nI 1)) (off := 7) (r := [.ref o]) (tgt := 13) rfl (by decide) (fun cA => ?_) (fun cA => ?_)
  · have n1 : ¬ n = 1 := fun e => cA (by rw [e])
    refine zz_go C [(13, .iconst 0), (14, .iconst 0), (15, .iconst 0)] (by decide +kernel) (pc' := 16) (lv' := [some (.ref o)]) (st' := [.int (nI 0), .int (nI 0), .int (nI 0), .ref o]) rfl ?_
    show zz_Z _ _ _ _ _ _ _ [some (.ref o)] [.int (bI false), .int (bI false), .int (bI false), .ref o]
    refine zz_cV C E (ci := 3) (As := [.int (bI false), .int (bI false), .int (bI false)]) (rest := []) (hc := h) md_O_refuse (c_O_refuse l D (zz_ac K) h o ad th n M V vs sn sh W false false false) ml_O_66 im_O_refuse se_O_refuse rfl W.ob (fun _ _ q => q) rfl rfl (Nat.le_of_ble_eq_true rfl) ⟨by decide, by decide⟩ ⟨(by decide), (by decide)⟩ (by decide +kernel) (fun v0 h2 hp hn hd => ?_) (fun v0 h2 hp hn hd => ?_)
    · rw [zz_mix_self hd]
      obtain ⟨hv, W2⟩ := hp
      cases hv
      show zz_Z _ _ _ _ _ _ _ _ [.int (bI (false || false || false))]
      refine zz_if C (i := .ifCond .eq 5) (by decide +kernel) (Pt := (bI (false || false || false)) = 0) (Pf := ¬ (bI (false || false || false)) = 0) (off := 5) (r := []) (tgt := 24) rfl (by decide) (fun cB => ?_) (fun cB => ?_)
      · refine zz_go C [(24, .aload_n 0), (25, .dup)] (by decide +kernel) (pc' := 26) (lv' := [some (.ref o)]) (st' := [.ref o, .ref o]) rfl ?_
        refine zz_get C fd_O_7 W2.ob (v := .int (nI n)) rfl (by decide +kernel) ?_
        refine zz_go C [(29, .iconst 1), (30, .isub)] (by decide +kernel) (pc' := 31) (lv' := [some (.ref o)]) (st' := [.int ((nI n) - (nI 1)), .ref o]) rfl ?_
        rw [n_pred n8.1]
        refine zz_putf C fd_O_7 W2.ob rfl rfl (Nat.le_of_ble_eq_true rfl) (by decide +kernel) ?_
        have W3 : mW (va_up h2 o (some (moE (rfC false false false) (n - 1) ad))) (zz_ac K) o ad (rfC false false false) (n - 1) M V vs sn sh := W2.set _ (by omega)
        refine zz_go C [(34, .aload_n 0)] (by decide +kernel) (pc' := 35) (lv' := [some (.ref o)]) (st' := [.ref o]) rfl ?_
        refine zz_get C fd_O_7 (va_up_self _ _ _) (v := .int (nI (n - 1))) rfl (by decide +kernel) ?_
        exact zr_i C E (by decide) (by decide) (by decide +kernel) (⟨fun e => absurd e n1, fun _ => ⟨rfl, W3⟩⟩)
      · exact absurd rfl cB
    · cases hp.1
  · have n1 : n = 1 := (nI_eq (by omega) (by decide)).mp cA
    refine zz_go C [(9, .iconst 1), (10, .goto 4), (14, .iconst 0), (15, .iconst 0)] (by decide +kernel) (pc' := 16) (lv' := [some (.ref o)]) (st' := [.int (nI 0), .int (nI 0), .int (nI 1), .ref o]) rfl ?_
    show zz_Z _ _ _ _ _ _ _ [some (.ref o)] [.int (bI false), .int (bI false), .int (bI true), .ref o]
    refine zz_cV C E (ci := 3) (As := [.int (bI true), .int (bI false), .int (bI false)]) (rest := []) (hc := h) md_O_refuse (c_O_refuse l D (zz_ac K) h o ad th n M V vs sn sh W true false false) ml_O_66 im_O_refuse se_O_refuse rfl W.ob (fun _ _ q => q) rfl rfl (Nat.le_of_ble_eq_true rfl) ⟨by decide, by decide⟩ ⟨(by decide), (by decide)⟩ (by decide +kernel) (fun v0 h2 hp hn hd => ?_) (fun v0 h2 hp hn hd => ?_)
    · rw [zz_mix_self hd]
      obtain ⟨hv, W2⟩ := hp
      cases hv
      show zz_Z _ _ _ _ _ _ _ _ [.int (bI (true || false || false))]
      refine zz_if C (i := .ifCond .eq 5) (by decide +kernel) (Pt := (bI (true || false || false)) = 0) (Pf := ¬ (bI (true || false || false)) = 0) (off := 5) (r := []) (tgt := 24) rfl (by decide) (fun cB => ?_) (fun cB => ?_)
      · exact absurd cB (by decide)
      · refine zz_go C [(22, .iconst 0)] (by decide +kernel) (pc' := 23) (lv' := [some (.ref o)]) (st' := [.int (nI 0)]) rfl ?_
        exact zr_i C E (by decide) (by decide) (by decide +kernel) (⟨fun _ => ⟨⟨_, rfl⟩, W2⟩, fun e => absurd n1 e⟩)
    · cases hp.1
set_option maxRecDepth 4096 in
set_option maxHeartbeats 4000000 in
theorem c_O_layer (l : Launch) (D : va_G) (aC : Nat → ClassId) (h : zz_Hp) (o : Nat) (ad : Nat → Nat) (th : Int32) (n : Nat) (M V vs sn sh : Nat → Int32) (W : mW h aC o ad th n M V vs sn sh) :
    zz_Ct l D aC y_O_layer (zrm 1 0 0 40) [.ref o] h (fun r' h' => (n = 8 → (∃ r : Int32, r' = .inl (some (.int r))) ∧ mW h' aC o ad (rfC true false false) n M V vs sn sh) ∧ (¬ n = 8 → r' = .inl (some (.int (nI (n + 1)))) ∧ mW h' aC o ad (rfC false false false) (n + 1) (clM M n 10000) V vs sn sh)) := by
  refine zz_ct md_O_layer rfl (by simp [Value.category]) (Nat.le_of_ble_eq_true rfl) fun K C E hI => ?_
  obtain rfl := E.ac
  have n8 := W.1
  refine zz_go C [(0, .aload_n 0), (1, .aload_n 0)] (by decide +kernel) (pc' := 2) (lv' := [some (.ref o), none]) (st' := [.ref o, .ref o]) rfl ?_
  refine zz_get C fd_O_7 W.ob (v := .int (nI n)) rfl (by decide +kernel) ?_
  refine zz_go C [(5, .bipush 8)] (by decide +kernel) (pc' := 7) (lv' := [some (.ref o), none]) (st' := [.int (nI 8), .int (nI n), .ref o]) rfl ?_
  refine zz_if C (i := .if_icmp .ne 7) (by decide +kernel) (Pt := ¬ (nI n) = (nI 8)) (Pf := (nI n) = (nI 8)) (off := 7) (r := [.ref o]) (tgt := 14) rfl (by decide) (fun cA => ?_) (fun cA => ?_)
  · have n1 : ¬ n = 8 := fun e => cA (by rw [e])
    refine zz_go C [(14, .iconst 0), (15, .iconst 0), (16, .iconst 0)] (by decide +kernel) (pc' := 17) (lv' := [some (.ref o), none]) (st' := [.int (nI 0), .int (nI 0), .int (nI 0), .ref o]) rfl ?_
    show zz_Z _ _ _ _ _ _ _ [some (.ref o), none] [.int (bI false), .int (bI false), .int (bI false), .ref o]
    refine zz_cV C E (ci := 3) (As := [.int (bI false), .int (bI false), .int (bI false)]) (rest := []) (hc := h) md_O_refuse (c_O_refuse l D (zz_ac K) h o ad th n M V vs sn sh W false false false) ml_O_66 im_O_refuse se_O_refuse rfl W.ob (fun _ _ q => q) rfl rfl (Nat.le_of_ble_eq_true rfl) ⟨by decide, by decide⟩ ⟨(by decide), (by decide)⟩ (by decide +kernel) (fun v0 h2 hp hn hd => ?_) (fun v0 h2 hp hn hd => ?_)
    · rw [zz_mix_self hd]
      obtain ⟨hv, W2⟩ := hp
      cases hv
      show zz_Z _ _ _ _ _ _ _ _ [.int (bI (false || false || false))]
      refine zz_if C (i := .ifCond .eq 5) (by decide +kernel) (Pt := (bI (false || false || false)) = 0) (Pf := ¬ (bI (false || false || false)) = 0) (off := 5) (r := []) (tgt := 25) rfl (by decide) (fun cB => ?_) (fun cB => ?_)
      · have loop : ∀ (g p : Nat) (hc : zz_Hp), p + g = 10000 → mW hc (zz_ac K) o ad (rfC false false false) (n + 1) (clM M n p) V vs sn sh → zz_Z K (zz_End K h (fun r' h' => (n = 8 → (∃ r : Int32, r' = .inl (some (.int r))) ∧ mW h' (zz_ac K) o ad (rfC true false false) n M V vs sn sh) ∧ (¬ n = 8 → r' = .inl (some (.int (nI (n + 1)))) ∧ mW h' (zz_ac K) o ad (rfC false false false) (n + 1) (clM M n 10000) V vs sn sh))) h hc 0 0 37 [some (.ref o), some (.int (nI p))] [] := by
          intro g
          induction g with
          | zero =>
            intro p hc hpg Wc
            refine zz_go C [(37, .iload_n 1), (38, .sipush 10000)] (by decide +kernel) (pc' := 41) (lv' := [some (.ref o), some (.int (nI p))]) (st' := [.int (nI 10000), .int (nI p)]) rfl ?_
            refine zz_if C (i := .if_icmp .ge 21) (by decide +kernel) (Pt := (nI 10000) ≤ (nI p)) (Pf := ¬ (nI 10000) ≤ (nI p)) (off := 21) (r := []) (tgt := 62) rfl (by decide) (fun cC => ?_) (fun cC => ?_)
            · rw [show p = 10000 by omega] at Wc
              refine zz_go C [(62, .aload_n 0)] (by decide +kernel) (pc' := 63) (lv' := [some (.ref o), some (.int (nI p))]) (st' := [.ref o]) rfl ?_
              refine zz_get C fd_O_7 Wc.ob (v := .int (nI (n + 1))) rfl (by decide +kernel) ?_
              exact zr_i C E (by decide) (by decide) (by decide +kernel) (⟨fun e => absurd e n1, fun _ => ⟨rfl, Wc⟩⟩)
            · exact absurd (nI_le (by omega) (by omega)) cC
          | succ g ih =>
            intro p hc hpg Wc
            refine zz_go C [(37, .iload_n 1), (38, .sipush 10000)] (by decide +kernel) (pc' := 41) (lv' := [some (.ref o), some (.int (nI p))]) (st' := [.int (nI 10000), .int (nI p)]) rfl ?_
            refine zz_if C (i := .if_icmp .ge 21) (by decide +kernel) (Pt := (nI 10000) ≤ (nI p)) (Pf := ¬ (nI 10000) ≤ (nI p)) (off := 21) (r := []) (tgt := 62) rfl (by decide) (fun cC => ?_) (fun cC => ?_)
            · exact absurd ((nI_leI (by omega) (by omega)).mp cC) (by omega)
            · refine zz_go C [(44, .aload_n 0)] (by decide +kernel) (pc' := 45) (lv' := [some (.ref o), some (.int (nI p))]) (st' := [.ref o]) rfl ?_
              refine zz_get C fd_O_14 Wc.ob (v := .ref (ad 0)) rfl (by decide +kernel) ?_
              refine zz_go C [(48, .aload_n 0)] (by decide +kernel) (pc' := 49) (lv' := [some (.ref o), some (.int (nI p))]) (st' := [.ref o, .ref (ad 0)]) rfl ?_
              refine zz_cV C E (ci := 3) (As := []) (rest := [.ref (ad 0)]) (hc := hc) md_O_top (c_O_top l D (zz_ac K) hc o ad _ (n + 1) (clM M n p) V vs sn sh Wc) ml_O_59 im_O_top se_O_top rfl Wc.ob (fun _ _ q => q) rfl rfl (Nat.le_of_ble_eq_true rfl) ⟨by decide, by decide⟩ ⟨(by decide), (by decide)⟩ (by decide +kernel) (fun v0 h3 hp hn hd => ?_) (fun v0 h3 hp hn hd => ?_)
              · rw [zz_mix_self hd]
                obtain ⟨hh, hv⟩ := hp
                rw [hh]
                cases hv
                show zz_Z _ _ _ _ _ _ _ _ [.int (nI (10000 * (n + 1 - 1))), .ref (ad 0)]
                refine zz_go C [(52, .iload_n 1), (53, .iadd), (54, .iconst 0)] (by decide +kernel) (pc' := 55) (lv' := [some (.ref o), some (.int (nI p))]) (st' := [.int (nI 0), .int ((nI (10000 * (n + 1 - 1))) + (nI p)), .ref (ad 0)]) rfl ?_
                rw [show nI (10000 * (n + 1 - 1)) + nI p = nI (10000 * n + p) from nI_add (10000 * n) p]
                refine mo_mst C Wc (by omega) (by decide +kernel) (fun h4 W4 => ?_)
                refine zz_go C [(56, .iinc 1 1), (59, .goto (-22))] (by decide +kernel) (pc' := 37) (lv' := [some (.ref o), some (.int ((nI p) + (nI 1)))]) (st' := []) rfl ?_
                rw [show nI p + nI 1 = nI (p + 1) from nI_add p 1]
                rw [clM_s] at W4
                exact ih (p + 1) h4 (by omega) W4
              · cases hp.2
        refine zz_go C [(25, .aload_n 0), (26, .dup)] (by decide +kernel) (pc' := 27) (lv' := [some (.ref o), none]) (st' := [.ref o, .ref o]) rfl ?_
        refine zz_get C fd_O_7 W2.ob (v := .int (nI n)) rfl (by decide +kernel) ?_
        refine zz_go C [(30, .iconst 1), (31, .iadd)] (by decide +kernel) (pc' := 32) (lv' := [some (.ref o), none]) (st' := [.int ((nI n) + (nI 1)), .ref o]) rfl ?_
        rw [show nI n + nI 1 = nI (n + 1) from nI_add n 1]
        refine zz_putf C fd_O_7 W2.ob rfl rfl (Nat.le_of_ble_eq_true rfl) (by decide +kernel) ?_
        have W3 : mW (va_up h2 o (some (moE (rfC false false false) (n + 1) ad))) (zz_ac K) o ad (rfC false false false) (n + 1) (clM M n 0) V vs sn sh := by rw [clM_0]; exact W2.set _ (by omega)
        refine zz_go C [(35, .iconst 0), (36, .istore_n 1)] (by decide +kernel) (pc' := 37) (lv' := [some (.ref o), some (.int (nI 0))]) (st' := []) rfl ?_
        exact loop 10000 0 _ (by omega) W3
      · exact absurd rfl cB
    · cases hp.1
  · have n1 : n = 8 := (nI_eq (by omega) (by decide)).mp cA
    refine zz_go C [(10, .iconst 1), (11, .goto 4), (15, .iconst 0), (16, .iconst 0)] (by decide +kernel) (pc' := 17) (lv' := [some (.ref o), none]) (st' := [.int (nI 0), .int (nI 0), .int (nI 1), .ref o]) rfl ?_
    show zz_Z _ _ _ _ _ _ _ [some (.ref o), none] [.int (bI false), .int (bI false), .int (bI true), .ref o]
    refine zz_cV C E (ci := 3) (As := [.int (bI true), .int (bI false), .int (bI false)]) (rest := []) (hc := h) md_O_refuse (c_O_refuse l D (zz_ac K) h o ad th n M V vs sn sh W true false false) ml_O_66 im_O_refuse se_O_refuse rfl W.ob (fun _ _ q => q) rfl rfl (Nat.le_of_ble_eq_true rfl) ⟨by decide, by decide⟩ ⟨(by decide), (by decide)⟩ (by decide +kernel) (fun v0 h2 hp hn hd => ?_) (fun v0 h2 hp hn hd => ?_)
    · rw [zz_mix_self hd]
      obtain ⟨hv, W2⟩ := hp
      cases hv
      show zz_Z _ _ _ _ _ _ _ _ [.int (bI (true || false || false))]
      refine zz_if C (i := .ifCond .eq 5) (by decide +kernel) (Pt := (bI (true || false || false)) = 0) (Pf := ¬ (bI (true || false || false)) = 0) (off := 5) (r := []) (tgt := 25) rfl (by decide) (fun cB => ?_) (fun cB => ?_)
      · exact absurd cB (by decide)
      · refine zz_go C [(23, .iconst 0)] (by decide +kernel) (pc' := 24) (lv' := [some (.ref o), none]) (st' := [.int (nI 0)]) rfl ?_
        exact zr_i C E (by decide) (by decide) (by decide +kernel) (⟨fun _ => ⟨⟨_, rfl⟩, W2⟩, fun e => absurd n1 e⟩)
    · cases hp.1
