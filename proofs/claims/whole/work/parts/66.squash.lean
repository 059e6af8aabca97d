/-! ===== the model squashes ===== -/
/-- a row changed at T + 1 .. T + q - 1 -/
def rgU (f g : Nat → Int32) (T q : Nat) : Nat → Int32 := fun a => if T < a ∧ a < T + q then g (a - T) else f a
theorem rgU_1 (f g : Nat → Int32) (T : Nat) : rgU f g T 1 = f := by
  funext a; exact if_neg (by omega)
theorem rgU_hi {f g : Nat → Int32} {T q a : Nat} (h : T + q ≤ a) : rgU f g T q a = f a := if_neg (by omega)
theorem rgU_s {f g : Nat → Int32} {T q : Nat} {x : Int32} (hq : 1 ≤ q) (hx : g q = x) : upd (rgU f g T q) (T + q) x = rgU f g T (q + 1) := by
  funext a
  by_cases e : a = T + q
  · rw [e, upd_at]; unfold rgU; rw [if_pos (by omega), show T + q - T = q by omega, hx]
  · rw [upd_ne _ _ e]
    unfold rgU
    by_cases c : T < a ∧ a < T + q
    · rw [if_pos c, if_pos (by omega)]
    · rw [if_neg c, if_neg (by omega)]
theorem rgU_e {f g : Nat → Int32} {T q : Nat} (hx : g q = f (T + q)) : rgU f g T q = rgU f g T (q + 1) := by
  funext a
  unfold rgU
  by_cases e : a = T + q
  · subst e
    rw [if_neg (by omega)]
    by_cases c : T < T + q ∧ T + q < T + (q + 1)
    · rw [if_pos c, show T + q - T = q by omega, hx]
    · rw [if_neg c]
  · by_cases c : T < a ∧ a < T + q
    · rw [if_pos c, if_pos (by omega)]
    · rw [if_neg c, if_neg (by omega)]
/-- a row whose numbers from b to e come from 10000 further on -/
def shF (f : Nat → Int32) (b e : Nat) : Nat → Int32 := fun a => if b ≤ a ∧ a < e then f (a + 10000) else f a
theorem shF_0 (f : Nat → Int32) (b : Nat) : shF f b b = f := by
  funext a; exact if_neg (by omega)
theorem shF_hi {f : Nat → Int32} {b e a : Nat} (h : e ≤ a) : shF f b e a = f a := if_neg (by omega)
theorem shF_s {f : Nat → Int32} {b e : Nat} (h : b ≤ e) : upd (shF f b e) e (f (e + 10000)) = shF f b (e + 1) := by
  funext a
  by_cases c : a = e
  · rw [c, upd_at]; unfold shF; rw [if_pos (by omega)]
  · rw [upd_ne _ _ c]
    unfold shF
    by_cases d : b ≤ a ∧ a < e
    · rw [if_pos d, if_pos (by omega)]
    · rw [if_neg d, if_neg (by omega)]
/-- the squashed layer's mark and value -/
def sq1 (M : Nat → Int32) (k p : Nat) : Int32 := if M (10000 * (k + 1) + p) = nI 2 ∧ hdC (M (10000 * k + p)) = true then nI 3 else if ¬ M (10000 * (k + 1) + p) = 0 then M (10000 * (k + 1) + p) else if hdN M (k + 1) 9999 (prN p) = true then nI 0 else M (10000 * k + p)
def sq2 (M V : Nat → Int32) (k p : Nat) : Int32 := if M (10000 * (k + 1) + p) = nI 2 ∧ hdC (M (10000 * k + p)) = true then V (10000 * k + p) else if ¬ M (10000 * (k + 1) + p) = 0 then V (10000 * (k + 1) + p) else V (10000 * k + p)
def sqM (M : Nat → Int32) (n k : Nat) : Nat → Int32 := shF (rgU M (sq1 M k) (10000 * k) 10000) (10000 * (k + 1)) (10000 * (n - 1))
def sqV (M V : Nat → Int32) (n k : Nat) : Nat → Int32 := shF (rgU V (sq2 M V k) (10000 * k) 10000) (10000 * (k + 1)) (10000 * (n - 1))
def sqB (x : Int32) (n : Nat) : Bool := inB x (nI 0) (nI n - nI 2)
theorem sqB_of {x : Int32} {n : Nat} (h1 : 1 ≤ n) (h8 : n ≤ 8) (h : sqB x n = true) : ∃ k : Nat, x = nI k ∧ k + 2 ≤ n := by
  obtain ⟨a, b⟩ := of_decide_eq_true h
  by_cases e : n = 1
  · subst e
    exact absurd (Int32.le_trans a b) (by decide)
  · obtain ⟨q, rfl⟩ : ∃ q, n = q + 2 := ⟨n - 2, by omega⟩
    rw [show nI (q + 2) - nI 2 = nI q from by rw [← nI_add q 2, Int32.add_sub_cancel]] at b
    obtain ⟨k, hk, rfl⟩ := nI_of (x := x) (fun e => absurd (show (0 : Int32) ≤ x from a) (Int32.not_le.mpr e))
    have := (nI_leI hk (by omega)).mp b
    exact ⟨k, rfl, by omega⟩
theorem hdN_rg {M f : Nat → Int32} {k p : Nat} (hp : p ≤ 10000) : ∀ g q : Nat, hdN (rgU M f (10000 * k) p) (k + 1) g q = hdN M (k + 1) g q
  | 0, _ => rfl
  | g + 1, q => by
    unfold hdN
    rw [rgU_hi (by omega), hdN_rg hp g (prN q)]
theorem sq_ix (j p : Nat) : nI 10000 * nI j + nI 10000 + nI p = nI (10000 * j + p + 10000) := by
  rw [show nI 10000 * nI j = nI (10000 * j) from (Int32.ofNat_mul _ _).symm, nI_add, nI_add, show 10000 * j + 10000 + p = 10000 * j + p + 10000 by omega]
theorem hd_ix (k p : Nat) : nI (10000 * k + p) + nI 10000 = nI (10000 * (k + 1) + p) := by
  rw [nI_add, show 10000 * k + p + 10000 = 10000 * (k + 1) + p by omega]
set_option maxRecDepth 8192 in
set_option maxHeartbeats 4000000 in
theorem c_O_squash (l : Launch) (D : va_G) (aC : Nat → ClassId) (h : zz_Hp) (o : Nat) (ad : Nat → Nat) (th : Int32) (n : Nat) (M V vs sn sh : Nat → Int32) (W : mW h aC o ad th n M V vs sn sh) (x : Int32) :
    zz_Ct l D aC y_O_squash (zrm 2 0 0 90) [.ref o, .int x] h (fun r' h' => (sqB x n = false → (∃ r : Int32, r' = .inl (some (.int r))) ∧ mW h' aC o ad (rfC true false false) n M V vs sn sh) ∧ (sqB x n = true → r' = .inl (some (.int (nI (n - 1)))) ∧ mW h' aC o ad (rfC false false false) (n - 1) (sqM M n x.toNatClampNeg) (sqV M V n x.toNatClampNeg) vs sn sh)) := by
  refine zz_ct md_O_squash rfl (by simp [Value.category]) (Nat.le_of_ble_eq_true rfl) fun K C E hI => ?_
  obtain rfl := E.ac
  have n8 := W.1
  refine zz_go C [(0, .aload_n 0), (1, .iload_n 1), (2, .iconst 0), (3, .aload_n 0)] (by decide +kernel) (pc' := 4) (lv' := [some (.ref o), some (.int x), none, none, none, none]) (st' := [.ref o, .int (nI 0), .int x, .ref o]) rfl ?_
  refine zz_get C fd_O_7 W.ob (v := .int (nI n)) rfl (by decide +kernel) ?_
  refine zz_go C [(7, .iconst 2), (8, .isub)] (by decide +kernel) (pc' := 9) (lv' := [some (.ref o), some (.int x), none, none, none, none]) (st' := [.int ((nI n) - (nI 2)), .int (nI 0), .int x, .ref o]) rfl ?_
  refine zz_cS C E (As := [.int x, .int (nI 0), .int ((nI n) - (nI 2))]) (rest := [.ref o]) (hc := h) md_O_in (c_O_in l D (zz_ac K) h x (nI 0) (nI n - nI 2)) ml_O_51 sm_O_in (fun _ _ q => q) rfl rfl (Nat.le_of_ble_eq_true rfl) ⟨by decide, by decide⟩ ⟨(by decide), (by decide)⟩ (by decide +kernel) (fun v h' hp hn hd => ?_) (fun v h' hp hn hd => ?_)
  · rw [zz_mix_self hd]
    obtain ⟨hh, hv⟩ := hp
    rw [hh]
    cases hv
    show zz_Z _ _ _ _ _ _ _ _ [.int (bI (inB x (nI 0) (nI n - nI 2))), .ref o]
    refine zz_if C (i := .ifCond .ne 7) (by decide +kernel) (Pt := ¬ (bI (inB x (nI 0) (nI n - nI 2))) = 0) (Pf := (bI (inB x (nI 0) (nI n - nI 2))) = 0) (off := 7) (r := [.ref o]) (tgt := 19) rfl (by decide) (fun cA => ?_) (fun cA => ?_)
    · have hb : sqB x n = true := bI_1 cA
      obtain ⟨k, rfl, hk⟩ := sqB_of n8.1 n8.2 hb
      have clk : (nI k).toNatClampNeg = k := nI_clamp (by omega)
      refine zz_go C [(19, .iconst 0), (20, .iconst 0), (21, .iconst 0)] (by decide +kernel) (pc' := 22) (lv' := [some (.ref o), some (.int (nI k)), none, none, none, none]) (st' := [.int (nI 0), .int (nI 0), .int (nI 0), .ref o]) rfl ?_
      show zz_Z _ _ _ _ _ _ _ [some (.ref o), some (.int (nI k)), none, none, none, none] [.int (bI false), .int (bI false), .int (bI false), .ref o]
      refine zz_cV C E (ci := 3) (As := [.int (bI false), .int (bI false), .int (bI false)]) (rest := []) (hc := h) md_O_refuse (c_O_refuse l D (zz_ac K) h o ad th n M V vs sn sh W false false false) ml_O_66 im_O_refuse se_O_refuse rfl W.ob (fun _ _ q => q) rfl rfl (Nat.le_of_ble_eq_true rfl) ⟨by decide, by decide⟩ ⟨(by decide), (by decide)⟩ (by decide +kernel) (fun v0 h2 hp hn hd => ?_) (fun v0 h2 hp hn hd => ?_)
      · rw [zz_mix_self hd]
        obtain ⟨hv, W2⟩ := hp
        cases hv
        show zz_Z _ _ _ _ _ _ _ _ [.int (bI (false || false || false))]
        refine zz_if C (i := .ifCond .eq 5) (by decide +kernel) (Pt := (bI (false || false || false)) = 0) (Pf := ¬ (bI (false || false || false)) = 0) (off := 5) (r := []) (tgt := 30) rfl (by decide) (fun cZ => ?_) (fun cZ => ?_)
        · have inner : ∀ (j : Nat), k + 1 ≤ j → j + 1 < n → (∀ hc : zz_Hp, mW hc (zz_ac K) o ad (rfC false false false) n (shF (rgU M (sq1 M k) (10000 * k) 10000) (10000 * (k + 1)) (10000 * (j + 1))) (shF (rgU V (sq2 M V k) (10000 * k) 10000) (10000 * (k + 1)) (10000 * (j + 1))) vs sn sh → zz_Z K (zz_End K h (fun r' h' => (sqB (nI k) n = false → (∃ r : Int32, r' = .inl (some (.int r))) ∧ mW h' (zz_ac K) o ad (rfC true false false) n M V vs sn sh) ∧ (sqB (nI k) n = true → r' = .inl (some (.int (nI (n - 1)))) ∧ mW h' (zz_ac K) o ad (rfC false false false) (n - 1) (sqM M n (nI k).toNatClampNeg) (sqV M V n (nI k).toNatClampNeg) vs sn sh))) h hc 0 0 166 [some (.ref o), some (.int (nI k)), some (.int (nI (j + 1))), none, none, none] []) → ∀ (g p : Nat) (hc : zz_Hp), p + g = 10000 → mW hc (zz_ac K) o ad (rfC false false false) n (shF (rgU M (sq1 M k) (10000 * k) 10000) (10000 * (k + 1)) (10000 * j + p)) (shF (rgU V (sq2 M V k) (10000 * k) 10000) (10000 * (k + 1)) (10000 * j + p)) vs sn sh → zz_Z K (zz_End K h (fun r' h' => (sqB (nI k) n = false → (∃ r : Int32, r' = .inl (some (.int r))) ∧ mW h' (zz_ac K) o ad (rfC true false false) n M V vs sn sh) ∧ (sqB (nI k) n = true → r' = .inl (some (.int (nI (n - 1)))) ∧ mW h' (zz_ac K) o ad (rfC false false false) (n - 1) (sqM M n (nI k).toNatClampNeg) (sqV M V n (nI k).toNatClampNeg) vs sn sh))) h hc 0 0 178 [some (.ref o), some (.int (nI k)), some (.int (nI j)), some (.int (nI p)), none, none] [] := by
            intro j hj1 hj kk g
            induction g with
            | zero =>
              intro p hc hpg Wc
              refine zz_go C [(178, .iload_n 3), (179, .sipush 10000)] (by decide +kernel) (pc' := 182) (lv' := [some (.ref o), some (.int (nI k)), some (.int (nI j)), some (.int (nI p)), none, none]) (st' := [.int (nI 10000), .int (nI p)]) rfl ?_
              refine zz_if C (i := .if_icmp .ge 65) (by decide +kernel) (Pt := (nI 10000) ≤ (nI p)) (Pf := ¬ (nI 10000) ≤ (nI p)) (off := 65) (r := []) (tgt := 247) rfl (by decide) (fun cC => ?_) (fun cC => ?_)
              · rw [show 10000 * j + p = 10000 * (j + 1) by omega] at Wc
                refine zz_go C [(247, .iinc 2 1), (250, .goto (-84))] (by decide +kernel) (pc' := 166) (lv' := [some (.ref o), some (.int (nI k)), some (.int ((nI j) + (nI 1))), some (.int (nI p)), none, none]) (st' := []) rfl ?_
                rw [show nI j + nI 1 = nI (j + 1) from nI_add j 1]
                exact zz_lv [some (.ref o), some (.int (nI k)), some (.int (nI (j + 1))), none, none, none] (fun j u hu => by rcases j with _ | _ | _ | _ | _ | _ | j <;> first | exact hu | cases hu) (Nat.le_of_ble_eq_true rfl) (kk hc Wc)
              · exact absurd (nI_le (by omega) (by omega)) cC
            | succ g ih =>
              intro p hc hpg Wc
              refine zz_go C [(178, .iload_n 3), (179, .sipush 10000)] (by decide +kernel) (pc' := 182) (lv' := [some (.ref o), some (.int (nI k)), some (.int (nI j)), some (.int (nI p)), none, none]) (st' := [.int (nI 10000), .int (nI p)]) rfl ?_
              refine zz_if C (i := .if_icmp .ge 65) (by decide +kernel) (Pt := (nI 10000) ≤ (nI p)) (Pf := ¬ (nI 10000) ≤ (nI p)) (off := 65) (r := []) (tgt := 247) rfl (by decide) (fun cC => ?_) (fun cC => ?_)
              · exact absurd ((nI_leI (by omega) (by omega)).mp cC) (by omega)
              · refine zz_go C [(185, .aload_n 0)] (by decide +kernel) (pc' := 186) (lv' := [some (.ref o), some (.int (nI k)), some (.int (nI j)), some (.int (nI p)), none, none]) (st' := [.ref o]) rfl ?_
                refine zz_get C fd_O_14 Wc.ob (v := .ref (ad 0)) rfl (by decide +kernel) ?_
                refine zz_go C [(189, .sipush 10000), (192, .iload_n 2), (193, .imul), (194, .iload_n 3), (195, .iadd)] (by decide +kernel) (pc' := 196) (lv' := [some (.ref o), some (.int (nI k)), some (.int (nI j)), some (.int (nI p)), none, none]) (st' := [.int (((nI 10000) * (nI j)) + (nI p)), .ref (ad 0)]) rfl ?_
                rw [ix_m]
                refine zz_go C [(196, .aload_n 0)] (by decide +kernel) (pc' := 197) (lv' := [some (.ref o), some (.int (nI k)), some (.int (nI j)), some (.int (nI p)), none, none]) (st' := [.ref o, .int (nI (10000 * j + p)), .ref (ad 0)]) rfl ?_
                refine zz_get C fd_O_14 Wc.ob (v := .ref (ad 0)) rfl (by decide +kernel) ?_
                refine zz_go C [(200, .sipush 10000), (203, .iload_n 2), (204, .imul), (205, .sipush 10000), (208, .iadd), (209, .iload_n 3), (210, .iadd)] (by decide +kernel) (pc' := 211) (lv' := [some (.ref o), some (.int (nI k)), some (.int (nI j)), some (.int (nI p)), none, none]) (st' := [.int ((((nI 10000) * (nI j)) + (nI 10000)) + (nI p)), .ref (ad 0), .int (nI (10000 * j + p)), .ref (ad 0)]) rfl ?_
                rw [sq_ix]
                refine ga_ild C Wc.2.2.2.1 (by omega) (by decide) (by decide +kernel) ?_
                rw [shF_hi (by omega)]
                refine mo_mst C Wc (by omega) (by decide +kernel) (fun h4 W4 => ?_)
                rw [shF_s (by omega)] at W4
                refine zz_go C [(213, .aload_n 0)] (by decide +kernel) (pc' := 214) (lv' := [some (.ref o), some (.int (nI k)), some (.int (nI j)), some (.int (nI p)), none, none]) (st' := [.ref o]) rfl ?_
                refine zz_get C fd_O_18 W4.ob (v := .ref (ad 1)) rfl (by decide +kernel) ?_
                refine zz_go C [(217, .sipush 10000), (220, .iload_n 2), (221, .imul), (222, .iload_n 3), (223, .iadd)] (by decide +kernel) (pc' := 224) (lv' := [some (.ref o), some (.int (nI k)), some (.int (nI j)), some (.int (nI p)), none, none]) (st' := [.int (((nI 10000) * (nI j)) + (nI p)), .ref (ad 1)]) rfl ?_
                rw [ix_m]
                refine zz_go C [(224, .aload_n 0)] (by decide +kernel) (pc' := 225) (lv' := [some (.ref o), some (.int (nI k)), some (.int (nI j)), some (.int (nI p)), none, none]) (st' := [.ref o, .int (nI (10000 * j + p)), .ref (ad 1)]) rfl ?_
                refine zz_get C fd_O_18 W4.ob (v := .ref (ad 1)) rfl (by decide +kernel) ?_
                refine zz_go C [(228, .sipush 10000), (231, .iload_n 2), (232, .imul), (233, .sipush 10000), (236, .iadd), (237, .iload_n 3), (238, .iadd)] (by decide +kernel) (pc' := 239) (lv' := [some (.ref o), some (.int (nI k)), some (.int (nI j)), some (.int (nI p)), none, none]) (st' := [.int ((((nI 10000) * (nI j)) + (nI 10000)) + (nI p)), .ref (ad 1), .int (nI (10000 * j + p)), .ref (ad 1)]) rfl ?_
                rw [sq_ix]
                refine ga_ild C W4.2.2.2.2.1 (by omega) (by decide) (by decide +kernel) ?_
                rw [shF_hi (by omega)]
                refine mo_ust C W4 (by omega) (by decide +kernel) (fun h5 W5 => ?_)
                rw [shF_s (by omega)] at W5
                refine zz_go C [(241, .iinc 3 1), (244, .goto (-66))] (by decide +kernel) (pc' := 178) (lv' := [some (.ref o), some (.int (nI k)), some (.int (nI j)), some (.int ((nI p) + (nI 1))), none, none]) (st' := []) rfl ?_
                rw [show nI p + nI 1 = nI (p + 1) from nI_add p 1]
                exact ih (p + 1) h5 (by omega) W5
          have outer : ∀ (g j : Nat) (hc : zz_Hp), j + 1 + g = n → k + 1 ≤ j → mW hc (zz_ac K) o ad (rfC false false false) n (shF (rgU M (sq1 M k) (10000 * k) 10000) (10000 * (k + 1)) (10000 * j)) (shF (rgU V (sq2 M V k) (10000 * k) 10000) (10000 * (k + 1)) (10000 * j)) vs sn sh → zz_Z K (zz_End K h (fun r' h' => (sqB (nI k) n = false → (∃ r : Int32, r' = .inl (some (.int r))) ∧ mW h' (zz_ac K) o ad (rfC true false false) n M V vs sn sh) ∧ (sqB (nI k) n = true → r' = .inl (some (.int (nI (n - 1)))) ∧ mW h' (zz_ac K) o ad (rfC false false false) (n - 1) (sqM M n (nI k).toNatClampNeg) (sqV M V n (nI k).toNatClampNeg) vs sn sh))) h hc 0 0 166 [some (.ref o), some (.int (nI k)), some (.int (nI j)), none, none, none] [] := by
            intro g
            induction g with
            | zero =>
              intro j hc hjg hj1 Wc
              refine zz_go C [(166, .iload_n 2), (167, .iconst 1), (168, .iadd), (169, .aload_n 0)] (by decide +kernel) (pc' := 170) (lv' := [some (.ref o), some (.int (nI k)), some (.int (nI j)), none, none, none]) (st' := [.ref o, .int ((nI j) + (nI 1))]) rfl ?_
              refine zz_get C fd_O_7 Wc.ob (v := .int (nI n)) rfl (by decide +kernel) ?_
              rw [show nI j + nI 1 = nI (j + 1) from nI_add j 1]
              refine zz_if C (i := .if_icmp .ge 80) (by decide +kernel) (Pt := (nI n) ≤ (nI (j + 1))) (Pf := ¬ (nI n) ≤ (nI (j + 1))) (off := 80) (r := []) (tgt := 253) rfl (by decide) (fun cD => ?_) (fun cD => ?_)
              · rw [show j = n - 1 by omega] at Wc
                refine zz_go C [(253, .aload_n 0), (254, .dup)] (by decide +kernel) (pc' := 255) (lv' := [some (.ref o), some (.int (nI k)), some (.int (nI j)), none, none, none]) (st' := [.ref o, .ref o]) rfl ?_
                refine zz_get C fd_O_7 Wc.ob (v := .int (nI n)) rfl (by decide +kernel) ?_
                refine zz_go C [(258, .iconst 1), (259, .isub)] (by decide +kernel) (pc' := 260) (lv' := [some (.ref o), some (.int (nI k)), some (.int (nI j)), none, none, none]) (st' := [.int ((nI n) - (nI 1)), .ref o]) rfl ?_
                rw [n_pred n8.1]
                refine zz_putf C fd_O_7 Wc.ob rfl rfl (Nat.le_of_ble_eq_true rfl) (by decide +kernel) ?_
                have W3 : mW (va_up hc o (some (moE (rfC false false false) (n - 1) ad))) (zz_ac K) o ad (rfC false false false) (n - 1) (sqM M n k) (sqV M V n k) vs sn sh := Wc.set _ (by omega)
                refine zz_go C [(263, .aload_n 0)] (by decide +kernel) (pc' := 264) (lv' := [some (.ref o), some (.int (nI k)), some (.int (nI j)), none, none, none]) (st' := [.ref o]) rfl ?_
                refine zz_get C fd_O_7 (va_up_self _ _ _) (v := .int (nI (n - 1))) rfl (by decide +kernel) ?_
                exact zr_i C E (by decide) (by decide) (by decide +kernel) (⟨(fun z => by rw [hb] at z; cases z), fun _ => ⟨rfl, by rw [clk]; exact W3⟩⟩)
              · exact absurd (nI_le (by omega) (by omega)) cD
            | succ g ih =>
              intro j hc hjg hj1 Wc
              refine zz_go C [(166, .iload_n 2), (167, .iconst 1), (168, .iadd), (169, .aload_n 0)] (by decide +kernel) (pc' := 170) (lv' := [some (.ref o), some (.int (nI k)), some (.int (nI j)), none, none, none]) (st' := [.ref o, .int ((nI j) + (nI 1))]) rfl ?_
              refine zz_get C fd_O_7 Wc.ob (v := .int (nI n)) rfl (by decide +kernel) ?_
              rw [show nI j + nI 1 = nI (j + 1) from nI_add j 1]
              refine zz_if C (i := .if_icmp .ge 80) (by decide +kernel) (Pt := (nI n) ≤ (nI (j + 1))) (Pf := ¬ (nI n) ≤ (nI (j + 1))) (off := 80) (r := []) (tgt := 253) rfl (by decide) (fun cD => ?_) (fun cD => ?_)
              · exact absurd ((nI_leI (by omega) (by omega)).mp cD) (by omega)
              · refine zz_go C [(176, .iconst 0), (177, .istore_n 3)] (by decide +kernel) (pc' := 178) (lv' := [some (.ref o), some (.int (nI k)), some (.int (nI j)), some (.int (nI 0)), none, none]) (st' := []) rfl ?_
                exact zz_lv [some (.ref o), some (.int (nI k)), some (.int (nI j)), some (.int (nI 0)), none, none] (fun j u hu => by rcases j with _ | _ | _ | _ | _ | _ | j <;> first | exact hu | cases hu) (Nat.le_of_ble_eq_true rfl) (inner j hj1 (by omega) (fun h3 W3 => ih (j + 1) h3 (by omega) (by omega) W3) 10000 0 hc (by omega) Wc)
          have loop : ∀ (g p : Nat) (hc : zz_Hp), p + g = 10000 → 1 ≤ p → mW hc (zz_ac K) o ad (rfC false false false) n (rgU M (sq1 M k) (10000 * k) p) (rgU V (sq2 M V k) (10000 * k) p) vs sn sh → zz_Z K (zz_End K h (fun r' h' => (sqB (nI k) n = false → (∃ r : Int32, r' = .inl (some (.int r))) ∧ mW h' (zz_ac K) o ad (rfC true false false) n M V vs sn sh) ∧ (sqB (nI k) n = true → r' = .inl (some (.int (nI (n - 1)))) ∧ mW h' (zz_ac K) o ad (rfC false false false) (n - 1) (sqM M n (nI k).toNatClampNeg) (sqV M V n (nI k).toNatClampNeg) vs sn sh))) h hc 0 0 32 [some (.ref o), some (.int (nI k)), some (.int (nI p)), none, none, none] [] := by
            intro g
            induction g with
            | zero =>
              intro p hc hpg hp1 Wc
              refine zz_go C [(32, .iload_n 2), (33, .sipush 10000)] (by decide +kernel) (pc' := 36) (lv' := [some (.ref o), some (.int (nI k)), some (.int (nI p)), none, none, none]) (st' := [.int (nI 10000), .int (nI p)]) rfl ?_
              refine zz_if C (i := .if_icmp .ge 126) (by decide +kernel) (Pt := (nI 10000) ≤ (nI p)) (Pf := ¬ (nI 10000) ≤ (nI p)) (off := 126) (r := []) (tgt := 162) rfl (by decide) (fun cA => ?_) (fun cA => ?_)
              · rw [show p = 10000 by omega] at Wc
                refine zz_go C [(162, .iload_n 1), (163, .iconst 1), (164, .iadd), (165, .istore_n 2)] (by decide +kernel) (pc' := 166) (lv' := [some (.ref o), some (.int (nI k)), some (.int ((nI k) + (nI 1))), none, none, none]) (st' := []) rfl ?_
                rw [show nI k + nI 1 = nI (k + 1) from nI_add k 1]
                exact outer (n - (k + 2)) (k + 1) hc (by omega) (by omega) (by rw [shF_0, shF_0]; exact Wc)
              · exact absurd (nI_le (by omega) (by omega)) cA
            | succ g ih =>
              intro p hc hpg hp1 Wc
              refine zz_go C [(32, .iload_n 2), (33, .sipush 10000)] (by decide +kernel) (pc' := 36) (lv' := [some (.ref o), some (.int (nI k)), some (.int (nI p)), none, none, none]) (st' := [.int (nI 10000), .int (nI p)]) rfl ?_
              refine zz_if C (i := .if_icmp .ge 126) (by decide +kernel) (Pt := (nI 10000) ≤ (nI p)) (Pf := ¬ (nI 10000) ≤ (nI p)) (off := 126) (r := []) (tgt := 162) rfl (by decide) (fun cA => ?_) (fun cA => ?_)
              · exact absurd ((nI_leI (by omega) (by omega)).mp cA) (by omega)
              · obtain ⟨c, eH⟩ : ∃ c, M (10000 * (k + 1) + p) = c := ⟨_, rfl⟩
                obtain ⟨d, eL⟩ : ∃ d, M (10000 * k + p) = d := ⟨_, rfl⟩
                have s1 : sq1 M k p = if c = nI 2 ∧ hdC d = true then nI 3 else if ¬ c = 0 then c else if hdN M (k + 1) 9999 (prN p) = true then nI 0 else d := by unfold sq1; rw [eH, eL]
                have s2 : sq2 M V k p = if c = nI 2 ∧ hdC d = true then V (10000 * k + p) else if ¬ c = 0 then V (10000 * (k + 1) + p) else V (10000 * k + p) := by unfold sq2; rw [eH, eL]
                refine zz_go C [(39, .sipush 10000), (42, .iload_n 1), (43, .imul), (44, .iload_n 2), (45, .iadd)] (by decide +kernel) (pc' := 46) (lv' := [some (.ref o), some (.int (nI k)), some (.int (nI p)), none, none, none]) (st' := [.int (((nI 10000) * (nI k)) + (nI p))]) rfl ?_
                rw [ix_m]
                refine zz_go C [(46, .istore_n 3), (47, .iload_n 3), (48, .sipush 10000), (51, .iadd)] (by decide +kernel) (pc' := 52) (lv' := [some (.ref o), some (.int (nI k)), some (.int (nI p)), some (.int (nI (10000 * k + p))), none, none]) (st' := [.int ((nI (10000 * k + p)) + (nI 10000))]) rfl ?_
                rw [hd_ix]
                refine zz_go C [(52, .istore 4), (54, .aload_n 0)] (by decide +kernel) (pc' := 55) (lv' := [some (.ref o), some (.int (nI k)), some (.int (nI p)), some (.int (nI (10000 * k + p))), some (.int (nI (10000 * (k + 1) + p))), none]) (st' := [.ref o]) rfl ?_
                refine zz_get C fd_O_14 Wc.ob (v := .ref (ad 0)) rfl (by decide +kernel) ?_
                refine zz_go C [(58, .iload 4)] (by decide +kernel) (pc' := 60) (lv' := [some (.ref o), some (.int (nI k)), some (.int (nI p)), some (.int (nI (10000 * k + p))), some (.int (nI (10000 * (k + 1) + p))), none]) (st' := [.int (nI (10000 * (k + 1) + p)), .ref (ad 0)]) rfl ?_
                refine ga_ild C Wc.2.2.2.1 (by omega) (by decide) (by decide +kernel) ?_
                rw [rgU_hi (by omega), eH]
                refine zz_go C [(61, .istore 5), (63, .iload 5), (65, .iconst 2)] (by decide +kernel) (pc' := 66) (lv' := [some (.ref o), some (.int (nI k)), some (.int (nI p)), some (.int (nI (10000 * k + p))), some (.int (nI (10000 * (k + 1) + p))), some (.int c)]) (st' := [.int (nI 2), .int c]) rfl ?_
                refine zz_if C (i := .if_icmp .ne 43) (by decide +kernel) (Pt := ¬ c = (nI 2)) (Pf := c = (nI 2)) (off := 43) (r := []) (tgt := 109) rfl (by decide) (fun cB => ?_) (fun cB => ?_)
                · have hq2 : ¬ (c = nI 2 ∧ hdC d = true) := fun z => cB z.1
                  refine zz_go C [(109, .iload 5)] (by decide +kernel) (pc' := 111) (lv' := [some (.ref o), some (.int (nI k)), some (.int (nI p)), some (.int (nI (10000 * k + p))), some (.int (nI (10000 * (k + 1) + p))), some (.int c)]) (st' := [.int c]) rfl ?_
                  refine zz_if C (i := .ifCond .eq 27) (by decide +kernel) (Pt := c = 0) (Pf := ¬ c = 0) (off := 27) (r := []) (tgt := 138) rfl (by decide) (fun cE => ?_) (fun cE => ?_)
                  · refine zz_go C [(138, .aload_n 0), (139, .iload_n 1), (140, .iconst 1), (141, .iadd), (142, .iload_n 2)] (by decide +kernel) (pc' := 143) (lv' := [some (.ref o), some (.int (nI k)), some (.int (nI p)), some (.int (nI (10000 * k + p))), some (.int (nI (10000 * (k + 1) + p))), some (.int c)]) (st' := [.int (nI p), .int ((nI k) + (nI 1)), .ref o]) rfl ?_
                    rw [show nI k + nI 1 = nI (k + 1) from nI_add k 1]
                    refine zz_cV C E (ci := 3) (As := [.int (nI (k + 1)), .int (nI p)]) (rest := []) (hc := hc) md_O_isHidden (c_O_isHidden l D (zz_ac K) hc o ad _ n _ _ vs sn sh Wc (k + 1) p (by omega) (by omega)) ml_O_81 im_O_isHidden se_O_isHidden rfl Wc.ob (fun _ _ q => q) rfl rfl (Nat.le_of_ble_eq_true rfl) ⟨by decide, by decide⟩ ⟨(by decide), (by decide)⟩ (by decide +kernel) (fun v0 h9 hp hn hd => ?_) (fun v0 h9 hp hn hd => ?_)
                    · rw [zz_mix_self hd]
                      obtain ⟨hh, hv⟩ := hp
                      rw [hh]
                      cases hv
                      show zz_Z _ _ _ _ _ _ _ _ [.int (bI (hdN (rgU M (sq1 M k) (10000 * k) p) (k + 1) 9999 (prN p)))]
                      rw [hdN_rg (by omega)]
                      refine zz_if C (i := .ifCond .eq 10) (by decide +kernel) (Pt := (bI (hdN M (k + 1) 9999 (prN p))) = 0) (Pf := ¬ (bI (hdN M (k + 1) 9999 (prN p))) = 0) (off := 10) (r := []) (tgt := 156) rfl (by decide) (fun cF => ?_) (fun cF => ?_)
                      · rw [rgU_e (show sq1 M k p = M (10000 * k + p) by rw [s1, if_neg hq2, if_neg (fun z => z cE), (bI_0 _).mp cF, if_neg (by decide), eL]), rgU_e (show sq2 M V k p = V (10000 * k + p) by rw [s2, if_neg hq2, if_neg (fun z => z cE)])] at Wc
                        refine zz_go C [(156, .iinc 2 1), (159, .goto (-127))] (by decide +kernel) (pc' := 32) (lv' := [some (.ref o), some (.int (nI k)), some (.int ((nI p) + (nI 1))), some (.int (nI (10000 * k + p))), some (.int (nI (10000 * (k + 1) + p))), some (.int c)]) (st' := []) rfl ?_
                        rw [show nI p + nI 1 = nI (p + 1) from nI_add p 1]
                        exact zz_lv [some (.ref o), some (.int (nI k)), some (.int (nI (p + 1))), none, none, none] (fun j u hu => by rcases j with _ | _ | _ | _ | _ | _ | j <;> first | exact hu | cases hu) (Nat.le_of_ble_eq_true rfl) (ih (p + 1) hc (by omega) (by omega) Wc)
                      · refine zz_go C [(149, .aload_n 0)] (by decide +kernel) (pc' := 150) (lv' := [some (.ref o), some (.int (nI k)), some (.int (nI p)), some (.int (nI (10000 * k + p))), some (.int (nI (10000 * (k + 1) + p))), some (.int c)]) (st' := [.ref o]) rfl ?_
                        refine zz_get C fd_O_14 Wc.ob (v := .ref (ad 0)) rfl (by decide +kernel) ?_
                        refine zz_go C [(153, .iload_n 3), (154, .iconst 0)] (by decide +kernel) (pc' := 155) (lv' := [some (.ref o), some (.int (nI k)), some (.int (nI p)), some (.int (nI (10000 * k + p))), some (.int (nI (10000 * (k + 1) + p))), some (.int c)]) (st' := [.int (nI 0), .int (nI (10000 * k + p)), .ref (ad 0)]) rfl ?_
                        refine mo_mst C Wc (by omega) (by decide +kernel) (fun h4 W4 => ?_)
                        rw [rgU_s hp1 (show sq1 M k p = nI 0 by rw [s1, if_neg hq2, if_neg (fun z => z cE), if_pos (bI_1 cF)]), rgU_e (show sq2 M V k p = V (10000 * k + p) by rw [s2, if_neg hq2, if_neg (fun z => z cE)])] at W4
                        refine zz_go C [(156, .iinc 2 1), (159, .goto (-127))] (by decide +kernel) (pc' := 32) (lv' := [some (.ref o), some (.int (nI k)), some (.int ((nI p) + (nI 1))), some (.int (nI (10000 * k + p))), some (.int (nI (10000 * (k + 1) + p))), some (.int c)]) (st' := []) rfl ?_
                        rw [show nI p + nI 1 = nI (p + 1) from nI_add p 1]
                        exact zz_lv [some (.ref o), some (.int (nI k)), some (.int (nI (p + 1))), none, none, none] (fun j u hu => by rcases j with _ | _ | _ | _ | _ | _ | j <;> first | exact hu | cases hu) (Nat.le_of_ble_eq_true rfl) (ih (p + 1) h4 (by omega) (by omega) W4)
                    · cases hp.2
                  · refine zz_go C [(114, .aload_n 0)] (by decide +kernel) (pc' := 115) (lv' := [some (.ref o), some (.int (nI k)), some (.int (nI p)), some (.int (nI (10000 * k + p))), some (.int (nI (10000 * (k + 1) + p))), some (.int c)]) (st' := [.ref o]) rfl ?_
                    refine zz_get C fd_O_14 Wc.ob (v := .ref (ad 0)) rfl (by decide +kernel) ?_
                    refine zz_go C [(118, .iload_n 3), (119, .iload 5)] (by decide +kernel) (pc' := 121) (lv' := [some (.ref o), some (.int (nI k)), some (.int (nI p)), some (.int (nI (10000 * k + p))), some (.int (nI (10000 * (k + 1) + p))), some (.int c)]) (st' := [.int c, .int (nI (10000 * k + p)), .ref (ad 0)]) rfl ?_
                    refine mo_mst C Wc (by omega) (by decide +kernel) (fun h4 W4 => ?_)
                    refine zz_go C [(122, .aload_n 0)] (by decide +kernel) (pc' := 123) (lv' := [some (.ref o), some (.int (nI k)), some (.int (nI p)), some (.int (nI (10000 * k + p))), some (.int (nI (10000 * (k + 1) + p))), some (.int c)]) (st' := [.ref o]) rfl ?_
                    refine zz_get C fd_O_18 W4.ob (v := .ref (ad 1)) rfl (by decide +kernel) ?_
                    refine zz_go C [(126, .iload_n 3), (127, .aload_n 0)] (by decide +kernel) (pc' := 128) (lv' := [some (.ref o), some (.int (nI k)), some (.int (nI p)), some (.int (nI (10000 * k + p))), some (.int (nI (10000 * (k + 1) + p))), some (.int c)]) (st' := [.ref o, .int (nI (10000 * k + p)), .ref (ad 1)]) rfl ?_
                    refine zz_get C fd_O_18 W4.ob (v := .ref (ad 1)) rfl (by decide +kernel) ?_
                    refine zz_go C [(131, .iload 4)] (by decide +kernel) (pc' := 133) (lv' := [some (.ref o), some (.int (nI k)), some (.int (nI p)), some (.int (nI (10000 * k + p))), some (.int (nI (10000 * (k + 1) + p))), some (.int c)]) (st' := [.int (nI (10000 * (k + 1) + p)), .ref (ad 1), .int (nI (10000 * k + p)), .ref (ad 1)]) rfl ?_
                    refine ga_ild C W4.2.2.2.2.1 (by omega) (by decide) (by decide +kernel) ?_
                    rw [rgU_hi (by omega)]
                    refine mo_ust C W4 (by omega) (by decide +kernel) (fun h5 W5 => ?_)
                    rw [rgU_s hp1 (show sq1 M k p = c by rw [s1, if_neg hq2, if_pos cE]), rgU_s hp1 (show sq2 M V k p = V (10000 * (k + 1) + p) by rw [s2, if_neg hq2, if_pos cE])] at W5
                    refine zz_go C [(135, .goto 21), (156, .iinc 2 1), (159, .goto (-127))] (by decide +kernel) (pc' := 32) (lv' := [some (.ref o), some (.int (nI k)), some (.int ((nI p) + (nI 1))), some (.int (nI (10000 * k + p))), some (.int (nI (10000 * (k + 1) + p))), some (.int c)]) (st' := []) rfl ?_
                    rw [show nI p + nI 1 = nI (p + 1) from nI_add p 1]
                    exact zz_lv [some (.ref o), some (.int (nI k)), some (.int (nI (p + 1))), none, none, none] (fun j u hu => by rcases j with _ | _ | _ | _ | _ | _ | j <;> first | exact hu | cases hu) (Nat.le_of_ble_eq_true rfl) (ih (p + 1) h5 (by omega) (by omega) W5)
                · refine zz_go C [(69, .aload_n 0)] (by decide +kernel) (pc' := 70) (lv' := [some (.ref o), some (.int (nI k)), some (.int (nI p)), some (.int (nI (10000 * k + p))), some (.int (nI (10000 * (k + 1) + p))), some (.int c)]) (st' := [.ref o]) rfl ?_
                  refine zz_get C fd_O_14 Wc.ob (v := .ref (ad 0)) rfl (by decide +kernel) ?_
                  refine zz_go C [(73, .iload_n 3)] (by decide +kernel) (pc' := 74) (lv' := [some (.ref o), some (.int (nI k)), some (.int (nI p)), some (.int (nI (10000 * k + p))), some (.int (nI (10000 * (k + 1) + p))), some (.int c)]) (st' := [.int (nI (10000 * k + p)), .ref (ad 0)]) rfl ?_
                  refine ga_ild C Wc.2.2.2.1 (by omega) (by decide) (by decide +kernel) ?_
                  rw [rgU_hi (Nat.le_refl _), eL]
                  refine zz_go C [(75, .iconst 1)] (by decide +kernel) (pc' := 76) (lv' := [some (.ref o), some (.int (nI k)), some (.int (nI p)), some (.int (nI (10000 * k + p))), some (.int (nI (10000 * (k + 1) + p))), some (.int c)]) (st' := [.int (nI 1), .int d]) rfl ?_
                  refine zz_if C (i := .if_icmp .eq 23) (by decide +kernel) (Pt := d = (nI 1)) (Pf := ¬ d = (nI 1)) (off := 23) (r := []) (tgt := 99) rfl (by decide) (fun c1 => ?_) (fun c1 => ?_)
                  · have hq2 : c = nI 2 ∧ hdC d = true := ⟨cB, by rw [hdC, decide_eq_true c1, Bool.true_or, Bool.true_or]⟩
                    refine zz_go C [(99, .aload_n 0)] (by decide +kernel) (pc' := 100) (lv' := [some (.ref o), some (.int (nI k)), some (.int (nI p)), some (.int (nI (10000 * k + p))), some (.int (nI (10000 * (k + 1) + p))), some (.int c)]) (st' := [.ref o]) rfl ?_
                    refine zz_get C fd_O_14 Wc.ob (v := .ref (ad 0)) rfl (by decide +kernel) ?_
                    refine zz_go C [(103, .iload_n 3), (104, .iconst 3)] (by decide +kernel) (pc' := 105) (lv' := [some (.ref o), some (.int (nI k)), some (.int (nI p)), some (.int (nI (10000 * k + p))), some (.int (nI (10000 * (k + 1) + p))), some (.int c)]) (st' := [.int (nI 3), .int (nI (10000 * k + p)), .ref (ad 0)]) rfl ?_
                    refine mo_mst C Wc (by omega) (by decide +kernel) (fun h4 W4 => ?_)
                    rw [rgU_s hp1 (show sq1 M k p = nI 3 by rw [s1, if_pos hq2]), rgU_e (show sq2 M V k p = V (10000 * k + p) by rw [s2, if_pos hq2])] at W4
                    refine zz_go C [(106, .goto 50), (156, .iinc 2 1), (159, .goto (-127))] (by decide +kernel) (pc' := 32) (lv' := [some (.ref o), some (.int (nI k)), some (.int ((nI p) + (nI 1))), some (.int (nI (10000 * k + p))), some (.int (nI (10000 * (k + 1) + p))), some (.int c)]) (st' := []) rfl ?_
                    rw [show nI p + nI 1 = nI (p + 1) from nI_add p 1]
                    exact zz_lv [some (.ref o), some (.int (nI k)), some (.int (nI (p + 1))), none, none, none] (fun j u hu => by rcases j with _ | _ | _ | _ | _ | _ | j <;> first | exact hu | cases hu) (Nat.le_of_ble_eq_true rfl) (ih (p + 1) h4 (by omega) (by omega) W4)
                  · refine zz_go C [(79, .aload_n 0)] (by decide +kernel) (pc' := 80) (lv' := [some (.ref o), some (.int (nI k)), some (.int (nI p)), some (.int (nI (10000 * k + p))), some (.int (nI (10000 * (k + 1) + p))), some (.int c)]) (st' := [.ref o]) rfl ?_
                    refine zz_get C fd_O_14 Wc.ob (v := .ref (ad 0)) rfl (by decide +kernel) ?_
                    refine zz_go C [(83, .iload_n 3)] (by decide +kernel) (pc' := 84) (lv' := [some (.ref o), some (.int (nI k)), some (.int (nI p)), some (.int (nI (10000 * k + p))), some (.int (nI (10000 * (k + 1) + p))), some (.int c)]) (st' := [.int (nI (10000 * k + p)), .ref (ad 0)]) rfl ?_
                    refine ga_ild C Wc.2.2.2.1 (by omega) (by decide) (by decide +kernel) ?_
                    rw [rgU_hi (Nat.le_refl _), eL]
                    refine zz_go C [(85, .iconst 3)] (by decide +kernel) (pc' := 86) (lv' := [some (.ref o), some (.int (nI k)), some (.int (nI p)), some (.int (nI (10000 * k + p))), some (.int (nI (10000 * (k + 1) + p))), some (.int c)]) (st' := [.int (nI 3), .int d]) rfl ?_
                    refine zz_if C (i := .if_icmp .eq 13) (by decide +kernel) (Pt := d = (nI 3)) (Pf := ¬ d = (nI 3)) (off := 13) (r := []) (tgt := 99) rfl (by decide) (fun c3 => ?_) (fun c3 => ?_)
                    · have hq2 : c = nI 2 ∧ hdC d = true := ⟨cB, by rw [hdC, decide_eq_true c3, Bool.or_true, Bool.true_or]⟩
                      refine zz_go C [(99, .aload_n 0)] (by decide +kernel) (pc' := 100) (lv' := [some (.ref o), some (.int (nI k)), some (.int (nI p)), some (.int (nI (10000 * k + p))), some (.int (nI (10000 * (k + 1) + p))), some (.int c)]) (st' := [.ref o]) rfl ?_
                      refine zz_get C fd_O_14 Wc.ob (v := .ref (ad 0)) rfl (by decide +kernel) ?_
                      refine zz_go C [(103, .iload_n 3), (104, .iconst 3)] (by decide +kernel) (pc' := 105) (lv' := [some (.ref o), some (.int (nI k)), some (.int (nI p)), some (.int (nI (10000 * k + p))), some (.int (nI (10000 * (k + 1) + p))), some (.int c)]) (st' := [.int (nI 3), .int (nI (10000 * k + p)), .ref (ad 0)]) rfl ?_
                      refine mo_mst C Wc (by omega) (by decide +kernel) (fun h4 W4 => ?_)
                      rw [rgU_s hp1 (show sq1 M k p = nI 3 by rw [s1, if_pos hq2]), rgU_e (show sq2 M V k p = V (10000 * k + p) by rw [s2, if_pos hq2])] at W4
                      refine zz_go C [(106, .goto 50), (156, .iinc 2 1), (159, .goto (-127))] (by decide +kernel) (pc' := 32) (lv' := [some (.ref o), some (.int (nI k)), some (.int ((nI p) + (nI 1))), some (.int (nI (10000 * k + p))), some (.int (nI (10000 * (k + 1) + p))), some (.int c)]) (st' := []) rfl ?_
                      rw [show nI p + nI 1 = nI (p + 1) from nI_add p 1]
                      exact zz_lv [some (.ref o), some (.int (nI k)), some (.int (nI (p + 1))), none, none, none] (fun j u hu => by rcases j with _ | _ | _ | _ | _ | _ | j <;> first | exact hu | cases hu) (Nat.le_of_ble_eq_true rfl) (ih (p + 1) h4 (by omega) (by omega) W4)
                    · refine zz_go C [(89, .aload_n 0)] (by decide +kernel) (pc' := 90) (lv' := [some (.ref o), some (.int (nI k)), some (.int (nI p)), some (.int (nI (10000 * k + p))), some (.int (nI (10000 * (k + 1) + p))), some (.int c)]) (st' := [.ref o]) rfl ?_
                      refine zz_get C fd_O_14 Wc.ob (v := .ref (ad 0)) rfl (by decide +kernel) ?_
                      refine zz_go C [(93, .iload_n 3)] (by decide +kernel) (pc' := 94) (lv' := [some (.ref o), some (.int (nI k)), some (.int (nI p)), some (.int (nI (10000 * k + p))), some (.int (nI (10000 * (k + 1) + p))), some (.int c)]) (st' := [.int (nI (10000 * k + p)), .ref (ad 0)]) rfl ?_
                      refine ga_ild C Wc.2.2.2.1 (by omega) (by decide) (by decide +kernel) ?_
                      rw [rgU_hi (Nat.le_refl _), eL]
                      refine zz_go C [(95, .iconst 4)] (by decide +kernel) (pc' := 96) (lv' := [some (.ref o), some (.int (nI k)), some (.int (nI p)), some (.int (nI (10000 * k + p))), some (.int (nI (10000 * (k + 1) + p))), some (.int c)]) (st' := [.int (nI 4), .int d]) rfl ?_
                      refine zz_if C (i := .if_icmp .ne 13) (by decide +kernel) (Pt := ¬ d = (nI 4)) (Pf := d = (nI 4)) (off := 13) (r := []) (tgt := 109) rfl (by decide) (fun c4 => ?_) (fun c4 => ?_)
                      · have hq2 : ¬ (c = nI 2 ∧ hdC d = true) := fun z => absurd z.2 (by rw [hdC, decide_eq_false c1, decide_eq_false c3, decide_eq_false c4]; decide)
                        refine zz_go C [(109, .iload 5)] (by decide +kernel) (pc' := 111) (lv' := [some (.ref o), some (.int (nI k)), some (.int (nI p)), some (.int (nI (10000 * k + p))), some (.int (nI (10000 * (k + 1) + p))), some (.int c)]) (st' := [.int c]) rfl ?_
                        refine zz_if C (i := .ifCond .eq 27) (by decide +kernel) (Pt := c = 0) (Pf := ¬ c = 0) (off := 27) (r := []) (tgt := 138) rfl (by decide) (fun cE => ?_) (fun cE => ?_)
                        · refine zz_go C [(138, .aload_n 0), (139, .iload_n 1), (140, .iconst 1), (141, .iadd), (142, .iload_n 2)] (by decide +kernel) (pc' := 143) (lv' := [some (.ref o), some (.int (nI k)), some (.int (nI p)), some (.int (nI (10000 * k + p))), some (.int (nI (10000 * (k + 1) + p))), some (.int c)]) (st' := [.int (nI p), .int ((nI k) + (nI 1)), .ref o]) rfl ?_
                          rw [show nI k + nI 1 = nI (k + 1) from nI_add k 1]
                          refine zz_cV C E (ci := 3) (As := [.int (nI (k + 1)), .int (nI p)]) (rest := []) (hc := hc) md_O_isHidden (c_O_isHidden l D (zz_ac K) hc o ad _ n _ _ vs sn sh Wc (k + 1) p (by omega) (by omega)) ml_O_81 im_O_isHidden se_O_isHidden rfl Wc.ob (fun _ _ q => q) rfl rfl (Nat.le_of_ble_eq_true rfl) ⟨by decide, by decide⟩ ⟨(by decide), (by decide)⟩ (by decide +kernel) (fun v0 h9 hp hn hd => ?_) (fun v0 h9 hp hn hd => ?_)
                          · rw [zz_mix_self hd]
                            obtain ⟨hh, hv⟩ := hp
                            rw [hh]
                            cases hv
                            show zz_Z _ _ _ _ _ _ _ _ [.int (bI (hdN (rgU M (sq1 M k) (10000 * k) p) (k + 1) 9999 (prN p)))]
                            rw [hdN_rg (by omega)]
                            refine zz_if C (i := .ifCond .eq 10) (by decide +kernel) (Pt := (bI (hdN M (k + 1) 9999 (prN p))) = 0) (Pf := ¬ (bI (hdN M (k + 1) 9999 (prN p))) = 0) (off := 10) (r := []) (tgt := 156) rfl (by decide) (fun cF => ?_) (fun cF => ?_)
                            · rw [rgU_e (show sq1 M k p = M (10000 * k + p) by rw [s1, if_neg hq2, if_neg (fun z => z cE), (bI_0 _).mp cF, if_neg (by decide), eL]), rgU_e (show sq2 M V k p = V (10000 * k + p) by rw [s2, if_neg hq2, if_neg (fun z => z cE)])] at Wc
                              refine zz_go C [(156, .iinc 2 1), (159, .goto (-127))] (by decide +kernel) (pc' := 32) (lv' := [some (.ref o), some (.int (nI k)), some (.int ((nI p) + (nI 1))), some (.int (nI (10000 * k + p))), some (.int (nI (10000 * (k + 1) + p))), some (.int c)]) (st' := []) rfl ?_
                              rw [show nI p + nI 1 = nI (p + 1) from nI_add p 1]
                              exact zz_lv [some (.ref o), some (.int (nI k)), some (.int (nI (p + 1))), none, none, none] (fun j u hu => by rcases j with _ | _ | _ | _ | _ | _ | j <;> first | exact hu | cases hu) (Nat.le_of_ble_eq_true rfl) (ih (p + 1) hc (by omega) (by omega) Wc)
                            · refine zz_go C [(149, .aload_n 0)] (by decide +kernel) (pc' := 150) (lv' := [some (.ref o), some (.int (nI k)), some (.int (nI p)), some (.int (nI (10000 * k + p))), some (.int (nI (10000 * (k + 1) + p))), some (.int c)]) (st' := [.ref o]) rfl ?_
                              refine zz_get C fd_O_14 Wc.ob (v := .ref (ad 0)) rfl (by decide +kernel) ?_
                              refine zz_go C [(153, .iload_n 3), (154, .iconst 0)] (by decide +kernel) (pc' := 155) (lv' := [some (.ref o), some (.int (nI k)), some (.int (nI p)), some (.int (nI (10000 * k + p))), some (.int (nI (10000 * (k + 1) + p))), some (.int c)]) (st' := [.int (nI 0), .int (nI (10000 * k + p)), .ref (ad 0)]) rfl ?_
                              refine mo_mst C Wc (by omega) (by decide +kernel) (fun h4 W4 => ?_)
                              rw [rgU_s hp1 (show sq1 M k p = nI 0 by rw [s1, if_neg hq2, if_neg (fun z => z cE), if_pos (bI_1 cF)]), rgU_e (show sq2 M V k p = V (10000 * k + p) by rw [s2, if_neg hq2, if_neg (fun z => z cE)])] at W4
                              refine zz_go C [(156, .iinc 2 1), (159, .goto (-127))] (by decide +kernel) (pc' := 32) (lv' := [some (.ref o), some (.int (nI k)), some (.int ((nI p) + (nI 1))), some (.int (nI (10000 * k + p))), some (.int (nI (10000 * (k + 1) + p))), some (.int c)]) (st' := []) rfl ?_
                              rw [show nI p + nI 1 = nI (p + 1) from nI_add p 1]
                              exact zz_lv [some (.ref o), some (.int (nI k)), some (.int (nI (p + 1))), none, none, none] (fun j u hu => by rcases j with _ | _ | _ | _ | _ | _ | j <;> first | exact hu | cases hu) (Nat.le_of_ble_eq_true rfl) (ih (p + 1) h4 (by omega) (by omega) W4)
                          · cases hp.2
                        · refine zz_go C [(114, .aload_n 0)] (by decide +kernel) (pc' := 115) (lv' := [some (.ref o), some (.int (nI k)), some (.int (nI p)), some (.int (nI (10000 * k + p))), some (.int (nI (10000 * (k + 1) + p))), some (.int c)]) (st' := [.ref o]) rfl ?_
                          refine zz_get C fd_O_14 Wc.ob (v := .ref (ad 0)) rfl (by decide +kernel) ?_
                          refine zz_go C [(118, .iload_n 3), (119, .iload 5)] (by decide +kernel) (pc' := 121) (lv' := [some (.ref o), some (.int (nI k)), some (.int (nI p)), some (.int (nI (10000 * k + p))), some (.int (nI (10000 * (k + 1) + p))), some (.int c)]) (st' := [.int c, .int (nI (10000 * k + p)), .ref (ad 0)]) rfl ?_
                          refine mo_mst C Wc (by omega) (by decide +kernel) (fun h4 W4 => ?_)
                          refine zz_go C [(122, .aload_n 0)] (by decide +kernel) (pc' := 123) (lv' := [some (.ref o), some (.int (nI k)), some (.int (nI p)), some (.int (nI (10000 * k + p))), some (.int (nI (10000 * (k + 1) + p))), some (.int c)]) (st' := [.ref o]) rfl ?_
                          refine zz_get C fd_O_18 W4.ob (v := .ref (ad 1)) rfl (by decide +kernel) ?_
                          refine zz_go C [(126, .iload_n 3), (127, .aload_n 0)] (by decide +kernel) (pc' := 128) (lv' := [some (.ref o), some (.int (nI k)), some (.int (nI p)), some (.int (nI (10000 * k + p))), some (.int (nI (10000 * (k + 1) + p))), some (.int c)]) (st' := [.ref o, .int (nI (10000 * k + p)), .ref (ad 1)]) rfl ?_
                          refine zz_get C fd_O_18 W4.ob (v := .ref (ad 1)) rfl (by decide +kernel) ?_
                          refine zz_go C [(131, .iload 4)] (by decide +kernel) (pc' := 133) (lv' := [some (.ref o), some (.int (nI k)), some (.int (nI p)), some (.int (nI (10000 * k + p))), some (.int (nI (10000 * (k + 1) + p))), some (.int c)]) (st' := [.int (nI (10000 * (k + 1) + p)), .ref (ad 1), .int (nI (10000 * k + p)), .ref (ad 1)]) rfl ?_
                          refine ga_ild C W4.2.2.2.2.1 (by omega) (by decide) (by decide +kernel) ?_
                          rw [rgU_hi (by omega)]
                          refine mo_ust C W4 (by omega) (by decide +kernel) (fun h5 W5 => ?_)
                          rw [rgU_s hp1 (show sq1 M k p = c by rw [s1, if_neg hq2, if_pos cE]), rgU_s hp1 (show sq2 M V k p = V (10000 * (k + 1) + p) by rw [s2, if_neg hq2, if_pos cE])] at W5
                          refine zz_go C [(135, .goto 21), (156, .iinc 2 1), (159, .goto (-127))] (by decide +kernel) (pc' := 32) (lv' := [some (.ref o), some (.int (nI k)), some (.int ((nI p) + (nI 1))), some (.int (nI (10000 * k + p))), some (.int (nI (10000 * (k + 1) + p))), some (.int c)]) (st' := []) rfl ?_
                          rw [show nI p + nI 1 = nI (p + 1) from nI_add p 1]
                          exact zz_lv [some (.ref o), some (.int (nI k)), some (.int (nI (p + 1))), none, none, none] (fun j u hu => by rcases j with _ | _ | _ | _ | _ | _ | j <;> first | exact hu | cases hu) (Nat.le_of_ble_eq_true rfl) (ih (p + 1) h5 (by omega) (by omega) W5)
                      · have hq2 : c = nI 2 ∧ hdC d = true := ⟨cB, by rw [hdC, decide_eq_true c4, Bool.or_true]⟩
                        refine zz_go C [(99, .aload_n 0)] (by decide +kernel) (pc' := 100) (lv' := [some (.ref o), some (.int (nI k)), some (.int (nI p)), some (.int (nI (10000 * k + p))), some (.int (nI (10000 * (k + 1) + p))), some (.int c)]) (st' := [.ref o]) rfl ?_
                        refine zz_get C fd_O_14 Wc.ob (v := .ref (ad 0)) rfl (by decide +kernel) ?_
                        refine zz_go C [(103, .iload_n 3), (104, .iconst 3)] (by decide +kernel) (pc' := 105) (lv' := [some (.ref o), some (.int (nI k)), some (.int (nI p)), some (.int (nI (10000 * k + p))), some (.int (nI (10000 * (k + 1) + p))), some (.int c)]) (st' := [.int (nI 3), .int (nI (10000 * k + p)), .ref (ad 0)]) rfl ?_
                        refine mo_mst C Wc (by omega) (by decide +kernel) (fun h4 W4 => ?_)
                        rw [rgU_s hp1 (show sq1 M k p = nI 3 by rw [s1, if_pos hq2]), rgU_e (show sq2 M V k p = V (10000 * k + p) by rw [s2, if_pos hq2])] at W4
                        refine zz_go C [(106, .goto 50), (156, .iinc 2 1), (159, .goto (-127))] (by decide +kernel) (pc' := 32) (lv' := [some (.ref o), some (.int (nI k)), some (.int ((nI p) + (nI 1))), some (.int (nI (10000 * k + p))), some (.int (nI (10000 * (k + 1) + p))), some (.int c)]) (st' := []) rfl ?_
                        rw [show nI p + nI 1 = nI (p + 1) from nI_add p 1]
                        exact zz_lv [some (.ref o), some (.int (nI k)), some (.int (nI (p + 1))), none, none, none] (fun j u hu => by rcases j with _ | _ | _ | _ | _ | _ | j <;> first | exact hu | cases hu) (Nat.le_of_ble_eq_true rfl) (ih (p + 1) h4 (by omega) (by omega) W4)
          refine zz_go C [(30, .iconst 1), (31, .istore_n 2)] (by decide +kernel) (pc' := 32) (lv' := [some (.ref o), some (.int (nI k)), some (.int (nI 1)), none, none, none]) (st' := []) rfl ?_
          exact loop 9999 1 h2 (by omega) (by omega) (by rw [rgU_1, rgU_1]; exact W2)
        · exact absurd rfl cZ
      · cases hp.1
    · have hb : sqB x n = false := (bI_0 _).mp cA
      refine zz_go C [(15, .iconst 1), (16, .goto 4), (20, .iconst 0), (21, .iconst 0)] (by decide +kernel) (pc' := 22) (lv' := [some (.ref o), some (.int x), none, none, none, none]) (st' := [.int (nI 0), .int (nI 0), .int (nI 1), .ref o]) rfl ?_
      show zz_Z _ _ _ _ _ _ _ [some (.ref o), some (.int x), none, none, none, none] [.int (bI false), .int (bI false), .int (bI true), .ref o]
      refine zz_cV C E (ci := 3) (As := [.int (bI true), .int (bI false), .int (bI false)]) (rest := []) (hc := h) md_O_refuse (c_O_refuse l D (zz_ac K) h o ad th n M V vs sn sh W true false false) ml_O_66 im_O_refuse se_O_refuse rfl W.ob (fun _ _ q => q) rfl rfl (Nat.le_of_ble_eq_true rfl) ⟨by decide, by decide⟩ ⟨(by decide), (by decide)⟩ (by decide +kernel) (fun v0 h2 hp hn hd => ?_) (fun v0 h2 hp hn hd => ?_)
      · rw [zz_mix_self hd]
        obtain ⟨hv, W2⟩ := hp
        cases hv
        show zz_Z _ _ _ _ _ _ _ _ [.int (bI (true || false || false))]
        refine zz_if C (i := .ifCond .eq 5) (by decide +kernel) (Pt := (bI (true || false || false)) = 0) (Pf := ¬ (bI (true || false || false)) = 0) (off := 5) (r := []) (tgt := 30) rfl (by decide) (fun cZ => ?_) (fun cZ => ?_)
        · exact absurd cZ (by decide)
        · refine zz_go C [(28, .iconst 0)] (by decide +kernel) (pc' := 29) (lv' := [some (.ref o), some (.int x), none, none, none, none]) (st' := [.int (nI 0)]) rfl ?_
          exact zr_i C E (by decide) (by decide) (by decide +kernel) (⟨fun _ => ⟨⟨_, rfl⟩, W2⟩, (fun z => by rw [hb] at z; cases z)⟩)
      · cases hp.1
  · cases hp.2
