/-! ===== isHidden ===== -/
def hdC (c : Int32) : Bool := decide (c = nI 1) || decide (c = nI 3) || decide (c = nI 4)
/-- a mark that hides stands at q or above it -/
def hdN (M : Nat → Int32) (i : Nat) : Nat → Nat → Bool
  | 0, _ => false
  | g + 1, q => if q = 0 then false else (hdC (M (10000 * i + q)) || hdN M i g (prN q))
theorem prN_le {p : Nat} (h : p ≤ 9999) : prN p ≤ 9999 := by
  by_cases e : p = 0
  · subst e; decide
  · exact Nat.le_trans (Nat.le_of_lt (prN_lt e)) h
set_option maxHeartbeats 4000000 in
theorem c_O_isHidden (l : Launch) (D : va_G) (aC : Nat → ClassId) (h : zz_Hp) (o : Nat) (ad : Nat → Nat) (th : Int32) (n : Nat) (M V vs sn sh : Nat → Int32) (W : mW h aC o ad th n M V vs sn sh) (i p : Nat) (hi : i < 8) (p9 : p ≤ 9999) :
    zz_Ct l D aC y_O_isHidden (zrm 1 0 0 40) [.ref o, .int (nI i), .int (nI p)] h (fun r' h' => h' = h ∧ r' = .inl (some (.int (bI (hdN M i 9999 (prN p)))))) := by
  refine zz_ct md_O_isHidden rfl (by simp [Value.category]) (Nat.le_of_ble_eq_true rfl) fun K C E hI => ?_
  obtain rfl := E.ac
  have loop : ∀ (g q : Nat) (b : Bool), q ≤ g → q ≤ 9999 → hdN M i 9999 (prN p) = (b || hdN M i g q) → zz_Z K (zz_End K h (fun r' h' => h' = h ∧ r' = .inl (some (.int (bI (hdN M i 9999 (prN p))))))) h h (0 + (zrm 0 0 0 0).cells) (0 + (zrm 0 0 0 0).slots) 8 [some (.ref o), some (.int (nI i)), some (.int (nI p)), some (.int (bI b)), some (.int (nI q)), none] [] := by
    intro g
    induction g with
    | zero =>
      intro q b hqg q9 hR
      refine zz_go C [(8, .iload 4)] (by decide +kernel) (pc' := 10) (lv' := [some (.ref o), some (.int (nI i)), some (.int (nI p)), some (.int (bI b)), some (.int (nI q)), none]) (st' := [.int (nI q)]) rfl ?_
      refine zz_if C (i := .ifCond .le 56) (by decide +kernel) (Pt := (nI q) ≤ 0) (Pf := ¬ (nI q) ≤ 0) (off := 56) (r := []) (tgt := 66) rfl (by decide) (fun cA => ?_) (fun cA => ?_)
      · have hq0 : q = 0 := Nat.eq_zero_of_not_pos (fun e => absurd cA (nI_nle e (by omega)))
        have hz : hdN M i 0 q = false := by rw [hq0]; rfl
        rw [hz, Bool.or_false] at hR
        refine zz_go C [(66, .iload_n 3)] (by decide +kernel) (pc' := 67) (lv' := [some (.ref o), some (.int (nI i)), some (.int (nI p)), some (.int (bI b)), some (.int (nI q)), none]) (st' := [.int (bI b)]) rfl ?_
        exact zr_z C E b rfl (by decide) (by decide) (by decide +kernel) (⟨rfl, by rw [hR]⟩)
      · have hq0 : ¬ q = 0 := fun e => cA (by rw [e]; decide)
        exact absurd hqg (by omega)
    | succ g ih =>
      intro q b hqg q9 hR
      refine zz_go C [(8, .iload 4)] (by decide +kernel) (pc' := 10) (lv' := [some (.ref o), some (.int (nI i)), some (.int (nI p)), some (.int (bI b)), some (.int (nI q)), none]) (st' := [.int (nI q)]) rfl ?_
      refine zz_if C (i := .ifCond .le 56) (by decide +kernel) (Pt := (nI q) ≤ 0) (Pf := ¬ (nI q) ≤ 0) (off := 56) (r := []) (tgt := 66) rfl (by decide) (fun cA => ?_) (fun cA => ?_)
      · have hq0 : q = 0 := Nat.eq_zero_of_not_pos (fun e => absurd cA (nI_nle e (by omega)))
        have hz : hdN M i (g + 1) q = false := by rw [hq0]; rfl
        rw [hz, Bool.or_false] at hR
        refine zz_go C [(66, .iload_n 3)] (by decide +kernel) (pc' := 67) (lv' := [some (.ref o), some (.int (nI i)), some (.int (nI p)), some (.int (bI b)), some (.int (nI q)), none]) (st' := [.int (bI b)]) rfl ?_
        exact zr_z C E b rfl (by decide) (by decide) (by decide +kernel) (⟨rfl, by rw [hR]⟩)
      · have hq0 : ¬ q = 0 := fun e => cA (by rw [e]; decide)
        have lt := prN_lt hq0
        rw [show hdN M i (g + 1) q = (hdC (M (10000 * i + q)) || hdN M i g (prN q)) from if_neg hq0] at hR
        refine zz_go C [(13, .aload_n 0)] (by decide +kernel) (pc' := 14) (lv' := [some (.ref o), some (.int (nI i)), some (.int (nI p)), some (.int (bI b)), some (.int (nI q)), none]) (st' := [.ref o]) rfl ?_
        refine zz_get C fd_O_14 W.ob (v := .ref (ad 0)) rfl (by decide +kernel) ?_
        refine zz_go C [(17, .sipush 10000), (20, .iload_n 1), (21, .imul), (22, .iload 4), (24, .iadd)] (by decide +kernel) (pc' := 25) (lv' := [some (.ref o), some (.int (nI i)), some (.int (nI p)), some (.int (bI b)), some (.int (nI q)), none]) (st' := [.int (((nI 10000) * (nI i)) + (nI q)), .ref (ad 0)]) rfl ?_
        rw [ix_m]
        refine ga_ild C W.2.2.2.1 (by omega) (by decide) (by decide +kernel) ?_
        generalize hc : M (10000 * i + q) = c at hR ⊢
        refine zz_go C [(26, .istore 5), (28, .iload_n 3)] (by decide +kernel) (pc' := 29) (lv' := [some (.ref o), some (.int (nI i)), some (.int (nI p)), some (.int (bI b)), some (.int (nI q)), some (.int c)]) (st' := [.int (bI b)]) rfl ?_
        refine zz_if C (i := .ifCond .ne 21) (by decide +kernel) (Pt := ¬ (bI b) = 0) (Pf := (bI b) = 0) (off := 21) (r := []) (tgt := 50) rfl (by decide) (fun cB => ?_) (fun cB => ?_)
        · refine zz_go C [(50, .iconst 1), (51, .goto 4)] (by decide +kernel) (pc' := 55) (lv' := [some (.ref o), some (.int (nI i)), some (.int (nI p)), some (.int (bI b)), some (.int (nI q)), some (.int c)]) (st' := [.int (nI 1)]) rfl ?_
          show zz_Z _ _ _ _ _ _ _ [some (.ref o), some (.int (nI i)), some (.int (nI p)), some (.int (bI b)), some (.int (nI q)), some (.int c)] [.int (bI true)]
          refine zz_go C [(55, .istore_n 3), (56, .iload 4)] (by decide +kernel) (pc' := 58) (lv' := [some (.ref o), some (.int (nI i)), some (.int (nI p)), some (.int (bI true)), some (.int (nI q)), some (.int c)]) (st' := [.int (nI q)]) rfl ?_
          refine zz_cS C E (As := [.int (nI q)]) (rest := []) (hc := h) md_O_parentOf (c_O_parentOf l D (zz_ac K) h q q9) ml_O_44 sm_O_parentOf (fun _ _ q => q) rfl rfl (Nat.le_of_ble_eq_true rfl) ⟨by decide, by decide⟩ ⟨(by decide), (by decide)⟩ (by decide +kernel) (fun v0 h9 hp hn hd => ?_) (fun v0 h9 hp hn hd => ?_)
          · rw [zz_mix_self hd]
            obtain ⟨hh, hv⟩ := hp
            rw [hh]
            cases hv
            show zz_Z _ _ _ _ _ _ _ _ [.int (nI (prN q))]
            refine zz_go C [(61, .istore 4), (63, .goto (-55))] (by decide +kernel) (pc' := 8) (lv' := [some (.ref o), some (.int (nI i)), some (.int (nI p)), some (.int (bI true)), some (.int (nI (prN q))), some (.int c)]) (st' := []) rfl ?_
            exact zz_lv [some (.ref o), some (.int (nI i)), some (.int (nI p)), some (.int (bI true)), some (.int (nI (prN q))), none] (fun j u hu => by rcases j with _ | _ | _ | _ | _ | _ | j <;> first | exact hu | cases hu) (Nat.le_of_ble_eq_true rfl) (ih (prN q) true (by omega) (prN_le q9) (by rw [hR, bI_1 cB, Bool.true_or, Bool.true_or]))
          · cases hp.2
        · refine zz_go C [(32, .iload 5), (34, .iconst 1)] (by decide +kernel) (pc' := 35) (lv' := [some (.ref o), some (.int (nI i)), some (.int (nI p)), some (.int (bI b)), some (.int (nI q)), some (.int c)]) (st' := [.int (nI 1), .int c]) rfl ?_
          refine zz_if C (i := .if_icmp .eq 15) (by decide +kernel) (Pt := c = (nI 1)) (Pf := ¬ c = (nI 1)) (off := 15) (r := []) (tgt := 50) rfl (by decide) (fun c1 => ?_) (fun c1 => ?_)
          · refine zz_go C [(50, .iconst 1), (51, .goto 4)] (by decide +kernel) (pc' := 55) (lv' := [some (.ref o), some (.int (nI i)), some (.int (nI p)), some (.int (bI b)), some (.int (nI q)), some (.int c)]) (st' := [.int (nI 1)]) rfl ?_
            show zz_Z _ _ _ _ _ _ _ [some (.ref o), some (.int (nI i)), some (.int (nI p)), some (.int (bI b)), some (.int (nI q)), some (.int c)] [.int (bI true)]
            refine zz_go C [(55, .istore_n 3), (56, .iload 4)] (by decide +kernel) (pc' := 58) (lv' := [some (.ref o), some (.int (nI i)), some (.int (nI p)), some (.int (bI true)), some (.int (nI q)), some (.int c)]) (st' := [.int (nI q)]) rfl ?_
            refine zz_cS C E (As := [.int (nI q)]) (rest := []) (hc := h) md_O_parentOf (c_O_parentOf l D (zz_ac K) h q q9) ml_O_44 sm_O_parentOf (fun _ _ q => q) rfl rfl (Nat.le_of_ble_eq_true rfl) ⟨by decide, by decide⟩ ⟨(by decide), (by decide)⟩ (by decide +kernel) (fun v0 h9 hp hn hd => ?_) (fun v0 h9 hp hn hd => ?_)
            · rw [zz_mix_self hd]
              obtain ⟨hh, hv⟩ := hp
              rw [hh]
              cases hv
              show zz_Z _ _ _ _ _ _ _ _ [.int (nI (prN q))]
              refine zz_go C [(61, .istore 4), (63, .goto (-55))] (by decide +kernel) (pc' := 8) (lv' := [some (.ref o), some (.int (nI i)), some (.int (nI p)), some (.int (bI true)), some (.int (nI (prN q))), some (.int c)]) (st' := []) rfl ?_
              exact zz_lv [some (.ref o), some (.int (nI i)), some (.int (nI p)), some (.int (bI true)), some (.int (nI (prN q))), none] (fun j u hu => by rcases j with _ | _ | _ | _ | _ | _ | j <;> first | exact hu | cases hu) (Nat.le_of_ble_eq_true rfl) (ih (prN q) true (by omega) (prN_le q9) (by rw [hR, show hdC c = true from by rw [hdC, decide_eq_true c1, Bool.true_or, Bool.true_or], Bool.true_or, Bool.or_true]))
            · cases hp.2
          · refine zz_go C [(38, .iload 5), (40, .iconst 3)] (by decide +kernel) (pc' := 41) (lv' := [some (.ref o), some (.int (nI i)), some (.int (nI p)), some (.int (bI b)), some (.int (nI q)), some (.int c)]) (st' := [.int (nI 3), .int c]) rfl ?_
            refine zz_if C (i := .if_icmp .eq 9) (by decide +kernel) (Pt := c = (nI 3)) (Pf := ¬ c = (nI 3)) (off := 9) (r := []) (tgt := 50) rfl (by decide) (fun c3 => ?_) (fun c3 => ?_)
            · refine zz_go C [(50, .iconst 1), (51, .goto 4)] (by decide +kernel) (pc' := 55) (lv' := [some (.ref o), some (.int (nI i)), some (.int (nI p)), some (.int (bI b)), some (.int (nI q)), some (.int c)]) (st' := [.int (nI 1)]) rfl ?_
              show zz_Z _ _ _ _ _ _ _ [some (.ref o), some (.int (nI i)), some (.int (nI p)), some (.int (bI b)), some (.int (nI q)), some (.int c)] [.int (bI true)]
              refine zz_go C [(55, .istore_n 3), (56, .iload 4)] (by decide +kernel) (pc' := 58) (lv' := [some (.ref o), some (.int (nI i)), some (.int (nI p)), some (.int (bI true)), some (.int (nI q)), some (.int c)]) (st' := [.int (nI q)]) rfl ?_
              refine zz_cS C E (As := [.int (nI q)]) (rest := []) (hc := h) md_O_parentOf (c_O_parentOf l D (zz_ac K) h q q9) ml_O_44 sm_O_parentOf (fun _ _ q => q) rfl rfl (Nat.le_of_ble_eq_true rfl) ⟨by decide, by decide⟩ ⟨(by decide), (by decide)⟩ (by decide +kernel) (fun v0 h9 hp hn hd => ?_) (fun v0 h9 hp hn hd => ?_)
              · rw [zz_mix_self hd]
                obtain ⟨hh, hv⟩ := hp
                rw [hh]
                cases hv
                show zz_Z _ _ _ _ _ _ _ _ [.int (nI (prN q))]
                refine zz_go C [(61, .istore 4), (63, .goto (-55))] (by decide +kernel) (pc' := 8) (lv' := [some (.ref o), some (.int (nI i)), some (.int (nI p)), some (.int (bI true)), some (.int (nI (prN q))), some (.int c)]) (st' := []) rfl ?_
                exact zz_lv [some (.ref o), some (.int (nI i)), some (.int (nI p)), some (.int (bI true)), some (.int (nI (prN q))), none] (fun j u hu => by rcases j with _ | _ | _ | _ | _ | _ | j <;> first | exact hu | cases hu) (Nat.le_of_ble_eq_true rfl) (ih (prN q) true (by omega) (prN_le q9) (by rw [hR, show hdC c = true from by rw [hdC, decide_eq_true c3, Bool.or_true, Bool.true_or], Bool.true_or, Bool.or_true]))
              · cases hp.2
            · refine zz_go C [(44, .iload 5), (46, .iconst 4)] (by decide +kernel) (pc' := 47) (lv' := [some (.ref o), some (.int (nI i)), some (.int (nI p)), some (.int (bI b)), some (.int (nI q)), some (.int c)]) (st' := [.int (nI 4), .int c]) rfl ?_
              refine zz_if C (i := .if_icmp .ne 7) (by decide +kernel) (Pt := ¬ c = (nI 4)) (Pf := c = (nI 4)) (off := 7) (r := []) (tgt := 54) rfl (by decide) (fun c4 => ?_) (fun c4 => ?_)
              · refine zz_go C [(54, .iconst 0)] (by decide +kernel) (pc' := 55) (lv' := [some (.ref o), some (.int (nI i)), some (.int (nI p)), some (.int (bI b)), some (.int (nI q)), some (.int c)]) (st' := [.int (nI 0)]) rfl ?_
                show zz_Z _ _ _ _ _ _ _ [some (.ref o), some (.int (nI i)), some (.int (nI p)), some (.int (bI b)), some (.int (nI q)), some (.int c)] [.int (bI false)]
                refine zz_go C [(55, .istore_n 3), (56, .iload 4)] (by decide +kernel) (pc' := 58) (lv' := [some (.ref o), some (.int (nI i)), some (.int (nI p)), some (.int (bI false)), some (.int (nI q)), some (.int c)]) (st' := [.int (nI q)]) rfl ?_
                refine zz_cS C E (As := [.int (nI q)]) (rest := []) (hc := h) md_O_parentOf (c_O_parentOf l D (zz_ac K) h q q9) ml_O_44 sm_O_parentOf (fun _ _ q => q) rfl rfl (Nat.le_of_ble_eq_true rfl) ⟨by decide, by decide⟩ ⟨(by decide), (by decide)⟩ (by decide +kernel) (fun v0 h9 hp hn hd => ?_) (fun v0 h9 hp hn hd => ?_)
                · rw [zz_mix_self hd]
                  obtain ⟨hh, hv⟩ := hp
                  rw [hh]
                  cases hv
                  show zz_Z _ _ _ _ _ _ _ _ [.int (nI (prN q))]
                  refine zz_go C [(61, .istore 4), (63, .goto (-55))] (by decide +kernel) (pc' := 8) (lv' := [some (.ref o), some (.int (nI i)), some (.int (nI p)), some (.int (bI false)), some (.int (nI (prN q))), some (.int c)]) (st' := []) rfl ?_
                  exact zz_lv [some (.ref o), some (.int (nI i)), some (.int (nI p)), some (.int (bI false)), some (.int (nI (prN q))), none] (fun j u hu => by rcases j with _ | _ | _ | _ | _ | _ | j <;> first | exact hu | cases hu) (Nat.le_of_ble_eq_true rfl) (ih (prN q) false (by omega) (prN_le q9) (by rw [hR, (bI_0 b).mp cB, show hdC c = false from by rw [hdC, decide_eq_false c1, decide_eq_false c3, decide_eq_false c4]; rfl, Bool.false_or]))
                · cases hp.2
              · refine zz_go C [(50, .iconst 1), (51, .goto 4)] (by decide +kernel) (pc' := 55) (lv' := [some (.ref o), some (.int (nI i)), some (.int (nI p)), some (.int (bI b)), some (.int (nI q)), some (.int c)]) (st' := [.int (nI 1)]) rfl ?_
                show zz_Z _ _ _ _ _ _ _ [some (.ref o), some (.int (nI i)), some (.int (nI p)), some (.int (bI b)), some (.int (nI q)), some (.int c)] [.int (bI true)]
                refine zz_go C [(55, .istore_n 3), (56, .iload 4)] (by decide +kernel) (pc' := 58) (lv' := [some (.ref o), some (.int (nI i)), some (.int (nI p)), some (.int (bI true)), some (.int (nI q)), some (.int c)]) (st' := [.int (nI q)]) rfl ?_
                refine zz_cS C E (As := [.int (nI q)]) (rest := []) (hc := h) md_O_parentOf (c_O_parentOf l D (zz_ac K) h q q9) ml_O_44 sm_O_parentOf (fun _ _ q => q) rfl rfl (Nat.le_of_ble_eq_true rfl) ⟨by decide, by decide⟩ ⟨(by decide), (by decide)⟩ (by decide +kernel) (fun v0 h9 hp hn hd => ?_) (fun v0 h9 hp hn hd => ?_)
                · rw [zz_mix_self hd]
                  obtain ⟨hh, hv⟩ := hp
                  rw [hh]
                  cases hv
                  show zz_Z _ _ _ _ _ _ _ _ [.int (nI (prN q))]
                  refine zz_go C [(61, .istore 4), (63, .goto (-55))] (by decide +kernel) (pc' := 8) (lv' := [some (.ref o), some (.int (nI i)), some (.int (nI p)), some (.int (bI true)), some (.int (nI (prN q))), some (.int c)]) (st' := []) rfl ?_
                  exact zz_lv [some (.ref o), some (.int (nI i)), some (.int (nI p)), some (.int (bI true)), some (.int (nI (prN q))), none] (fun j u hu => by rcases j with _ | _ | _ | _ | _ | _ | j <;> first | exact hu | cases hu) (Nat.le_of_ble_eq_true rfl) (ih (prN q) true (by omega) (prN_le q9) (by rw [hR, show hdC c = true from by rw [hdC, decide_eq_true c4, Bool.or_true], Bool.true_or, Bool.or_true]))
                · cases hp.2
  refine zz_go C [(0, .iconst 0), (1, .istore_n 3), (2, .iload_n 2)] (by decide +kernel) (pc' := 3) (lv' := [some (.ref o), some (.int (nI i)), some (.int (nI p)), some (.int (nI 0)), none, none]) (st' := [.int (nI p)]) rfl ?_
  refine zz_cS C E (As := [.int (nI p)]) (rest := []) (hc := h) md_O_parentOf (c_O_parentOf l D (zz_ac K) h p p9) ml_O_44 sm_O_parentOf (fun _ _ q => q) rfl rfl (Nat.le_of_ble_eq_true rfl) ⟨by decide, by decide⟩ ⟨(by decide), (by decide)⟩ (by decide +kernel) (fun v0 h9 hp hn hd => ?_) (fun v0 h9 hp hn hd => ?_)
  · rw [zz_mix_self hd]
    obtain ⟨hh, hv⟩ := hp
    rw [hh]
    cases hv
    show zz_Z _ _ _ _ _ _ _ _ [.int (nI (prN p))]
    refine zz_go C [(6, .istore 4)] (by decide +kernel) (pc' := 8) (lv' := [some (.ref o), some (.int (nI i)), some (.int (nI p)), some (.int (nI 0)), some (.int (nI (prN p))), none]) (st' := []) rfl ?_
    show zz_Z _ _ _ _ _ _ _ [some (.ref o), some (.int (nI i)), some (.int (nI p)), some (.int (bI false)), some (.int (nI (prN p))), none] []
    exact loop 9999 (prN p) false (prN_le p9) (prN_le p9) (by rw [Bool.false_or])
  · cases hp.2
