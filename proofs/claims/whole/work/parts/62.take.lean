/-! ===== the model takes away ===== -/
theorem isP_n {k : Nat} (hk : k ≤ 9999) : isP (nI k) = pok k := by
  unfold isP; rw [if_neg, nI_clamp (by omega)]
  rintro (z | z)
  · exact nI_pos (by omega) z
  · exact absurd z (nI_nlt hk (by decide))
def tkB (z p : Nat) : Bool := pok z && (decide (z = p) || blB z p)
/-- a layer's marks, those of p and below it among the numbers below k taken away -/
def tkM (M : Nat → Int32) (T p k : Nat) : Nat → Int32 := fun a => if T < a ∧ a < T + k ∧ tkB (a - T) p = true then nI 0 else M a
theorem tkM_1 (M : Nat → Int32) (T p : Nat) : tkM M T p 1 = M := by
  funext a; exact if_neg (by omega)
theorem tkM_y {M : Nat → Int32} {T p k : Nat} (hk : 1 ≤ k) (h : tkB k p = true) : upd (tkM M T p k) (T + k) (nI 0) = tkM M T p (k + 1) := by
  funext a
  by_cases e : a = T + k
  · rw [e, upd_at]; exact (if_pos ⟨by omega, by omega, by rw [show T + k - T = k by omega]; exact h⟩).symm
  · rw [upd_ne _ _ e]
    unfold tkM
    by_cases c : T < a ∧ a < T + k ∧ tkB (a - T) p = true
    · rw [if_pos c, if_pos ⟨c.1, by omega, c.2.2⟩]
    · rw [if_neg c, if_neg (fun d => c ⟨d.1, by omega, d.2.2⟩)]
theorem tkM_n {M : Nat → Int32} {T p k : Nat} (h : tkB k p = false) : tkM M T p k = tkM M T p (k + 1) := by
  funext a
  unfold tkM
  by_cases c : T < a ∧ a < T + k ∧ tkB (a - T) p = true
  · rw [if_pos c, if_pos ⟨c.1, by omega, c.2.2⟩]
  · rw [if_neg c, if_neg (fun d => c ⟨d.1, by
      by_cases e : a = T + k
      · rw [e, show T + k - T = k by omega, h] at d; cases d.2.2
      · omega, d.2.2⟩)]
theorem okM_tk {M : Nat → Int32} {T p k : Nat} (h : okM M) : okM (tkM M T p k) := fun a => by
  unfold tkM
  by_cases c : T < a ∧ a < T + k ∧ tkB (a - T) p = true
  · rw [if_pos c]; exact Or.inl rfl
  · rw [if_neg c]; exact h a
set_option maxRecDepth 4096 in
set_option maxHeartbeats 4000000 in
theorem c_O_takeAway (l : Launch) (D : va_G) (aC : Nat → ClassId) (h : zz_Hp) (o : Nat) (ad : Nat → Nat) (th : Int32) (m : Nat) (M V vs sn sh : Nat → Int32) (W : mW h aC o ad th (m + 1) M V vs sn sh) (hM : okM M) (p : Nat) (p0 : ¬ p = 0) (hp : p ≤ 9999 ∧ pok p = true) :
    zz_Ct l D aC y_O_takeAway (zrm 2 0 0 90) [.ref o, .int (nI p)] h (fun r' h' => r' = .inl none ∧ ∃ (vs' sn' sh' : Nat → Int32), ((vw (Lm (tkM M (10000 * m) p 10000) V) (rp p)).1 m = -1 → mW h' aC o ad th (m + 1) (tkM M (10000 * m) p 10000) V vs' sn' sh') ∧ (¬ (vw (Lm (tkM M (10000 * m) p 10000) V) (rp p)).1 m = -1 → ∃ M', mW h' aC o ad th (m + 1) M' (upd V (10000 * m + p) (nI 0)) vs' sn' sh' ∧ ptI (tkM M (10000 * m) p 10000) M' (10000 * m) p 0 (nI 4) ∧ ptJ (tkM M (10000 * m) p 10000) M' (10000 * m) p 0 (nI 4))) := by
  refine zz_ct md_O_takeAway rfl (by simp [Value.category]) (Nat.le_of_ble_eq_true rfl) fun K C E hI => ?_
  obtain rfl := E.ac
  have n8 := W.1
  obtain ⟨p9, pk⟩ := hp
  have fin : ∀ hc : zz_Hp, mW hc (zz_ac K) o ad th (m + 1) (tkM M (10000 * m) p 10000) V vs sn sh → zz_Z K (zz_End K h (fun r' h' => r' = .inl none ∧ ∃ (vs' sn' sh' : Nat → Int32), ((vw (Lm (tkM M (10000 * m) p 10000) V) (rp p)).1 m = -1 → mW h' (zz_ac K) o ad th (m + 1) (tkM M (10000 * m) p 10000) V vs' sn' sh') ∧ (¬ (vw (Lm (tkM M (10000 * m) p 10000) V) (rp p)).1 m = -1 → ∃ M', mW h' (zz_ac K) o ad th (m + 1) M' (upd V (10000 * m + p) (nI 0)) vs' sn' sh' ∧ ptI (tkM M (10000 * m) p 10000) M' (10000 * m) p 0 (nI 4) ∧ ptJ (tkM M (10000 * m) p 10000) M' (10000 * m) p 0 (nI 4)))) h hc 0 0 47 [some (.ref o), some (.int (nI p)), none] [] := by
    intro hc Wc
    refine zz_go C [(47, .aload_n 0), (48, .aload_n 0)] (by decide +kernel) (pc' := 49) (lv' := [some (.ref o), some (.int (nI p)), none]) (st' := [.ref o, .ref o]) rfl ?_
    refine zz_get C fd_O_7 Wc.ob (v := .int (nI (m + 1))) rfl (by decide +kernel) ?_
    refine zz_go C [(52, .iconst 1), (53, .isub)] (by decide +kernel) (pc' := 54) (lv' := [some (.ref o), some (.int (nI p)), none]) (st' := [.int ((nI (m + 1)) - (nI 1)), .ref o]) rfl ?_
    rw [show nI (m + 1) - nI 1 = nI m from nI_pred m]
    refine zz_cV C E (ci := 3) (As := [.int (nI m)]) (rest := []) (hc := hc) md_O_look (c_O_look l D (zz_ac K) hc o ad th (m + 1) (tkM M (10000 * m) p 10000) V vs sn sh Wc m (by omega) (okM_tk hM)) ml_O_63 im_O_look se_O_look rfl Wc.ob (fun _ _ q => q) rfl rfl (Nat.le_of_ble_eq_true rfl) ⟨by decide, by decide⟩ ⟨(by decide), (by decide)⟩ (by decide +kernel) (fun v0 h1 hp hn hd => ?_) (fun v0 h1 hp hn hd => ?_)
    · rw [zz_mix_self hd]
      obtain ⟨hv, vs1, sn1, sh1, W1, I1⟩ := hp
      cases hv
      show zz_Z _ _ _ _ _ _ _ _ []
      obtain ⟨q1, -⟩ := cvI_at I1 p9 pk
      refine zz_go C [(57, .aload_n 0)] (by decide +kernel) (pc' := 58) (lv' := [some (.ref o), some (.int (nI p)), none]) (st' := [.ref o]) rfl ?_
      refine zz_get C fd_O_21 W1.ob (v := .ref (ad 2)) rfl (by decide +kernel) ?_
      refine zz_go C [(61, .iload_n 1)] (by decide +kernel) (pc' := 62) (lv' := [some (.ref o), some (.int (nI p)), none]) (st' := [.int (nI p), .ref (ad 2)]) rfl ?_
      refine ga_ild C W1.2.2.2.2.2.1 (by omega) (by decide) (by decide +kernel) ?_
      rw [q1]
      refine zz_if C (i := .ifCond .eq 10) (by decide +kernel) (Pt := ((vw (Lm (tkM M (10000 * m) p 10000) V) (rp p)).1 m + nI 1) = 0) (Pf := ¬ ((vw (Lm (tkM M (10000 * m) p 10000) V) (rp p)).1 m + nI 1) = 0) (off := 10) (r := []) (tgt := 73) rfl (by decide) (fun cA => ?_) (fun cA => ?_)
      · exact zr_v C E (by decide) (by decide) (by decide +kernel) (⟨rfl, vs1, sn1, sh1, (fun _ => W1), (fun z => absurd ((add1_0 _).mp cA) z)⟩)
      · refine zz_go C [(66, .aload_n 0), (67, .iload_n 1), (68, .iconst 4), (69, .iconst 0)] (by decide +kernel) (pc' := 70) (lv' := [some (.ref o), some (.int (nI p)), none]) (st' := [.int (nI 0), .int (nI 4), .int (nI p), .ref o]) rfl ?_
        refine zz_cV C E (ci := 3) (As := [.int (nI p), .int (nI 4), .int (nI 0)]) (rest := []) (hc := h1) md_O_put (c_O_put l D (zz_ac K) h1 o ad th m (tkM M (10000 * m) p 10000) V vs1 sn1 sh1 W1 p (nI 4) (nI 0) p0 ⟨p9, pk⟩) ml_O_70 im_O_put se_O_put rfl W1.ob (fun _ _ q => q) rfl rfl (Nat.le_of_ble_eq_true rfl) ⟨by decide, by decide⟩ ⟨(by decide), (by decide)⟩ (by decide +kernel) (fun v0 h2 hp hn hd => ?_) (fun v0 h2 hp hn hd => ?_)
        · rw [zz_mix_self hd]
          obtain ⟨hv, M', W2, I2, J2⟩ := hp
          cases hv
          show zz_Z _ _ _ _ _ _ _ _ []
          exact zr_v C E (by decide) (by decide) (by decide +kernel) (⟨rfl, vs1, sn1, sh1, (fun z => absurd ((add1_0 _).mpr z) cA), (fun _ => ⟨M', W2, I2, J2⟩)⟩)
        · cases hp.1
    · cases hp.1
  have loop : ∀ (g k : Nat) (hc : zz_Hp), k + g = 10000 → 1 ≤ k → mW hc (zz_ac K) o ad th (m + 1) (tkM M (10000 * m) p k) V vs sn sh → zz_Z K (zz_End K h (fun r' h' => r' = .inl none ∧ ∃ (vs' sn' sh' : Nat → Int32), ((vw (Lm (tkM M (10000 * m) p 10000) V) (rp p)).1 m = -1 → mW h' (zz_ac K) o ad th (m + 1) (tkM M (10000 * m) p 10000) V vs' sn' sh') ∧ (¬ (vw (Lm (tkM M (10000 * m) p 10000) V) (rp p)).1 m = -1 → ∃ M', mW h' (zz_ac K) o ad th (m + 1) M' (upd V (10000 * m + p) (nI 0)) vs' sn' sh' ∧ ptI (tkM M (10000 * m) p 10000) M' (10000 * m) p 0 (nI 4) ∧ ptJ (tkM M (10000 * m) p 10000) M' (10000 * m) p 0 (nI 4)))) h hc 0 0 2 [some (.ref o), some (.int (nI p)), some (.int (nI k))] [] := by
    intro g
    induction g with
    | zero =>
      intro k hc hkg k1 Wc
      refine zz_go C [(2, .iload_n 2), (3, .sipush 10000)] (by decide +kernel) (pc' := 6) (lv' := [some (.ref o), some (.int (nI p)), some (.int (nI k))]) (st' := [.int (nI 10000), .int (nI k)]) rfl ?_
      refine zz_if C (i := .if_icmp .ge 41) (by decide +kernel) (Pt := (nI 10000) ≤ (nI k)) (Pf := ¬ (nI 10000) ≤ (nI k)) (off := 41) (r := []) (tgt := 47) rfl (by decide) (fun cB => ?_) (fun cB => ?_)
      · rw [show k = 10000 by omega] at Wc
        exact zz_lv [some (.ref o), some (.int (nI p)), none] (fun j u hu => by rcases j with _ | _ | _ | j <;> first | exact hu | cases hu) (Nat.le_of_ble_eq_true rfl) (fin hc Wc)
      · exact absurd (nI_le (by omega) (by omega)) cB
    | succ g ih =>
      intro k hc hkg k1 Wc
      refine zz_go C [(2, .iload_n 2), (3, .sipush 10000)] (by decide +kernel) (pc' := 6) (lv' := [some (.ref o), some (.int (nI p)), some (.int (nI k))]) (st' := [.int (nI 10000), .int (nI k)]) rfl ?_
      refine zz_if C (i := .if_icmp .ge 41) (by decide +kernel) (Pt := (nI 10000) ≤ (nI k)) (Pf := ¬ (nI 10000) ≤ (nI k)) (off := 41) (r := []) (tgt := 47) rfl (by decide) (fun cB => ?_) (fun cB => ?_)
      · exact absurd ((nI_leI (by omega) (by omega)).mp cB) (by omega)
      · refine zz_go C [(9, .iload_n 2)] (by decide +kernel) (pc' := 10) (lv' := [some (.ref o), some (.int (nI p)), some (.int (nI k))]) (st' := [.int (nI k)]) rfl ?_
        refine zz_cS C E (As := [.int (nI k)]) (rest := []) (hc := hc) md_O_isPath (c_O_isPath l D (zz_ac K) hc (nI k)) ml_O_37 sm_O_isPath (fun _ _ q => q) rfl rfl (Nat.le_of_ble_eq_true rfl) ⟨by decide, by decide⟩ ⟨(by decide), (by decide)⟩ (by decide +kernel) (fun v0 h9 hp hn hd => ?_) (fun v0 h9 hp hn hd => ?_)
        · rw [zz_mix_self hd]
          obtain ⟨hh, hv⟩ := hp
          rw [hh]
          cases hv
          show zz_Z _ _ _ _ _ _ _ _ [.int (bI (isP (nI k)))]
          rw [isP_n (show k ≤ 9999 by omega)]
          refine zz_if C (i := .ifCond .eq 28) (by decide +kernel) (Pt := (bI (pok k)) = 0) (Pf := ¬ (bI (pok k)) = 0) (off := 28) (r := []) (tgt := 41) rfl (by decide) (fun cC => ?_) (fun cC => ?_)
          · have ht : tkB k p = false := by rw [tkB, (bI_0 _).mp cC, Bool.false_and]
            rw [tkM_n ht] at Wc
            refine zz_go C [(41, .iinc 2 1), (44, .goto (-42))] (by decide +kernel) (pc' := 2) (lv' := [some (.ref o), some (.int (nI p)), some (.int ((nI k) + (nI 1)))]) (st' := []) rfl ?_
            rw [show nI k + nI 1 = nI (k + 1) from nI_add k 1]
            exact ih (k + 1) hc (by omega) (by omega) Wc
          · have hk := bI_1 cC
            refine zz_go C [(16, .iload_n 2), (17, .iload_n 1)] (by decide +kernel) (pc' := 18) (lv' := [some (.ref o), some (.int (nI p)), some (.int (nI k))]) (st' := [.int (nI p), .int (nI k)]) rfl ?_
            refine zz_if C (i := .if_icmp .eq 11) (by decide +kernel) (Pt := (nI k) = (nI p)) (Pf := ¬ (nI k) = (nI p)) (off := 11) (r := []) (tgt := 29) rfl (by decide) (fun cD => ?_) (fun cD => ?_)
            · have ht : tkB k p = true := by rw [tkB, hk, decide_eq_true ((nI_eq (by omega) (by omega)).mp cD)]; rfl
              refine zz_go C [(29, .aload_n 0)] (by decide +kernel) (pc' := 30) (lv' := [some (.ref o), some (.int (nI p)), some (.int (nI k))]) (st' := [.ref o]) rfl ?_
              refine zz_get C fd_O_14 Wc.ob (v := .ref (ad 0)) rfl (by decide +kernel) ?_
              refine zz_go C [(33, .aload_n 0)] (by decide +kernel) (pc' := 34) (lv' := [some (.ref o), some (.int (nI p)), some (.int (nI k))]) (st' := [.ref o, .ref (ad 0)]) rfl ?_
              refine zz_cV C E (ci := 3) (As := []) (rest := [.ref (ad 0)]) (hc := hc) md_O_top (c_O_top l D (zz_ac K) hc o ad th (m + 1) _ V vs sn sh Wc) ml_O_59 im_O_top se_O_top rfl Wc.ob (fun _ _ q => q) rfl rfl (Nat.le_of_ble_eq_true rfl) ⟨by decide, by decide⟩ ⟨(by decide), (by decide)⟩ (by decide +kernel) (fun v0 h9 hp hn hd => ?_) (fun v0 h9 hp hn hd => ?_)
              · rw [zz_mix_self hd]
                obtain ⟨hh, hv⟩ := hp
                rw [hh]
                cases hv
                show zz_Z _ _ _ _ _ _ _ _ [.int (nI (10000 * (m + 1 - 1))), .ref (ad 0)]
                refine zz_go C [(37, .iload_n 2), (38, .iadd), (39, .iconst 0)] (by decide +kernel) (pc' := 40) (lv' := [some (.ref o), some (.int (nI p)), some (.int (nI k))]) (st' := [.int (nI 0), .int ((nI (10000 * (m + 1 - 1))) + (nI k)), .ref (ad 0)]) rfl ?_
                rw [show nI (10000 * (m + 1 - 1)) + nI k = nI (10000 * m + k) from nI_add (10000 * m) k]
                refine mo_mst C Wc (by omega) (by decide +kernel) (fun h4 W4 => ?_)
                rw [tkM_y k1 ht] at W4
                refine zz_go C [(41, .iinc 2 1), (44, .goto (-42))] (by decide +kernel) (pc' := 2) (lv' := [some (.ref o), some (.int (nI p)), some (.int ((nI k) + (nI 1)))]) (st' := []) rfl ?_
                rw [show nI k + nI 1 = nI (k + 1) from nI_add k 1]
                exact ih (k + 1) h4 (by omega) (by omega) W4
              · cases hp.2
            · have kp : ¬ k = p := fun e => cD (by rw [e])
              refine zz_go C [(21, .iload_n 2), (22, .iload_n 1)] (by decide +kernel) (pc' := 23) (lv' := [some (.ref o), some (.int (nI p)), some (.int (nI k))]) (st' := [.int (nI p), .int (nI k)]) rfl ?_
              refine zz_cS C E (As := [.int (nI k), .int (nI p)]) (rest := []) (hc := hc) md_O_isBelow (c_O_isBelow l D (zz_ac K) hc k p ⟨by omega, hk⟩ ⟨p9, pk⟩ p0) ml_O_74 sm_O_isBelow (fun _ _ q => q) rfl rfl (Nat.le_of_ble_eq_true rfl) ⟨by decide, by decide⟩ ⟨(by decide), (by decide)⟩ (by decide +kernel) (fun v0 h9 hp hn hd => ?_) (fun v0 h9 hp hn hd => ?_)
              · rw [zz_mix_self hd]
                obtain ⟨hh, hv⟩ := hp
                rw [hh]
                cases hv
                show zz_Z _ _ _ _ _ _ _ _ [.int (bI (blB k p))]
                refine zz_if C (i := .ifCond .eq 15) (by decide +kernel) (Pt := (bI (blB k p)) = 0) (Pf := ¬ (bI (blB k p)) = 0) (off := 15) (r := []) (tgt := 41) rfl (by decide) (fun cE => ?_) (fun cE => ?_)
                · have ht : tkB k p = false := by rw [tkB, hk, decide_eq_false kp, (bI_0 _).mp cE]; rfl
                  rw [tkM_n ht] at Wc
                  refine zz_go C [(41, .iinc 2 1), (44, .goto (-42))] (by decide +kernel) (pc' := 2) (lv' := [some (.ref o), some (.int (nI p)), some (.int ((nI k) + (nI 1)))]) (st' := []) rfl ?_
                  rw [show nI k + nI 1 = nI (k + 1) from nI_add k 1]
                  exact ih (k + 1) hc (by omega) (by omega) Wc
                · have ht : tkB k p = true := by rw [tkB, hk, bI_1 cE, Bool.or_true]; rfl
                  refine zz_go C [(29, .aload_n 0)] (by decide +kernel) (pc' := 30) (lv' := [some (.ref o), some (.int (nI p)), some (.int (nI k))]) (st' := [.ref o]) rfl ?_
                  refine zz_get C fd_O_14 Wc.ob (v := .ref (ad 0)) rfl (by decide +kernel) ?_
                  refine zz_go C [(33, .aload_n 0)] (by decide +kernel) (pc' := 34) (lv' := [some (.ref o), some (.int (nI p)), some (.int (nI k))]) (st' := [.ref o, .ref (ad 0)]) rfl ?_
                  refine zz_cV C E (ci := 3) (As := []) (rest := [.ref (ad 0)]) (hc := hc) md_O_top (c_O_top l D (zz_ac K) hc o ad th (m + 1) _ V vs sn sh Wc) ml_O_59 im_O_top se_O_top rfl Wc.ob (fun _ _ q => q) rfl rfl (Nat.le_of_ble_eq_true rfl) ⟨by decide, by decide⟩ ⟨(by decide), (by decide)⟩ (by decide +kernel) (fun v0 h9 hp hn hd => ?_) (fun v0 h9 hp hn hd => ?_)
                  · rw [zz_mix_self hd]
                    obtain ⟨hh, hv⟩ := hp
                    rw [hh]
                    cases hv
                    show zz_Z _ _ _ _ _ _ _ _ [.int (nI (10000 * (m + 1 - 1))), .ref (ad 0)]
                    refine zz_go C [(37, .iload_n 2), (38, .iadd), (39, .iconst 0)] (by decide +kernel) (pc' := 40) (lv' := [some (.ref o), some (.int (nI p)), some (.int (nI k))]) (st' := [.int (nI 0), .int ((nI (10000 * (m + 1 - 1))) + (nI k)), .ref (ad 0)]) rfl ?_
                    rw [show nI (10000 * (m + 1 - 1)) + nI k = nI (10000 * m + k) from nI_add (10000 * m) k]
                    refine mo_mst C Wc (by omega) (by decide +kernel) (fun h4 W4 => ?_)
                    rw [tkM_y k1 ht] at W4
                    refine zz_go C [(41, .iinc 2 1), (44, .goto (-42))] (by decide +kernel) (pc' := 2) (lv' := [some (.ref o), some (.int (nI p)), some (.int ((nI k) + (nI 1)))]) (st' := []) rfl ?_
                    rw [show nI k + nI 1 = nI (k + 1) from nI_add k 1]
                    exact ih (k + 1) h4 (by omega) (by omega) W4
                  · cases hp.2
              · cases hp.2
        · cases hp.2
  refine zz_go C [(0, .iconst 1), (1, .istore_n 2)] (by decide +kernel) (pc' := 2) (lv' := [some (.ref o), some (.int (nI p)), some (.int (nI 1))]) (st' := []) rfl ?_
  exact loop 9999 1 h (by omega) (by omega) (by rw [tkM_1]; exact W)
