/-! ===== the model puts ===== -/
theorem rp_inj {p q : Nat} (h1 : p ≤ 9999) (h2 : pok p = true) (h3 : q ≤ 9999) (h4 : pok q = true) (e : rp p = rp q) : p = q := by
  rw [← pnum_rp h1 h2, e, pnum_rp h3 h4]
/-- the top layer's marks once p says what, and all above p but q and its like stand -/
def ptI (M Mc : Nat → Int32) (T p q : Nat) (what : Int32) : Prop := ∀ a, Mc a = M a ∨ ∃ z, a = T + z ∧ z ≤ 9999 ∧ pok z = true ∧ ¬ z = 0 ∧ rp z <:+ rp p
def ptJ (M Mc : Nat → Int32) (T p q : Nat) (what : Int32) : Prop := ∀ z, z ≤ 9999 → pok z = true → ¬ z = 0 → Mc (T + z) = if z = p then what else if (rp z <:+ rp p ∧ ¬ rp z <:+ rp q) ∧ M (T + z) = 0 then nI 2 else M (T + z)
theorem ptJ_s {M Mc : Nat → Int32} {T p q : Nat} {what : Int32} (J : ptJ M Mc T p q what) (hq9 : q ≤ 9999) (hq : pok q = true) (hq0 : ¬ q = 0) (hqp : rp q <:+ rp p) (hne : q ≠ p) : ptJ M (upd Mc (T + q) (if Mc (T + q) = 0 then nI 2 else Mc (T + q))) T p (prN q) what := fun z hz9 hz hz0 => by
  have e1 := (rp_par hq9 hq).1
  have hMq : Mc (T + q) = M (T + q) := by
    rw [J q hq9 hq hq0, if_neg hne, if_neg (fun c => c.1.2 (List.suffix_refl _))]
  obtain ⟨x, hx⟩ := rp_cons hq0
  by_cases e : z = q
  · subst e
    rw [upd_at, hMq, if_neg hne, e1]
    have hn : ¬ rp z <:+ (rp z).tail := fun c => by rw [hx] at c; exact absurd c.length_le (by rw [List.tail_cons, List.length_cons]; omega)
    by_cases c : M (T + z) = 0
    · rw [if_pos c, if_pos ⟨⟨hqp, hn⟩, c⟩]
    · rw [if_neg c, if_neg (fun d => c d.2)]
  · rw [upd_ne _ _ (by omega), J z hz9 hz hz0, e1]
    by_cases ep : z = p
    · rw [if_pos ep, if_pos ep]
    · rw [if_neg ep, if_neg ep]
      have hs : rp z <:+ rp q ↔ rp z <:+ (rp q).tail := by
        constructor
        · intro c
          rw [hx] at c
          rcases List.suffix_cons_iff.mp c with d | d
          · exact absurd (rp_inj hz9 hz hq9 hq (d.trans hx.symm)) e
          · exact d
        · intro c; rw [hx]; exact c.trans (List.suffix_cons _ _)
      by_cases c : (rp z <:+ rp p ∧ ¬ rp z <:+ rp q) ∧ M (T + z) = 0
      · rw [if_pos c, if_pos ⟨⟨c.1.1, fun d => c.1.2 (hs.mpr d)⟩, c.2⟩]
      · rw [if_neg c, if_neg (fun d => c ⟨⟨d.1.1, fun f => d.1.2 (hs.mp f)⟩, d.2⟩)]
theorem ptI_s {M Mc : Nat → Int32} {T p q : Nat} {what x : Int32} (I : ptI M Mc T p q what) (hq9 : q ≤ 9999) (hq : pok q = true) (hq0 : ¬ q = 0) (hqp : rp q <:+ rp p) : ptI M (upd Mc (T + q) x) T p (prN q) what := fun a => by
  by_cases e : a = T + q
  · exact Or.inr ⟨q, e, hq9, hq, hq0, hqp⟩
  · rw [upd_ne _ _ e]; exact I a
set_option maxRecDepth 4096 in
set_option maxHeartbeats 4000000 in
theorem c_O_put (l : Launch) (D : va_G) (aC : Nat → ClassId) (h : zz_Hp) (o : Nat) (ad : Nat → Nat) (th : Int32) (m : Nat) (M V vs sn sh : Nat → Int32) (W : mW h aC o ad th (m + 1) M V vs sn sh) (p : Nat) (s v : Int32) (hp0 : ¬ p = 0) (hp : p ≤ 9999 ∧ pok p = true) :
    zz_Ct l D aC y_O_put (zrm 1 0 0 40) [.ref o, .int (nI p), .int s, .int v] h (fun r' h' => r' = .inl none ∧ ∃ M', mW h' aC o ad th (m + 1) M' (upd V (10000 * m + p) v) vs sn sh ∧ ptI M M' (10000 * m) p 0 s ∧ ptJ M M' (10000 * m) p 0 s) := by
  refine zz_ct md_O_put rfl (by simp [Value.category]) (Nat.le_of_ble_eq_true rfl) fun K C E hI => ?_
  obtain rfl := E.ac
  have n8 := W.1
  obtain ⟨hp9, hpk⟩ := hp
  have loop : ∀ (g q : Nat) (hc : zz_Hp) (Mc : Nat → Int32), q ≤ g → q ≤ 9999 → pok q = true → rp q <:+ rp p → q ≠ p → mW hc (zz_ac K) o ad th (m + 1) Mc (upd V (10000 * m + p) v) vs sn sh → ptI M Mc (10000 * m) p q s → ptJ M Mc (10000 * m) p q s → zz_Z K (zz_End K h (fun r' h' => r' = .inl none ∧ ∃ M', mW h' (zz_ac K) o ad th (m + 1) M' (upd V (10000 * m + p) v) vs sn sh ∧ ptI M M' (10000 * m) p 0 s ∧ ptJ M M' (10000 * m) p 0 s)) h hc 0 0 30 [some (.ref o), some (.int (nI p)), some (.int s), some (.int v), some (.int (nI q))] [] := by
    intro g
    induction g with
    | zero =>
      intro q hc Mc hqg q9 qk qs qne Wc I J
      refine zz_go C [(30, .iload 4)] (by decide +kernel) (pc' := 32) (lv' := [some (.ref o), some (.int (nI p)), some (.int s), some (.int v), some (.int (nI q))]) (st' := [.int (nI q)]) rfl ?_
      refine zz_if C (i := .ifCond .le 56) (by decide +kernel) (Pt := (nI q) ≤ 0) (Pf := ¬ (nI q) ≤ 0) (off := 56) (r := []) (tgt := 88) rfl (by decide) (fun cA => ?_) (fun cA => ?_)
      · have hq0 : q = 0 := Nat.eq_zero_of_not_pos (fun e => absurd cA (nI_nle e (by omega)))
        rw [hq0] at I J
        exact zr_v C E (by decide) (by decide) (by decide +kernel) (⟨rfl, Mc, Wc, I, J⟩)
      · have hq0 : ¬ q = 0 := fun e => cA (by rw [e]; decide)
        exact absurd hqg (by omega)
    | succ g ih =>
      intro q hc Mc hqg q9 qk qs qne Wc I J
      refine zz_go C [(30, .iload 4)] (by decide +kernel) (pc' := 32) (lv' := [some (.ref o), some (.int (nI p)), some (.int s), some (.int v), some (.int (nI q))]) (st' := [.int (nI q)]) rfl ?_
      refine zz_if C (i := .ifCond .le 56) (by decide +kernel) (Pt := (nI q) ≤ 0) (Pf := ¬ (nI q) ≤ 0) (off := 56) (r := []) (tgt := 88) rfl (by decide) (fun cA => ?_) (fun cA => ?_)
      · have hq0 : q = 0 := Nat.eq_zero_of_not_pos (fun e => absurd cA (nI_nle e (by omega)))
        rw [hq0] at I J
        exact zr_v C E (by decide) (by decide) (by decide +kernel) (⟨rfl, Mc, Wc, I, J⟩)
      · have hq0 : ¬ q = 0 := fun e => cA (by rw [e]; decide)
        obtain ⟨e1, e2, e3⟩ := rp_par q9 qk
        have lt := prN_lt hq0
        have tls : (rp q).tail <:+ rp q := List.tail_suffix _
        refine zz_go C [(35, .aload_n 0)] (by decide +kernel) (pc' := 36) (lv' := [some (.ref o), some (.int (nI p)), some (.int s), some (.int v), some (.int (nI q))]) (st' := [.ref o]) rfl ?_
        refine zz_get C fd_O_14 Wc.ob (v := .ref (ad 0)) rfl (by decide +kernel) ?_
        refine zz_go C [(39, .aload_n 0)] (by decide +kernel) (pc' := 40) (lv' := [some (.ref o), some (.int (nI p)), some (.int s), some (.int v), some (.int (nI q))]) (st' := [.ref o, .ref (ad 0)]) rfl ?_
        refine zz_cV C E (ci := 3) (As := []) (rest := [.ref (ad 0)]) (hc := hc) md_O_top (c_O_top l D (zz_ac K) hc o ad th (m + 1) _ _ vs sn sh Wc) ml_O_59 im_O_top se_O_top rfl Wc.ob (fun _ _ q => q) rfl rfl (Nat.le_of_ble_eq_true rfl) ⟨by decide, by decide⟩ ⟨(by decide), (by decide)⟩ (by decide +kernel) (fun v0 h9 hp hn hd => ?_) (fun v0 h9 hp hn hd => ?_)
        · rw [zz_mix_self hd]
          obtain ⟨hh, hv⟩ := hp
          rw [hh]
          cases hv
          show zz_Z _ _ _ _ _ _ _ _ [.int (nI (10000 * (m + 1 - 1))), .ref (ad 0)]
          refine zz_go C [(43, .iload 4), (45, .iadd), (46, .aload_n 0)] (by decide +kernel) (pc' := 47) (lv' := [some (.ref o), some (.int (nI p)), some (.int s), some (.int v), some (.int (nI q))]) (st' := [.ref o, .int ((nI (10000 * (m + 1 - 1))) + (nI q)), .ref (ad 0)]) rfl ?_
          rw [show nI (10000 * (m + 1 - 1)) + nI q = nI (10000 * m + q) from nI_add (10000 * m) q]
          refine zz_get C fd_O_14 Wc.ob (v := .ref (ad 0)) rfl (by decide +kernel) ?_
          refine zz_go C [(50, .aload_n 0)] (by decide +kernel) (pc' := 51) (lv' := [some (.ref o), some (.int (nI p)), some (.int s), some (.int v), some (.int (nI q))]) (st' := [.ref o, .ref (ad 0), .int (nI (10000 * m + q)), .ref (ad 0)]) rfl ?_
          refine zz_cV C E (ci := 3) (As := []) (rest := [.ref (ad 0), .int (nI (10000 * m + q)), .ref (ad 0)]) (hc := hc) md_O_top (c_O_top l D (zz_ac K) hc o ad th (m + 1) _ _ vs sn sh Wc) ml_O_59 im_O_top se_O_top rfl Wc.ob (fun _ _ q => q) rfl rfl (Nat.le_of_ble_eq_true rfl) ⟨by decide, by decide⟩ ⟨(by decide), (by decide)⟩ (by decide +kernel) (fun v0 h9 hp hn hd => ?_) (fun v0 h9 hp hn hd => ?_)
          · rw [zz_mix_self hd]
            obtain ⟨hh, hv⟩ := hp
            rw [hh]
            cases hv
            show zz_Z _ _ _ _ _ _ _ _ [.int (nI (10000 * (m + 1 - 1))), .ref (ad 0), .int (nI (10000 * m + q)), .ref (ad 0)]
            refine zz_go C [(54, .iload 4), (56, .iadd)] (by decide +kernel) (pc' := 57) (lv' := [some (.ref o), some (.int (nI p)), some (.int s), some (.int v), some (.int (nI q))]) (st' := [.int ((nI (10000 * (m + 1 - 1))) + (nI q)), .ref (ad 0), .int (nI (10000 * m + q)), .ref (ad 0)]) rfl ?_
            rw [show nI (10000 * (m + 1 - 1)) + nI q = nI (10000 * m + q) from nI_add (10000 * m) q]
            refine ga_ild C Wc.2.2.2.1 (by omega) (by decide) (by decide +kernel) ?_
            refine zz_if C (i := .ifCond .ne 7) (by decide +kernel) (Pt := ¬ (Mc (10000 * m + q)) = 0) (Pf := (Mc (10000 * m + q)) = 0) (off := 7) (r := [.int (nI (10000 * m + q)), .ref (ad 0)]) (tgt := 65) rfl (by decide) (fun cB => ?_) (fun cB => ?_)
            · refine zz_go C [(65, .aload_n 0)] (by decide +kernel) (pc' := 66) (lv' := [some (.ref o), some (.int (nI p)), some (.int s), some (.int v), some (.int (nI q))]) (st' := [.ref o, .int (nI (10000 * m + q)), .ref (ad 0)]) rfl ?_
              refine zz_get C fd_O_14 Wc.ob (v := .ref (ad 0)) rfl (by decide +kernel) ?_
              refine zz_go C [(69, .aload_n 0)] (by decide +kernel) (pc' := 70) (lv' := [some (.ref o), some (.int (nI p)), some (.int s), some (.int v), some (.int (nI q))]) (st' := [.ref o, .ref (ad 0), .int (nI (10000 * m + q)), .ref (ad 0)]) rfl ?_
              refine zz_cV C E (ci := 3) (As := []) (rest := [.ref (ad 0), .int (nI (10000 * m + q)), .ref (ad 0)]) (hc := hc) md_O_top (c_O_top l D (zz_ac K) hc o ad th (m + 1) _ _ vs sn sh Wc) ml_O_59 im_O_top se_O_top rfl Wc.ob (fun _ _ q => q) rfl rfl (Nat.le_of_ble_eq_true rfl) ⟨by decide, by decide⟩ ⟨(by decide), (by decide)⟩ (by decide +kernel) (fun v0 h9 hp hn hd => ?_) (fun v0 h9 hp hn hd => ?_)
              · rw [zz_mix_self hd]
                obtain ⟨hh, hv⟩ := hp
                rw [hh]
                cases hv
                show zz_Z _ _ _ _ _ _ _ _ [.int (nI (10000 * (m + 1 - 1))), .ref (ad 0), .int (nI (10000 * m + q)), .ref (ad 0)]
                refine zz_go C [(73, .iload 4), (75, .iadd)] (by decide +kernel) (pc' := 76) (lv' := [some (.ref o), some (.int (nI p)), some (.int s), some (.int v), some (.int (nI q))]) (st' := [.int ((nI (10000 * (m + 1 - 1))) + (nI q)), .ref (ad 0), .int (nI (10000 * m + q)), .ref (ad 0)]) rfl ?_
                rw [show nI (10000 * (m + 1 - 1)) + nI q = nI (10000 * m + q) from nI_add (10000 * m) q]
                refine ga_ild C Wc.2.2.2.1 (by omega) (by decide) (by decide +kernel) ?_
                refine mo_mst C Wc (by omega) (by decide +kernel) (fun h4 W4 => ?_)
                have J2 := ptJ_s J q9 qk hq0 qs qne
                rw [if_neg cB] at J2
                refine zz_go C [(78, .iload 4)] (by decide +kernel) (pc' := 80) (lv' := [some (.ref o), some (.int (nI p)), some (.int s), some (.int v), some (.int (nI q))]) (st' := [.int (nI q)]) rfl ?_
                refine zz_cS C E (As := [.int (nI q)]) (rest := []) (hc := h4) md_O_parentOf (c_O_parentOf l D (zz_ac K) h4 q q9) ml_O_44 sm_O_parentOf (fun _ _ q => q) rfl rfl (Nat.le_of_ble_eq_true rfl) ⟨by decide, by decide⟩ ⟨(by decide), (by decide)⟩ (by decide +kernel) (fun v0 h9 hp hn hd => ?_) (fun v0 h9 hp hn hd => ?_)
                · rw [zz_mix_self hd]
                  obtain ⟨hh, hv⟩ := hp
                  rw [hh]
                  cases hv
                  show zz_Z _ _ _ _ _ _ _ _ [.int (nI (prN q))]
                  refine zz_go C [(83, .istore 4), (85, .goto (-55))] (by decide +kernel) (pc' := 30) (lv' := [some (.ref o), some (.int (nI p)), some (.int s), some (.int v), some (.int (nI (prN q)))]) (st' := []) rfl ?_
                  exact ih (prN q) h4 _ (by omega) e3 e2 (by rw [e1]; exact tls.trans qs) (fun e => by have := qs.length_le; have h2 := congrArg (fun z => (rp z).length) e; simp only [e1, List.length_tail] at h2; obtain ⟨y, hy⟩ := rp_cons hq0; rw [hy] at h2 this; simp at h2 this; omega) W4 (ptI_s I q9 qk hq0 qs) J2
                · cases hp.2
              · cases hp.2
            · refine zz_go C [(61, .iconst 2), (62, .goto 15)] (by decide +kernel) (pc' := 77) (lv' := [some (.ref o), some (.int (nI p)), some (.int s), some (.int v), some (.int (nI q))]) (st' := [.int (nI 2), .int (nI (10000 * m + q)), .ref (ad 0)]) rfl ?_
              refine mo_mst C Wc (by omega) (by decide +kernel) (fun h4 W4 => ?_)
              have J2 := ptJ_s J q9 qk hq0 qs qne
              rw [if_pos cB] at J2
              refine zz_go C [(78, .iload 4)] (by decide +kernel) (pc' := 80) (lv' := [some (.ref o), some (.int (nI p)), some (.int s), some (.int v), some (.int (nI q))]) (st' := [.int (nI q)]) rfl ?_
              refine zz_cS C E (As := [.int (nI q)]) (rest := []) (hc := h4) md_O_parentOf (c_O_parentOf l D (zz_ac K) h4 q q9) ml_O_44 sm_O_parentOf (fun _ _ q => q) rfl rfl (Nat.le_of_ble_eq_true rfl) ⟨by decide, by decide⟩ ⟨(by decide), (by decide)⟩ (by decide +kernel) (fun v0 h9 hp hn hd => ?_) (fun v0 h9 hp hn hd => ?_)
              · rw [zz_mix_self hd]
                obtain ⟨hh, hv⟩ := hp
                rw [hh]
                cases hv
                show zz_Z _ _ _ _ _ _ _ _ [.int (nI (prN q))]
                refine zz_go C [(83, .istore 4), (85, .goto (-55))] (by decide +kernel) (pc' := 30) (lv' := [some (.ref o), some (.int (nI p)), some (.int s), some (.int v), some (.int (nI (prN q)))]) (st' := []) rfl ?_
                exact ih (prN q) h4 _ (by omega) e3 e2 (by rw [e1]; exact tls.trans qs) (fun e => by have := qs.length_le; have h2 := congrArg (fun z => (rp z).length) e; simp only [e1, List.length_tail] at h2; obtain ⟨y, hy⟩ := rp_cons hq0; rw [hy] at h2 this; simp at h2 this; omega) W4 (ptI_s I q9 qk hq0 qs) J2
              · cases hp.2
          · cases hp.2
        · cases hp.2
  refine zz_go C [(0, .aload_n 0)] (by decide +kernel) (pc' := 1) (lv' := [some (.ref o), some (.int (nI p)), some (.int s), some (.int v), none]) (st' := [.ref o]) rfl ?_
  refine zz_get C fd_O_14 W.ob (v := .ref (ad 0)) rfl (by decide +kernel) ?_
  refine zz_go C [(4, .aload_n 0)] (by decide +kernel) (pc' := 5) (lv' := [some (.ref o), some (.int (nI p)), some (.int s), some (.int v), none]) (st' := [.ref o, .ref (ad 0)]) rfl ?_
  refine zz_cV C E (ci := 3) (As := []) (rest := [.ref (ad 0)]) (hc := h) md_O_top (c_O_top l D (zz_ac K) h o ad th (m + 1) _ _ vs sn sh W) ml_O_59 im_O_top se_O_top rfl W.ob (fun _ _ q => q) rfl rfl (Nat.le_of_ble_eq_true rfl) ⟨by decide, by decide⟩ ⟨(by decide), (by decide)⟩ (by decide +kernel) (fun v0 h9 hp hn hd => ?_) (fun v0 h9 hp hn hd => ?_)
  · rw [zz_mix_self hd]
    obtain ⟨hh, hv⟩ := hp
    rw [hh]
    cases hv
    show zz_Z _ _ _ _ _ _ _ _ [.int (nI (10000 * (m + 1 - 1))), .ref (ad 0)]
    refine zz_go C [(8, .iload_n 1), (9, .iadd), (10, .iload_n 2)] (by decide +kernel) (pc' := 11) (lv' := [some (.ref o), some (.int (nI p)), some (.int s), some (.int v), none]) (st' := [.int s, .int ((nI (10000 * (m + 1 - 1))) + (nI p)), .ref (ad 0)]) rfl ?_
    rw [show nI (10000 * (m + 1 - 1)) + nI p = nI (10000 * m + p) from nI_add (10000 * m) p]
    refine mo_mst C W (by omega) (by decide +kernel) (fun h1 W1 => ?_)
    refine zz_go C [(12, .aload_n 0)] (by decide +kernel) (pc' := 13) (lv' := [some (.ref o), some (.int (nI p)), some (.int s), some (.int v), none]) (st' := [.ref o]) rfl ?_
    refine zz_get C fd_O_18 W1.ob (v := .ref (ad 1)) rfl (by decide +kernel) ?_
    refine zz_go C [(16, .aload_n 0)] (by decide +kernel) (pc' := 17) (lv' := [some (.ref o), some (.int (nI p)), some (.int s), some (.int v), none]) (st' := [.ref o, .ref (ad 1)]) rfl ?_
    refine zz_cV C E (ci := 3) (As := []) (rest := [.ref (ad 1)]) (hc := h1) md_O_top (c_O_top l D (zz_ac K) h1 o ad th (m + 1) _ _ vs sn sh W1) ml_O_59 im_O_top se_O_top rfl W1.ob (fun _ _ q => q) rfl rfl (Nat.le_of_ble_eq_true rfl) ⟨by decide, by decide⟩ ⟨(by decide), (by decide)⟩ (by decide +kernel) (fun v0 h9 hp hn hd => ?_) (fun v0 h9 hp hn hd => ?_)
    · rw [zz_mix_self hd]
      obtain ⟨hh, hv⟩ := hp
      rw [hh]
      cases hv
      show zz_Z _ _ _ _ _ _ _ _ [.int (nI (10000 * (m + 1 - 1))), .ref (ad 1)]
      refine zz_go C [(20, .iload_n 1), (21, .iadd), (22, .iload_n 3)] (by decide +kernel) (pc' := 23) (lv' := [some (.ref o), some (.int (nI p)), some (.int s), some (.int v), none]) (st' := [.int v, .int ((nI (10000 * (m + 1 - 1))) + (nI p)), .ref (ad 1)]) rfl ?_
      rw [show nI (10000 * (m + 1 - 1)) + nI p = nI (10000 * m + p) from nI_add (10000 * m) p]
      refine mo_ust C W1 (by omega) (by decide +kernel) (fun h2 W2 => ?_)
      refine zz_go C [(24, .iload_n 1)] (by decide +kernel) (pc' := 25) (lv' := [some (.ref o), some (.int (nI p)), some (.int s), some (.int v), none]) (st' := [.int (nI p)]) rfl ?_
      refine zz_cS C E (As := [.int (nI p)]) (rest := []) (hc := h2) md_O_parentOf (c_O_parentOf l D (zz_ac K) h2 p hp9) ml_O_44 sm_O_parentOf (fun _ _ q => q) rfl rfl (Nat.le_of_ble_eq_true rfl) ⟨by decide, by decide⟩ ⟨(by decide), (by decide)⟩ (by decide +kernel) (fun v0 h9 hp hn hd => ?_) (fun v0 h9 hp hn hd => ?_)
      · rw [zz_mix_self hd]
        obtain ⟨hh, hv⟩ := hp
        rw [hh]
        cases hv
        show zz_Z _ _ _ _ _ _ _ _ [.int (nI (prN p))]
        refine zz_go C [(28, .istore 4)] (by decide +kernel) (pc' := 30) (lv' := [some (.ref o), some (.int (nI p)), some (.int s), some (.int v), some (.int (nI (prN p)))]) (st' := []) rfl ?_
        obtain ⟨e1, e2, e3⟩ := rp_par hp9 hpk
        have lt := prN_lt hp0
        obtain ⟨y, hy⟩ := rp_cons hp0
        refine loop 9999 (prN p) h2 _ e3 e3 e2 (by rw [e1]; exact List.tail_suffix _) (by omega) W2 (fun a => ?_) (fun z hz9 hz hz0 => ?_)
        · by_cases e : a = 10000 * m + p
          · exact Or.inr ⟨p, e, hp9, hpk, hp0, List.suffix_refl _⟩
          · rw [upd_ne _ _ e]; exact Or.inl rfl
        · by_cases e : z = p
          · subst e; rw [upd_at, if_pos rfl]
          · rw [upd_ne _ _ (by omega), if_neg e, if_neg]
            rintro ⟨⟨c1, c2⟩, -⟩
            rw [e1] at c2; rw [hy] at c1
            rcases List.suffix_cons_iff.mp c1 with d | d
            · exact e (rp_inj hz9 hz hp9 hpk (d.trans hy.symm))
            · exact c2 d
      · cases hp.2
    · cases hp.2
  · cases hp.2
