/-! ===== the model looks ===== -/
theorem vw_0 (L : zLs) {p : Nat} (h0 : ¬ p = 0) : (vw L (rp p)).1 0 = -1 := by
  obtain ⟨x, hx⟩ := rp_cons h0
  rw [hx]; rfl
theorem cvI_0 {M V vs sn sh : Nat → Int32} (h1 : vs 0 = nI 2) (h2 : sh 0 = bI true) (h3 : ∀ j, j < 7380 → vs (pth j) = nI 0) : cvI M V 0 0 vs sn sh :=
  ⟨h1, h2, fun j hj => ⟨fun z => absurd z (by omega), fun _ => by
    rw [vw_0 _ (pth_ok hj).2.2, h3 j hj]
    exact ⟨by decide, fun z => absurd z (by decide)⟩⟩⟩
set_option maxRecDepth 8192 in
set_option maxHeartbeats 8000000 in
theorem c_O_look (l : Launch) (D : va_G) (aC : Nat → ClassId) (h : zz_Hp) (o : Nat) (ad : Nat → Nat) (th : Int32) (n : Nat) (M V vs sn sh : Nat → Int32) (W : mW h aC o ad th n M V vs sn sh) (m : Nat) (hm : m ≤ 8) (hM : okM M) :
    zz_Ct l D aC y_O_look (zrm 1 0 0 40) [.ref o, .int (nI m)] h (fun r' h' => r' = .inl none ∧ ∃ vs' sn' sh', mW h' aC o ad th n M V vs' sn' sh' ∧ cvI M V 0 m vs' sn' sh') := by
  refine zz_ct md_O_look rfl (by simp [Value.category]) (Nat.le_of_ble_eq_true rfl) fun K C E hI => ?_
  obtain rfl := E.ac
  have loop2 : ∀ (g k : Nat) (hc : zz_Hp) (vs sn sh : Nat → Int32), k + g = m → mW hc (zz_ac K) o ad th n M V vs sn sh → cvI M V 0 k vs sn sh → zz_Z K (zz_End K h (fun r' h' => r' = .inl none ∧ ∃ vs' sn' sh', mW h' (zz_ac K) o ad th n M V vs' sn' sh' ∧ cvI M V 0 m vs' sn' sh')) h hc 0 0 44 [some (.ref o), some (.int (nI m)), some (.int (nI k))] [] := by
    intro g
    induction g with
    | zero =>
      intro k hc vs sn sh hkg Wc I
      refine zz_go C [(44, .iload_n 2), (45, .iload_n 1)] (by decide +kernel) (pc' := 46) (lv' := [some (.ref o), some (.int (nI m)), some (.int (nI k))]) (st' := [.int (nI m), .int (nI k)]) rfl ?_
      refine zz_if C (i := .if_icmp .ge 14) (by decide +kernel) (Pt := (nI m) ≤ (nI k)) (Pf := ¬ (nI m) ≤ (nI k)) (off := 14) (r := []) (tgt := 60) rfl (by decide) (fun cA => ?_) (fun cA => ?_)
      · rw [show k = m by omega] at I
        exact zr_v C E (by decide) (by decide) (by decide +kernel) (⟨rfl, vs, sn, sh, Wc, I⟩)
      · exact absurd (nI_le (by omega) (by omega)) cA
    | succ g ih =>
      intro k hc vs sn sh hkg Wc I
      refine zz_go C [(44, .iload_n 2), (45, .iload_n 1)] (by decide +kernel) (pc' := 46) (lv' := [some (.ref o), some (.int (nI m)), some (.int (nI k))]) (st' := [.int (nI m), .int (nI k)]) rfl ?_
      refine zz_if C (i := .if_icmp .ge 14) (by decide +kernel) (Pt := (nI m) ≤ (nI k)) (Pf := ¬ (nI m) ≤ (nI k)) (off := 14) (r := []) (tgt := 60) rfl (by decide) (fun cA => ?_) (fun cA => ?_)
      · exact absurd ((nI_leI (by omega) (by omega)).mp cA) (by omega)
      · refine zz_go C [(49, .aload_n 0), (50, .iload_n 2)] (by decide +kernel) (pc' := 51) (lv' := [some (.ref o), some (.int (nI m)), some (.int (nI k))]) (st' := [.int (nI k), .ref o]) rfl ?_
        refine zz_cV C E (ci := 3) (As := [.int (nI k)]) (rest := []) (hc := hc) md_O_cover (c_O_cover l D (zz_ac K) hc o ad th n M V vs sn sh Wc k (by omega) hM I) ml_O_55 im_O_cover se_O_cover rfl Wc.ob (fun _ _ q => q) rfl rfl (Nat.le_of_ble_eq_true rfl) ⟨by decide, by decide⟩ ⟨(by decide), (by decide)⟩ (by decide +kernel) (fun v0 h1 hp hn hd => ?_) (fun v0 h1 hp hn hd => ?_)
        · rw [zz_mix_self hd]
          obtain ⟨hv, vs', sn', sh', W2, I2⟩ := hp
          cases hv
          show zz_Z _ _ _ _ _ _ _ _ []
          refine zz_go C [(54, .iinc 2 1), (57, .goto (-13))] (by decide +kernel) (pc' := 44) (lv' := [some (.ref o), some (.int (nI m)), some (.int ((nI k) + (nI 1)))]) (st' := []) rfl ?_
          rw [show nI k + nI 1 = nI (k + 1) from nI_add k 1]
          exact ih (k + 1) h1 vs' sn' sh' (by omega) W2 (cvI_end I2)
        · cases hp.1
  have loop1 : ∀ (g k : Nat) (hc : zz_Hp) (vs sn sh : Nat → Int32), k + g = 7380 → mW hc (zz_ac K) o ad th n M V vs sn sh → vs 0 = nI 2 → sh 0 = bI true → (∀ j, j < k → vs (pth j) = nI 0) → zz_Z K (zz_End K h (fun r' h' => r' = .inl none ∧ ∃ vs' sn' sh', mW h' (zz_ac K) o ad th n M V vs' sn' sh' ∧ cvI M V 0 m vs' sn' sh')) h hc 0 0 16 [some (.ref o), some (.int (nI m)), some (.int (nI k))] [] := by
    intro g
    induction g with
    | zero =>
      intro k hc vs sn sh hkg Wc z1 z2 z3
      refine zz_go C [(16, .iload_n 2), (17, .aload_n 0)] (by decide +kernel) (pc' := 18) (lv' := [some (.ref o), some (.int (nI m)), some (.int (nI k))]) (st' := [.ref o, .int (nI k)]) rfl ?_
      refine zz_get C fd_O_41 Wc.ob (v := .int (nI 7380)) rfl (by decide +kernel) ?_
      refine zz_if C (i := .if_icmp .ge 21) (by decide +kernel) (Pt := (nI 7380) ≤ (nI k)) (Pf := ¬ (nI 7380) ≤ (nI k)) (off := 21) (r := []) (tgt := 42) rfl (by decide) (fun cA => ?_) (fun cA => ?_)
      · refine zz_go C [(42, .iconst 0), (43, .istore_n 2)] (by decide +kernel) (pc' := 44) (lv' := [some (.ref o), some (.int (nI m)), some (.int (nI 0))]) (st' := []) rfl ?_
        exact loop2 m 0 hc vs sn sh (by omega) Wc (cvI_0 z1 z2 (fun j hj => z3 j (by omega)))
      · exact absurd (nI_le (by omega) (by omega)) cA
    | succ g ih =>
      intro k hc vs sn sh hkg Wc z1 z2 z3
      refine zz_go C [(16, .iload_n 2), (17, .aload_n 0)] (by decide +kernel) (pc' := 18) (lv' := [some (.ref o), some (.int (nI m)), some (.int (nI k))]) (st' := [.ref o, .int (nI k)]) rfl ?_
      refine zz_get C fd_O_41 Wc.ob (v := .int (nI 7380)) rfl (by decide +kernel) ?_
      refine zz_if C (i := .if_icmp .ge 21) (by decide +kernel) (Pt := (nI 7380) ≤ (nI k)) (Pf := ¬ (nI 7380) ≤ (nI k)) (off := 21) (r := []) (tgt := 42) rfl (by decide) (fun cA => ?_) (fun cA => ?_)
      · exact absurd ((nI_leI (by omega) (by omega)).mp cA) (by omega)
      · have hk : k < 7380 := by omega
        obtain ⟨p9, pp, p0⟩ := pth_ok hk
        refine zz_go C [(24, .aload_n 0)] (by decide +kernel) (pc' := 25) (lv' := [some (.ref o), some (.int (nI m)), some (.int (nI k))]) (st' := [.ref o]) rfl ?_
        refine zz_get C fd_O_21 Wc.ob (v := .ref (ad 2)) rfl (by decide +kernel) ?_
        refine zz_go C [(28, .aload_n 0)] (by decide +kernel) (pc' := 29) (lv' := [some (.ref o), some (.int (nI m)), some (.int (nI k))]) (st' := [.ref o, .ref (ad 2)]) rfl ?_
        refine zz_get C fd_O_31 Wc.ob (v := .ref (ad 5)) rfl (by decide +kernel) ?_
        refine zz_go C [(32, .iload_n 2)] (by decide +kernel) (pc' := 33) (lv' := [some (.ref o), some (.int (nI m)), some (.int (nI k))]) (st' := [.int (nI k), .ref (ad 5), .ref (ad 2)]) rfl ?_
        refine mo_pld C Wc hk (by decide +kernel) ?_
        refine zz_go C [(34, .iconst 0)] (by decide +kernel) (pc' := 35) (lv' := [some (.ref o), some (.int (nI m)), some (.int (nI k))]) (st' := [.int (nI 0), .int (nI (pth k)), .ref (ad 2)]) rfl ?_
        refine mo_vst C Wc (by omega) pp (by decide +kernel) (fun h1 W1 => ?_)
        refine zz_go C [(36, .iinc 2 1), (39, .goto (-23))] (by decide +kernel) (pc' := 16) (lv' := [some (.ref o), some (.int (nI m)), some (.int ((nI k) + (nI 1)))]) (st' := []) rfl ?_
        rw [show nI k + nI 1 = nI (k + 1) from nI_add k 1]
        exact ih (k + 1) h1 _ sn sh (by omega) W1 (by rw [upd_ne _ _ (fun e => p0 e.symm)]; exact z1) z2 (fun j hj => by
          by_cases e : j = k
          · subst e; rw [upd_at]
          · rw [upd_ne _ _ (pth_ne (by omega) hk e)]; exact z3 j (by omega))
  refine zz_go C [(0, .aload_n 0)] (by decide +kernel) (pc' := 1) (lv' := [some (.ref o), some (.int (nI m)), none]) (st' := [.ref o]) rfl ?_
  refine zz_get C fd_O_21 W.ob (v := .ref (ad 2)) rfl (by decide +kernel) ?_
  refine zz_go C [(4, .iconst 0), (5, .iconst 2)] (by decide +kernel) (pc' := 6) (lv' := [some (.ref o), some (.int (nI m)), none]) (st' := [.int (nI 2), .int (nI 0), .ref (ad 2)]) rfl ?_
  refine mo_vst C W (j := 0) (by decide) (by decide) (by decide +kernel) (fun h1 W1 => ?_)
  refine zz_go C [(7, .aload_n 0)] (by decide +kernel) (pc' := 8) (lv' := [some (.ref o), some (.int (nI m)), none]) (st' := [.ref o]) rfl ?_
  refine zz_get C fd_O_27 W1.ob (v := .ref (ad 4)) rfl (by decide +kernel) ?_
  refine zz_go C [(11, .iconst 0), (12, .iconst 1)] (by decide +kernel) (pc' := 13) (lv' := [some (.ref o), some (.int (nI m)), none]) (st' := [.int (nI 1), .int (nI 0), .ref (ad 4)]) rfl ?_
  show zz_Z _ _ _ _ _ _ _ [some (.ref o), some (.int (nI m)), none] [.int (bI true), .int (nI 0), .ref (ad 4)]
  refine mo_hst C W1 true (j := 0) (by decide) (by decide +kernel) (fun h2 W2 => ?_)
  refine zz_go C [(14, .iconst 0), (15, .istore_n 2)] (by decide +kernel) (pc' := 16) (lv' := [some (.ref o), some (.int (nI m)), some (.int (nI 0))]) (st' := []) rfl ?_
  exact loop1 7380 0 h2 _ sn _ (by omega) W2 (upd_at _ _ _) (upd_at _ _ _) (fun j hj => absurd hj (by omega))
/-- what the view holds at a path -/
theorem cvI_at {M V vs sn sh : Nat → Int32} {m p : Nat} (I : cvI M V 0 m vs sn sh) (h9 : p ≤ 9999) (hp : pok p = true) : vs p = (vw (Lm M V) (rp p)).1 m + nI 1 ∧ ((vw (Lm M V) (rp p)).1 m = 0 → sn p = vwV (Lm M V) (rp p) m) := by
  by_cases h0 : p = 0
  · subst h0
    refine ⟨I.1, fun z => absurd (show nI 1 = 0 from z) (by decide)⟩
  · obtain ⟨k, hk, rfl⟩ := pth_of h9 hp h0
    exact (I.2.2 k hk).2 (Nat.zero_le k)
