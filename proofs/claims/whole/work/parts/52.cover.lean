/-! ===== cover ===== -/
theorem add1_2 (K : Int32) : K + nI 1 = nI 2 ↔ K = nI 1 := ⟨fun e => by
    have h2 : K + nI 1 - nI 1 = nI 2 - nI 1 := by rw [e]
    rw [Int32.add_sub_cancel] at h2
    exact h2.trans (by decide), fun e => by rw [e]; decide⟩
theorem ix_m (i p : Nat) : nI 10000 * nI i + nI p = nI (10000 * i + p) := by
  rw [show nI 10000 * nI i = nI (10000 * i) from (Int32.ofNat_mul _ _).symm]; exact nI_add _ _
theorem alK_0 (P S K : Int32) : alK P S (if nI 0 = 0 then none else some 0) (nI 0 - nI 1) K = if P = nI 1 then (if S = 0 then -1 else K) else -1 := by
  unfold alK; rw [if_pos (show nI 0 = 0 by decide), if_pos (show (none : Option Nat) = none from rfl)]
theorem alS_0 (S K : Int32) : alS S (if nI 0 = 0 then none else some 0) (nI 0 - nI 1) K = decide (¬ S = 0 ∧ K = nI 1) := by
  unfold alS; rw [if_pos (show nI 0 = 0 by decide)]; exact decide_eq_decide.mpr ⟨fun z => ⟨z.1, z.2.1⟩, fun z => ⟨z.1, z.2, Or.inl rfl⟩⟩
theorem alS_2 (S K : Int32) : alS S (if nI 2 = 0 then none else some 0) (nI 2 - nI 1) K = decide (¬ S = 0 ∧ K = nI 1) := by
  unfold alS; exact decide_eq_decide.mpr ⟨fun z => ⟨z.1, z.2.1⟩, fun z => ⟨z.1, z.2, Or.inr (by decide)⟩⟩
theorem alK_1 (P S K : Int32) : alK P S (if nI 1 = 0 then none else some 0) (nI 1 - nI 1) K = if P = nI 1 then nI 0 else -1 := by
  unfold alK; rw [if_neg (show ¬ nI 1 = 0 by decide), if_neg (show ¬ (some 0 : Option Nat) = none by simp), if_neg (show ¬ (nI 1 - nI 1 = nI 3) by decide), if_pos (show nI 1 - nI 1 = 0 by decide)]
theorem alK_2 (P S K : Int32) : alK P S (if nI 2 = 0 then none else some 0) (nI 2 - nI 1) K = if P = nI 1 then nI 1 else -1 := by
  unfold alK; rw [if_neg (show ¬ nI 2 = 0 by decide), if_neg (show ¬ (some 0 : Option Nat) = none by simp), if_neg (show ¬ (nI 2 - nI 1 = nI 3) by decide), if_neg (show ¬ (nI 2 - nI 1 = 0) by decide)]
theorem alK_3 (P S K : Int32) : alK P S (if nI 3 = 0 then none else some 0) (nI 3 - nI 1) K = if P = nI 1 then nI 1 else -1 := by
  unfold alK; rw [if_neg (show ¬ nI 3 = 0 by decide), if_neg (show ¬ (some 0 : Option Nat) = none by simp), if_neg (show ¬ (nI 3 - nI 1 = nI 3) by decide), if_neg (show ¬ (nI 3 - nI 1 = 0) by decide)]
theorem alK_4 (P S K : Int32) : alK P S (if nI 4 = 0 then none else some 0) (nI 4 - nI 1) K = if P = nI 1 then -1 else -1 := by
  unfold alK; rw [if_neg (show ¬ nI 4 = 0 by decide), if_neg (show ¬ (some 0 : Option Nat) = none by simp), if_pos (show nI 4 - nI 1 = nI 3 by decide)]
theorem alS_1 (S K : Int32) : alS S (if nI 1 = 0 then none else some 0) (nI 1 - nI 1) K = false := by
  unfold alS; rw [if_neg (show ¬ nI 1 = 0 by decide)]; exact decide_eq_false (fun z => z.2.2.elim (fun e => by cases e) (fun e => absurd e (by decide)))
theorem alS_3 (S K : Int32) : alS S (if nI 3 = 0 then none else some 0) (nI 3 - nI 1) K = false := by
  unfold alS; rw [if_neg (show ¬ nI 3 = 0 by decide)]; exact decide_eq_false (fun z => z.2.2.elim (fun e => by cases e) (fun e => absurd e (by decide)))
theorem alS_4 (S K : Int32) : alS S (if nI 4 = 0 then none else some 0) (nI 4 - nI 1) K = false := by
  unfold alS; rw [if_neg (show ¬ nI 4 = 0 by decide)]; exact decide_eq_false (fun z => z.2.2.elim (fun e => by cases e) (fun e => absurd e (by decide)))
set_option maxRecDepth 8192 in
set_option maxHeartbeats 16000000 in
theorem c_O_cover (l : Launch) (D : va_G) (aC : Nat → ClassId) (h : zz_Hp) (o : Nat) (ad : Nat → Nat) (th : Int32) (n : Nat) (M V vs sn sh : Nat → Int32) (W : mW h aC o ad th n M V vs sn sh) (i : Nat) (hi : i < 8) (hM : okM M) (I : cvI M V 0 i vs sn sh) :
    zz_Ct l D aC y_O_cover (zrm 0 0 0 0) [.ref o, .int (nI i)] h (fun r' h' => r' = .inl none ∧ ∃ vs' sn' sh', mW h' aC o ad th n M V vs' sn' sh' ∧ cvI M V 7380 i vs' sn' sh') := by
  refine zz_ct md_O_cover rfl (by simp [Value.category]) (Nat.le_of_ble_eq_true rfl) fun K C E hI => ?_
  obtain rfl := E.ac
  have loop : ∀ (g k : Nat) (hc : zz_Hp) (vs sn sh : Nat → Int32), k + g = 7380 → mW hc (zz_ac K) o ad th n M V vs sn sh → cvI M V k i vs sn sh → zz_Z K (zz_End K h (fun r' h' => r' = .inl none ∧ ∃ vs' sn' sh', mW h' (zz_ac K) o ad th n M V vs' sn' sh' ∧ cvI M V 7380 i vs' sn' sh')) h hc 0 0 2 [some (.ref o), some (.int (nI i)), some (.int (nI k)), none, none, none] [] := by
    intro g
    induction g with
    | zero =>
      intro k hc vs sn sh hkg Wc I
      refine zz_go C [(2, .iload_n 2), (3, .aload_n 0)] (by decide +kernel) (pc' := 4) (lv' := [some (.ref o), some (.int (nI i)), some (.int (nI k)), none, none, none]) (st' := [.ref o, .int (nI k)]) rfl ?_
      refine zz_get C fd_O_41 Wc.ob (v := .int (nI 7380)) rfl (by decide +kernel) ?_
      refine zz_if C (i := .if_icmp .ge 180) (by decide +kernel) (Pt := (nI 7380) ≤ (nI k)) (Pf := ¬ (nI 7380) ≤ (nI k)) (off := 180) (r := []) (tgt := 187) rfl (by decide) (fun cA => ?_) (fun cA => ?_)
      · rw [show k = 7380 by omega] at I
        exact zr_v C E (by decide) (by decide) (by decide +kernel) (⟨rfl, vs, sn, sh, Wc, I⟩)
      · exact absurd (nI_le (by omega) (by omega)) cA
    | succ g ih =>
      intro k hc vs sn sh hkg Wc I
      refine zz_go C [(2, .iload_n 2), (3, .aload_n 0)] (by decide +kernel) (pc' := 4) (lv' := [some (.ref o), some (.int (nI i)), some (.int (nI k)), none, none, none]) (st' := [.ref o, .int (nI k)]) rfl ?_
      refine zz_get C fd_O_41 Wc.ob (v := .int (nI 7380)) rfl (by decide +kernel) ?_
      refine zz_if C (i := .if_icmp .ge 180) (by decide +kernel) (Pt := (nI 7380) ≤ (nI k)) (Pf := ¬ (nI 7380) ≤ (nI k)) (off := 180) (r := []) (tgt := 187) rfl (by decide) (fun cA => ?_) (fun cA => ?_)
      · exact absurd ((nI_leI (by omega) (by omega)).mp cA) (by omega)
      · have hk : k < 7380 := by omega
        obtain ⟨p9, pp, p0⟩ := pth_ok hk
        obtain ⟨u1, u2⟩ := cvI_up I hk
        obtain ⟨v1, v2⟩ := (I.2.2 k hk).2 (Nat.le_refl k)
        obtain ⟨s1, s2, s3⟩ := vw_s M V i p9 pp p0
        have lt := prN_lt p0
        have next : ∀ (h2 : zz_Hp) (vs' sn' sh' : Nat → Int32) (l3 l4 l5 : Option Value), mW h2 (zz_ac K) o ad th n M V vs' sn' sh' → cvI M V (k + 1) i vs' sn' sh' → zz_Z K (zz_End K h (fun r' h' => r' = .inl none ∧ ∃ vs' sn' sh', mW h' (zz_ac K) o ad th n M V vs' sn' sh' ∧ cvI M V 7380 i vs' sn' sh')) h h2 0 0 181 [some (.ref o), some (.int (nI i)), some (.int (nI k)), l3, l4, l5] [] := by
          intro h2 vs' sn' sh' l3 l4 l5 W2 I2
          refine zz_go C [(181, .iinc 2 1), (184, .goto (-182))] (by decide +kernel) (pc' := 2) (lv' := [some (.ref o), some (.int (nI i)), some (.int (nI k + nI 1)), l3, l4, l5]) (st' := []) rfl ?_
          rw [show nI k + nI 1 = nI (k + 1) from nI_add k 1]
          exact zz_lv [some (.ref o), some (.int (nI i)), some (.int (nI (k + 1))), none, none, none] (fun j u hu => by rcases j with _ | _ | _ | _ | _ | _ | j <;> first | exact hu | cases hu) (Nat.le_of_ble_eq_true rfl) (ih (k + 1) h2 vs' sn' sh' (by omega) W2 I2)
        refine zz_go C [(10, .aload_n 0)] (by decide +kernel) (pc' := 11) (lv' := [some (.ref o), some (.int (nI i)), some (.int (nI k)), none, none, none]) (st' := [.ref o]) rfl ?_
        refine zz_get C fd_O_31 Wc.ob (v := .ref (ad 5)) rfl (by decide +kernel) ?_
        refine zz_go C [(14, .iload_n 2)] (by decide +kernel) (pc' := 15) (lv' := [some (.ref o), some (.int (nI i)), some (.int (nI k)), none, none, none]) (st' := [.int (nI k), .ref (ad 5)]) rfl ?_
        refine mo_pld C Wc hk (by decide +kernel) ?_
        refine zz_go C [(16, .istore_n 3), (17, .aload_n 0)] (by decide +kernel) (pc' := 18) (lv' := [some (.ref o), some (.int (nI i)), some (.int (nI k)), some (.int (nI (pth k))), none, none]) (st' := [.ref o]) rfl ?_
        refine zz_get C fd_O_34 Wc.ob (v := .ref (ad 6)) rfl (by decide +kernel) ?_
        refine zz_go C [(21, .iload_n 3)] (by decide +kernel) (pc' := 22) (lv' := [some (.ref o), some (.int (nI i)), some (.int (nI k)), some (.int (nI (pth k))), none, none]) (st' := [.int (nI (pth k)), .ref (ad 6)]) rfl ?_
        refine mo_rld C Wc p9 pp (by decide +kernel) ?_
        refine zz_go C [(23, .istore 4), (25, .aload_n 0)] (by decide +kernel) (pc' := 26) (lv' := [some (.ref o), some (.int (nI i)), some (.int (nI k)), some (.int (nI (pth k))), some (.int (nI (prN (pth k)))), none]) (st' := [.ref o]) rfl ?_
        refine zz_get C fd_O_14 Wc.ob (v := .ref (ad 0)) rfl (by decide +kernel) ?_
        refine zz_go C [(29, .sipush 10000), (32, .iload_n 1), (33, .imul), (34, .iload_n 3), (35, .iadd)] (by decide +kernel) (pc' := 36) (lv' := [some (.ref o), some (.int (nI i)), some (.int (nI k)), some (.int (nI (pth k))), some (.int (nI (prN (pth k)))), none]) (st' := [.int (((nI 10000) * (nI i)) + (nI (pth k))), .ref (ad 0)]) rfl ?_
        rw [ix_m]
        refine ga_ild C Wc.2.2.2.1 (by omega) (by decide) (by decide +kernel) ?_
        rcases hM (10000 * i + pth k) with e | e | e | e | e
        · rw [e] at s1 s2 s3 ⊢
          rw [alK_0] at s1
          rw [alS_0] at s2
          refine zz_go C [(37, .istore 5)] (by decide +kernel) (pc' := 39) (lv' := [some (.ref o), some (.int (nI i)), some (.int (nI k)), some (.int (nI (pth k))), some (.int (nI (prN (pth k)))), some (.int (nI 0))]) (st' := []) rfl ?_
          have vpart : ∀ (h2 : zz_Hp) (sh' : Nat → Int32), mW h2 (zz_ac K) o ad th n M V vs sn sh' → (∀ q, q ≠ pth k → sh' q = sh q) → sh' (pth k) = bI ((vw (Lm M V) (rp (pth k))).2 i) → zz_Z K (zz_End K h (fun r' h' => r' = .inl none ∧ ∃ vs' sn' sh', mW h' (zz_ac K) o ad th n M V vs' sn' sh' ∧ cvI M V 7380 i vs' sn' sh')) h h2 0 0 81 [some (.ref o), some (.int (nI i)), some (.int (nI k)), some (.int (nI (pth k))), some (.int (nI (prN (pth k)))), some (.int (nI 0))] [] := by
            intro h2 sh' W2 k1 k2
            refine zz_go C [(81, .aload_n 0)] (by decide +kernel) (pc' := 82) (lv' := [some (.ref o), some (.int (nI i)), some (.int (nI k)), some (.int (nI (pth k))), some (.int (nI (prN (pth k)))), some (.int (nI 0))]) (st' := [.ref o]) rfl ?_
            refine zz_get C fd_O_21 W2.ob (v := .ref (ad 2)) rfl (by decide +kernel) ?_
            refine zz_go C [(85, .iload 4)] (by decide +kernel) (pc' := 87) (lv' := [some (.ref o), some (.int (nI i)), some (.int (nI k)), some (.int (nI (pth k))), some (.int (nI (prN (pth k)))), some (.int (nI 0))]) (st' := [.int (nI (prN (pth k))), .ref (ad 2)]) rfl ?_
            refine ga_ild C W2.2.2.2.2.2.1 (by omega) (by decide) (by decide +kernel) ?_
            rw [u1]
            refine zz_go C [(88, .iconst 2)] (by decide +kernel) (pc' := 89) (lv' := [some (.ref o), some (.int (nI i)), some (.int (nI k)), some (.int (nI (pth k))), some (.int (nI (prN (pth k)))), some (.int (nI 0))]) (st' := [.int (nI 2), .int ((vw (Lm M V) (rp (pth k)).tail).1 (i + 1) + nI 1)]) rfl ?_
            refine zz_if C (i := .if_icmp .eq 13) (by decide +kernel) (Pt := ((vw (Lm M V) (rp (pth k)).tail).1 (i + 1) + nI 1) = (nI 2)) (Pf := ¬ ((vw (Lm M V) (rp (pth k)).tail).1 (i + 1) + nI 1) = (nI 2)) (off := 13) (r := []) (tgt := 102) rfl (by decide) (fun cU => ?_) (fun cU => ?_)
            · have cU2 := (add1_2 _).mp cU
              rw [if_pos cU2] at s1
              refine zz_go C [(102, .iload 5), (104, .iconst 1)] (by decide +kernel) (pc' := 105) (lv' := [some (.ref o), some (.int (nI i)), some (.int (nI k)), some (.int (nI (pth k))), some (.int (nI (prN (pth k)))), some (.int (nI 0))]) (st' := [.int (nI 1), .int (nI 0)]) rfl ?_
              refine zz_if C (i := .if_icmp .ne 31) (by decide +kernel) (Pt := ¬ (nI 0) = (nI 1)) (Pf := (nI 0) = (nI 1)) (off := 31) (r := []) (tgt := 136) rfl (by decide) (fun cM => ?_) (fun cM => ?_)
              · refine zz_go C [(136, .iload 5), (138, .iconst 2)] (by decide +kernel) (pc' := 139) (lv' := [some (.ref o), some (.int (nI i)), some (.int (nI k)), some (.int (nI (pth k))), some (.int (nI (prN (pth k)))), some (.int (nI 0))]) (st' := [.int (nI 2), .int (nI 0)]) rfl ?_
                refine zz_if C (i := .if_icmp .eq 9) (by decide +kernel) (Pt := (nI 0) = (nI 2)) (Pf := ¬ (nI 0) = (nI 2)) (off := 9) (r := []) (tgt := 148) rfl (by decide) (fun cN => ?_) (fun cN => ?_)
                · exact absurd cN (by decide)
                · refine zz_go C [(142, .iload 5), (144, .iconst 3)] (by decide +kernel) (pc' := 145) (lv' := [some (.ref o), some (.int (nI i)), some (.int (nI k)), some (.int (nI (pth k))), some (.int (nI (prN (pth k)))), some (.int (nI 0))]) (st' := [.int (nI 3), .int (nI 0)]) rfl ?_
                  refine zz_if C (i := .if_icmp .ne 13) (by decide +kernel) (Pt := ¬ (nI 0) = (nI 3)) (Pf := (nI 0) = (nI 3)) (off := 13) (r := []) (tgt := 158) rfl (by decide) (fun cO => ?_) (fun cO => ?_)
                  · refine zz_go C [(158, .iload 5), (160, .iconst 4)] (by decide +kernel) (pc' := 161) (lv' := [some (.ref o), some (.int (nI i)), some (.int (nI k)), some (.int (nI (pth k))), some (.int (nI (prN (pth k)))), some (.int (nI 0))]) (st' := [.int (nI 4), .int (nI 0)]) rfl ?_
                    refine zz_if C (i := .if_icmp .eq 13) (by decide +kernel) (Pt := (nI 0) = (nI 4)) (Pf := ¬ (nI 0) = (nI 4)) (off := 13) (r := []) (tgt := 174) rfl (by decide) (fun cP => ?_) (fun cP => ?_)
                    · exact absurd cP (by decide)
                    · refine zz_go C [(164, .aload_n 0)] (by decide +kernel) (pc' := 165) (lv' := [some (.ref o), some (.int (nI i)), some (.int (nI k)), some (.int (nI (pth k))), some (.int (nI (prN (pth k)))), some (.int (nI 0))]) (st' := [.ref o]) rfl ?_
                      refine zz_get C fd_O_27 W2.ob (v := .ref (ad 4)) rfl (by decide +kernel) ?_
                      refine zz_go C [(168, .iload 4)] (by decide +kernel) (pc' := 170) (lv' := [some (.ref o), some (.int (nI i)), some (.int (nI k)), some (.int (nI (pth k))), some (.int (nI (prN (pth k)))), some (.int (nI 0))]) (st' := [.int (nI (prN (pth k))), .ref (ad 4)]) rfl ?_
                      refine ga_zld C W2.2.2.2.2.2.2.2.1 (by omega) (by decide) (by decide +kernel) ?_
                      rw [k1 _ (by omega), u2]
                      refine zz_if C (i := .ifCond .ne 10) (by decide +kernel) (Pt := ¬ (bI ((vw (Lm M V) (rp (pth k)).tail).2 i)) = 0) (Pf := (bI ((vw (Lm M V) (rp (pth k)).tail).2 i)) = 0) (off := 10) (r := []) (tgt := 181) rfl (by decide) (fun cS => ?_) (fun cS => ?_)
                      · exact next h2 _ _ _ _ _ _ W2 (cvI_s I hk (fun q hq => rfl) (fun q hq => rfl) k1 (by rw [s1, if_neg cS]; exact v1) k2 (fun z => by rw [s1, if_neg cS] at z; rw [s3, if_pos (by decide)]; exact v2 z))
                      · refine zz_go C [(174, .aload_n 0)] (by decide +kernel) (pc' := 175) (lv' := [some (.ref o), some (.int (nI i)), some (.int (nI k)), some (.int (nI (pth k))), some (.int (nI (prN (pth k)))), some (.int (nI 0))]) (st' := [.ref o]) rfl ?_
                        refine zz_get C fd_O_21 W2.ob (v := .ref (ad 2)) rfl (by decide +kernel) ?_
                        refine zz_go C [(178, .iload_n 3), (179, .iconst 0)] (by decide +kernel) (pc' := 180) (lv' := [some (.ref o), some (.int (nI i)), some (.int (nI k)), some (.int (nI (pth k))), some (.int (nI (prN (pth k)))), some (.int (nI 0))]) (st' := [.int (nI 0), .int (nI (pth k)), .ref (ad 2)]) rfl ?_
                        refine mo_vst C W2 (by omega) pp (by decide +kernel) (fun h3 W3 => ?_)
                        exact next h3 _ _ _ _ _ _ W3 (cvI_s I hk (fun q hq => upd_ne _ _ hq) (fun q hq => rfl) k1 (by rw [upd_at, s1, if_pos cS]; decide) k2 (fun z => absurd (by rw [s1, if_pos cS] at z; exact z) (by decide)))
                  · exact absurd cO (by decide)
              · exact absurd cM (by decide)
            · have cU2 : ¬ (vw (Lm M V) (rp (pth k)).tail).1 (i + 1) = nI 1 := fun z => cU ((add1_2 _).mpr z)
              rw [if_neg cU2] at s1
              refine zz_go C [(92, .aload_n 0)] (by decide +kernel) (pc' := 93) (lv' := [some (.ref o), some (.int (nI i)), some (.int (nI k)), some (.int (nI (pth k))), some (.int (nI (prN (pth k)))), some (.int (nI 0))]) (st' := [.ref o]) rfl ?_
              refine zz_get C fd_O_21 W2.ob (v := .ref (ad 2)) rfl (by decide +kernel) ?_
              refine zz_go C [(96, .iload_n 3), (97, .iconst 0)] (by decide +kernel) (pc' := 98) (lv' := [some (.ref o), some (.int (nI i)), some (.int (nI k)), some (.int (nI (pth k))), some (.int (nI (prN (pth k)))), some (.int (nI 0))]) (st' := [.int (nI 0), .int (nI (pth k)), .ref (ad 2)]) rfl ?_
              refine mo_vst C W2 (by omega) pp (by decide +kernel) (fun h3 W3 => ?_)
              refine zz_go C [(99, .goto 82)] (by decide +kernel) (pc' := 181) (lv' := [some (.ref o), some (.int (nI i)), some (.int (nI k)), some (.int (nI (pth k))), some (.int (nI (prN (pth k)))), some (.int (nI 0))]) (st' := []) rfl ?_
              exact next h3 _ _ _ _ _ _ W3 (cvI_s I hk (fun q hq => upd_ne _ _ hq) (fun q hq => rfl) k1 (by rw [upd_at, s1]; decide) k2 (fun z => absurd (s1.symm.trans z) (by decide)))
          have J80 : ∀ b : Bool, b = (vw (Lm M V) (rp (pth k))).2 i → zz_Z K (zz_End K h (fun r' h' => r' = .inl none ∧ ∃ vs' sn' sh', mW h' (zz_ac K) o ad th n M V vs' sn' sh' ∧ cvI M V 7380 i vs' sn' sh')) h hc 0 0 80 [some (.ref o), some (.int (nI i)), some (.int (nI k)), some (.int (nI (pth k))), some (.int (nI (prN (pth k)))), some (.int (nI 0))] [.int (bI b), .int (nI (pth k)), .ref (ad 4)] := by
            intro b hb
            refine mo_hst C Wc b (by omega) (by decide +kernel) (fun h2 W2 => ?_)
            exact vpart h2 _ W2 (fun q hq => upd_ne _ _ hq) (by rw [upd_at, hb])
          refine zz_go C [(39, .aload_n 0)] (by decide +kernel) (pc' := 40) (lv' := [some (.ref o), some (.int (nI i)), some (.int (nI k)), some (.int (nI (pth k))), some (.int (nI (prN (pth k)))), some (.int (nI 0))]) (st' := [.ref o]) rfl ?_
          refine zz_get C fd_O_27 Wc.ob (v := .ref (ad 4)) rfl (by decide +kernel) ?_
          refine zz_go C [(43, .iload_n 3), (44, .aload_n 0)] (by decide +kernel) (pc' := 45) (lv' := [some (.ref o), some (.int (nI i)), some (.int (nI k)), some (.int (nI (pth k))), some (.int (nI (prN (pth k)))), some (.int (nI 0))]) (st' := [.ref o, .int (nI (pth k)), .ref (ad 4)]) rfl ?_
          refine zz_get C fd_O_27 Wc.ob (v := .ref (ad 4)) rfl (by decide +kernel) ?_
          refine zz_go C [(48, .iload 4)] (by decide +kernel) (pc' := 50) (lv' := [some (.ref o), some (.int (nI i)), some (.int (nI k)), some (.int (nI (pth k))), some (.int (nI (prN (pth k)))), some (.int (nI 0))]) (st' := [.int (nI (prN (pth k))), .ref (ad 4), .int (nI (pth k)), .ref (ad 4)]) rfl ?_
          refine ga_zld C Wc.2.2.2.2.2.2.2.1 (by omega) (by decide) (by decide +kernel) ?_
          rw [u2]
          refine zz_if C (i := .ifCond .eq 28) (by decide +kernel) (Pt := (bI ((vw (Lm M V) (rp (pth k)).tail).2 i)) = 0) (Pf := ¬ (bI ((vw (Lm M V) (rp (pth k)).tail).2 i)) = 0) (off := 28) (r := [.int (nI (pth k)), .ref (ad 4)]) (tgt := 79) rfl (by decide) (fun cB => ?_) (fun cB => ?_)
          · refine zz_go C [(79, .iconst 0)] (by decide +kernel) (pc' := 80) (lv' := [some (.ref o), some (.int (nI i)), some (.int (nI k)), some (.int (nI (pth k))), some (.int (nI (prN (pth k)))), some (.int (nI 0))]) (st' := [.int (nI 0), .int (nI (pth k)), .ref (ad 4)]) rfl ?_
            exact J80 false (by rw [s2]; exact (decide_eq_false (fun z => z.1 cB)).symm)
          · refine zz_go C [(54, .aload_n 0)] (by decide +kernel) (pc' := 55) (lv' := [some (.ref o), some (.int (nI i)), some (.int (nI k)), some (.int (nI (pth k))), some (.int (nI (prN (pth k)))), some (.int (nI 0))]) (st' := [.ref o, .int (nI (pth k)), .ref (ad 4)]) rfl ?_
            refine zz_get C fd_O_21 Wc.ob (v := .ref (ad 2)) rfl (by decide +kernel) ?_
            refine zz_go C [(58, .iload_n 3)] (by decide +kernel) (pc' := 59) (lv' := [some (.ref o), some (.int (nI i)), some (.int (nI k)), some (.int (nI (pth k))), some (.int (nI (prN (pth k)))), some (.int (nI 0))]) (st' := [.int (nI (pth k)), .ref (ad 2), .int (nI (pth k)), .ref (ad 4)]) rfl ?_
            refine ga_ild C Wc.2.2.2.2.2.1 (by omega) (by decide) (by decide +kernel) ?_
            rw [v1]
            refine zz_go C [(60, .iconst 2)] (by decide +kernel) (pc' := 61) (lv' := [some (.ref o), some (.int (nI i)), some (.int (nI k)), some (.int (nI (pth k))), some (.int (nI (prN (pth k)))), some (.int (nI 0))]) (st' := [.int (nI 2), .int ((vw (Lm M V) (rp (pth k))).1 i + nI 1), .int (nI (pth k)), .ref (ad 4)]) rfl ?_
            refine zz_if C (i := .if_icmp .ne 18) (by decide +kernel) (Pt := ¬ ((vw (Lm M V) (rp (pth k))).1 i + nI 1) = (nI 2)) (Pf := ((vw (Lm M V) (rp (pth k))).1 i + nI 1) = (nI 2)) (off := 18) (r := [.int (nI (pth k)), .ref (ad 4)]) (tgt := 79) rfl (by decide) (fun cK => ?_) (fun cK => ?_)
            · refine zz_go C [(79, .iconst 0)] (by decide +kernel) (pc' := 80) (lv' := [some (.ref o), some (.int (nI i)), some (.int (nI k)), some (.int (nI (pth k))), some (.int (nI (prN (pth k)))), some (.int (nI 0))]) (st' := [.int (nI 0), .int (nI (pth k)), .ref (ad 4)]) rfl ?_
              exact J80 false (by rw [s2]; exact (decide_eq_false (fun z => cK ((add1_2 _).mpr z.2))).symm)
            · refine zz_go C [(64, .iload 5)] (by decide +kernel) (pc' := 66) (lv' := [some (.ref o), some (.int (nI i)), some (.int (nI k)), some (.int (nI (pth k))), some (.int (nI (prN (pth k)))), some (.int (nI 0))]) (st' := [.int (nI 0), .int (nI (pth k)), .ref (ad 4)]) rfl ?_
              refine zz_if C (i := .ifCond .eq 9) (by decide +kernel) (Pt := (nI 0) = 0) (Pf := ¬ (nI 0) = 0) (off := 9) (r := [.int (nI (pth k)), .ref (ad 4)]) (tgt := 75) rfl (by decide) (fun cZ => ?_) (fun cZ => ?_)
              · refine zz_go C [(75, .iconst 1), (76, .goto 4)] (by decide +kernel) (pc' := 80) (lv' := [some (.ref o), some (.int (nI i)), some (.int (nI k)), some (.int (nI (pth k))), some (.int (nI (prN (pth k)))), some (.int (nI 0))]) (st' := [.int (nI 1), .int (nI (pth k)), .ref (ad 4)]) rfl ?_
                exact J80 true (by rw [s2]; exact (decide_eq_true ⟨cB, (add1_2 _).mp cK⟩).symm)
              · exact absurd rfl cZ
        · rw [e] at s1 s2 s3 ⊢
          rw [alK_1] at s1
          rw [alS_1] at s2
          refine zz_go C [(37, .istore 5)] (by decide +kernel) (pc' := 39) (lv' := [some (.ref o), some (.int (nI i)), some (.int (nI k)), some (.int (nI (pth k))), some (.int (nI (prN (pth k)))), some (.int (nI 1))]) (st' := []) rfl ?_
          have vpart : ∀ (h2 : zz_Hp) (sh' : Nat → Int32), mW h2 (zz_ac K) o ad th n M V vs sn sh' → (∀ q, q ≠ pth k → sh' q = sh q) → sh' (pth k) = bI ((vw (Lm M V) (rp (pth k))).2 i) → zz_Z K (zz_End K h (fun r' h' => r' = .inl none ∧ ∃ vs' sn' sh', mW h' (zz_ac K) o ad th n M V vs' sn' sh' ∧ cvI M V 7380 i vs' sn' sh')) h h2 0 0 81 [some (.ref o), some (.int (nI i)), some (.int (nI k)), some (.int (nI (pth k))), some (.int (nI (prN (pth k)))), some (.int (nI 1))] [] := by
            intro h2 sh' W2 k1 k2
            refine zz_go C [(81, .aload_n 0)] (by decide +kernel) (pc' := 82) (lv' := [some (.ref o), some (.int (nI i)), some (.int (nI k)), some (.int (nI (pth k))), some (.int (nI (prN (pth k)))), some (.int (nI 1))]) (st' := [.ref o]) rfl ?_
            refine zz_get C fd_O_21 W2.ob (v := .ref (ad 2)) rfl (by decide +kernel) ?_
            refine zz_go C [(85, .iload 4)] (by decide +kernel) (pc' := 87) (lv' := [some (.ref o), some (.int (nI i)), some (.int (nI k)), some (.int (nI (pth k))), some (.int (nI (prN (pth k)))), some (.int (nI 1))]) (st' := [.int (nI (prN (pth k))), .ref (ad 2)]) rfl ?_
            refine ga_ild C W2.2.2.2.2.2.1 (by omega) (by decide) (by decide +kernel) ?_
            rw [u1]
            refine zz_go C [(88, .iconst 2)] (by decide +kernel) (pc' := 89) (lv' := [some (.ref o), some (.int (nI i)), some (.int (nI k)), some (.int (nI (pth k))), some (.int (nI (prN (pth k)))), some (.int (nI 1))]) (st' := [.int (nI 2), .int ((vw (Lm M V) (rp (pth k)).tail).1 (i + 1) + nI 1)]) rfl ?_
            refine zz_if C (i := .if_icmp .eq 13) (by decide +kernel) (Pt := ((vw (Lm M V) (rp (pth k)).tail).1 (i + 1) + nI 1) = (nI 2)) (Pf := ¬ ((vw (Lm M V) (rp (pth k)).tail).1 (i + 1) + nI 1) = (nI 2)) (off := 13) (r := []) (tgt := 102) rfl (by decide) (fun cU => ?_) (fun cU => ?_)
            · have cU2 := (add1_2 _).mp cU
              rw [if_pos cU2] at s1
              refine zz_go C [(102, .iload 5), (104, .iconst 1)] (by decide +kernel) (pc' := 105) (lv' := [some (.ref o), some (.int (nI i)), some (.int (nI k)), some (.int (nI (pth k))), some (.int (nI (prN (pth k)))), some (.int (nI 1))]) (st' := [.int (nI 1), .int (nI 1)]) rfl ?_
              refine zz_if C (i := .if_icmp .ne 31) (by decide +kernel) (Pt := ¬ (nI 1) = (nI 1)) (Pf := (nI 1) = (nI 1)) (off := 31) (r := []) (tgt := 136) rfl (by decide) (fun cM => ?_) (fun cM => ?_)
              · exact absurd rfl cM
              · refine zz_go C [(108, .aload_n 0)] (by decide +kernel) (pc' := 109) (lv' := [some (.ref o), some (.int (nI i)), some (.int (nI k)), some (.int (nI (pth k))), some (.int (nI (prN (pth k)))), some (.int (nI 1))]) (st' := [.ref o]) rfl ?_
                refine zz_get C fd_O_21 W2.ob (v := .ref (ad 2)) rfl (by decide +kernel) ?_
                refine zz_go C [(112, .iload_n 3), (113, .iconst 1)] (by decide +kernel) (pc' := 114) (lv' := [some (.ref o), some (.int (nI i)), some (.int (nI k)), some (.int (nI (pth k))), some (.int (nI (prN (pth k)))), some (.int (nI 1))]) (st' := [.int (nI 1), .int (nI (pth k)), .ref (ad 2)]) rfl ?_
                refine mo_vst C W2 (by omega) pp (by decide +kernel) (fun h3 W3 => ?_)
                refine zz_go C [(115, .aload_n 0)] (by decide +kernel) (pc' := 116) (lv' := [some (.ref o), some (.int (nI i)), some (.int (nI k)), some (.int (nI (pth k))), some (.int (nI (prN (pth k)))), some (.int (nI 1))]) (st' := [.ref o]) rfl ?_
                refine zz_get C fd_O_24 W3.ob (v := .ref (ad 3)) rfl (by decide +kernel) ?_
                refine zz_go C [(119, .iload_n 3), (120, .aload_n 0)] (by decide +kernel) (pc' := 121) (lv' := [some (.ref o), some (.int (nI i)), some (.int (nI k)), some (.int (nI (pth k))), some (.int (nI (prN (pth k)))), some (.int (nI 1))]) (st' := [.ref o, .int (nI (pth k)), .ref (ad 3)]) rfl ?_
                refine zz_get C fd_O_18 W3.ob (v := .ref (ad 1)) rfl (by decide +kernel) ?_
                refine zz_go C [(124, .sipush 10000), (127, .iload_n 1), (128, .imul), (129, .iload_n 3), (130, .iadd)] (by decide +kernel) (pc' := 131) (lv' := [some (.ref o), some (.int (nI i)), some (.int (nI k)), some (.int (nI (pth k))), some (.int (nI (prN (pth k)))), some (.int (nI 1))]) (st' := [.int (((nI 10000) * (nI i)) + (nI (pth k))), .ref (ad 1), .int (nI (pth k)), .ref (ad 3)]) rfl ?_
                rw [ix_m]
                refine ga_ild C W3.2.2.2.2.1 (by omega) (by decide) (by decide +kernel) ?_
                refine mo_sst C W3 (by omega) (by decide +kernel) (fun h4 W4 => ?_)
                refine zz_go C [(133, .goto 48)] (by decide +kernel) (pc' := 181) (lv' := [some (.ref o), some (.int (nI i)), some (.int (nI k)), some (.int (nI (pth k))), some (.int (nI (prN (pth k)))), some (.int (nI 1))]) (st' := []) rfl ?_
                exact next h4 _ _ _ _ _ _ W4 (cvI_s I hk (fun q hq => upd_ne _ _ hq) (fun q hq => upd_ne _ _ hq) k1 (by rw [upd_at, s1]; decide) k2 (fun _ => by rw [upd_at, s3, if_neg (by decide)]))
            · have cU2 : ¬ (vw (Lm M V) (rp (pth k)).tail).1 (i + 1) = nI 1 := fun z => cU ((add1_2 _).mpr z)
              rw [if_neg cU2] at s1
              refine zz_go C [(92, .aload_n 0)] (by decide +kernel) (pc' := 93) (lv' := [some (.ref o), some (.int (nI i)), some (.int (nI k)), some (.int (nI (pth k))), some (.int (nI (prN (pth k)))), some (.int (nI 1))]) (st' := [.ref o]) rfl ?_
              refine zz_get C fd_O_21 W2.ob (v := .ref (ad 2)) rfl (by decide +kernel) ?_
              refine zz_go C [(96, .iload_n 3), (97, .iconst 0)] (by decide +kernel) (pc' := 98) (lv' := [some (.ref o), some (.int (nI i)), some (.int (nI k)), some (.int (nI (pth k))), some (.int (nI (prN (pth k)))), some (.int (nI 1))]) (st' := [.int (nI 0), .int (nI (pth k)), .ref (ad 2)]) rfl ?_
              refine mo_vst C W2 (by omega) pp (by decide +kernel) (fun h3 W3 => ?_)
              refine zz_go C [(99, .goto 82)] (by decide +kernel) (pc' := 181) (lv' := [some (.ref o), some (.int (nI i)), some (.int (nI k)), some (.int (nI (pth k))), some (.int (nI (prN (pth k)))), some (.int (nI 1))]) (st' := []) rfl ?_
              exact next h3 _ _ _ _ _ _ W3 (cvI_s I hk (fun q hq => upd_ne _ _ hq) (fun q hq => rfl) k1 (by rw [upd_at, s1]; decide) k2 (fun z => absurd (s1.symm.trans z) (by decide)))
          have J80 : ∀ b : Bool, b = (vw (Lm M V) (rp (pth k))).2 i → zz_Z K (zz_End K h (fun r' h' => r' = .inl none ∧ ∃ vs' sn' sh', mW h' (zz_ac K) o ad th n M V vs' sn' sh' ∧ cvI M V 7380 i vs' sn' sh')) h hc 0 0 80 [some (.ref o), some (.int (nI i)), some (.int (nI k)), some (.int (nI (pth k))), some (.int (nI (prN (pth k)))), some (.int (nI 1))] [.int (bI b), .int (nI (pth k)), .ref (ad 4)] := by
            intro b hb
            refine mo_hst C Wc b (by omega) (by decide +kernel) (fun h2 W2 => ?_)
            exact vpart h2 _ W2 (fun q hq => upd_ne _ _ hq) (by rw [upd_at, hb])
          refine zz_go C [(39, .aload_n 0)] (by decide +kernel) (pc' := 40) (lv' := [some (.ref o), some (.int (nI i)), some (.int (nI k)), some (.int (nI (pth k))), some (.int (nI (prN (pth k)))), some (.int (nI 1))]) (st' := [.ref o]) rfl ?_
          refine zz_get C fd_O_27 Wc.ob (v := .ref (ad 4)) rfl (by decide +kernel) ?_
          refine zz_go C [(43, .iload_n 3), (44, .aload_n 0)] (by decide +kernel) (pc' := 45) (lv' := [some (.ref o), some (.int (nI i)), some (.int (nI k)), some (.int (nI (pth k))), some (.int (nI (prN (pth k)))), some (.int (nI 1))]) (st' := [.ref o, .int (nI (pth k)), .ref (ad 4)]) rfl ?_
          refine zz_get C fd_O_27 Wc.ob (v := .ref (ad 4)) rfl (by decide +kernel) ?_
          refine zz_go C [(48, .iload 4)] (by decide +kernel) (pc' := 50) (lv' := [some (.ref o), some (.int (nI i)), some (.int (nI k)), some (.int (nI (pth k))), some (.int (nI (prN (pth k)))), some (.int (nI 1))]) (st' := [.int (nI (prN (pth k))), .ref (ad 4), .int (nI (pth k)), .ref (ad 4)]) rfl ?_
          refine ga_zld C Wc.2.2.2.2.2.2.2.1 (by omega) (by decide) (by decide +kernel) ?_
          rw [u2]
          refine zz_if C (i := .ifCond .eq 28) (by decide +kernel) (Pt := (bI ((vw (Lm M V) (rp (pth k)).tail).2 i)) = 0) (Pf := ¬ (bI ((vw (Lm M V) (rp (pth k)).tail).2 i)) = 0) (off := 28) (r := [.int (nI (pth k)), .ref (ad 4)]) (tgt := 79) rfl (by decide) (fun cB => ?_) (fun cB => ?_)
          · refine zz_go C [(79, .iconst 0)] (by decide +kernel) (pc' := 80) (lv' := [some (.ref o), some (.int (nI i)), some (.int (nI k)), some (.int (nI (pth k))), some (.int (nI (prN (pth k)))), some (.int (nI 1))]) (st' := [.int (nI 0), .int (nI (pth k)), .ref (ad 4)]) rfl ?_
            exact J80 false (by rw [s2])
          · refine zz_go C [(54, .aload_n 0)] (by decide +kernel) (pc' := 55) (lv' := [some (.ref o), some (.int (nI i)), some (.int (nI k)), some (.int (nI (pth k))), some (.int (nI (prN (pth k)))), some (.int (nI 1))]) (st' := [.ref o, .int (nI (pth k)), .ref (ad 4)]) rfl ?_
            refine zz_get C fd_O_21 Wc.ob (v := .ref (ad 2)) rfl (by decide +kernel) ?_
            refine zz_go C [(58, .iload_n 3)] (by decide +kernel) (pc' := 59) (lv' := [some (.ref o), some (.int (nI i)), some (.int (nI k)), some (.int (nI (pth k))), some (.int (nI (prN (pth k)))), some (.int (nI 1))]) (st' := [.int (nI (pth k)), .ref (ad 2), .int (nI (pth k)), .ref (ad 4)]) rfl ?_
            refine ga_ild C Wc.2.2.2.2.2.1 (by omega) (by decide) (by decide +kernel) ?_
            rw [v1]
            refine zz_go C [(60, .iconst 2)] (by decide +kernel) (pc' := 61) (lv' := [some (.ref o), some (.int (nI i)), some (.int (nI k)), some (.int (nI (pth k))), some (.int (nI (prN (pth k)))), some (.int (nI 1))]) (st' := [.int (nI 2), .int ((vw (Lm M V) (rp (pth k))).1 i + nI 1), .int (nI (pth k)), .ref (ad 4)]) rfl ?_
            refine zz_if C (i := .if_icmp .ne 18) (by decide +kernel) (Pt := ¬ ((vw (Lm M V) (rp (pth k))).1 i + nI 1) = (nI 2)) (Pf := ((vw (Lm M V) (rp (pth k))).1 i + nI 1) = (nI 2)) (off := 18) (r := [.int (nI (pth k)), .ref (ad 4)]) (tgt := 79) rfl (by decide) (fun cK => ?_) (fun cK => ?_)
            · refine zz_go C [(79, .iconst 0)] (by decide +kernel) (pc' := 80) (lv' := [some (.ref o), some (.int (nI i)), some (.int (nI k)), some (.int (nI (pth k))), some (.int (nI (prN (pth k)))), some (.int (nI 1))]) (st' := [.int (nI 0), .int (nI (pth k)), .ref (ad 4)]) rfl ?_
              exact J80 false (by rw [s2])
            · refine zz_go C [(64, .iload 5)] (by decide +kernel) (pc' := 66) (lv' := [some (.ref o), some (.int (nI i)), some (.int (nI k)), some (.int (nI (pth k))), some (.int (nI (prN (pth k)))), some (.int (nI 1))]) (st' := [.int (nI 1), .int (nI (pth k)), .ref (ad 4)]) rfl ?_
              refine zz_if C (i := .ifCond .eq 9) (by decide +kernel) (Pt := (nI 1) = 0) (Pf := ¬ (nI 1) = 0) (off := 9) (r := [.int (nI (pth k)), .ref (ad 4)]) (tgt := 75) rfl (by decide) (fun cZ => ?_) (fun cZ => ?_)
              · exact absurd cZ (by decide)
              · refine zz_go C [(69, .iload 5), (71, .iconst 2)] (by decide +kernel) (pc' := 72) (lv' := [some (.ref o), some (.int (nI i)), some (.int (nI k)), some (.int (nI (pth k))), some (.int (nI (prN (pth k)))), some (.int (nI 1))]) (st' := [.int (nI 2), .int (nI 1), .int (nI (pth k)), .ref (ad 4)]) rfl ?_
                refine zz_if C (i := .if_icmp .ne 7) (by decide +kernel) (Pt := ¬ (nI 1) = (nI 2)) (Pf := (nI 1) = (nI 2)) (off := 7) (r := [.int (nI (pth k)), .ref (ad 4)]) (tgt := 79) rfl (by decide) (fun cY => ?_) (fun cY => ?_)
                · refine zz_go C [(79, .iconst 0)] (by decide +kernel) (pc' := 80) (lv' := [some (.ref o), some (.int (nI i)), some (.int (nI k)), some (.int (nI (pth k))), some (.int (nI (prN (pth k)))), some (.int (nI 1))]) (st' := [.int (nI 0), .int (nI (pth k)), .ref (ad 4)]) rfl ?_
                  exact J80 false (by rw [s2])
                · exact absurd cY (by decide)
        · rw [e] at s1 s2 s3 ⊢
          rw [alK_2] at s1
          rw [alS_2] at s2
          refine zz_go C [(37, .istore 5)] (by decide +kernel) (pc' := 39) (lv' := [some (.ref o), some (.int (nI i)), some (.int (nI k)), some (.int (nI (pth k))), some (.int (nI (prN (pth k)))), some (.int (nI 2))]) (st' := []) rfl ?_
          have vpart : ∀ (h2 : zz_Hp) (sh' : Nat → Int32), mW h2 (zz_ac K) o ad th n M V vs sn sh' → (∀ q, q ≠ pth k → sh' q = sh q) → sh' (pth k) = bI ((vw (Lm M V) (rp (pth k))).2 i) → zz_Z K (zz_End K h (fun r' h' => r' = .inl none ∧ ∃ vs' sn' sh', mW h' (zz_ac K) o ad th n M V vs' sn' sh' ∧ cvI M V 7380 i vs' sn' sh')) h h2 0 0 81 [some (.ref o), some (.int (nI i)), some (.int (nI k)), some (.int (nI (pth k))), some (.int (nI (prN (pth k)))), some (.int (nI 2))] [] := by
            intro h2 sh' W2 k1 k2
            refine zz_go C [(81, .aload_n 0)] (by decide +kernel) (pc' := 82) (lv' := [some (.ref o), some (.int (nI i)), some (.int (nI k)), some (.int (nI (pth k))), some (.int (nI (prN (pth k)))), some (.int (nI 2))]) (st' := [.ref o]) rfl ?_
            refine zz_get C fd_O_21 W2.ob (v := .ref (ad 2)) rfl (by decide +kernel) ?_
            refine zz_go C [(85, .iload 4)] (by decide +kernel) (pc' := 87) (lv' := [some (.ref o), some (.int (nI i)), some (.int (nI k)), some (.int (nI (pth k))), some (.int (nI (prN (pth k)))), some (.int (nI 2))]) (st' := [.int (nI (prN (pth k))), .ref (ad 2)]) rfl ?_
            refine ga_ild C W2.2.2.2.2.2.1 (by omega) (by decide) (by decide +kernel) ?_
            rw [u1]
            refine zz_go C [(88, .iconst 2)] (by decide +kernel) (pc' := 89) (lv' := [some (.ref o), some (.int (nI i)), some (.int (nI k)), some (.int (nI (pth k))), some (.int (nI (prN (pth k)))), some (.int (nI 2))]) (st' := [.int (nI 2), .int ((vw (Lm M V) (rp (pth k)).tail).1 (i + 1) + nI 1)]) rfl ?_
            refine zz_if C (i := .if_icmp .eq 13) (by decide +kernel) (Pt := ((vw (Lm M V) (rp (pth k)).tail).1 (i + 1) + nI 1) = (nI 2)) (Pf := ¬ ((vw (Lm M V) (rp (pth k)).tail).1 (i + 1) + nI 1) = (nI 2)) (off := 13) (r := []) (tgt := 102) rfl (by decide) (fun cU => ?_) (fun cU => ?_)
            · have cU2 := (add1_2 _).mp cU
              rw [if_pos cU2] at s1
              refine zz_go C [(102, .iload 5), (104, .iconst 1)] (by decide +kernel) (pc' := 105) (lv' := [some (.ref o), some (.int (nI i)), some (.int (nI k)), some (.int (nI (pth k))), some (.int (nI (prN (pth k)))), some (.int (nI 2))]) (st' := [.int (nI 1), .int (nI 2)]) rfl ?_
              refine zz_if C (i := .if_icmp .ne 31) (by decide +kernel) (Pt := ¬ (nI 2) = (nI 1)) (Pf := (nI 2) = (nI 1)) (off := 31) (r := []) (tgt := 136) rfl (by decide) (fun cM => ?_) (fun cM => ?_)
              · refine zz_go C [(136, .iload 5), (138, .iconst 2)] (by decide +kernel) (pc' := 139) (lv' := [some (.ref o), some (.int (nI i)), some (.int (nI k)), some (.int (nI (pth k))), some (.int (nI (prN (pth k)))), some (.int (nI 2))]) (st' := [.int (nI 2), .int (nI 2)]) rfl ?_
                refine zz_if C (i := .if_icmp .eq 9) (by decide +kernel) (Pt := (nI 2) = (nI 2)) (Pf := ¬ (nI 2) = (nI 2)) (off := 9) (r := []) (tgt := 148) rfl (by decide) (fun cN => ?_) (fun cN => ?_)
                · refine zz_go C [(148, .aload_n 0)] (by decide +kernel) (pc' := 149) (lv' := [some (.ref o), some (.int (nI i)), some (.int (nI k)), some (.int (nI (pth k))), some (.int (nI (prN (pth k)))), some (.int (nI 2))]) (st' := [.ref o]) rfl ?_
                  refine zz_get C fd_O_21 W2.ob (v := .ref (ad 2)) rfl (by decide +kernel) ?_
                  refine zz_go C [(152, .iload_n 3), (153, .iconst 2)] (by decide +kernel) (pc' := 154) (lv' := [some (.ref o), some (.int (nI i)), some (.int (nI k)), some (.int (nI (pth k))), some (.int (nI (prN (pth k)))), some (.int (nI 2))]) (st' := [.int (nI 2), .int (nI (pth k)), .ref (ad 2)]) rfl ?_
                  refine mo_vst C W2 (by omega) pp (by decide +kernel) (fun h3 W3 => ?_)
                  refine zz_go C [(155, .goto 26)] (by decide +kernel) (pc' := 181) (lv' := [some (.ref o), some (.int (nI i)), some (.int (nI k)), some (.int (nI (pth k))), some (.int (nI (prN (pth k)))), some (.int (nI 2))]) (st' := []) rfl ?_
                  exact next h3 _ _ _ _ _ _ W3 (cvI_s I hk (fun q hq => upd_ne _ _ hq) (fun q hq => rfl) k1 (by rw [upd_at, s1]; decide) k2 (fun z => absurd (s1.symm.trans z) (by decide)))
                · exact absurd rfl cN
              · exact absurd cM (by decide)
            · have cU2 : ¬ (vw (Lm M V) (rp (pth k)).tail).1 (i + 1) = nI 1 := fun z => cU ((add1_2 _).mpr z)
              rw [if_neg cU2] at s1
              refine zz_go C [(92, .aload_n 0)] (by decide +kernel) (pc' := 93) (lv' := [some (.ref o), some (.int (nI i)), some (.int (nI k)), some (.int (nI (pth k))), some (.int (nI (prN (pth k)))), some (.int (nI 2))]) (st' := [.ref o]) rfl ?_
              refine zz_get C fd_O_21 W2.ob (v := .ref (ad 2)) rfl (by decide +kernel) ?_
              refine zz_go C [(96, .iload_n 3), (97, .iconst 0)] (by decide +kernel) (pc' := 98) (lv' := [some (.ref o), some (.int (nI i)), some (.int (nI k)), some (.int (nI (pth k))), some (.int (nI (prN (pth k)))), some (.int (nI 2))]) (st' := [.int (nI 0), .int (nI (pth k)), .ref (ad 2)]) rfl ?_
              refine mo_vst C W2 (by omega) pp (by decide +kernel) (fun h3 W3 => ?_)
              refine zz_go C [(99, .goto 82)] (by decide +kernel) (pc' := 181) (lv' := [some (.ref o), some (.int (nI i)), some (.int (nI k)), some (.int (nI (pth k))), some (.int (nI (prN (pth k)))), some (.int (nI 2))]) (st' := []) rfl ?_
              exact next h3 _ _ _ _ _ _ W3 (cvI_s I hk (fun q hq => upd_ne _ _ hq) (fun q hq => rfl) k1 (by rw [upd_at, s1]; decide) k2 (fun z => absurd (s1.symm.trans z) (by decide)))
          have J80 : ∀ b : Bool, b = (vw (Lm M V) (rp (pth k))).2 i → zz_Z K (zz_End K h (fun r' h' => r' = .inl none ∧ ∃ vs' sn' sh', mW h' (zz_ac K) o ad th n M V vs' sn' sh' ∧ cvI M V 7380 i vs' sn' sh')) h hc 0 0 80 [some (.ref o), some (.int (nI i)), some (.int (nI k)), some (.int (nI (pth k))), some (.int (nI (prN (pth k)))), some (.int (nI 2))] [.int (bI b), .int (nI (pth k)), .ref (ad 4)] := by
            intro b hb
            refine mo_hst C Wc b (by omega) (by decide +kernel) (fun h2 W2 => ?_)
            exact vpart h2 _ W2 (fun q hq => upd_ne _ _ hq) (by rw [upd_at, hb])
          refine zz_go C [(39, .aload_n 0)] (by decide +kernel) (pc' := 40) (lv' := [some (.ref o), some (.int (nI i)), some (.int (nI k)), some (.int (nI (pth k))), some (.int (nI (prN (pth k)))), some (.int (nI 2))]) (st' := [.ref o]) rfl ?_
          refine zz_get C fd_O_27 Wc.ob (v := .ref (ad 4)) rfl (by decide +kernel) ?_
          refine zz_go C [(43, .iload_n 3), (44, .aload_n 0)] (by decide +kernel) (pc' := 45) (lv' := [some (.ref o), some (.int (nI i)), some (.int (nI k)), some (.int (nI (pth k))), some (.int (nI (prN (pth k)))), some (.int (nI 2))]) (st' := [.ref o, .int (nI (pth k)), .ref (ad 4)]) rfl ?_
          refine zz_get C fd_O_27 Wc.ob (v := .ref (ad 4)) rfl (by decide +kernel) ?_
          refine zz_go C [(48, .iload 4)] (by decide +kernel) (pc' := 50) (lv' := [some (.ref o), some (.int (nI i)), some (.int (nI k)), some (.int (nI (pth k))), some (.int (nI (prN (pth k)))), some (.int (nI 2))]) (st' := [.int (nI (prN (pth k))), .ref (ad 4), .int (nI (pth k)), .ref (ad 4)]) rfl ?_
          refine ga_zld C Wc.2.2.2.2.2.2.2.1 (by omega) (by decide) (by decide +kernel) ?_
          rw [u2]
          refine zz_if C (i := .ifCond .eq 28) (by decide +kernel) (Pt := (bI ((vw (Lm M V) (rp (pth k)).tail).2 i)) = 0) (Pf := ¬ (bI ((vw (Lm M V) (rp (pth k)).tail).2 i)) = 0) (off := 28) (r := [.int (nI (pth k)), .ref (ad 4)]) (tgt := 79) rfl (by decide) (fun cB => ?_) (fun cB => ?_)
          · refine zz_go C [(79, .iconst 0)] (by decide +kernel) (pc' := 80) (lv' := [some (.ref o), some (.int (nI i)), some (.int (nI k)), some (.int (nI (pth k))), some (.int (nI (prN (pth k)))), some (.int (nI 2))]) (st' := [.int (nI 0), .int (nI (pth k)), .ref (ad 4)]) rfl ?_
            exact J80 false (by rw [s2]; exact (decide_eq_false (fun z => z.1 cB)).symm)
          · refine zz_go C [(54, .aload_n 0)] (by decide +kernel) (pc' := 55) (lv' := [some (.ref o), some (.int (nI i)), some (.int (nI k)), some (.int (nI (pth k))), some (.int (nI (prN (pth k)))), some (.int (nI 2))]) (st' := [.ref o, .int (nI (pth k)), .ref (ad 4)]) rfl ?_
            refine zz_get C fd_O_21 Wc.ob (v := .ref (ad 2)) rfl (by decide +kernel) ?_
            refine zz_go C [(58, .iload_n 3)] (by decide +kernel) (pc' := 59) (lv' := [some (.ref o), some (.int (nI i)), some (.int (nI k)), some (.int (nI (pth k))), some (.int (nI (prN (pth k)))), some (.int (nI 2))]) (st' := [.int (nI (pth k)), .ref (ad 2), .int (nI (pth k)), .ref (ad 4)]) rfl ?_
            refine ga_ild C Wc.2.2.2.2.2.1 (by omega) (by decide) (by decide +kernel) ?_
            rw [v1]
            refine zz_go C [(60, .iconst 2)] (by decide +kernel) (pc' := 61) (lv' := [some (.ref o), some (.int (nI i)), some (.int (nI k)), some (.int (nI (pth k))), some (.int (nI (prN (pth k)))), some (.int (nI 2))]) (st' := [.int (nI 2), .int ((vw (Lm M V) (rp (pth k))).1 i + nI 1), .int (nI (pth k)), .ref (ad 4)]) rfl ?_
            refine zz_if C (i := .if_icmp .ne 18) (by decide +kernel) (Pt := ¬ ((vw (Lm M V) (rp (pth k))).1 i + nI 1) = (nI 2)) (Pf := ((vw (Lm M V) (rp (pth k))).1 i + nI 1) = (nI 2)) (off := 18) (r := [.int (nI (pth k)), .ref (ad 4)]) (tgt := 79) rfl (by decide) (fun cK => ?_) (fun cK => ?_)
            · refine zz_go C [(79, .iconst 0)] (by decide +kernel) (pc' := 80) (lv' := [some (.ref o), some (.int (nI i)), some (.int (nI k)), some (.int (nI (pth k))), some (.int (nI (prN (pth k)))), some (.int (nI 2))]) (st' := [.int (nI 0), .int (nI (pth k)), .ref (ad 4)]) rfl ?_
              exact J80 false (by rw [s2]; exact (decide_eq_false (fun z => cK ((add1_2 _).mpr z.2))).symm)
            · refine zz_go C [(64, .iload 5)] (by decide +kernel) (pc' := 66) (lv' := [some (.ref o), some (.int (nI i)), some (.int (nI k)), some (.int (nI (pth k))), some (.int (nI (prN (pth k)))), some (.int (nI 2))]) (st' := [.int (nI 2), .int (nI (pth k)), .ref (ad 4)]) rfl ?_
              refine zz_if C (i := .ifCond .eq 9) (by decide +kernel) (Pt := (nI 2) = 0) (Pf := ¬ (nI 2) = 0) (off := 9) (r := [.int (nI (pth k)), .ref (ad 4)]) (tgt := 75) rfl (by decide) (fun cZ => ?_) (fun cZ => ?_)
              · exact absurd cZ (by decide)
              · refine zz_go C [(69, .iload 5), (71, .iconst 2)] (by decide +kernel) (pc' := 72) (lv' := [some (.ref o), some (.int (nI i)), some (.int (nI k)), some (.int (nI (pth k))), some (.int (nI (prN (pth k)))), some (.int (nI 2))]) (st' := [.int (nI 2), .int (nI 2), .int (nI (pth k)), .ref (ad 4)]) rfl ?_
                refine zz_if C (i := .if_icmp .ne 7) (by decide +kernel) (Pt := ¬ (nI 2) = (nI 2)) (Pf := (nI 2) = (nI 2)) (off := 7) (r := [.int (nI (pth k)), .ref (ad 4)]) (tgt := 79) rfl (by decide) (fun cY => ?_) (fun cY => ?_)
                · exact absurd rfl cY
                · refine zz_go C [(75, .iconst 1), (76, .goto 4)] (by decide +kernel) (pc' := 80) (lv' := [some (.ref o), some (.int (nI i)), some (.int (nI k)), some (.int (nI (pth k))), some (.int (nI (prN (pth k)))), some (.int (nI 2))]) (st' := [.int (nI 1), .int (nI (pth k)), .ref (ad 4)]) rfl ?_
                  exact J80 true (by rw [s2]; exact (decide_eq_true ⟨cB, (add1_2 _).mp cK⟩).symm)
        · rw [e] at s1 s2 s3 ⊢
          rw [alK_3] at s1
          rw [alS_3] at s2
          refine zz_go C [(37, .istore 5)] (by decide +kernel) (pc' := 39) (lv' := [some (.ref o), some (.int (nI i)), some (.int (nI k)), some (.int (nI (pth k))), some (.int (nI (prN (pth k)))), some (.int (nI 3))]) (st' := []) rfl ?_
          have vpart : ∀ (h2 : zz_Hp) (sh' : Nat → Int32), mW h2 (zz_ac K) o ad th n M V vs sn sh' → (∀ q, q ≠ pth k → sh' q = sh q) → sh' (pth k) = bI ((vw (Lm M V) (rp (pth k))).2 i) → zz_Z K (zz_End K h (fun r' h' => r' = .inl none ∧ ∃ vs' sn' sh', mW h' (zz_ac K) o ad th n M V vs' sn' sh' ∧ cvI M V 7380 i vs' sn' sh')) h h2 0 0 81 [some (.ref o), some (.int (nI i)), some (.int (nI k)), some (.int (nI (pth k))), some (.int (nI (prN (pth k)))), some (.int (nI 3))] [] := by
            intro h2 sh' W2 k1 k2
            refine zz_go C [(81, .aload_n 0)] (by decide +kernel) (pc' := 82) (lv' := [some (.ref o), some (.int (nI i)), some (.int (nI k)), some (.int (nI (pth k))), some (.int (nI (prN (pth k)))), some (.int (nI 3))]) (st' := [.ref o]) rfl ?_
            refine zz_get C fd_O_21 W2.ob (v := .ref (ad 2)) rfl (by decide +kernel) ?_
            refine zz_go C [(85, .iload 4)] (by decide +kernel) (pc' := 87) (lv' := [some (.ref o), some (.int (nI i)), some (.int (nI k)), some (.int (nI (pth k))), some (.int (nI (prN (pth k)))), some (.int (nI 3))]) (st' := [.int (nI (prN (pth k))), .ref (ad 2)]) rfl ?_
            refine ga_ild C W2.2.2.2.2.2.1 (by omega) (by decide) (by decide +kernel) ?_
            rw [u1]
            refine zz_go C [(88, .iconst 2)] (by decide +kernel) (pc' := 89) (lv' := [some (.ref o), some (.int (nI i)), some (.int (nI k)), some (.int (nI (pth k))), some (.int (nI (prN (pth k)))), some (.int (nI 3))]) (st' := [.int (nI 2), .int ((vw (Lm M V) (rp (pth k)).tail).1 (i + 1) + nI 1)]) rfl ?_
            refine zz_if C (i := .if_icmp .eq 13) (by decide +kernel) (Pt := ((vw (Lm M V) (rp (pth k)).tail).1 (i + 1) + nI 1) = (nI 2)) (Pf := ¬ ((vw (Lm M V) (rp (pth k)).tail).1 (i + 1) + nI 1) = (nI 2)) (off := 13) (r := []) (tgt := 102) rfl (by decide) (fun cU => ?_) (fun cU => ?_)
            · have cU2 := (add1_2 _).mp cU
              rw [if_pos cU2] at s1
              refine zz_go C [(102, .iload 5), (104, .iconst 1)] (by decide +kernel) (pc' := 105) (lv' := [some (.ref o), some (.int (nI i)), some (.int (nI k)), some (.int (nI (pth k))), some (.int (nI (prN (pth k)))), some (.int (nI 3))]) (st' := [.int (nI 1), .int (nI 3)]) rfl ?_
              refine zz_if C (i := .if_icmp .ne 31) (by decide +kernel) (Pt := ¬ (nI 3) = (nI 1)) (Pf := (nI 3) = (nI 1)) (off := 31) (r := []) (tgt := 136) rfl (by decide) (fun cM => ?_) (fun cM => ?_)
              · refine zz_go C [(136, .iload 5), (138, .iconst 2)] (by decide +kernel) (pc' := 139) (lv' := [some (.ref o), some (.int (nI i)), some (.int (nI k)), some (.int (nI (pth k))), some (.int (nI (prN (pth k)))), some (.int (nI 3))]) (st' := [.int (nI 2), .int (nI 3)]) rfl ?_
                refine zz_if C (i := .if_icmp .eq 9) (by decide +kernel) (Pt := (nI 3) = (nI 2)) (Pf := ¬ (nI 3) = (nI 2)) (off := 9) (r := []) (tgt := 148) rfl (by decide) (fun cN => ?_) (fun cN => ?_)
                · exact absurd cN (by decide)
                · refine zz_go C [(142, .iload 5), (144, .iconst 3)] (by decide +kernel) (pc' := 145) (lv' := [some (.ref o), some (.int (nI i)), some (.int (nI k)), some (.int (nI (pth k))), some (.int (nI (prN (pth k)))), some (.int (nI 3))]) (st' := [.int (nI 3), .int (nI 3)]) rfl ?_
                  refine zz_if C (i := .if_icmp .ne 13) (by decide +kernel) (Pt := ¬ (nI 3) = (nI 3)) (Pf := (nI 3) = (nI 3)) (off := 13) (r := []) (tgt := 158) rfl (by decide) (fun cO => ?_) (fun cO => ?_)
                  · exact absurd rfl cO
                  · refine zz_go C [(148, .aload_n 0)] (by decide +kernel) (pc' := 149) (lv' := [some (.ref o), some (.int (nI i)), some (.int (nI k)), some (.int (nI (pth k))), some (.int (nI (prN (pth k)))), some (.int (nI 3))]) (st' := [.ref o]) rfl ?_
                    refine zz_get C fd_O_21 W2.ob (v := .ref (ad 2)) rfl (by decide +kernel) ?_
                    refine zz_go C [(152, .iload_n 3), (153, .iconst 2)] (by decide +kernel) (pc' := 154) (lv' := [some (.ref o), some (.int (nI i)), some (.int (nI k)), some (.int (nI (pth k))), some (.int (nI (prN (pth k)))), some (.int (nI 3))]) (st' := [.int (nI 2), .int (nI (pth k)), .ref (ad 2)]) rfl ?_
                    refine mo_vst C W2 (by omega) pp (by decide +kernel) (fun h3 W3 => ?_)
                    refine zz_go C [(155, .goto 26)] (by decide +kernel) (pc' := 181) (lv' := [some (.ref o), some (.int (nI i)), some (.int (nI k)), some (.int (nI (pth k))), some (.int (nI (prN (pth k)))), some (.int (nI 3))]) (st' := []) rfl ?_
                    exact next h3 _ _ _ _ _ _ W3 (cvI_s I hk (fun q hq => upd_ne _ _ hq) (fun q hq => rfl) k1 (by rw [upd_at, s1]; decide) k2 (fun z => absurd (s1.symm.trans z) (by decide)))
              · exact absurd cM (by decide)
            · have cU2 : ¬ (vw (Lm M V) (rp (pth k)).tail).1 (i + 1) = nI 1 := fun z => cU ((add1_2 _).mpr z)
              rw [if_neg cU2] at s1
              refine zz_go C [(92, .aload_n 0)] (by decide +kernel) (pc' := 93) (lv' := [some (.ref o), some (.int (nI i)), some (.int (nI k)), some (.int (nI (pth k))), some (.int (nI (prN (pth k)))), some (.int (nI 3))]) (st' := [.ref o]) rfl ?_
              refine zz_get C fd_O_21 W2.ob (v := .ref (ad 2)) rfl (by decide +kernel) ?_
              refine zz_go C [(96, .iload_n 3), (97, .iconst 0)] (by decide +kernel) (pc' := 98) (lv' := [some (.ref o), some (.int (nI i)), some (.int (nI k)), some (.int (nI (pth k))), some (.int (nI (prN (pth k)))), some (.int (nI 3))]) (st' := [.int (nI 0), .int (nI (pth k)), .ref (ad 2)]) rfl ?_
              refine mo_vst C W2 (by omega) pp (by decide +kernel) (fun h3 W3 => ?_)
              refine zz_go C [(99, .goto 82)] (by decide +kernel) (pc' := 181) (lv' := [some (.ref o), some (.int (nI i)), some (.int (nI k)), some (.int (nI (pth k))), some (.int (nI (prN (pth k)))), some (.int (nI 3))]) (st' := []) rfl ?_
              exact next h3 _ _ _ _ _ _ W3 (cvI_s I hk (fun q hq => upd_ne _ _ hq) (fun q hq => rfl) k1 (by rw [upd_at, s1]; decide) k2 (fun z => absurd (s1.symm.trans z) (by decide)))
          have J80 : ∀ b : Bool, b = (vw (Lm M V) (rp (pth k))).2 i → zz_Z K (zz_End K h (fun r' h' => r' = .inl none ∧ ∃ vs' sn' sh', mW h' (zz_ac K) o ad th n M V vs' sn' sh' ∧ cvI M V 7380 i vs' sn' sh')) h hc 0 0 80 [some (.ref o), some (.int (nI i)), some (.int (nI k)), some (.int (nI (pth k))), some (.int (nI (prN (pth k)))), some (.int (nI 3))] [.int (bI b), .int (nI (pth k)), .ref (ad 4)] := by
            intro b hb
            refine mo_hst C Wc b (by omega) (by decide +kernel) (fun h2 W2 => ?_)
            exact vpart h2 _ W2 (fun q hq => upd_ne _ _ hq) (by rw [upd_at, hb])
          refine zz_go C [(39, .aload_n 0)] (by decide +kernel) (pc' := 40) (lv' := [some (.ref o), some (.int (nI i)), some (.int (nI k)), some (.int (nI (pth k))), some (.int (nI (prN (pth k)))), some (.int (nI 3))]) (st' := [.ref o]) rfl ?_
          refine zz_get C fd_O_27 Wc.ob (v := .ref (ad 4)) rfl (by decide +kernel) ?_
          refine zz_go C [(43, .iload_n 3), (44, .aload_n 0)] (by decide +kernel) (pc' := 45) (lv' := [some (.ref o), some (.int (nI i)), some (.int (nI k)), some (.int (nI (pth k))), some (.int (nI (prN (pth k)))), some (.int (nI 3))]) (st' := [.ref o, .int (nI (pth k)), .ref (ad 4)]) rfl ?_
          refine zz_get C fd_O_27 Wc.ob (v := .ref (ad 4)) rfl (by decide +kernel) ?_
          refine zz_go C [(48, .iload 4)] (by decide +kernel) (pc' := 50) (lv' := [some (.ref o), some (.int (nI i)), some (.int (nI k)), some (.int (nI (pth k))), some (.int (nI (prN (pth k)))), some (.int (nI 3))]) (st' := [.int (nI (prN (pth k))), .ref (ad 4), .int (nI (pth k)), .ref (ad 4)]) rfl ?_
          refine ga_zld C Wc.2.2.2.2.2.2.2.1 (by omega) (by decide) (by decide +kernel) ?_
          rw [u2]
          refine zz_if C (i := .ifCond .eq 28) (by decide +kernel) (Pt := (bI ((vw (Lm M V) (rp (pth k)).tail).2 i)) = 0) (Pf := ¬ (bI ((vw (Lm M V) (rp (pth k)).tail).2 i)) = 0) (off := 28) (r := [.int (nI (pth k)), .ref (ad 4)]) (tgt := 79) rfl (by decide) (fun cB => ?_) (fun cB => ?_)
          · refine zz_go C [(79, .iconst 0)] (by decide +kernel) (pc' := 80) (lv' := [some (.ref o), some (.int (nI i)), some (.int (nI k)), some (.int (nI (pth k))), some (.int (nI (prN (pth k)))), some (.int (nI 3))]) (st' := [.int (nI 0), .int (nI (pth k)), .ref (ad 4)]) rfl ?_
            exact J80 false (by rw [s2])
          · refine zz_go C [(54, .aload_n 0)] (by decide +kernel) (pc' := 55) (lv' := [some (.ref o), some (.int (nI i)), some (.int (nI k)), some (.int (nI (pth k))), some (.int (nI (prN (pth k)))), some (.int (nI 3))]) (st' := [.ref o, .int (nI (pth k)), .ref (ad 4)]) rfl ?_
            refine zz_get C fd_O_21 Wc.ob (v := .ref (ad 2)) rfl (by decide +kernel) ?_
            refine zz_go C [(58, .iload_n 3)] (by decide +kernel) (pc' := 59) (lv' := [some (.ref o), some (.int (nI i)), some (.int (nI k)), some (.int (nI (pth k))), some (.int (nI (prN (pth k)))), some (.int (nI 3))]) (st' := [.int (nI (pth k)), .ref (ad 2), .int (nI (pth k)), .ref (ad 4)]) rfl ?_
            refine ga_ild C Wc.2.2.2.2.2.1 (by omega) (by decide) (by decide +kernel) ?_
            rw [v1]
            refine zz_go C [(60, .iconst 2)] (by decide +kernel) (pc' := 61) (lv' := [some (.ref o), some (.int (nI i)), some (.int (nI k)), some (.int (nI (pth k))), some (.int (nI (prN (pth k)))), some (.int (nI 3))]) (st' := [.int (nI 2), .int ((vw (Lm M V) (rp (pth k))).1 i + nI 1), .int (nI (pth k)), .ref (ad 4)]) rfl ?_
            refine zz_if C (i := .if_icmp .ne 18) (by decide +kernel) (Pt := ¬ ((vw (Lm M V) (rp (pth k))).1 i + nI 1) = (nI 2)) (Pf := ((vw (Lm M V) (rp (pth k))).1 i + nI 1) = (nI 2)) (off := 18) (r := [.int (nI (pth k)), .ref (ad 4)]) (tgt := 79) rfl (by decide) (fun cK => ?_) (fun cK => ?_)
            · refine zz_go C [(79, .iconst 0)] (by decide +kernel) (pc' := 80) (lv' := [some (.ref o), some (.int (nI i)), some (.int (nI k)), some (.int (nI (pth k))), some (.int (nI (prN (pth k)))), some (.int (nI 3))]) (st' := [.int (nI 0), .int (nI (pth k)), .ref (ad 4)]) rfl ?_
              exact J80 false (by rw [s2])
            · refine zz_go C [(64, .iload 5)] (by decide +kernel) (pc' := 66) (lv' := [some (.ref o), some (.int (nI i)), some (.int (nI k)), some (.int (nI (pth k))), some (.int (nI (prN (pth k)))), some (.int (nI 3))]) (st' := [.int (nI 3), .int (nI (pth k)), .ref (ad 4)]) rfl ?_
              refine zz_if C (i := .ifCond .eq 9) (by decide +kernel) (Pt := (nI 3) = 0) (Pf := ¬ (nI 3) = 0) (off := 9) (r := [.int (nI (pth k)), .ref (ad 4)]) (tgt := 75) rfl (by decide) (fun cZ => ?_) (fun cZ => ?_)
              · exact absurd cZ (by decide)
              · refine zz_go C [(69, .iload 5), (71, .iconst 2)] (by decide +kernel) (pc' := 72) (lv' := [some (.ref o), some (.int (nI i)), some (.int (nI k)), some (.int (nI (pth k))), some (.int (nI (prN (pth k)))), some (.int (nI 3))]) (st' := [.int (nI 2), .int (nI 3), .int (nI (pth k)), .ref (ad 4)]) rfl ?_
                refine zz_if C (i := .if_icmp .ne 7) (by decide +kernel) (Pt := ¬ (nI 3) = (nI 2)) (Pf := (nI 3) = (nI 2)) (off := 7) (r := [.int (nI (pth k)), .ref (ad 4)]) (tgt := 79) rfl (by decide) (fun cY => ?_) (fun cY => ?_)
                · refine zz_go C [(79, .iconst 0)] (by decide +kernel) (pc' := 80) (lv' := [some (.ref o), some (.int (nI i)), some (.int (nI k)), some (.int (nI (pth k))), some (.int (nI (prN (pth k)))), some (.int (nI 3))]) (st' := [.int (nI 0), .int (nI (pth k)), .ref (ad 4)]) rfl ?_
                  exact J80 false (by rw [s2])
                · exact absurd cY (by decide)
        · rw [e] at s1 s2 s3 ⊢
          rw [alK_4] at s1
          rw [alS_4] at s2
          refine zz_go C [(37, .istore 5)] (by decide +kernel) (pc' := 39) (lv' := [some (.ref o), some (.int (nI i)), some (.int (nI k)), some (.int (nI (pth k))), some (.int (nI (prN (pth k)))), some (.int (nI 4))]) (st' := []) rfl ?_
          have vpart : ∀ (h2 : zz_Hp) (sh' : Nat → Int32), mW h2 (zz_ac K) o ad th n M V vs sn sh' → (∀ q, q ≠ pth k → sh' q = sh q) → sh' (pth k) = bI ((vw (Lm M V) (rp (pth k))).2 i) → zz_Z K (zz_End K h (fun r' h' => r' = .inl none ∧ ∃ vs' sn' sh', mW h' (zz_ac K) o ad th n M V vs' sn' sh' ∧ cvI M V 7380 i vs' sn' sh')) h h2 0 0 81 [some (.ref o), some (.int (nI i)), some (.int (nI k)), some (.int (nI (pth k))), some (.int (nI (prN (pth k)))), some (.int (nI 4))] [] := by
            intro h2 sh' W2 k1 k2
            refine zz_go C [(81, .aload_n 0)] (by decide +kernel) (pc' := 82) (lv' := [some (.ref o), some (.int (nI i)), some (.int (nI k)), some (.int (nI (pth k))), some (.int (nI (prN (pth k)))), some (.int (nI 4))]) (st' := [.ref o]) rfl ?_
            refine zz_get C fd_O_21 W2.ob (v := .ref (ad 2)) rfl (by decide +kernel) ?_
            refine zz_go C [(85, .iload 4)] (by decide +kernel) (pc' := 87) (lv' := [some (.ref o), some (.int (nI i)), some (.int (nI k)), some (.int (nI (pth k))), some (.int (nI (prN (pth k)))), some (.int (nI 4))]) (st' := [.int (nI (prN (pth k))), .ref (ad 2)]) rfl ?_
            refine ga_ild C W2.2.2.2.2.2.1 (by omega) (by decide) (by decide +kernel) ?_
            rw [u1]
            refine zz_go C [(88, .iconst 2)] (by decide +kernel) (pc' := 89) (lv' := [some (.ref o), some (.int (nI i)), some (.int (nI k)), some (.int (nI (pth k))), some (.int (nI (prN (pth k)))), some (.int (nI 4))]) (st' := [.int (nI 2), .int ((vw (Lm M V) (rp (pth k)).tail).1 (i + 1) + nI 1)]) rfl ?_
            refine zz_if C (i := .if_icmp .eq 13) (by decide +kernel) (Pt := ((vw (Lm M V) (rp (pth k)).tail).1 (i + 1) + nI 1) = (nI 2)) (Pf := ¬ ((vw (Lm M V) (rp (pth k)).tail).1 (i + 1) + nI 1) = (nI 2)) (off := 13) (r := []) (tgt := 102) rfl (by decide) (fun cU => ?_) (fun cU => ?_)
            · have cU2 := (add1_2 _).mp cU
              rw [if_pos cU2] at s1
              refine zz_go C [(102, .iload 5), (104, .iconst 1)] (by decide +kernel) (pc' := 105) (lv' := [some (.ref o), some (.int (nI i)), some (.int (nI k)), some (.int (nI (pth k))), some (.int (nI (prN (pth k)))), some (.int (nI 4))]) (st' := [.int (nI 1), .int (nI 4)]) rfl ?_
              refine zz_if C (i := .if_icmp .ne 31) (by decide +kernel) (Pt := ¬ (nI 4) = (nI 1)) (Pf := (nI 4) = (nI 1)) (off := 31) (r := []) (tgt := 136) rfl (by decide) (fun cM => ?_) (fun cM => ?_)
              · refine zz_go C [(136, .iload 5), (138, .iconst 2)] (by decide +kernel) (pc' := 139) (lv' := [some (.ref o), some (.int (nI i)), some (.int (nI k)), some (.int (nI (pth k))), some (.int (nI (prN (pth k)))), some (.int (nI 4))]) (st' := [.int (nI 2), .int (nI 4)]) rfl ?_
                refine zz_if C (i := .if_icmp .eq 9) (by decide +kernel) (Pt := (nI 4) = (nI 2)) (Pf := ¬ (nI 4) = (nI 2)) (off := 9) (r := []) (tgt := 148) rfl (by decide) (fun cN => ?_) (fun cN => ?_)
                · exact absurd cN (by decide)
                · refine zz_go C [(142, .iload 5), (144, .iconst 3)] (by decide +kernel) (pc' := 145) (lv' := [some (.ref o), some (.int (nI i)), some (.int (nI k)), some (.int (nI (pth k))), some (.int (nI (prN (pth k)))), some (.int (nI 4))]) (st' := [.int (nI 3), .int (nI 4)]) rfl ?_
                  refine zz_if C (i := .if_icmp .ne 13) (by decide +kernel) (Pt := ¬ (nI 4) = (nI 3)) (Pf := (nI 4) = (nI 3)) (off := 13) (r := []) (tgt := 158) rfl (by decide) (fun cO => ?_) (fun cO => ?_)
                  · refine zz_go C [(158, .iload 5), (160, .iconst 4)] (by decide +kernel) (pc' := 161) (lv' := [some (.ref o), some (.int (nI i)), some (.int (nI k)), some (.int (nI (pth k))), some (.int (nI (prN (pth k)))), some (.int (nI 4))]) (st' := [.int (nI 4), .int (nI 4)]) rfl ?_
                    refine zz_if C (i := .if_icmp .eq 13) (by decide +kernel) (Pt := (nI 4) = (nI 4)) (Pf := ¬ (nI 4) = (nI 4)) (off := 13) (r := []) (tgt := 174) rfl (by decide) (fun cP => ?_) (fun cP => ?_)
                    · refine zz_go C [(174, .aload_n 0)] (by decide +kernel) (pc' := 175) (lv' := [some (.ref o), some (.int (nI i)), some (.int (nI k)), some (.int (nI (pth k))), some (.int (nI (prN (pth k)))), some (.int (nI 4))]) (st' := [.ref o]) rfl ?_
                      refine zz_get C fd_O_21 W2.ob (v := .ref (ad 2)) rfl (by decide +kernel) ?_
                      refine zz_go C [(178, .iload_n 3), (179, .iconst 0)] (by decide +kernel) (pc' := 180) (lv' := [some (.ref o), some (.int (nI i)), some (.int (nI k)), some (.int (nI (pth k))), some (.int (nI (prN (pth k)))), some (.int (nI 4))]) (st' := [.int (nI 0), .int (nI (pth k)), .ref (ad 2)]) rfl ?_
                      refine mo_vst C W2 (by omega) pp (by decide +kernel) (fun h3 W3 => ?_)
                      exact next h3 _ _ _ _ _ _ W3 (cvI_s I hk (fun q hq => upd_ne _ _ hq) (fun q hq => rfl) k1 (by rw [upd_at, s1]; decide) k2 (fun z => absurd (by rw [s1] at z; exact z) (by decide)))
                    · exact absurd rfl cP
                  · exact absurd cO (by decide)
              · exact absurd cM (by decide)
            · have cU2 : ¬ (vw (Lm M V) (rp (pth k)).tail).1 (i + 1) = nI 1 := fun z => cU ((add1_2 _).mpr z)
              rw [if_neg cU2] at s1
              refine zz_go C [(92, .aload_n 0)] (by decide +kernel) (pc' := 93) (lv' := [some (.ref o), some (.int (nI i)), some (.int (nI k)), some (.int (nI (pth k))), some (.int (nI (prN (pth k)))), some (.int (nI 4))]) (st' := [.ref o]) rfl ?_
              refine zz_get C fd_O_21 W2.ob (v := .ref (ad 2)) rfl (by decide +kernel) ?_
              refine zz_go C [(96, .iload_n 3), (97, .iconst 0)] (by decide +kernel) (pc' := 98) (lv' := [some (.ref o), some (.int (nI i)), some (.int (nI k)), some (.int (nI (pth k))), some (.int (nI (prN (pth k)))), some (.int (nI 4))]) (st' := [.int (nI 0), .int (nI (pth k)), .ref (ad 2)]) rfl ?_
              refine mo_vst C W2 (by omega) pp (by decide +kernel) (fun h3 W3 => ?_)
              refine zz_go C [(99, .goto 82)] (by decide +kernel) (pc' := 181) (lv' := [some (.ref o), some (.int (nI i)), some (.int (nI k)), some (.int (nI (pth k))), some (.int (nI (prN (pth k)))), some (.int (nI 4))]) (st' := []) rfl ?_
              exact next h3 _ _ _ _ _ _ W3 (cvI_s I hk (fun q hq => upd_ne _ _ hq) (fun q hq => rfl) k1 (by rw [upd_at, s1]; decide) k2 (fun z => absurd (s1.symm.trans z) (by decide)))
          have J80 : ∀ b : Bool, b = (vw (Lm M V) (rp (pth k))).2 i → zz_Z K (zz_End K h (fun r' h' => r' = .inl none ∧ ∃ vs' sn' sh', mW h' (zz_ac K) o ad th n M V vs' sn' sh' ∧ cvI M V 7380 i vs' sn' sh')) h hc 0 0 80 [some (.ref o), some (.int (nI i)), some (.int (nI k)), some (.int (nI (pth k))), some (.int (nI (prN (pth k)))), some (.int (nI 4))] [.int (bI b), .int (nI (pth k)), .ref (ad 4)] := by
            intro b hb
            refine mo_hst C Wc b (by omega) (by decide +kernel) (fun h2 W2 => ?_)
            exact vpart h2 _ W2 (fun q hq => upd_ne _ _ hq) (by rw [upd_at, hb])
          refine zz_go C [(39, .aload_n 0)] (by decide +kernel) (pc' := 40) (lv' := [some (.ref o), some (.int (nI i)), some (.int (nI k)), some (.int (nI (pth k))), some (.int (nI (prN (pth k)))), some (.int (nI 4))]) (st' := [.ref o]) rfl ?_
          refine zz_get C fd_O_27 Wc.ob (v := .ref (ad 4)) rfl (by decide +kernel) ?_
          refine zz_go C [(43, .iload_n 3), (44, .aload_n 0)] (by decide +kernel) (pc' := 45) (lv' := [some (.ref o), some (.int (nI i)), some (.int (nI k)), some (.int (nI (pth k))), some (.int (nI (prN (pth k)))), some (.int (nI 4))]) (st' := [.ref o, .int (nI (pth k)), .ref (ad 4)]) rfl ?_
          refine zz_get C fd_O_27 Wc.ob (v := .ref (ad 4)) rfl (by decide +kernel) ?_
          refine zz_go C [(48, .iload 4)] (by decide +kernel) (pc' := 50) (lv' := [some (.ref o), some (.int (nI i)), some (.int (nI k)), some (.int (nI (pth k))), some (.int (nI (prN (pth k)))), some (.int (nI 4))]) (st' := [.int (nI (prN (pth k))), .ref (ad 4), .int (nI (pth k)), .ref (ad 4)]) rfl ?_
          refine ga_zld C Wc.2.2.2.2.2.2.2.1 (by omega) (by decide) (by decide +kernel) ?_
          rw [u2]
          refine zz_if C (i := .ifCond .eq 28) (by decide +kernel) (Pt := (bI ((vw (Lm M V) (rp (pth k)).tail).2 i)) = 0) (Pf := ¬ (bI ((vw (Lm M V) (rp (pth k)).tail).2 i)) = 0) (off := 28) (r := [.int (nI (pth k)), .ref (ad 4)]) (tgt := 79) rfl (by decide) (fun cB => ?_) (fun cB => ?_)
          · refine zz_go C [(79, .iconst 0)] (by decide +kernel) (pc' := 80) (lv' := [some (.ref o), some (.int (nI i)), some (.int (nI k)), some (.int (nI (pth k))), some (.int (nI (prN (pth k)))), some (.int (nI 4))]) (st' := [.int (nI 0), .int (nI (pth k)), .ref (ad 4)]) rfl ?_
            exact J80 false (by rw [s2])
          · refine zz_go C [(54, .aload_n 0)] (by decide +kernel) (pc' := 55) (lv' := [some (.ref o), some (.int (nI i)), some (.int (nI k)), some (.int (nI (pth k))), some (.int (nI (prN (pth k)))), some (.int (nI 4))]) (st' := [.ref o, .int (nI (pth k)), .ref (ad 4)]) rfl ?_
            refine zz_get C fd_O_21 Wc.ob (v := .ref (ad 2)) rfl (by decide +kernel) ?_
            refine zz_go C [(58, .iload_n 3)] (by decide +kernel) (pc' := 59) (lv' := [some (.ref o), some (.int (nI i)), some (.int (nI k)), some (.int (nI (pth k))), some (.int (nI (prN (pth k)))), some (.int (nI 4))]) (st' := [.int (nI (pth k)), .ref (ad 2), .int (nI (pth k)), .ref (ad 4)]) rfl ?_
            refine ga_ild C Wc.2.2.2.2.2.1 (by omega) (by decide) (by decide +kernel) ?_
            rw [v1]
            refine zz_go C [(60, .iconst 2)] (by decide +kernel) (pc' := 61) (lv' := [some (.ref o), some (.int (nI i)), some (.int (nI k)), some (.int (nI (pth k))), some (.int (nI (prN (pth k)))), some (.int (nI 4))]) (st' := [.int (nI 2), .int ((vw (Lm M V) (rp (pth k))).1 i + nI 1), .int (nI (pth k)), .ref (ad 4)]) rfl ?_
            refine zz_if C (i := .if_icmp .ne 18) (by decide +kernel) (Pt := ¬ ((vw (Lm M V) (rp (pth k))).1 i + nI 1) = (nI 2)) (Pf := ((vw (Lm M V) (rp (pth k))).1 i + nI 1) = (nI 2)) (off := 18) (r := [.int (nI (pth k)), .ref (ad 4)]) (tgt := 79) rfl (by decide) (fun cK => ?_) (fun cK => ?_)
            · refine zz_go C [(79, .iconst 0)] (by decide +kernel) (pc' := 80) (lv' := [some (.ref o), some (.int (nI i)), some (.int (nI k)), some (.int (nI (pth k))), some (.int (nI (prN (pth k)))), some (.int (nI 4))]) (st' := [.int (nI 0), .int (nI (pth k)), .ref (ad 4)]) rfl ?_
              exact J80 false (by rw [s2])
            · refine zz_go C [(64, .iload 5)] (by decide +kernel) (pc' := 66) (lv' := [some (.ref o), some (.int (nI i)), some (.int (nI k)), some (.int (nI (pth k))), some (.int (nI (prN (pth k)))), some (.int (nI 4))]) (st' := [.int (nI 4), .int (nI (pth k)), .ref (ad 4)]) rfl ?_
              refine zz_if C (i := .ifCond .eq 9) (by decide +kernel) (Pt := (nI 4) = 0) (Pf := ¬ (nI 4) = 0) (off := 9) (r := [.int (nI (pth k)), .ref (ad 4)]) (tgt := 75) rfl (by decide) (fun cZ => ?_) (fun cZ => ?_)
              · exact absurd cZ (by decide)
              · refine zz_go C [(69, .iload 5), (71, .iconst 2)] (by decide +kernel) (pc' := 72) (lv' := [some (.ref o), some (.int (nI i)), some (.int (nI k)), some (.int (nI (pth k))), some (.int (nI (prN (pth k)))), some (.int (nI 4))]) (st' := [.int (nI 2), .int (nI 4), .int (nI (pth k)), .ref (ad 4)]) rfl ?_
                refine zz_if C (i := .if_icmp .ne 7) (by decide +kernel) (Pt := ¬ (nI 4) = (nI 2)) (Pf := (nI 4) = (nI 2)) (off := 7) (r := [.int (nI (pth k)), .ref (ad 4)]) (tgt := 79) rfl (by decide) (fun cY => ?_) (fun cY => ?_)
                · refine zz_go C [(79, .iconst 0)] (by decide +kernel) (pc' := 80) (lv' := [some (.ref o), some (.int (nI i)), some (.int (nI k)), some (.int (nI (pth k))), some (.int (nI (prN (pth k)))), some (.int (nI 4))]) (st' := [.int (nI 0), .int (nI (pth k)), .ref (ad 4)]) rfl ?_
                  exact J80 false (by rw [s2])
                · exact absurd cY (by decide)
  refine zz_go C [(0, .iconst 0), (1, .istore_n 2)] (by decide +kernel) (pc' := 2) (lv' := [some (.ref o), some (.int (nI i)), some (.int (nI 0)), none, none, none]) (st' := []) rfl ?_
  exact loop 7380 0 h vs sn sh (by omega) W I
