/-! ===== look ===== -/
def rp (j : Nat) : List Nat := (nmF 4 j).reverse
section TL
variable {K : zz_K} {Q : State → Prop} {h0 h : zz_Hp} {ck cn pc : Nat} {lv : List (Option Value)} {st : List Value} {cc : ByteArray} {own : String} {A : zA5} {Ls : zLs}
theorem ts_ld (C : zz_C K cc own) {sa j : Nat} (P : saP h (zz_ac K) sa A) (hj : j < 5) (hd : decode cc pc = .ok (.aaload, 1)) (kk : zz_Z K Q h0 h ck cn (pc + 1) lv (.ref (A j).1 :: st)) : zz_Z K Q h0 h ck cn pc lv (.int (nI j) :: .ref sa :: st) := by
  obtain ⟨g, hg, hx⟩ := P
  refine zz_qald C 4 (fun _ => rfl) hg (vp_in_nI hj (by omega)) hd ?_
  rw [nI_clamp (by omega), hx j hj]; exact kk
theorem c_kind (l : Launch) (D : va_G) {aC : Nat → ClassId} (S : siH h aC A) {d m i : Nat} {r : List Nat} (hd : d < 5) (T : tS h aC (A d) m Ls r) (hi : i ≤ m) (hm : m ≤ 8) :
    zz_Ct l D aC y_S_kindIn (zrm 0 0 0 0) [.ref (A d).1, .int (nI i)] h (fun r' h' => h' = h ∧ r' = .inl (some (.int ((vw Ls r).1 i)))) := by
  obtain ⟨Kd, Vl, Fd, Sh, ⟨k1, -, -, -⟩, G⟩ := T
  have M := c_S_kindIn l D aC h (A d).1 _ _ _ _ (nI i) Kd (S d hd).1 k1
  rw [if_neg (by rintro (q | q); exact nI_pos (by omega) q; exact absurd (show nI 8 < nI i from q) (nI_nlt (by omega) (by omega))), nI_clamp (by omega), G.1 i hi] at M
  exact M
theorem c_val (l : Launch) (D : va_G) {aC : Nat → ClassId} (S : siH h aC A) {d m i : Nat} {r : List Nat} (hd : d < 5) (T : tS h aC (A d) m Ls r) (hi : i ≤ m) (hm : m ≤ 8) (hz : (vw Ls r).1 i = 0) :
    zz_Ct l D aC y_S_valueIn (zrm 0 0 0 0) [.ref (A d).1, .int (nI i)] h (fun r' h' => h' = h ∧ r' = .inl (some (.int (vwV Ls r i)))) := by
  obtain ⟨Kd, Vl, Fd, Sh, ⟨-, k1, -, -⟩, G⟩ := T
  have M := c_S_valueIn l D aC h (A d).1 _ _ _ _ (nI i) Vl (S d hd).1 k1
  rw [if_neg (by rintro (q | q); exact nI_pos (by omega) q; exact absurd (show nI 8 < nI i from q) (nI_nlt (by omega) (by omega))), nI_clamp (by omega), G.2.2 i hi hz] at M
  exact M
end TL
set_option maxHeartbeats 4000000 in
theorem c_T_look (l : Launch) (D : va_G) (aC : Nat → ClassId) (h : zz_Hp) (t la sa : Nat) (A : zA5) (n : Nat) (Ls : zLs) (W : tW h aC t la sa A n Ls) (jj m : Nat) (hjj : jj ≤ 9999 ∧ pok jj = true) (hm : m ≤ n) :
    zz_Ct l D aC y_T_look (zrm 2 0 0 90) [.ref t, .int (nI jj), .int (nI m)] h (fun r' h' => r' = .inl (some (va_rf (some (A (rp jj).length).1))) ∧ sFr A 0 h h' ∧ siH h' aC A ∧ tS h' aC (A (rp jj).length) m Ls (rp jj) ∧ (rp jj).length ≤ 4) := by
  refine zz_ct md_T_look rfl (by simp [Value.category]) (Nat.le_of_ble_eq_true rfl) fun K C E hI => ?_
  obtain rfl := E.ac
  have loop : ∀ (g d j : Nat) (r : List Nat) (hc : zz_Hp), d + g = 4 → j < 10 ^ g → (nmF g j).all nz = true → (nmF g j).reverse ++ r = rp jj → r.length = d → sFr A 0 h hc → siH hc (zz_ac K) A → tS hc (zz_ac K) (A d) m Ls r → zz_Z K (zz_End K h (fun r' h' => r' = .inl (some (va_rf (some (A (rp jj).length).1))) ∧ sFr A 0 h h' ∧ siH h' (zz_ac K) A ∧ tS h' (zz_ac K) (A (rp jj).length) m Ls (rp jj) ∧ (rp jj).length ≤ 4)) h hc 0 0 22 [some (.ref t), some (.int (nI jj)), some (.int (nI m)), some (.ref ((A d).1)), some (.int (nI j)), some (.int (nI (d + 1)))] [] := by
    intro g
    induction g with
    | zero =>
      intro d j r hc hdg hj hnz hR hlen hfr S T
      have hj2 := p10 (show _ ≤ 4 by omega) hj
      have Wc := W.fr hfr S
      refine zz_go C [(22, .iload 5), (24, .iconst 4)] (by decide +kernel) (pc' := 25) (lv' := [some (.ref t), some (.int (nI jj)), some (.int (nI m)), some (.ref ((A d).1)), some (.int (nI j)), some (.int (nI (d + 1)))]) (st' := [.int (nI 4), .int (nI (d + 1))]) rfl ?_
      refine zz_if C (i := .if_icmp .gt 46) (by decide +kernel) (Pt := (nI 4) < (nI (d + 1))) (Pf := ¬ (nI 4) < (nI (d + 1))) (off := 46) (r := []) (tgt := 71) rfl (by decide) (fun cA => ?_) (fun cA => ?_)
      · have hj0 : j = 0 := by simp at hj; exact hj
        have hRr : r = rp jj := by rw [← hR, hj0, nmF_0]; rfl
        refine zz_go C [(71, .aload_n 3)] (by decide +kernel) (pc' := 72) (lv' := [some (.ref t), some (.int (nI jj)), some (.int (nI m)), some (.ref ((A d).1)), some (.int (nI j)), some (.int (nI (d + 1)))]) (st' := [.ref ((A d).1)]) rfl ?_
        exact zr_a C E (r := some (A d).1) rfl (by decide) (by decide) (by decide +kernel) (by rw [← hRr, hlen]; exact ⟨rfl, hfr, S, T, by omega⟩)
      · exact absurd (show nI 4 < nI (d + 1) from nI_lt (by omega) (by omega)) cA
    | succ g ih =>
      intro d j r hc hdg hj hnz hR hlen hfr S T
      have hj2 := p10 (show _ ≤ 4 by omega) hj
      have Wc := W.fr hfr S
      refine zz_go C [(22, .iload 5), (24, .iconst 4)] (by decide +kernel) (pc' := 25) (lv' := [some (.ref t), some (.int (nI jj)), some (.int (nI m)), some (.ref ((A d).1)), some (.int (nI j)), some (.int (nI (d + 1)))]) (st' := [.int (nI 4), .int (nI (d + 1))]) rfl ?_
      refine zz_if C (i := .if_icmp .gt 46) (by decide +kernel) (Pt := (nI 4) < (nI (d + 1))) (Pf := ¬ (nI 4) < (nI (d + 1))) (off := 46) (r := []) (tgt := 71) rfl (by decide) (fun cA => ?_) (fun cA => ?_)
      · have hj0 : j = 0 := absurd ((nI_ltI (by omega) (by omega)).mp (show nI 4 < nI (d + 1) from cA)) (by omega)
        have hRr : r = rp jj := by rw [← hR, hj0, nmF_0]; rfl
        refine zz_go C [(71, .aload_n 3)] (by decide +kernel) (pc' := 72) (lv' := [some (.ref t), some (.int (nI jj)), some (.int (nI m)), some (.ref ((A d).1)), some (.int (nI j)), some (.int (nI (d + 1)))]) (st' := [.ref ((A d).1)]) rfl ?_
        exact zr_a C E (r := some (A d).1) rfl (by decide) (by decide) (by decide +kernel) (by rw [← hRr, hlen]; exact ⟨rfl, hfr, S, T, by omega⟩)
      · refine zz_go C [(28, .iload 4)] (by decide +kernel) (pc' := 30) (lv' := [some (.ref t), some (.int (nI jj)), some (.int (nI m)), some (.ref ((A d).1)), some (.int (nI j)), some (.int (nI (d + 1)))]) (st' := [.int (nI j)]) rfl ?_
        refine zz_if C (i := .ifCond .le 41) (by decide +kernel) (Pt := (nI j) ≤ 0) (Pf := ¬ (nI j) ≤ 0) (off := 41) (r := []) (tgt := 71) rfl (by decide) (fun cB => ?_) (fun cB => ?_)
        · have hj0 : j = 0 := Nat.eq_zero_of_not_pos (fun e => absurd cB (nI_nle e (by omega)))
          have hRr : r = rp jj := by rw [← hR, hj0, nmF_0]; rfl
          refine zz_go C [(71, .aload_n 3)] (by decide +kernel) (pc' := 72) (lv' := [some (.ref t), some (.int (nI jj)), some (.int (nI m)), some (.ref ((A d).1)), some (.int (nI j)), some (.int (nI (d + 1)))]) (st' := [.ref ((A d).1)]) rfl ?_
          exact zr_a C E (r := some (A d).1) rfl (by decide) (by decide) (by decide +kernel) (by rw [← hRr, hlen]; exact ⟨rfl, hfr, S, T, by omega⟩)
        · have hj0 : ¬ j = 0 := fun e => cB (by rw [e]; decide)
          rw [nmF_s g hj0] at hnz hR
          rw [List.all_cons, Bool.and_eq_true] at hnz
          have hx0 : ¬ j % 10 = 0 := of_decide_eq_true hnz.1
          refine zz_go C [(33, .aload_n 0)] (by decide +kernel) (pc' := 34) (lv' := [some (.ref t), some (.int (nI jj)), some (.int (nI m)), some (.ref ((A d).1)), some (.int (nI j)), some (.int (nI (d + 1)))]) (st' := [.ref t]) rfl ?_
          refine zz_get C fd_T_24 Wc.2.2.2.1 (v := .ref sa) rfl (by decide +kernel) ?_
          refine zz_go C [(37, .iload 5)] (by decide +kernel) (pc' := 39) (lv' := [some (.ref t), some (.int (nI jj)), some (.int (nI m)), some (.ref ((A d).1)), some (.int (nI j)), some (.int (nI (d + 1)))]) (st' := [.int (nI (d + 1)), .ref sa]) rfl ?_
          refine ts_ld C Wc.2.2.2.2.2.1 (by omega) (by decide +kernel) ?_
          refine zz_go C [(40, .aload_n 3), (41, .iload 4), (43, .bipush 10), (45, .irem), (46, .iload_n 2)] (by decide +kernel) (pc' := 47) (lv' := [some (.ref t), some (.int (nI jj)), some (.int (nI m)), some (.ref ((A d).1)), some (.int (nI j)), some (.int (nI (d + 1)))]) (st' := [.int (nI m), .int ((nI j) - (nI j) / (nI 10) * (nI 10)), .ref ((A d).1), .ref ((A (d + 1)).1)]) rfl ?_
          rw [pk_rem (show j < 2 ^ 31 by omega) (by decide) (by decide)]
          refine zz_cV C E (ci := 1) (As := [.ref ((A d).1), .int (nI (j % 10)), .int (nI m)]) (rest := []) (hc := hc) md_S_see (c_see l D Wc T (by omega) hm (show 1 ≤ j % 10 by omega) (by omega)) ml_T_142 im_S_see se_S_see rfl (S (d + 1) (by omega)).1 (fun _ _ q => q) rfl rfl (Nat.le_of_ble_eq_true rfl) ⟨by decide, by decide⟩ ⟨by decide, by decide⟩ (by decide +kernel) (fun v h' hp hn hd => ?_) (fun v h' hp hn hd => ?_)
          · rw [zz_mix_self hd]
            obtain ⟨hv, hf2, T2⟩ := hp
            cases hv
            show zz_Z _ _ _ _ _ _ _ _ []
            have S2 : siH h' (zz_ac K) A := S.see Wc.2.1 (by omega) hf2 T2
            have fr2 : sFr A 0 hc h' := sFr.one (Nat.zero_le (d + 1)) (by omega) hf2
            have W2 := Wc.fr fr2 S2
            refine zz_go C [(50, .aload_n 0)] (by decide +kernel) (pc' := 51) (lv' := [some (.ref t), some (.int (nI jj)), some (.int (nI m)), some (.ref ((A d).1)), some (.int (nI j)), some (.int (nI (d + 1)))]) (st' := [.ref t]) rfl ?_
            refine zz_get C fd_T_24 W2.2.2.2.1 (v := .ref sa) rfl (by decide +kernel) ?_
            refine zz_go C [(54, .iload 5)] (by decide +kernel) (pc' := 56) (lv' := [some (.ref t), some (.int (nI jj)), some (.int (nI m)), some (.ref ((A d).1)), some (.int (nI j)), some (.int (nI (d + 1)))]) (st' := [.int (nI (d + 1)), .ref sa]) rfl ?_
            refine ts_ld C W2.2.2.2.2.2.1 (by omega) (by decide +kernel) ?_
            refine zz_go C [(57, .astore_n 3), (58, .iload 4), (60, .bipush 10), (62, .idiv), (63, .istore 4), (65, .iinc 5 1), (68, .goto (-46))] (by decide +kernel) (pc' := 22) (lv' := [some (.ref t), some (.int (nI jj)), some (.int (nI m)), some (.ref ((A (d + 1)).1)), some (.int ((nI j) / (nI 10))), some (.int ((nI (d + 1)) + (nI 1)))]) (st' := []) rfl ?_
            rw [pk_div (show j < 2 ^ 31 by omega) (by decide) (by decide), show nI (d + 1) + nI 1 = nI (d + 1 + 1) from nI_add (d + 1) 1]
            exact ih (d + 1) (j / 10) (j % 10 :: r) h' (by omega) (lt10 hj) hnz.2 (by rw [← hR, List.reverse_cons, List.append_assoc]; rfl) (by rw [List.length_cons, hlen]) (hfr.tr fr2) S2 T2
          · cases hp.1
  obtain ⟨hj9, hok⟩ := hjj
  obtain ⟨⟨n1, n8⟩, w2, w3, w4, ⟨Lr, w5, w5b⟩, w6, w7, w8, w9⟩ := id W
  refine zz_go C [(0, .aload_n 0)] (by decide +kernel) (pc' := 1) (lv' := [some (.ref t), some (.int (nI jj)), some (.int (nI m)), none, none, none]) (st' := [.ref t]) rfl ?_
  refine zz_get C fd_T_24 W.2.2.2.1 (v := .ref sa) rfl (by decide +kernel) ?_
  refine zz_go C [(4, .iconst 0)] (by decide +kernel) (pc' := 5) (lv' := [some (.ref t), some (.int (nI jj)), some (.int (nI m)), none, none, none]) (st' := [.int (nI 0), .ref sa]) rfl ?_
  refine ts_ld C W.2.2.2.2.2.1 (j := 0) (by decide) (by decide +kernel) ?_
  refine zz_go C [(6, .astore_n 3), (7, .aload_n 3), (8, .aload_n 0)] (by decide +kernel) (pc' := 9) (lv' := [some (.ref t), some (.int (nI jj)), some (.int (nI m)), some (.ref ((A 0).1)), none, none]) (st' := [.ref t, .ref ((A 0).1)]) rfl ?_
  refine zz_get C fd_T_11 W.2.2.2.1 (v := .ref la) rfl (by decide +kernel) ?_
  refine zz_go C [(12, .iload_n 2)] (by decide +kernel) (pc' := 13) (lv' := [some (.ref t), some (.int (nI jj)), some (.int (nI m)), some (.ref ((A 0).1)), none, none]) (st' := [.int (nI m), .ref la, .ref ((A 0).1)]) rfl ?_
  obtain ⟨s0, s1, s2, s3, s4⟩ := w7 0 (by decide)
  refine zz_cV C E (ci := 1) (As := [.ref la, .int (nI m)]) (rest := []) (hc := h) md_S_seeRoot (c_S_seeRoot l D (zz_ac K) h (A 0).1 _ _ _ _ la m Lr (w2.1 0 (by decide)) (w7.mk (by decide) s0) s0 s1 s2 s3 s4 (w3 0 (by decide)) w5 (by omega) (fun i hi => by
      obtain ⟨q, hq, hq1⟩ := (w8 i (by omega)).2.2.2.2.2
      exact ⟨q.1, q.2.1, q.2.2.1, q.2.2.2, by rw [w5b i (by omega), hq]; rfl, (w8 i (by omega)).1 [] q hq⟩)) ml_T_138 im_S_seeRoot se_S_seeRoot rfl s0 (fun _ _ q => q) rfl rfl (Nat.le_of_ble_eq_true rfl) ⟨by decide, by decide⟩ ⟨by decide, by decide⟩ (by decide +kernel) (fun v h' hp hn hd => ?_) (fun v h' hp hn hd => ?_)
  · rw [zz_mix_self hd]
    obtain ⟨hv, hf2, T2⟩ := hp
    cases hv
    show zz_Z _ _ _ _ _ _ _ _ []
    have S2 : siH h' (zz_ac K) A := w7.see w2 (by decide) hf2 T2
    have fr2 : sFr A 0 h h' := sFr.one (Nat.zero_le 0) (by decide) hf2
    have T3 : tS h' (zz_ac K) (A 0) m Ls [] := by
      obtain ⟨Kd, Vl, Fd, Sh, hh4, g1, g2, g3⟩ := T2
      exact ⟨Kd, Vl, Fd, Sh, hh4, g1, fun i hi => ⟨by rw [(g2 i hi).1, w5b i (by omega)], (g2 i hi).2⟩, g3⟩
    refine zz_go C [(16, .iload_n 1), (17, .istore 4), (19, .iconst 1), (20, .istore 5)] (by decide +kernel) (pc' := 22) (lv' := [some (.ref t), some (.int (nI jj)), some (.int (nI m)), some (.ref ((A 0).1)), some (.int (nI jj)), some (.int (nI 1))]) (st' := []) rfl ?_
    exact loop 4 0 jj [] h' rfl (by omega) hok (List.append_nil _) rfl fr2 S2 T3
  · cases hp.1
