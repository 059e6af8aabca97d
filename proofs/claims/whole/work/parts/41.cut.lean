/-! ===== marks are taken away ===== -/
/-- all marks at R and below it taken away -/
def ctU (u : List Nat → Option zMk) (R : List Nat) : List Nat → Option zMk := fun s => if R <:+ s then none else u s
section CU
variable {h h' : zz_Hp} {aC : Nat → ClassId} {t la sa n : Nat} {A : zA5} {Ls : zLs}
theorem ctU_y {u : List Nat → Option zMk} {R s : List Nat} (hs : R <:+ s) : ctU u R s = none := if_pos hs
theorem ctU_n {u : List Nat → Option zMk} {R s : List Nat} (hs : ¬ R <:+ s) : ctU u R s = u s := if_neg hs
theorem ctU_some {u : List Nat → Option zMk} {R s : List Nat} {q : zMk} (hs : ctU u R s = some q) : ¬ R <:+ s ∧ u s = some q := by
  by_cases e : R <:+ s
  · rw [ctU_y e] at hs; cases hs
  · rw [ctU_n e] at hs; exact ⟨e, hs⟩
theorem ctU_none {u : List Nat → Option zMk} {R s : List Nat} (hs : u s = none) : ctU u R s = none := by
  by_cases e : R <:+ s
  · exact ctU_y e
  · rw [ctU_n e]; exact hs
theorem ctU_id {u : List Nat → Option zMk} {R : List Nat} (T : trP h aC u) (hR : u R = none) : ctU u R = u := by
  funext s
  by_cases e : R <:+ s
  · rw [ctU_y e]
    obtain ⟨z, rfl⟩ := e
    exact (T.no hR z).symm
  · exact ctU_n e
theorem tW.cut (W : tW h aC t la sa A n Ls) {k : Nat} (hkn : k < n) {r : List Nat} {q : zMk} {j c : Nat} (hr : Ls k r = some q) (hc : q.2.2.2 = some c) {f : Nat → Option Nat} (hf : h c = some (maE aC 10 f)) (H3 : h' c = some (maE aC 10 (va_up f j none))) (H4 : ∀ x e, h x = some e → x ≠ c → h' x = some e) : tW h' aC t la sa A n (lyU Ls k (ctU (Ls k) (j :: r))) := by
  have U := W.2.2.2.2.2.2.2.2.in hkn
  obtain ⟨a1, a2, a3, a4, a5, q6, a6, a7⟩ := W.2.2.2.2.2.2.2.1 k hkn
  have hroot : ctU (Ls k) (j :: r) [] = Ls k [] := ctU_n (fun e => absurd (List.suffix_nil.mp e) (by simp))
  refine W.top hkn (fun x e hx hn => H4 x e hx (fun z => (hn r q hr).2 (by rw [z]; exact hc))) ⟨fun x q0 hx => ?_, fun x q0 c0 hx hc0 => ?_, fun x q0 i hx hc0 => ?_, fun x i hx => ?_, fun x i hb => ctU_none (a5 x i hb), q6, by rw [hroot]; exact a6, a7⟩ (by rw [hroot]) (fun x q0 hx => Or.inl ⟨q0, (ctU_some hx).2, rfl⟩) (fun x q0 c hx hc => Or.inl ⟨q0, (ctU_some hx).2, hc⟩) ⟨fun x x' p p' hx hx' e => U.1 x x' p p' (ctU_some hx).2 (ctU_some hx').2 e, fun x x' p p' c hx hx' e e' => U.2 x x' p p' c (ctU_some hx).2 (ctU_some hx').2 e e'⟩
  · have h2 := a1 x q0 (ctU_some hx).2
    exact H4 _ _ h2 (ne_k h2 hf (by rw [ki_mk, ki_ma]; decide))
  · obtain ⟨n1, h2⟩ := ctU_some hx
    obtain ⟨g, hg, hgj⟩ := a2 x q0 c0 h2 hc0
    by_cases e : c0 = c
    · subst e
      have hxr : x = r := U.2 x r q0 q c0 h2 hr hc0 hc
      subst hxr
      have hfg : f = g := va_fun (Option.some.inj (hf.symm.trans hg))
      subst hfg
      refine ⟨_, H3, fun i i1 i9 => ?_⟩
      by_cases ei : i = j
      · subst ei; rw [va_up_self, ctU_y (List.suffix_refl _)]; rfl
      · rw [va_up_ne _ _ ei, hgj i i1 i9, ctU_n]
        intro z
        have z2 := z.eq_of_length (by rw [List.length_cons, List.length_cons])
        exact ei (List.cons.inj z2).1.symm
    · refine ⟨g, H4 _ _ hg e, fun i i1 i9 => ?_⟩
      rw [hgj i i1 i9, ctU_n]
      intro z
      rcases List.suffix_cons_iff.mp z with z | z
      · exact e (Option.some.inj (hc0.symm.trans (by
          have hxr := (List.cons.inj z).2
          rw [← hxr, hr] at h2; cases h2; exact hc)))
      · exact n1 z
  · exact ctU_none (a3 x q0 i (ctU_some hx).2 hc0)
  · by_cases e : (j :: r) <:+ x
    · exact ctU_y (e.trans (List.suffix_cons i x))
    · rw [ctU_n e] at hx; exact ctU_none (a4 x i hx)
/-- the view of the lowest layers does not rest on those above -/
theorem vw_lt {Ls Ls' : zLs} {m : Nat} (hL : ∀ i, i < m → Ls i = Ls' i) : ∀ r : List Nat, (∀ i, i ≤ m → (vw Ls r).1 i = (vw Ls' r).1 i) ∧ ∀ i, i < m → (vw Ls r).2 i = (vw Ls' r).2 i
  | [] => ⟨fun _ _ => rfl, fun _ _ => rfl⟩
  | x :: r => by
    obtain ⟨h1, h2⟩ := vw_lt hL r
    have hk : ∀ i, i ≤ m → (vw Ls (x :: r)).1 i = (vw Ls' (x :: r)).1 i := fun i => by
      induction i with
      | zero => intro _; rfl
      | succ i ih =>
        intro hi
        show alK ((vw Ls r).1 (i + 1)) (bI ((vw Ls r).2 i)) (mkA (Ls i (x :: r))) (mkS (Ls i (x :: r))) ((vw Ls (x :: r)).1 i) = alK ((vw Ls' r).1 (i + 1)) (bI ((vw Ls' r).2 i)) (mkA (Ls' i (x :: r))) (mkS (Ls' i (x :: r))) ((vw Ls' (x :: r)).1 i)
        rw [h1 (i + 1) hi, h2 i hi, hL i hi, ih (by omega)]
    refine ⟨hk, fun i hi => ?_⟩
    show alS (bI ((vw Ls r).2 i)) (mkA (Ls i (x :: r))) (mkS (Ls i (x :: r))) ((vw Ls (x :: r)).1 i) = alS (bI ((vw Ls' r).2 i)) (mkA (Ls' i (x :: r))) (mkS (Ls' i (x :: r))) ((vw Ls' (x :: r)).1 i)
    rw [h2 i hi, hL i hi, hk i (by omega)]
end CU
set_option maxHeartbeats 4000000 in
theorem c_T_clearMarks (l : Launch) (D : va_G) (aC : Nat → ClassId) (h : zz_Hp) (t la sa : Nat) (A : zA5) (m : Nat) (Ls : zLs) (W : tW h aC t la sa A (m + 1) Ls) (jj : Nat) (hj0 : ¬ jj = 0) (hj : jj ≤ 9999 ∧ pok jj = true) :
    zz_Ct l D aC y_T_clearMarks (zrm 1 1 10 60) [.ref t, .int (nI jj)] h (fun r' h' => r' = .inl none ∧ tW h' aC t la sa A (m + 1) (lyU Ls m (ctU (Ls m) (rp jj)))) := by
  refine zz_ct md_T_clearMarks rfl (by simp [Value.category]) (Nat.le_of_ble_eq_true rfl) fun K C E hI => ?_
  obtain rfl := E.ac
  obtain ⟨hj9, hok⟩ := hj
  have T := W.2.2.2.2.2.2.2.1 m (Nat.lt_succ_self m)
  have fin0 : Ls m (rp jj) = none → ∀ (l3 l4 : Value), zz_Z K (zz_End K h (fun r' h' => r' = .inl none ∧ tW h' (zz_ac K) t la sa A (m + 1) (lyU Ls m (ctU (Ls m) (rp jj))))) h h 0 0 53 [some (.ref t), some (.int (nI jj)), some .null, some l3, some l4] [] := by
    intro hn l3 l4
    refine zz_lv [some (.ref t), some (.int (nI jj)), some .null, none, none] (fun j u hu => by rcases j with _ | _ | _ | _ | _ | j <;> first | exact hu | cases hu) (Nat.le_of_ble_eq_true rfl) ?_
    refine zz_go C [(53, .aload_n 2), (54, .ifnull 17)] (by decide +kernel) (pc' := 71) (lv' := [some (.ref t), some (.int (nI jj)), some (.null), none, none]) (st' := []) rfl ?_
    exact zr_v C E (by decide) (by decide) (by decide +kernel) (⟨rfl, by rw [ctU_id T hn, lyU_self]; exact W⟩)
  have fin : ∀ (d j : Nat) (r : List Nat) (q : zMk), 1 ≤ j → j ≤ 9 → j :: r = rp jj → Ls m r = some q → zz_Z K (zz_End K h (fun r' h' => r' = .inl none ∧ tW h' (zz_ac K) t la sa A (m + 1) (lyU Ls m (ctU (Ls m) (rp jj))))) h h 0 0 53 [some (.ref t), some (.int (nI jj)), some (.ref q.1), some (.int (nI j)), some (.int (nI (d + 1)))] [] := by
    intro d j r q j1 j9 hR hq
    refine zz_go C [(53, .aload_n 2), (54, .ifnull 17), (57, .aload_n 2), (58, .iload_n 3)] (by decide +kernel) (pc' := 59) (lv' := [some (.ref t), some (.int (nI jj)), some (.ref q.1), some (.int (nI j)), some (.int (nI (d + 1)))]) (st' := [.int (nI j), .ref q.1]) rfl ?_
    refine zz_cV C E (ci := 0) (As := [.int (nI j)]) (rest := []) (hc := h) md_M_at (c_at l D T hq j1 j9) ml_T_107 im_M_at se_M_at rfl (T.1 r q hq) (fun _ _ q => q) rfl rfl (Nat.le_of_ble_eq_true rfl) ⟨by decide, by decide⟩ ⟨(by decide), (by decide)⟩ (by decide +kernel) (fun v h' hp hn hd => ?_) (fun v h' hp hn hd => ?_)
    · rw [zz_mix_self hd]
      obtain ⟨hh, hv⟩ := hp
      rw [hh]
      cases hv
      cases hu : Ls m (j :: r) with
      | none =>
        show zz_Z _ _ _ _ _ _ _ [some (.ref t), some (.int (nI jj)), some (.ref q.1), some (.int (nI j)), some (.int (nI (d + 1)))] [.null]
        refine zz_go C [(62, .ifnull 9)] (by decide +kernel) (pc' := 71) (lv' := [some (.ref t), some (.int (nI jj)), some (.ref q.1), some (.int (nI j)), some (.int (nI (d + 1)))]) (st' := []) rfl ?_
        exact zr_v C E (by decide) (by decide) (by decide +kernel) (⟨rfl, by rw [ctU_id T (by rw [← hR]; exact hu), lyU_self]; exact W⟩)
      | some q1 =>
        show zz_Z _ _ _ _ _ _ _ [some (.ref t), some (.int (nI jj)), some (.ref q.1), some (.int (nI j)), some (.int (nI (d + 1)))] [.ref q1.1]
        obtain ⟨c, hc⟩ : ∃ c, q.2.2.2 = some c := by
          cases hc : q.2.2.2 with
          | none => rw [T.2.2.1 r q j hq hc] at hu; cases hu
          | some c => exact ⟨c, rfl⟩
        obtain ⟨g, hg, hgj⟩ := T.2.1 r q c hq hc
        refine zz_go C [(62, .ifnull 9), (65, .aload_n 2), (66, .iload_n 3), (67, .aconst_null)] (by decide +kernel) (pc' := 68) (lv' := [some (.ref t), some (.int (nI jj)), some (.ref q.1), some (.int (nI j)), some (.int (nI (d + 1)))]) (st' := [.null, .int (nI j), .ref q.1]) rfl ?_
        refine zz_cV C E (ci := 0) (As := [.int (nI j), .null]) (rest := []) (hc := h) md_M_hang (c_M_hang0 l D (zz_ac K) h q.1 j q.2.1 q.2.2.1 q.2.2.2 g (T.1 r q hq) (fun c2 h2 => by rw [hc] at h2; cases h2; exact hg) j1 j9) ml_T_160 im_M_hang se_M_hang rfl (T.1 r q hq) (fun _ _ q => q) rfl rfl (Nat.le_of_ble_eq_true rfl) ⟨by decide, by decide⟩ ⟨(by decide), (by decide)⟩ (by decide +kernel) (fun v1 h1 hp hn hd => ?_) (fun v1 h1 hp hn hd => ?_)
        · rw [zz_mix_self hd]
          obtain ⟨q9, hh, hv, -⟩ := hp
          cases hv
          show zz_Z _ _ _ _ _ _ _ [some (.ref t), some (.int (nI jj)), some (.ref q.1), some (.int (nI j)), some (.int (nI (d + 1)))] []
          rw [hc] at hh
          have hh2 : h1 = va_up h c (some (maE (zz_ac K) 10 (va_up g j none))) := hh
          have W2 := W.cut (h' := h1) (j := j) (Nat.lt_succ_self m) hq hc hg (by rw [hh2, va_up_self]) (fun x e hx hn => by rw [hh2, va_up_ne _ _ hn]; exact hx)
          rw [hR] at W2
          exact zr_v C E (by decide) (by decide) (by decide +kernel) (⟨rfl, W2⟩)
        · obtain ⟨_, _, hv, _⟩ := hp; cases hv
    · cases hp.2
  have loop : ∀ (g d j : Nat) (r : List Nat), d + g = 3 → ¬ j = 0 → j < 10 ^ (g + 1) → (nmF (g + 1) j).all nz = true → (nmF (g + 1) j).reverse ++ r = rp jj → r.length = d → zz_Z K (zz_End K h (fun r' h' => r' = .inl none ∧ tW h' (zz_ac K) t la sa A (m + 1) (lyU Ls m (ctU (Ls m) (rp jj))))) h h 0 0 17 [some (.ref t), some (.int (nI jj)), some (va_rf (mkA (Ls m r))), some (.int (nI j)), some (.int (nI (d + 1)))] [] := by
    intro g
    induction g with
    | zero =>
      intro d j r hdg hj0 hj hnz hR hlen
      have hj2 := p10 (show _ ≤ 4 by omega) hj
      cases hu : Ls m r with
      | none =>
        show zz_Z _ _ _ _ _ _ _ [some (.ref t), some (.int (nI jj)), some (.null), some (.int (nI j)), some (.int (nI (d + 1)))] []
        have hnR : Ls m (rp jj) = none := by rw [← hR]; exact T.no hu _
        refine zz_go C [(17, .iload 4), (19, .iconst 4)] (by decide +kernel) (pc' := 20) (lv' := [some (.ref t), some (.int (nI jj)), some (.null), some (.int (nI j)), some (.int (nI (d + 1)))]) (st' := [.int (nI 4), .int (nI (d + 1))]) rfl ?_
        refine zz_if C (i := .if_icmp .ge 33) (by decide +kernel) (Pt := (nI 4) ≤ (nI (d + 1))) (Pf := ¬ (nI 4) ≤ (nI (d + 1))) (off := 33) (r := []) (tgt := 53) rfl (by decide) (fun cA => ?_) (fun cA => ?_)
        · exact fin0 hnR _ _
        · exact absurd (nI_le (by omega) (by omega)) cA
      | some q =>
        show zz_Z _ _ _ _ _ _ _ [some (.ref t), some (.int (nI jj)), some (.ref q.1), some (.int (nI j)), some (.int (nI (d + 1)))] []
        refine zz_go C [(17, .iload 4), (19, .iconst 4)] (by decide +kernel) (pc' := 20) (lv' := [some (.ref t), some (.int (nI jj)), some (.ref q.1), some (.int (nI j)), some (.int (nI (d + 1)))]) (st' := [.int (nI 4), .int (nI (d + 1))]) rfl ?_
        refine zz_if C (i := .if_icmp .ge 33) (by decide +kernel) (Pt := (nI 4) ≤ (nI (d + 1))) (Pf := ¬ (nI 4) ≤ (nI (d + 1))) (off := 33) (r := []) (tgt := 53) rfl (by decide) (fun cA => ?_) (fun cA => ?_)
        · exact fin d j r q (by omega) (by omega) (by rw [← hR, nm1 hj0 (by omega)]; rfl) hu
        · exact absurd (nI_le (by omega) (by omega)) cA
    | succ g ih =>
      intro d j r hdg hj0 hj hnz hR hlen
      have hj2 := p10 (show _ ≤ 4 by omega) hj
      cases hu : Ls m r with
      | none =>
        show zz_Z _ _ _ _ _ _ _ [some (.ref t), some (.int (nI jj)), some (.null), some (.int (nI j)), some (.int (nI (d + 1)))] []
        have hnR : Ls m (rp jj) = none := by rw [← hR]; exact T.no hu _
        refine zz_go C [(17, .iload 4), (19, .iconst 4)] (by decide +kernel) (pc' := 20) (lv' := [some (.ref t), some (.int (nI jj)), some (.null), some (.int (nI j)), some (.int (nI (d + 1)))]) (st' := [.int (nI 4), .int (nI (d + 1))]) rfl ?_
        refine zz_if C (i := .if_icmp .ge 33) (by decide +kernel) (Pt := (nI 4) ≤ (nI (d + 1))) (Pf := ¬ (nI 4) ≤ (nI (d + 1))) (off := 33) (r := []) (tgt := 53) rfl (by decide) (fun cA => ?_) (fun cA => ?_)
        · exact fin0 hnR _ _
        · refine zz_go C [(23, .iload_n 3), (24, .bipush 9)] (by decide +kernel) (pc' := 26) (lv' := [some (.ref t), some (.int (nI jj)), some (.null), some (.int (nI j)), some (.int (nI (d + 1)))]) (st' := [.int (nI 9), .int (nI j)]) rfl ?_
          refine zz_if C (i := .if_icmp .le 27) (by decide +kernel) (Pt := (nI j) ≤ (nI 9)) (Pf := ¬ (nI j) ≤ (nI 9)) (off := 27) (r := []) (tgt := 53) rfl (by decide) (fun cB => ?_) (fun cB => ?_)
          · exact fin0 hnR _ _
          · refine zz_go C [(29, .aload_n 2), (30, .ifnull 23)] (by decide +kernel) (pc' := 53) (lv' := [some (.ref t), some (.int (nI jj)), some (.null), some (.int (nI j)), some (.int (nI (d + 1)))]) (st' := []) rfl ?_
            exact fin0 hnR _ _
      | some q =>
        show zz_Z _ _ _ _ _ _ _ [some (.ref t), some (.int (nI jj)), some (.ref q.1), some (.int (nI j)), some (.int (nI (d + 1)))] []
        refine zz_go C [(17, .iload 4), (19, .iconst 4)] (by decide +kernel) (pc' := 20) (lv' := [some (.ref t), some (.int (nI jj)), some (.ref q.1), some (.int (nI j)), some (.int (nI (d + 1)))]) (st' := [.int (nI 4), .int (nI (d + 1))]) rfl ?_
        refine zz_if C (i := .if_icmp .ge 33) (by decide +kernel) (Pt := (nI 4) ≤ (nI (d + 1))) (Pf := ¬ (nI 4) ≤ (nI (d + 1))) (off := 33) (r := []) (tgt := 53) rfl (by decide) (fun cA => ?_) (fun cA => ?_)
        · exact absurd ((nI_leI (by omega) (by omega)).mp cA) (by omega)
        · refine zz_go C [(23, .iload_n 3), (24, .bipush 9)] (by decide +kernel) (pc' := 26) (lv' := [some (.ref t), some (.int (nI jj)), some (.ref q.1), some (.int (nI j)), some (.int (nI (d + 1)))]) (st' := [.int (nI 9), .int (nI j)]) rfl ?_
          refine zz_if C (i := .if_icmp .le 27) (by decide +kernel) (Pt := (nI j) ≤ (nI 9)) (Pf := ¬ (nI j) ≤ (nI 9)) (off := 27) (r := []) (tgt := 53) rfl (by decide) (fun cB => ?_) (fun cB => ?_)
          · have j9 := (nI_leI (by omega) (by decide)).mp cB
            exact fin d j r q (by omega) j9 (by rw [← hR, nm1 hj0 j9]; rfl) hu
          · have j9 : ¬ j ≤ 9 := fun z => cB (nI_le z (by decide))
            rw [nmF_s _ hj0] at hnz hR
            rw [List.all_cons, Bool.and_eq_true] at hnz
            have hx0 : ¬ j % 10 = 0 := of_decide_eq_true hnz.1
            refine zz_go C [(29, .aload_n 2), (30, .ifnull 23), (33, .aload_n 2), (34, .iload_n 3), (35, .bipush 10), (37, .irem)] (by decide +kernel) (pc' := 38) (lv' := [some (.ref t), some (.int (nI jj)), some (.ref q.1), some (.int (nI j)), some (.int (nI (d + 1)))]) (st' := [.int ((nI j) - (nI j) / (nI 10) * (nI 10)), .ref q.1]) rfl ?_
            rw [pk_rem (show j < 2 ^ 31 by omega) (by decide) (by decide)]
            refine zz_cV C E (ci := 0) (As := [.int (nI (j % 10))]) (rest := []) (hc := h) md_M_at (c_at l D T hu (show 1 ≤ j % 10 by omega) (by omega)) ml_T_107 im_M_at se_M_at rfl (T.1 r q hu) (fun _ _ q => q) rfl rfl (Nat.le_of_ble_eq_true rfl) ⟨by decide, by decide⟩ ⟨(by decide), (by decide)⟩ (by decide +kernel) (fun v h' hp hn hd => ?_) (fun v h' hp hn hd => ?_)
            · rw [zz_mix_self hd]
              obtain ⟨hh, hv⟩ := hp
              rw [hh]
              cases hv
              have hz := ih (d + 1) (j / 10) (j % 10 :: r) (by omega) (by omega) (lt10 hj) hnz.2 (by rw [← hR, List.reverse_cons, List.append_assoc]; rfl) (by rw [List.length_cons, hlen])
              cases hu2 : Ls m (j % 10 :: r) with
              | none =>
                rw [hu2] at hz
                show zz_Z _ _ _ _ _ _ _ [some (.ref t), some (.int (nI jj)), some (.ref q.1), some (.int (nI j)), some (.int (nI (d + 1)))] [.null]
                refine zz_go C [(41, .astore_n 2), (42, .iload_n 3), (43, .bipush 10), (45, .idiv), (46, .istore_n 3), (47, .iinc 4 1), (50, .goto (-33))] (by decide +kernel) (pc' := 17) (lv' := [some (.ref t), some (.int (nI jj)), some (.null), some (.int ((nI j) / (nI 10))), some (.int ((nI (d + 1)) + (nI 1)))]) (st' := []) rfl ?_
                rw [pk_div (show j < 2 ^ 31 by omega) (by decide) (by decide), show nI (d + 1) + nI 1 = nI (d + 1 + 1) from nI_add (d + 1) 1]
                exact hz
              | some q2 =>
                rw [hu2] at hz
                show zz_Z _ _ _ _ _ _ _ [some (.ref t), some (.int (nI jj)), some (.ref q.1), some (.int (nI j)), some (.int (nI (d + 1)))] [.ref q2.1]
                refine zz_go C [(41, .astore_n 2), (42, .iload_n 3), (43, .bipush 10), (45, .idiv), (46, .istore_n 3), (47, .iinc 4 1), (50, .goto (-33))] (by decide +kernel) (pc' := 17) (lv' := [some (.ref t), some (.int (nI jj)), some (.ref q2.1), some (.int ((nI j) / (nI 10))), some (.int ((nI (d + 1)) + (nI 1)))]) (st' := []) rfl ?_
                rw [pk_div (show j < 2 ^ 31 by omega) (by decide) (by decide), show nI (d + 1) + nI 1 = nI (d + 1 + 1) from nI_add (d + 1) 1]
                exact hz
            · cases hp.2
  obtain ⟨Lr, hla, hroot⟩ := la_root W
  obtain ⟨q, hq, hLr⟩ := hroot m (Nat.lt_succ_self m)
  have n8 := W.1.2
  refine zz_go C [(0, .aload_n 0)] (by decide +kernel) (pc' := 1) (lv' := [some (.ref t), some (.int (nI jj)), none, none, none]) (st' := [.ref t]) rfl ?_
  refine zz_get C fd_T_11 W.2.2.2.1 (v := .ref la) rfl (by decide +kernel) ?_
  refine zz_go C [(4, .aload_n 0)] (by decide +kernel) (pc' := 5) (lv' := [some (.ref t), some (.int (nI jj)), none, none, none]) (st' := [.ref t, .ref la]) rfl ?_
  refine zz_get C fd_T_18 W.2.2.2.1 (v := .int (nI (m + 1))) rfl (by decide +kernel) ?_
  refine zz_go C [(8, .iconst 1), (9, .isub)] (by decide +kernel) (pc' := 10) (lv' := [some (.ref t), some (.int (nI jj)), none, none, none]) (st' := [.int ((nI (m + 1)) - (nI 1)), .ref la]) rfl ?_
  rw [show nI (m + 1) - nI 1 = nI m from nI_pred m]
  refine ga_qld C hla (by omega) (by decide) (by decide +kernel) ?_
  rw [hLr]
  show zz_Z _ _ _ _ _ _ _ [some (.ref t), some (.int (nI jj)), none, none, none] [.ref q.1]
  refine zz_go C [(11, .astore_n 2), (12, .iload_n 1), (13, .istore_n 3), (14, .iconst 1), (15, .istore 4)] (by decide +kernel) (pc' := 17) (lv' := [some (.ref t), some (.int (nI jj)), some (.ref q.1), some (.int (nI jj)), some (.int (nI 1))]) (st' := []) rfl ?_
  have hz := loop 3 0 jj [] rfl hj0 (by omega) hok (List.append_nil _) rfl
  rw [hq] at hz
  exact hz
/-- the words of a layer with nothing at R and below it -/
def ctC (cc : List Nat → Option (Int32 × Int32)) (R x : List Nat) : Option (Int32 × Int32) := if R <:+ x then none else cc x
theorem ctC_U (u : List Nat → Option zMk) (R x : List Nat) : ctS (ctU u R x) = ctC (fun y => ctS (u y)) R x := by
  unfold ctU ctC
  by_cases c : R <:+ x
  · rw [if_pos c, if_pos c]; rfl
  · rw [if_neg c, if_neg c]
/-- the words of a layer once R is taken away in it; b: something shows from below -/
def taC (cc : List Nat → Option (Int32 × Int32)) (R : List Nat) (k : Int32) (x : List Nat) : Option (Int32 × Int32) := if k = -1 then ctC cc R x else stC (ctC cc R) R (nI 3) (nI 0) x
set_option maxHeartbeats 4000000 in
theorem c_T_takeAway (l : Launch) (D : va_G) (aC : Nat → ClassId) (h : zz_Hp) (t la sa : Nat) (A : zA5) (m : Nat) (Ls : zLs) (W : tW h aC t la sa A (m + 1) Ls) (jj : Nat) (hj0 : ¬ jj = 0) (hj : jj ≤ 9999 ∧ pok jj = true) :
    zz_Ct l D aC y_T_takeAway (zrm 5 9 62 120) [.ref t, .int (nI jj)] h (fun r' h' => r' = .inl none ∧ ∃ u, tW h' aC t la sa A (m + 1) (lyU Ls m u) ∧ ∀ x, ctS (u x) = taC (fun y => ctS (Ls m y)) (rp jj) ((vw Ls (rp jj)).1 m) x) := by
  refine zz_ct md_T_takeAway rfl (by simp [Value.category]) (Nat.le_of_ble_eq_true rfl) fun K C E hI => ?_
  obtain rfl := E.ac
  have n8 := W.1.2
  refine zz_go C [(0, .aload_n 0), (1, .iload_n 1)] (by decide +kernel) (pc' := 2) (lv' := [some (.ref t), some (.int (nI jj))]) (st' := [.int (nI jj), .ref t]) rfl ?_
  refine zz_cV C E (ci := 2) (As := [.int (nI jj)]) (rest := []) (hc := h) md_T_clearMarks (c_T_clearMarks l D (zz_ac K) h t la sa A m Ls W jj hj0 hj) ml_T_157 im_T_clearMarks se_T_clearMarks rfl W.2.2.2.1 (fun _ _ q => q) rfl rfl (Nat.le_of_ble_eq_true rfl) ⟨by decide, by decide⟩ ⟨(by decide), (by decide)⟩ (by decide +kernel) (fun v h0 hp hn hd => ?_) (fun v h0 hp hn hd => ?_)
  · rw [zz_mix_self hd]
    obtain ⟨hv, W1⟩ := hp
    cases hv
    show zz_Z _ _ _ _ _ _ _ _ []
    refine zz_go C [(5, .aload_n 0), (6, .iload_n 1), (7, .aload_n 0)] (by decide +kernel) (pc' := 8) (lv' := [some (.ref t), some (.int (nI jj))]) (st' := [.ref t, .int (nI jj), .ref t]) rfl ?_
    refine zz_get C fd_T_18 W1.2.2.2.1 (v := .int (nI (m + 1))) rfl (by decide +kernel) ?_
    refine zz_cV C E (ci := 2) (As := [.int (nI jj), .int (nI (m + 1))]) (rest := []) (hc := h0) md_T_look (c_T_look l D (zz_ac K) h0 t la sa A (m + 1) (lyU Ls m (ctU (Ls m) (rp jj))) W1 jj (m + 1) hj (Nat.le_refl _)) ml_T_36 im_T_look se_T_look rfl W1.2.2.2.1 (fun _ _ q => q) rfl rfl (Nat.le_of_ble_eq_true rfl) ⟨by decide, by decide⟩ ⟨(by decide), (by decide)⟩ (by decide +kernel) (fun v h1 hp hn hd => ?_) (fun v h1 hp hn hd => ?_)
    · rw [zz_mix_self hd]
      obtain ⟨hv, fr2, S2, T2, hlen⟩ := hp
      cases hv
      show zz_Z _ _ _ _ _ _ _ _ [.ref ((A (rp jj).length).1)]
      have W2 := W1.fr fr2 S2
      have hl5 : (rp jj).length < 5 := by omega
      refine zz_go C [(14, .aload_n 0)] (by decide +kernel) (pc' := 15) (lv' := [some (.ref t), some (.int (nI jj))]) (st' := [.ref t, .ref ((A (rp jj).length).1)]) rfl ?_
      refine zz_get C fd_T_18 W2.2.2.2.1 (v := .int (nI (m + 1))) rfl (by decide +kernel) ?_
      refine zz_go C [(18, .iconst 1), (19, .isub)] (by decide +kernel) (pc' := 20) (lv' := [some (.ref t), some (.int (nI jj))]) (st' := [.int ((nI (m + 1)) - (nI 1)), .ref ((A (rp jj).length).1)]) rfl ?_
      rw [show nI (m + 1) - nI 1 = nI m from nI_pred m]
      refine zz_cV C E (ci := 1) (As := [.int (nI m)]) (rest := []) (hc := h1) md_S_kindIn (c_kind l D S2 hl5 T2 (Nat.le_succ m) n8) ml_T_40 im_S_kindIn se_S_kindIn rfl (S2 _ hl5).1 (fun _ _ q => q) rfl rfl (Nat.le_of_ble_eq_true rfl) ⟨by decide, by decide⟩ ⟨(by decide), (by decide)⟩ (by decide +kernel) (fun v h9 hp hn hd => ?_) (fun v h9 hp hn hd => ?_)
      · rw [zz_mix_self hd]
        obtain ⟨hh, hv⟩ := hp
        rw [hh]
        cases hv
        show zz_Z _ _ _ _ _ _ _ _ [.int ((vw (lyU Ls m (ctU (Ls m) (rp jj))) (rp jj)).1 m)]
        rw [(vw_lt (m := m) (Ls := lyU Ls m (ctU (Ls m) (rp jj))) (Ls' := Ls) (fun i hi => lyU_o _ _ (by omega)) (rp jj)).1 m (Nat.le_refl m)]
        refine zz_go C [(23, .iconst (-1))] (by decide +kernel) (pc' := 24) (lv' := [some (.ref t), some (.int (nI jj))]) (st' := [.int ((-1)), .int ((vw Ls (rp jj)).1 m)]) rfl ?_
        refine zz_if C (i := .if_icmp .eq 10) (by decide +kernel) (Pt := ((vw Ls (rp jj)).1 m) = ((-1))) (Pf := ¬ ((vw Ls (rp jj)).1 m) = ((-1))) (off := 10) (r := []) (tgt := 34) rfl (by decide) (fun cA => ?_) (fun cA => ?_)
        · exact zr_v C E (by decide) (by decide) (by decide +kernel) (⟨rfl, _, W2, fun x => by rw [taC, if_pos cA]; exact ctC_U _ _ _⟩)
        · refine zz_go C [(27, .aload_n 0), (28, .iload_n 1), (29, .iconst 3), (30, .iconst 0)] (by decide +kernel) (pc' := 31) (lv' := [some (.ref t), some (.int (nI jj))]) (st' := [.int (nI 0), .int (nI 3), .int (nI jj), .ref t]) rfl ?_
          refine zz_cV C E (ci := 2) (As := [.int (nI jj), .int (nI 3), .int (nI 0)]) (rest := []) (hc := h1) md_T_setMark (c_T_setMark l D (zz_ac K) h1 t la sa A m (lyU Ls m (ctU (Ls m) (rp jj))) W2 jj (nI 3) (nI 0) hj0 hj) ml_T_44 im_T_setMark se_T_setMark rfl W2.2.2.2.1 (fun _ _ q => q) rfl rfl (Nat.le_of_ble_eq_true rfl) ⟨by decide, by decide⟩ ⟨(by decide), (by decide)⟩ (by decide +kernel) (fun v h2 hp hn hd => ?_) (fun v h2 hp hn hd => ?_)
          · rw [zz_mix_self hd]
            obtain ⟨hv, u, W3, hu⟩ := hp
            cases hv
            show zz_Z _ _ _ _ _ _ _ _ []
            rw [lyU_lyU] at W3
            rw [lyU_k] at hu
            exact zr_v C E (by decide) (by decide) (by decide +kernel) (⟨rfl, u, W3, fun x => by rw [taC, if_neg cA, hu x, show (fun y => ctS (ctU (Ls m) (rp jj) y)) = ctC (fun y => ctS (Ls m y)) (rp jj) from funext (fun y => ctC_U _ _ _)]⟩)
          · cases hp.1
      · cases hp.2
    · cases hp.1
  · cases hp.1
