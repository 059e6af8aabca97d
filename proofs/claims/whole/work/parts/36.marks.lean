/-! ===== marks ===== -/
set_option maxHeartbeats 4000000 in
theorem c_T_countMarks (l : Launch) (D : va_G) (aC : Nat → ClassId) (h : zz_Hp) (u : List Nat → Option zMk) (T : trP h aC u) : ∀ (g d : Nat) (r : List Nat) (q : zMk), d + g = 4 → u r = some q →
    zz_Ct l D aC y_T_countMarks (zrm (g + 1) 0 0 (40 + 30 * g)) [.ref q.1, .int (nI d)] h (fun r' h' => h' = h ∧ r' = .inl (some (.int (nI (cnM u g r))))) := by
  intro g
  induction g with
  | zero =>
    intro d r q hdg hq
    refine zz_ct md_T_countMarks rfl (by simp [Value.category]) (Nat.le_of_ble_eq_true rfl) fun K C E hI => ?_
    obtain rfl := E.ac
    refine zz_go C [(0, .iload_n 1), (1, .iconst 4)] (by decide +kernel) (pc' := 2) (lv' := [some (.ref q.1), some (.int (nI d)), none, none, none]) (st' := [.int (nI 4), .int (nI d)]) rfl ?_
    refine zz_if C (i := .if_icmp .lt 5) (by decide +kernel) (Pt := (nI d) < (nI 4)) (Pf := ¬ (nI d) < (nI 4)) (off := 5) (r := []) (tgt := 7) rfl (by decide) (fun cA => ?_) (fun cA => ?_)
    · exact absurd cA (nI_nlt (by omega) (by omega))
    · refine zz_go C [(5, .iconst 0)] (by decide +kernel) (pc' := 6) (lv' := [some (.ref q.1), some (.int (nI d)), none, none, none]) (st' := [.int (nI 0)]) rfl ?_
      exact zr_i C E (Nat.le_of_ble_eq_true rfl) (Nat.le_of_ble_eq_true rfl) (by decide +kernel) (⟨rfl, rfl⟩)
  | succ g IH =>
    intro d r q hdg hq
    refine zz_ct md_T_countMarks rfl (by simp [Value.category]) (Nat.le_of_ble_eq_true rfl) fun K C E hI => ?_
    obtain rfl := E.ac
    have loop : ∀ (z x : Nat), x + z = 9 → zz_Z K (zz_End K h (fun r' h' => h' = h ∧ r' = .inl (some (.int (nI (cnM u (g + 1) r)))))) h h 0 0 11 [some (.ref q.1), some (.int (nI d)), some (.int (nI (cnL (fun x => if mkA (u (x :: r)) = none then 0 else 1 + cnM u g (x :: r)) x))), some (.int (nI (x + 1))), none] [] := by
      intro z
      induction z with
      | zero =>
        intro x hxg
        refine zz_go C [(11, .iload_n 3), (12, .bipush 9)] (by decide +kernel) (pc' := 14) (lv' := [some (.ref q.1), some (.int (nI d)), some (.int (nI (cnL (fun x => if mkA (u (x :: r)) = none then 0 else 1 + cnM u g (x :: r)) x))), some (.int (nI (x + 1))), none]) (st' := [.int (nI 9), .int (nI (x + 1))]) rfl ?_
        refine zz_if C (i := .if_icmp .gt 34) (by decide +kernel) (Pt := (nI 9) < (nI (x + 1))) (Pf := ¬ (nI 9) < (nI (x + 1))) (off := 34) (r := []) (tgt := 48) rfl (by decide) (fun cA => ?_) (fun cA => ?_)
        · have hx9 : x = 9 := by omega
          refine zz_go C [(48, .iload_n 2)] (by decide +kernel) (pc' := 49) (lv' := [some (.ref q.1), some (.int (nI d)), some (.int (nI (cnL (fun x => if mkA (u (x :: r)) = none then 0 else 1 + cnM u g (x :: r)) x))), some (.int (nI (x + 1))), none]) (st' := [.int (nI (cnL (fun x => if mkA (u (x :: r)) = none then 0 else 1 + cnM u g (x :: r)) x))]) rfl ?_
          exact zr_i C E (Nat.le_of_ble_eq_true rfl) (Nat.le_of_ble_eq_true rfl) (by decide +kernel) (⟨rfl, by rw [cnM, hx9]⟩)
        · exact absurd (nI_lt (by omega) (by omega)) cA
      | succ z ih =>
        intro x hxg
        refine zz_go C [(11, .iload_n 3), (12, .bipush 9)] (by decide +kernel) (pc' := 14) (lv' := [some (.ref q.1), some (.int (nI d)), some (.int (nI (cnL (fun x => if mkA (u (x :: r)) = none then 0 else 1 + cnM u g (x :: r)) x))), some (.int (nI (x + 1))), none]) (st' := [.int (nI 9), .int (nI (x + 1))]) rfl ?_
        refine zz_if C (i := .if_icmp .gt 34) (by decide +kernel) (Pt := (nI 9) < (nI (x + 1))) (Pf := ¬ (nI 9) < (nI (x + 1))) (off := 34) (r := []) (tgt := 48) rfl (by decide) (fun cA => ?_) (fun cA => ?_)
        · exact absurd ((nI_ltI (by omega) (by omega)).mp cA) (by omega)
        · refine zz_go C [(17, .aload_n 0), (18, .iload_n 3)] (by decide +kernel) (pc' := 19) (lv' := [some (.ref q.1), some (.int (nI d)), some (.int (nI (cnL (fun x => if mkA (u (x :: r)) = none then 0 else 1 + cnM u g (x :: r)) x))), some (.int (nI (x + 1))), none]) (st' := [.int (nI (x + 1)), .ref q.1]) rfl ?_
          refine zz_cV C E (ci := 0) (As := [.int (nI (x + 1))]) (rest := []) (hc := h) md_M_at (c_at l D T hq (show 1 ≤ x + 1 by omega) (by omega)) ml_T_107 im_M_at se_M_at rfl (T.1 r q hq) (fun _ _ q => q) rfl rfl (Nat.le_of_ble_eq_true rfl) ⟨by show 0 + 1 ≤ g + 1 + 1; omega, by show 8 + (2 + 11) + 0 ≤ 40 + 30 * (g + 1); omega⟩ ⟨(Nat.le_of_ble_eq_true rfl), (Nat.le_of_ble_eq_true rfl)⟩ (by decide +kernel) (fun v h' hp hn hd => ?_) (fun v h' hp hn hd => ?_)
          · rw [zz_mix_self hd]
            obtain ⟨hh, hv⟩ := hp
            rw [hh]
            cases hv
            cases hu : u ((x + 1) :: r) with
            | none =>
              show zz_Z _ _ _ _ _ _ _ [some (.ref q.1), some (.int (nI d)), some (.int (nI (cnL (fun x => if mkA (u (x :: r)) = none then 0 else 1 + cnM u g (x :: r)) x))), some (.int (nI (x + 1))), none] [.null]
              refine zz_go C [(22, .astore 4), (24, .aload 4), (26, .ifnull 16), (42, .iinc 3 1), (45, .goto (-34))] (by decide +kernel) (pc' := 11) (lv' := [some (.ref q.1), some (.int (nI d)), some (.int (nI (cnL (fun x => if mkA (u (x :: r)) = none then 0 else 1 + cnM u g (x :: r)) x))), some (.int ((nI (x + 1)) + (nI 1))), some (.null)]) (st' := []) rfl ?_
              rw [show nI (x + 1) + nI 1 = nI (x + 1 + 1) from nI_add (x + 1) 1]
              have hz := ih (x + 1) (by omega)
              rw [show cnL (fun x => if mkA (u (x :: r)) = none then 0 else 1 + cnM u g (x :: r)) (x + 1) = cnL (fun x => if mkA (u (x :: r)) = none then 0 else 1 + cnM u g (x :: r)) x from by rw [cnL, hu, if_pos (show mkA (none : Option zMk) = none from rfl), Nat.add_zero]] at hz
              exact zz_lv [some (.ref q.1), some (.int (nI d)), some (.int (nI (cnL (fun x => if mkA (u (x :: r)) = none then 0 else 1 + cnM u g (x :: r)) x))), some (.int (nI (x + 1 + 1))), none] (fun j u hu => by rcases j with _ | _ | _ | _ | _ | j <;> first | exact hu | cases hu) (Nat.le_of_ble_eq_true rfl) hz
            | some q2 =>
              show zz_Z _ _ _ _ _ _ _ [some (.ref q.1), some (.int (nI d)), some (.int (nI (cnL (fun x => if mkA (u (x :: r)) = none then 0 else 1 + cnM u g (x :: r)) x))), some (.int (nI (x + 1))), none] [.ref q2.1]
              refine zz_go C [(22, .astore 4), (24, .aload 4), (26, .ifnull 16), (29, .iload_n 2), (30, .iconst 1), (31, .aload 4), (33, .iload_n 1), (34, .iconst 1), (35, .iadd)] (by decide +kernel) (pc' := 36) (lv' := [some (.ref q.1), some (.int (nI d)), some (.int (nI (cnL (fun x => if mkA (u (x :: r)) = none then 0 else 1 + cnM u g (x :: r)) x))), some (.int (nI (x + 1))), some (.ref q2.1)]) (st' := [.int ((nI d) + (nI 1)), .ref q2.1, .int (nI 1), .int (nI (cnL (fun x => if mkA (u (x :: r)) = none then 0 else 1 + cnM u g (x :: r)) x))]) rfl ?_
              rw [show nI d + nI 1 = nI (d + 1) from nI_add d 1]
              refine zz_cS C E (As := [.ref q2.1, .int (nI (d + 1))]) (rest := [.int (nI 1), .int (nI (cnL (fun x => if mkA (u (x :: r)) = none then 0 else 1 + cnM u g (x :: r)) x))]) (hc := h) md_T_countMarks (IH (d + 1) ((x + 1) :: r) q2 (by omega) hu) ml_T_114 sm_T_countMarks (fun _ _ q => q) rfl rfl (Nat.le_of_ble_eq_true rfl) ⟨by show g + 1 + 1 ≤ g + 1 + 1; omega, by show 8 + (5 + 11) + (40 + 30 * g) ≤ 40 + 30 * (g + 1); omega⟩ ⟨(Nat.le_of_ble_eq_true rfl), (Nat.le_of_ble_eq_true rfl)⟩ (by decide +kernel) (fun v h' hp hn hd => ?_) (fun v h' hp hn hd => ?_)
              · rw [zz_mix_self hd]
                obtain ⟨hh, hv⟩ := hp
                rw [hh]
                cases hv
                show zz_Z _ _ _ _ _ _ _ _ [.int (nI (cnM u g ((x + 1) :: r))), .int (nI 1), .int (nI (cnL (fun x => if mkA (u (x :: r)) = none then 0 else 1 + cnM u g (x :: r)) x))]
                refine zz_go C [(39, .iadd), (40, .iadd), (41, .istore_n 2), (42, .iinc 3 1), (45, .goto (-34))] (by decide +kernel) (pc' := 11) (lv' := [some (.ref q.1), some (.int (nI d)), some (.int ((nI (cnL (fun x => if mkA (u (x :: r)) = none then 0 else 1 + cnM u g (x :: r)) x)) + ((nI 1) + (nI (cnM u g ((x + 1) :: r)))))), some (.int ((nI (x + 1)) + (nI 1))), some (.ref q2.1)]) (st' := []) rfl ?_
                rw [show nI (x + 1) + nI 1 = nI (x + 1 + 1) from nI_add (x + 1) 1, nI_add, nI_add]
                have hz := ih (x + 1) (by omega)
                rw [show cnL (fun x => if mkA (u (x :: r)) = none then 0 else 1 + cnM u g (x :: r)) (x + 1) = cnL (fun x => if mkA (u (x :: r)) = none then 0 else 1 + cnM u g (x :: r)) x + (1 + cnM u g ((x + 1) :: r)) from by rw [cnL, hu, if_neg (show ¬ mkA (some q2) = none from fun e => by cases e)]] at hz
                exact zz_lv [some (.ref q.1), some (.int (nI d)), some (.int (nI (cnL (fun x => if mkA (u (x :: r)) = none then 0 else 1 + cnM u g (x :: r)) x + (1 + cnM u g ((x + 1) :: r))))), some (.int (nI (x + 1 + 1))), none] (fun j u hu => by rcases j with _ | _ | _ | _ | _ | j <;> first | exact hu | cases hu) (Nat.le_of_ble_eq_true rfl) hz
              · cases hp.2
          · cases hp.2
    refine zz_go C [(0, .iload_n 1), (1, .iconst 4)] (by decide +kernel) (pc' := 2) (lv' := [some (.ref q.1), some (.int (nI d)), none, none, none]) (st' := [.int (nI 4), .int (nI d)]) rfl ?_
    refine zz_if C (i := .if_icmp .lt 5) (by decide +kernel) (Pt := (nI d) < (nI 4)) (Pf := ¬ (nI d) < (nI 4)) (off := 5) (r := []) (tgt := 7) rfl (by decide) (fun cA => ?_) (fun cA => ?_)
    · refine zz_go C [(7, .iconst 0), (8, .istore_n 2), (9, .iconst 1), (10, .istore_n 3)] (by decide +kernel) (pc' := 11) (lv' := [some (.ref q.1), some (.int (nI d)), some (.int (nI 0)), some (.int (nI 1)), none]) (st' := []) rfl ?_
      exact loop 9 0 (by omega)
    · exact absurd (nI_lt (by omega) (by omega)) cA
theorem ckLay {y : Int32} {n : Nat} (hn : n ≤ 8) (h : ¬ (y < 0 ∨ nI n ≤ y)) : ∃ i : Nat, y = nI i ∧ i < n := by
  obtain ⟨i, hi, rfl⟩ := nI_of (x := y) (fun q => h (Or.inl q))
  exact ⟨i, rfl, Nat.not_le.mp (fun q => h (Or.inr (nI_le q hi)))⟩
theorem la_root {h : zz_Hp} {aC : Nat → ClassId} {t la sa n : Nat} {A : zA5} {Ls : zLs} (W : tW h aC t la sa A n Ls) : ∃ Lr, h la = some (maE aC 8 Lr) ∧ ∀ i, i < n → ∃ q, Ls i [] = some q ∧ Lr i = some q.1 := by
  obtain ⟨Lr, h1, h2⟩ := W.2.2.2.2.1
  refine ⟨Lr, h1, fun i hi => ?_⟩
  obtain ⟨q, hq, -⟩ := (W.2.2.2.2.2.2.2.1 i hi).2.2.2.2.2
  exact ⟨q, hq, by rw [h2 i hi, hq]; rfl⟩
set_option maxHeartbeats 4000000 in
theorem c_T_marks (l : Launch) (hst : l.stackTraces = false) (D : va_G) (aC : Nat → ClassId) (h : zz_Hp) (t la sa : Nat) (A : zA5) (n : Nat) (Ls : zLs) (W : tW h aC t la sa A n Ls) (y : Int32) :
    zz_Ct l D aC y_T_marks (zrm 7 1 6 200) [.ref t, .int y] h (fun r' h' => h' = h ∧ r' = (if y < 0 ∨ nI n ≤ y then .inr "java/lang/IndexOutOfBoundsException" else .inl (some (.int (nI (cnM (Ls y.toNatClampNeg) 4 [])))))) := by
  refine zz_ct md_T_marks rfl (by simp [Value.category]) (Nat.le_of_ble_eq_true rfl) fun K C E hI => ?_
  obtain rfl := E.ac
  refine zz_go C [(0, .aload_n 0), (1, .iload_n 1)] (by decide +kernel) (pc' := 2) (lv' := [some (.ref t), some (.int y)]) (st' := [.int y, .ref t]) rfl ?_
  refine zz_cV C E (ci := 2) (As := [.int y]) (rest := []) (hc := h) md_T_checkLayer (c_T_checkLayer l hst D (zz_ac K) h t _ _ (nI n) y W.2.2.2.1) ml_T_104 im_T_checkLayer se_T_checkLayer rfl W.2.2.2.1 (fun _ _ q => q) rfl rfl (Nat.le_of_ble_eq_true rfl) ⟨by decide, by decide⟩ ⟨(by decide), (by decide)⟩ (by decide +kernel) (fun v h0 hp hn hd => ?_) (fun v h0 hp hn hd => ?_)
  · rw [zz_mix_self hd]
    obtain ⟨hh, hv⟩ := hp
    rw [hh]
    have cP : ¬ (y < 0 ∨ nI n ≤ y) := fun e => by rw [if_pos e] at hv; cases hv
    rw [if_neg cP] at hv
    cases hv
    show zz_Z _ _ _ _ _ _ _ _ []
    obtain ⟨i, rfl, hi⟩ := ckLay W.1.2 cP
    obtain ⟨Lr, hla, hroot⟩ := la_root W
    obtain ⟨q, hq, hLr⟩ := hroot i hi
    have n8 := W.1.2
    refine zz_go C [(5, .aload_n 0)] (by decide +kernel) (pc' := 6) (lv' := [some (.ref t), some (.int (nI i))]) (st' := [.ref t]) rfl ?_
    refine zz_get C fd_T_11 W.2.2.2.1 (v := .ref la) rfl (by decide +kernel) ?_
    refine zz_go C [(9, .iload_n 1)] (by decide +kernel) (pc' := 10) (lv' := [some (.ref t), some (.int (nI i))]) (st' := [.int (nI i), .ref la]) rfl ?_
    refine ga_qld C hla (by omega) (by decide) (by decide +kernel) ?_
    rw [hLr]
    show zz_Z _ _ _ _ _ _ _ [some (.ref t), some (.int (nI i))] [.ref q.1]
    refine zz_go C [(11, .iconst 0)] (by decide +kernel) (pc' := 12) (lv' := [some (.ref t), some (.int (nI i))]) (st' := [.int (nI 0), .ref q.1]) rfl ?_
    refine zz_cS C E (As := [.ref q.1, .int (nI 0)]) (rest := []) (hc := h) md_T_countMarks (c_T_countMarks l D (zz_ac K) h (Ls i) (W.2.2.2.2.2.2.2.1 i hi) 4 0 [] q rfl hq) ml_T_114 sm_T_countMarks (fun _ _ q => q) rfl rfl (Nat.le_of_ble_eq_true rfl) ⟨by decide, by decide⟩ ⟨(by decide), (by decide)⟩ (by decide +kernel) (fun v h' hp hn hd => ?_) (fun v h' hp hn hd => ?_)
    · rw [zz_mix_self hd]
      obtain ⟨hh, hv⟩ := hp
      rw [hh]
      cases hv
      show zz_Z _ _ _ _ _ _ _ _ [.int (nI (cnM (Ls i) 4 []))]
      exact zr_i C E (by decide) (by decide) (by decide +kernel) (⟨rfl, by rw [if_neg cP, nI_clamp (by omega)]⟩)
    · cases hp.2
  · rw [zz_mix_self hd]
    obtain ⟨hh, hv⟩ := hp
    rw [hh]
    have cP : (y < 0 ∨ nI n ≤ y) := by
      by_cases e : (y < 0 ∨ nI n ≤ y)
      · exact e
      · rw [if_neg e] at hv; cases hv
    rw [if_pos cP] at hv
    cases hv
    exact zr_out C E (by decide) (by decide) ⟨rfl, by rw [if_pos cP]⟩
set_option maxHeartbeats 4000000 in
theorem c_T_mark (l : Launch) (hst : l.stackTraces = false) (D : va_G) (aC : Nat → ClassId) (h : zz_Hp) (t la sa : Nat) (A : zA5) (n : Nat) (Ls : zLs) (W : tW h aC t la sa A n Ls) (y x : Int32) :
    zz_Ct l D aC y_T_mark (zrm 7 2 12 150) [.ref t, .int y, .int x] h (fun r' h' => h' = h ∧ r' = (if y < 0 ∨ nI n ≤ y then .inr "java/lang/IndexOutOfBoundsException" else if x = 0 ∨ isP x = false then .inr "java/lang/IllegalArgumentException" else .inl (some (.int (mkR (Ls y.toNatClampNeg) (rp x.toNatClampNeg)))))) := by
  refine zz_ct md_T_mark rfl (by simp [Value.category]) (Nat.le_of_ble_eq_true rfl) fun K C E hI => ?_
  obtain rfl := E.ac
  refine zz_go C [(0, .aload_n 0), (1, .iload_n 1)] (by decide +kernel) (pc' := 2) (lv' := [some (.ref t), some (.int y), some (.int x), none, none]) (st' := [.int y, .ref t]) rfl ?_
  refine zz_cV C E (ci := 2) (As := [.int y]) (rest := []) (hc := h) md_T_checkLayer (c_T_checkLayer l hst D (zz_ac K) h t _ _ (nI n) y W.2.2.2.1) ml_T_104 im_T_checkLayer se_T_checkLayer rfl W.2.2.2.1 (fun _ _ q => q) rfl rfl (Nat.le_of_ble_eq_true rfl) ⟨by decide, by decide⟩ ⟨(by decide), (by decide)⟩ (by decide +kernel) (fun v h0 hp hn hd => ?_) (fun v h0 hp hn hd => ?_)
  · rw [zz_mix_self hd]
    obtain ⟨hh, hv⟩ := hp
    rw [hh]
    have cP : ¬ (y < 0 ∨ nI n ≤ y) := fun e => by rw [if_pos e] at hv; cases hv
    rw [if_neg cP] at hv
    cases hv
    show zz_Z _ _ _ _ _ _ _ _ []
    refine zz_go C [(5, .iload_n 2)] (by decide +kernel) (pc' := 6) (lv' := [some (.ref t), some (.int y), some (.int x), none, none]) (st' := [.int x]) rfl ?_
    refine zz_cS C E (As := [.int x]) (rest := []) (hc := h) md_T_checkBelowRoot (c_T_checkBelowRoot l hst D (zz_ac K) h x) ml_T_29 sm_T_checkBelowRoot (fun _ _ q => q) rfl rfl (Nat.le_of_ble_eq_true rfl) ⟨by decide, by decide⟩ ⟨(by decide), (by decide)⟩ (by decide +kernel) (fun v h0 hp hn hd => ?_) (fun v h0 hp hn hd => ?_)
    · rw [zz_mix_self hd]
      obtain ⟨hh, hv⟩ := hp
      rw [hh]
      have cR : ¬ (x = 0 ∨ isP x = false) := fun e => by rw [if_pos e] at hv; cases hv
      rw [if_neg cR] at hv
      cases hv
      show zz_Z _ _ _ _ _ _ _ _ []
      obtain ⟨i, rfl, hi⟩ := ckLay W.1.2 cP
      obtain ⟨jj, rfl, hj9, hok⟩ := isP_of (fun q => cR (Or.inr q))
      have n8 := W.1.2
      have T := W.2.2.2.2.2.2.2.1 i hi
      have fin : ∀ r, r = rp jj → zz_Z K (zz_End K h (fun r' h' => h' = h ∧ r' = (if nI i < 0 ∨ nI n ≤ nI i then .inr "java/lang/IndexOutOfBoundsException" else if nI jj = 0 ∨ isP (nI jj) = false then .inr "java/lang/IllegalArgumentException" else .inl (some (.int (mkR (Ls (nI i).toNatClampNeg) (rp (nI jj).toNatClampNeg))))))) h h (0 + (zrm 6 1 6 90).cells + (zrm 6 1 6 90).cells) (0 + (zrm 6 1 6 90).slots + (zrm 6 1 6 90).slots) 48 [some (.ref t), some (.int (nI i)), some (.int (nI jj)), some (va_rf (mkA (Ls i r))), none] [] := by
        intro r hr
        have hp : mkR (Ls (nI i).toNatClampNeg) (rp (nI jj).toNatClampNeg) = mkR (Ls i) r := by rw [nI_clamp (by omega), nI_clamp (by omega), hr]
        cases hu : Ls i r with
        | none =>
          show zz_Z _ _ _ _ _ _ _ [some (.ref t), some (.int (nI i)), some (.int (nI jj)), some (.null), none] []
          refine zz_go C [(48, .aload_n 3), (49, .ifnonnull 7), (52, .iconst (-1)), (53, .goto 7)] (by decide +kernel) (pc' := 60) (lv' := [some (.ref t), some (.int (nI i)), some (.int (nI jj)), some (.null), none]) (st' := [.int ((-1))]) rfl ?_
          exact zr_i C E (by decide) (by decide) (by decide +kernel) (⟨rfl, by rw [if_neg cP, if_neg cR, hp, mkR, hu]⟩)
        | some q =>
          show zz_Z _ _ _ _ _ _ _ [some (.ref t), some (.int (nI i)), some (.int (nI jj)), some (.ref q.1), none] []
          refine zz_go C [(48, .aload_n 3), (49, .ifnonnull 7), (56, .aload_n 3)] (by decide +kernel) (pc' := 57) (lv' := [some (.ref t), some (.int (nI i)), some (.int (nI jj)), some (.ref q.1), none]) (st' := [.ref q.1]) rfl ?_
          refine zz_get C fd_T_111 (T.1 r q hu) (v := .int q.2.1) rfl (by decide +kernel) ?_
          exact zr_i C E (by decide) (by decide) (by decide +kernel) (⟨rfl, by rw [if_neg cP, if_neg cR, hp, mkR, hu]⟩)
      have loop : ∀ (g j : Nat) (r : List Nat), g ≤ 4 → j < 10 ^ g → (nmF g j).all nz = true → (nmF g j).reverse ++ r = rp jj → zz_Z K (zz_End K h (fun r' h' => h' = h ∧ r' = (if nI i < 0 ∨ nI n ≤ nI i then .inr "java/lang/IndexOutOfBoundsException" else if nI jj = 0 ∨ isP (nI jj) = false then .inr "java/lang/IllegalArgumentException" else .inl (some (.int (mkR (Ls (nI i).toNatClampNeg) (rp (nI jj).toNatClampNeg))))))) h h (0 + (zrm 6 1 6 90).cells + (zrm 6 1 6 90).cells) (0 + (zrm 6 1 6 90).slots + (zrm 6 1 6 90).slots) 19 [some (.ref t), some (.int (nI i)), some (.int (nI jj)), some (va_rf (mkA (Ls i r))), some (.int (nI j))] [] := by
        intro g
        induction g with
        | zero =>
          intro j r hg hj hnz hR
          have hj2 := p10 hg hj
          refine zz_go C [(19, .iload 4)] (by decide +kernel) (pc' := 21) (lv' := [some (.ref t), some (.int (nI i)), some (.int (nI jj)), some (va_rf (mkA (Ls i r))), some (.int (nI j))]) (st' := [.int (nI j)]) rfl ?_
          refine zz_if C (i := .ifCond .le 27) (by decide +kernel) (Pt := (nI j) ≤ 0) (Pf := ¬ (nI j) ≤ 0) (off := 27) (r := []) (tgt := 48) rfl (by decide) (fun cA => ?_) (fun cA => ?_)
          · have hj0 : j = 0 := Nat.eq_zero_of_not_pos (fun e => absurd cA (nI_nle e (by omega)))
            exact zz_lv [some (.ref t), some (.int (nI i)), some (.int (nI jj)), some (va_rf (mkA (Ls i r))), none] (fun j u hu => by rcases j with _ | _ | _ | _ | _ | j <;> first | exact hu | cases hu) (Nat.le_of_ble_eq_true rfl) (fin r (by rw [← hR, hj0, nmF_0]; rfl))
          · have hj0 : ¬ j = 0 := fun e => cA (by rw [e]; decide)
            exact absurd hj (by simp; omega)
        | succ g ih =>
          intro j r hg hj hnz hR
          have hj2 := p10 hg hj
          refine zz_go C [(19, .iload 4)] (by decide +kernel) (pc' := 21) (lv' := [some (.ref t), some (.int (nI i)), some (.int (nI jj)), some (va_rf (mkA (Ls i r))), some (.int (nI j))]) (st' := [.int (nI j)]) rfl ?_
          refine zz_if C (i := .ifCond .le 27) (by decide +kernel) (Pt := (nI j) ≤ 0) (Pf := ¬ (nI j) ≤ 0) (off := 27) (r := []) (tgt := 48) rfl (by decide) (fun cA => ?_) (fun cA => ?_)
          · have hj0 : j = 0 := Nat.eq_zero_of_not_pos (fun e => absurd cA (nI_nle e (by omega)))
            exact zz_lv [some (.ref t), some (.int (nI i)), some (.int (nI jj)), some (va_rf (mkA (Ls i r))), none] (fun j u hu => by rcases j with _ | _ | _ | _ | _ | j <;> first | exact hu | cases hu) (Nat.le_of_ble_eq_true rfl) (fin r (by rw [← hR, hj0, nmF_0]; rfl))
          · have hj0 : ¬ j = 0 := fun e => cA (by rw [e]; decide)
            rw [nmF_s g hj0] at hnz hR
            rw [List.all_cons, Bool.and_eq_true] at hnz
            have hx0 : ¬ j % 10 = 0 := of_decide_eq_true hnz.1
            cases hu : Ls i r with
            | none =>
              show zz_Z _ _ _ _ _ _ _ [some (.ref t), some (.int (nI i)), some (.int (nI jj)), some (.null), some (.int (nI j))] []
              refine zz_go C [(24, .aload_n 3), (25, .ifnull 23)] (by decide +kernel) (pc' := 48) (lv' := [some (.ref t), some (.int (nI i)), some (.int (nI jj)), some (.null), some (.int (nI j))]) (st' := []) rfl ?_
              have hz := fin (rp jj) rfl
              rw [show Ls i (rp jj) = none from by rw [← hR]; exact T.no hu _] at hz
              exact zz_lv [some (.ref t), some (.int (nI i)), some (.int (nI jj)), some (.null), none] (fun j u hu => by rcases j with _ | _ | _ | _ | _ | j <;> first | exact hu | cases hu) (Nat.le_of_ble_eq_true rfl) hz
            | some q =>
              show zz_Z _ _ _ _ _ _ _ [some (.ref t), some (.int (nI i)), some (.int (nI jj)), some (.ref q.1), some (.int (nI j))] []
              refine zz_go C [(24, .aload_n 3), (25, .ifnull 23), (28, .aload_n 3), (29, .iload 4), (31, .bipush 10), (33, .irem)] (by decide +kernel) (pc' := 34) (lv' := [some (.ref t), some (.int (nI i)), some (.int (nI jj)), some (.ref q.1), some (.int (nI j))]) (st' := [.int ((nI j) - (nI j) / (nI 10) * (nI 10)), .ref q.1]) rfl ?_
              rw [pk_rem (show j < 2 ^ 31 by omega) (by decide) (by decide)]
              refine zz_cV C E (ci := 0) (As := [.int (nI (j % 10))]) (rest := []) (hc := h) md_M_at (c_at l D T hu (show 1 ≤ j % 10 by omega) (by omega)) ml_T_107 im_M_at se_M_at rfl (T.1 r q hu) (fun _ _ q => q) rfl rfl (Nat.le_of_ble_eq_true rfl) ⟨by decide, by decide⟩ ⟨(by decide), (by decide)⟩ (by decide +kernel) (fun v h' hp hn hd => ?_) (fun v h' hp hn hd => ?_)
              · rw [zz_mix_self hd]
                obtain ⟨hh, hv⟩ := hp
                rw [hh]
                cases hv
                have hz := ih (j / 10) (j % 10 :: r) (by omega) (lt10 hj) hnz.2 (by rw [← hR, List.reverse_cons, List.append_assoc]; rfl)
                cases hu2 : Ls i (j % 10 :: r) with
                | none =>
                  rw [hu2] at hz
                  show zz_Z _ _ _ _ _ _ _ [some (.ref t), some (.int (nI i)), some (.int (nI jj)), some (.ref q.1), some (.int (nI j))] [.null]
                  refine zz_go C [(37, .astore_n 3), (38, .iload 4), (40, .bipush 10), (42, .idiv), (43, .istore 4), (45, .goto (-26))] (by decide +kernel) (pc' := 19) (lv' := [some (.ref t), some (.int (nI i)), some (.int (nI jj)), some (.null), some (.int ((nI j) / (nI 10)))]) (st' := []) rfl ?_
                  rw [pk_div (show j < 2 ^ 31 by omega) (by decide) (by decide)]
                  exact hz
                | some q2 =>
                  rw [hu2] at hz
                  show zz_Z _ _ _ _ _ _ _ [some (.ref t), some (.int (nI i)), some (.int (nI jj)), some (.ref q.1), some (.int (nI j))] [.ref q2.1]
                  refine zz_go C [(37, .astore_n 3), (38, .iload 4), (40, .bipush 10), (42, .idiv), (43, .istore 4), (45, .goto (-26))] (by decide +kernel) (pc' := 19) (lv' := [some (.ref t), some (.int (nI i)), some (.int (nI jj)), some (.ref q2.1), some (.int ((nI j) / (nI 10)))]) (st' := []) rfl ?_
                  rw [pk_div (show j < 2 ^ 31 by omega) (by decide) (by decide)]
                  exact hz
              · cases hp.2
      obtain ⟨Lr, hla, hroot⟩ := la_root W
      obtain ⟨q, hq, hLr⟩ := hroot i hi
      refine zz_go C [(9, .aload_n 0)] (by decide +kernel) (pc' := 10) (lv' := [some (.ref t), some (.int (nI i)), some (.int (nI jj)), none, none]) (st' := [.ref t]) rfl ?_
      refine zz_get C fd_T_11 W.2.2.2.1 (v := .ref la) rfl (by decide +kernel) ?_
      refine zz_go C [(13, .iload_n 1)] (by decide +kernel) (pc' := 14) (lv' := [some (.ref t), some (.int (nI i)), some (.int (nI jj)), none, none]) (st' := [.int (nI i), .ref la]) rfl ?_
      refine ga_qld C hla (by omega) (by decide) (by decide +kernel) ?_
      rw [hLr]
      show zz_Z _ _ _ _ _ _ _ [some (.ref t), some (.int (nI i)), some (.int (nI jj)), none, none] [.ref q.1]
      refine zz_go C [(15, .astore_n 3), (16, .iload_n 2), (17, .istore 4)] (by decide +kernel) (pc' := 19) (lv' := [some (.ref t), some (.int (nI i)), some (.int (nI jj)), some (.ref q.1), some (.int (nI jj))]) (st' := []) rfl ?_
      have hz := loop 4 jj [] (by decide) (by omega) hok (List.append_nil _)
      rw [hq] at hz
      exact hz
    · rw [zz_mix_self hd]
      obtain ⟨hh, hv⟩ := hp
      rw [hh]
      have cR : (x = 0 ∨ isP x = false) := by
        by_cases e : (x = 0 ∨ isP x = false)
        · exact e
        · rw [if_neg e] at hv; cases hv
      rw [if_pos cR] at hv
      cases hv
      exact zr_out C E (by decide) (by decide) ⟨rfl, by rw [if_neg cP, if_pos cR]⟩
  · rw [zz_mix_self hd]
    obtain ⟨hh, hv⟩ := hp
    rw [hh]
    have cP : (y < 0 ∨ nI n ≤ y) := by
      by_cases e : (y < 0 ∨ nI n ≤ y)
      · exact e
      · rw [if_neg e] at hv; cases hv
    rw [if_pos cP] at hv
    cases hv
    exact zr_out C E (by decide) (by decide) ⟨rfl, by rw [if_pos cP]⟩
