/-! ===== layers ===== -/
set_option maxHeartbeats 4000000 in
theorem c_T_layer (l : Launch) (hst : l.stackTraces = false) (D : va_G) (aC : Nat → ClassId) (h : zz_Hp) (t la sa : Nat) (A : zA5) (n : Nat) (Ls : zLs) (W : tW h aC t la sa A n Ls) :
    zz_Ct l D aC y_T_layer (zrm 6 2 9 90) [.ref t] h (fun r' h' => (n = 8 → h' = h ∧ r' = .inr "java/lang/UnsupportedOperationException") ∧ (n < 8 → r' = .inl (some (.int (nI (n + 1)))) ∧ ∃ a, tW h' aC t la sa A (n + 1) (lyN Ls n a))) := by
  refine zz_ct md_T_layer rfl (by simp [Value.category]) (Nat.le_of_ble_eq_true rfl) fun K C E hI => ?_
  obtain rfl := E.ac
  refine zz_go C [(0, .aload_n 0)] (by decide +kernel) (pc' := 1) (lv' := [some (.ref t)]) (st' := [.ref t]) rfl ?_
  refine zz_get C fd_T_18 W.2.2.2.1 (v := .int (nI n)) rfl (by decide +kernel) ?_
  refine zz_go C [(4, .bipush 8)] (by decide +kernel) (pc' := 6) (lv' := [some (.ref t)]) (st' := [.int (nI 8), .int (nI n)]) rfl ?_
  refine zz_if C (i := .if_icmp .lt 13) (by decide +kernel) (Pt := (nI n) < (nI 8)) (Pf := ¬ (nI n) < (nI 8)) (off := 13) (r := []) (tgt := 19) rfl (by decide) (fun cA => ?_) (fun cA => ?_)
  · have h8 := (nI_ltI (by have := W.1; omega) (by decide)).mp cA
    obtain ⟨Lr, hla, hroot⟩ := id W.2.2.2.2.1
    have ht := W.2.2.2.1
    refine zz_go C [(19, .aload_n 0)] (by decide +kernel) (pc' := 20) (lv' := [some (.ref t)]) (st' := [.ref t]) rfl ?_
    refine zz_get C fd_T_11 ht (v := .ref la) rfl (by decide +kernel) ?_
    refine zz_go C [(23, .aload_n 0)] (by decide +kernel) (pc' := 24) (lv' := [some (.ref t)]) (st' := [.ref t, .ref la]) rfl ?_
    refine zz_get C fd_T_18 W.2.2.2.1 (v := .int (nI n)) rfl (by decide +kernel) ?_
    refine zr_new C E nd_T_9 (by decide) (by decide) (by decide +kernel) (fun a ha hz => ?_)
    refine zz_go C [(30, .dup), (31, .iconst 1), (32, .iconst 0)] (by decide +kernel) (pc' := 33) (lv' := [some (.ref t)]) (st' := [.int (nI 0), .int (nI 1), .ref a, .ref a, .int (nI n), .ref la]) rfl ?_
    refine zz_cI C E (As := [.int (nI 1), .int (nI 0)]) (rest := [.ref a, .int (nI n), .ref la]) (hc := (va_up h a (some (.inr (0, [.int 0, .int 0, .null]))))) md_M_init (c_M_init l D (zz_ac K) _ a 0 0 (nI 1) (nI 0) none (va_up_self _ _ _)) cw_M_init ml_T_15 im_M_init rfl (fun _ _ q => q) rfl rfl (Nat.le_of_ble_eq_true rfl) ⟨by decide, by decide⟩ ⟨(by decide), (by decide)⟩ (by decide +kernel) (fun v h1 hp hn hd => ?_) (fun v h1 hp hn hd => ?_)
    · rw [zz_mix_self hd]
      obtain ⟨hh, hv⟩ := hp
      rw [hh]
      cases hv
      show zz_Z _ _ _ _ _ _ _ _ [.ref a, .int (nI n), .ref la]
      rw [bx_uu]
      have na : ∀ x e, h x = some e → x ≠ a := fun x e hx q => by rw [q, ha] at hx; cases hx
      have tl : t ≠ la := ne_k ht hla (by rw [ki_ot, ki_ma]; decide)
      refine zz_qast C 3 (fun _ => rfl) (ci := 0) rfl (show _ = some (maE (zz_ac K) 8 Lr) by rw [va_up_ne _ _ (na la _ hla)]; exact hla) (show _ = some (mkE (nI 1) (nI 0) none) from va_up_self _ _ _) (vp_in_nI h8 (by omega)) (by decide +kernel) ?_
      rw [nI_clamp (by omega)]
      have ht2 : (va_up (va_up h a (some (mkE (nI 1) (nI 0) none))) la (some (maE (zz_ac K) 8 (va_up Lr n (some a))))) t = some (otE la n sa) := by rw [va_up_ne _ _ tl, va_up_ne _ _ (na t _ ht)]; exact ht
      refine zz_go C [(37, .aload_n 0), (38, .dup)] (by decide +kernel) (pc' := 39) (lv' := [some (.ref t)]) (st' := [.ref t, .ref t]) rfl ?_
      refine zz_get C fd_T_18 ht2 (v := .int (nI n)) rfl (by decide +kernel) ?_
      refine zz_go C [(42, .iconst 1), (43, .iadd)] (by decide +kernel) (pc' := 44) (lv' := [some (.ref t)]) (st' := [.int ((nI n) + (nI 1)), .ref t]) rfl ?_
      rw [show nI n + nI 1 = nI (n + 1) from nI_add n 1]
      refine zz_putf C fd_T_18 ht2 rfl rfl (Nat.le_of_ble_eq_true rfl) (by decide +kernel) ?_
      refine zz_go C [(47, .aload_n 0)] (by decide +kernel) (pc' := 48) (lv' := [some (.ref t)]) (st' := [.ref t]) rfl ?_
      refine zz_get C fd_T_18 (va_up_self _ _ _) (v := .int (nI (n + 1))) rfl (by decide +kernel) ?_
      have W2 : tW (va_up (va_up (va_up h a (some (mkE (nI 1) (nI 0) none))) la (some (maE (zz_ac K) 8 (va_up Lr n (some a))))) t (some (otE la (n + 1) sa))) (zz_ac K) t la sa A (n + 1) (lyN Ls n a) := by
        refine W.put (fun x e hx h1 h2 => ?_) (by omega) (va_up_self _ _ _) ⟨va_up Lr n (some a), by rw [va_up_ne _ _ (Ne.symm tl), va_up_self], fun i hi => ?_⟩ (fun i hi => ?_) (lyN_I W.2.2.2.2.2.2.2.2 (fun i r q hi hq => na _ _ ((W.2.2.2.2.2.2.2.1 i hi).1 r q hq)))
        · rw [va_up_ne _ _ h1, va_up_ne _ _ h2, va_up_ne _ _ (na x e hx)]; exact hx
        · by_cases e : i = n
          · subst e; rw [va_up_self, lyN_n, if_pos rfl]; rfl
          · rw [va_up_ne _ _ e, lyN_o _ _ e]; exact hroot i (by omega)
        · by_cases e : i = n
          · subst e; exact Or.inr (lyN_T (by rw [va_up_ne _ _ (fun q => na t _ ht q.symm), va_up_ne _ _ (fun q => na la _ hla q.symm), va_up_self]))
          · exact Or.inl ⟨i, by omega, lyN_o _ _ e⟩
      exact zr_i C E (by decide) (by decide) (by decide +kernel) (⟨fun e => absurd h8 (by omega), fun _ => ⟨rfl, a, W2⟩⟩)
    · cases hp.2
  · have h8 : n = 8 := by
      have := W.1; have : ¬ n < 8 := fun q => cA (nI_lt q (by decide)); omega
    exact zz_throw C E hst xd_78 (⟨fun _ => ⟨rfl, rfl⟩, fun q => absurd q (by omega)⟩) (by decide) (by decide) (by decide) (by decide) (by decide +kernel) (by decide +kernel) (by decide +kernel) (by decide +kernel) (by decide +kernel)
set_option maxHeartbeats 4000000 in
theorem c_T_loseTop (l : Launch) (D : va_G) (aC : Nat → ClassId) (h : zz_Hp) (t la sa n : Nat) (Lr : Nat → Option Nat) (W0 : h t = some (otE la (n + 1) sa)) (hla : h la = some (maE aC 8 Lr)) (hn : n < 8) :
    zz_Ct l D aC y_T_loseTop (zrm 0 0 0 0) [.ref t] h (fun r' h' => h' = va_up (va_up h t (some (otE la n sa))) la (some (maE aC 8 (va_up Lr n none))) ∧ r' = .inl (some (.int (nI n)))) := by
  refine zz_ct md_T_loseTop rfl (by simp [Value.category]) (Nat.le_of_ble_eq_true rfl) fun K C E hI => ?_
  obtain rfl := E.ac
  have ht := W0
  have n8 := hn
  have tl : t ≠ la := ne_k ht hla (by rw [ki_ot, ki_ma]; decide)
  refine zz_go C [(0, .aload_n 0), (1, .dup)] (by decide +kernel) (pc' := 2) (lv' := [some (.ref t)]) (st' := [.ref t, .ref t]) rfl ?_
  refine zz_get C fd_T_18 ht (v := .int (nI (n + 1))) rfl (by decide +kernel) ?_
  refine zz_go C [(5, .iconst 1), (6, .isub)] (by decide +kernel) (pc' := 7) (lv' := [some (.ref t)]) (st' := [.int ((nI (n + 1)) - (nI 1)), .ref t]) rfl ?_
  rw [show nI (n + 1) - nI 1 = nI n from nI_pred n]
  refine zz_putf C fd_T_18 ht rfl rfl (Nat.le_of_ble_eq_true rfl) (by decide +kernel) ?_
  refine zz_go C [(10, .aload_n 0)] (by decide +kernel) (pc' := 11) (lv' := [some (.ref t)]) (st' := [.ref t]) rfl ?_
  refine zz_get C fd_T_11 (va_up_self _ _ _) (v := .ref la) rfl (by decide +kernel) ?_
  refine zz_go C [(14, .aload_n 0)] (by decide +kernel) (pc' := 15) (lv' := [some (.ref t)]) (st' := [.ref t, .ref la]) rfl ?_
  refine zz_get C fd_T_18 (va_up_self _ _ _) (v := .int (nI n)) rfl (by decide +kernel) ?_
  refine zz_go C [(18, .aconst_null)] (by decide +kernel) (pc' := 19) (lv' := [some (.ref t)]) (st' := [.null, .int (nI n), .ref la]) rfl ?_
  refine zz_qastN C 3 (fun _ => rfl) (show _ = some (maE (zz_ac K) 8 Lr) by rw [va_up_ne _ _ (Ne.symm tl)]; exact hla) (vp_in_nI (by omega) (by omega)) (by decide +kernel) ?_
  rw [nI_clamp (by omega)]
  refine zz_go C [(20, .aload_n 0)] (by decide +kernel) (pc' := 21) (lv' := [some (.ref t)]) (st' := [.ref t]) rfl ?_
  refine zz_get C fd_T_18 (show _ = some (otE la n sa) by rw [va_up_ne _ _ tl, va_up_self]; rfl) (v := .int (nI n)) rfl (by decide +kernel) ?_
  exact zr_i C E (by decide) (by decide) (by decide +kernel) (⟨rfl, rfl⟩)
set_option maxHeartbeats 4000000 in
theorem c_T_drop (l : Launch) (hst : l.stackTraces = false) (D : va_G) (aC : Nat → ClassId) (h : zz_Hp) (t la sa : Nat) (A : zA5) (n : Nat) (Ls : zLs) (W : tW h aC t la sa A n Ls) :
    zz_Ct l D aC y_T_drop (zrm 6 1 6 90) [.ref t] h (fun r' h' => (n = 1 → h' = h ∧ r' = .inr "java/lang/UnsupportedOperationException") ∧ (1 < n → r' = .inl (some (.int (nI (n - 1)))) ∧ tW h' aC t la sa A (n - 1) Ls)) := by
  refine zz_ct md_T_drop rfl (by simp [Value.category]) (Nat.le_of_ble_eq_true rfl) fun K C E hI => ?_
  obtain rfl := E.ac
  have n8 := W.1
  refine zz_go C [(0, .aload_n 0)] (by decide +kernel) (pc' := 1) (lv' := [some (.ref t)]) (st' := [.ref t]) rfl ?_
  refine zz_get C fd_T_18 W.2.2.2.1 (v := .int (nI n)) rfl (by decide +kernel) ?_
  refine zz_go C [(4, .iconst 1)] (by decide +kernel) (pc' := 5) (lv' := [some (.ref t)]) (st' := [.int (nI 1), .int (nI n)]) rfl ?_
  refine zz_if C (i := .if_icmp .gt 13) (by decide +kernel) (Pt := (nI 1) < (nI n)) (Pf := ¬ (nI 1) < (nI n)) (off := 13) (r := []) (tgt := 18) rfl (by decide) (fun cA => ?_) (fun cA => ?_)
  · have n1 := (nI_ltI (by decide) (by omega)).mp cA
    obtain ⟨m, rfl⟩ : ∃ m, n = m + 1 := ⟨n - 1, by omega⟩
    obtain ⟨Lr, hla, hroot⟩ := id W.2.2.2.2.1
    have ht := W.2.2.2.1
    have tl : t ≠ la := ne_k ht hla (by rw [ki_ot, ki_ma]; decide)
    refine zz_go C [(18, .aload_n 0)] (by decide +kernel) (pc' := 19) (lv' := [some (.ref t)]) (st' := [.ref t]) rfl ?_
    refine zz_cV C E (ci := 2) (As := []) (rest := []) (hc := h) md_T_loseTop (c_T_loseTop l D (zz_ac K) h t la sa m Lr ht hla (by omega)) ml_T_90 im_T_loseTop se_T_loseTop rfl ht (fun _ _ q => q) rfl rfl (Nat.le_of_ble_eq_true rfl) ⟨by decide, by decide⟩ ⟨(by decide), (by decide)⟩ (by decide +kernel) (fun v h1 hp hn hd => ?_) (fun v h1 hp hn hd => ?_)
    · rw [zz_mix_self hd]
      obtain ⟨hh, hv⟩ := hp
      rw [hh]
      cases hv
      show zz_Z _ _ _ _ _ _ _ _ [.int (nI m)]
      have W2 : tW (va_up (va_up h t (some (otE la m sa))) la (some (maE (zz_ac K) 8 (va_up Lr m none)))) (zz_ac K) t la sa A m Ls := by
        refine W.put (fun x e hx h1 h2 => ?_) (by omega) (by rw [va_up_ne _ _ tl, va_up_self]) ⟨va_up Lr m none, va_up_self _ _ _, fun i hi => ?_⟩ (fun i hi => Or.inl ⟨i, by omega, rfl⟩) ⟨fun i i' r r' q q' h1 h2 => W.2.2.2.2.2.2.2.2.1 i i' r r' q q' (by omega) (by omega), fun i i' r r' q q' c h1 h2 => W.2.2.2.2.2.2.2.2.2 i i' r r' q q' c (by omega) (by omega)⟩
        · rw [va_up_ne _ _ h2, va_up_ne _ _ h1]; exact hx
        · rw [va_up_ne _ _ (by omega)]; exact hroot i (by omega)
      exact zr_i C E (by decide) (by decide) (by decide +kernel) (⟨fun e => absurd e (by omega), fun _ => ⟨rfl, W2⟩⟩)
    · cases hp.2
  · have n1 : n = 1 := by
      have : ¬ 1 < n := fun q => cA (nI_lt q (by omega)); omega
    exact zz_throw C E hst xd_94 (⟨fun _ => ⟨rfl, rfl⟩, fun q => absurd q (by omega)⟩) (by decide) (by decide) (by decide) (by decide) (by decide +kernel) (by decide +kernel) (by decide +kernel) (by decide +kernel) (by decide +kernel)
