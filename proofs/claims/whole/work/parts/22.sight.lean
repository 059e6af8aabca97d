/-! ===== OverlayTree$Sight ===== -/
set_option maxHeartbeats 2000000 in
theorem c_S_kindIn (l : Launch) (D : va_G) (aC : Nat → ClassId) (h : zz_Hp) (o k v f s : Nat) (x : Int32) (Kd : Nat → Int32) (ho : h o = some (sgE k v f s)) (hk : h k = some (iaE aC 9 Kd)) :
    zz_Ct l D aC y_S_kindIn (zrm 0 0 0 0) [.ref o, .int x] h (fun r h' => h' = h ∧ r = .inl (some (.int (if x < 0 ∨ 8 < x then (-1) else Kd x.toNatClampNeg)))) := by
  refine zz_ct md_S_kindIn rfl (by simp [Value.category]) (Nat.le_of_ble_eq_true rfl) fun K C E hI => ?_
  obtain rfl := E.ac
  refine zz_go C [(0, .iload_n 1)] (by decide +kernel) (pc' := 1) (lv' := [some (.ref o), some (.int x)]) (st' := [.int x]) rfl ?_
  refine zz_if C (i := .ifCond .lt 9) (by decide +kernel) (Pt := x < 0) (Pf := ¬ x < 0) (off := 9) (r := []) (tgt := 10) rfl (by decide) (fun cA => ?_) (fun cA => ?_)
  · refine zz_go C [(10, .iconst (-1)), (11, .goto 9)] (by decide +kernel) (pc' := 20) (lv' := [some (.ref o), some (.int x)]) (st' := [.int ((-1))]) rfl ?_
    exact zr_i C E (by decide) (by decide) (by decide +kernel) (⟨rfl, by rw [if_pos (Or.inl cA)]; rfl⟩)
  · refine zz_go C [(4, .iload_n 1), (5, .bipush 8)] (by decide +kernel) (pc' := 7) (lv' := [some (.ref o), some (.int x)]) (st' := [.int (nI 8), .int x]) rfl ?_
    refine zz_if C (i := .if_icmp .le 7) (by decide +kernel) (Pt := x ≤ (nI 8)) (Pf := ¬ x ≤ (nI 8)) (off := 7) (r := []) (tgt := 14) rfl (by decide) (fun cB => ?_) (fun cB => ?_)
    · refine zz_go C [(14, .aload_n 0)] (by decide +kernel) (pc' := 15) (lv' := [some (.ref o), some (.int x)]) (st' := [.ref o]) rfl ?_
      refine zz_get C fd_S_9 ho (v := .ref k) rfl (by decide +kernel) ?_
      refine zz_go C [(18, .iload_n 1)] (by decide +kernel) (pc' := 19) (lv' := [some (.ref o), some (.int x)]) (st' := [.int x, .ref k]) rfl ?_
      have hx : vp_in x 9 := by
        obtain ⟨j, hj, rfl⟩ := nI_of2 (x := x) (M := 8) (n := 8) (by decide) cA cB
        exact vp_in_nI (by omega) (by omega)
      refine zz_iald C 0 (fun _ => rfl) hk hx (by decide +kernel) ?_
      exact zr_i C E (by decide) (by decide) (by decide +kernel) (⟨rfl, by rw [if_neg]; rintro (q | q); exact cA q; exact absurd cB (Int32.not_le.mpr q)⟩)
    · refine zz_go C [(10, .iconst (-1)), (11, .goto 9)] (by decide +kernel) (pc' := 20) (lv' := [some (.ref o), some (.int x)]) (st' := [.int ((-1))]) rfl ?_
      exact zr_i C E (by decide) (by decide) (by decide +kernel) (⟨rfl, by rw [if_pos (Or.inr (Int32.not_le.mp cB))]; rfl⟩)
set_option maxHeartbeats 2000000 in
theorem c_S_valueIn (l : Launch) (D : va_G) (aC : Nat → ClassId) (h : zz_Hp) (o k v f s : Nat) (x : Int32) (Kd : Nat → Int32) (ho : h o = some (sgE k v f s)) (hk : h v = some (iaE aC 9 Kd)) :
    zz_Ct l D aC y_S_valueIn (zrm 0 0 0 0) [.ref o, .int x] h (fun r h' => h' = h ∧ r = .inl (some (.int (if x < 0 ∨ 8 < x then 0 else Kd x.toNatClampNeg)))) := by
  refine zz_ct md_S_valueIn rfl (by simp [Value.category]) (Nat.le_of_ble_eq_true rfl) fun K C E hI => ?_
  obtain rfl := E.ac
  refine zz_go C [(0, .iload_n 1)] (by decide +kernel) (pc' := 1) (lv' := [some (.ref o), some (.int x)]) (st' := [.int x]) rfl ?_
  refine zz_if C (i := .ifCond .lt 9) (by decide +kernel) (Pt := x < 0) (Pf := ¬ x < 0) (off := 9) (r := []) (tgt := 10) rfl (by decide) (fun cA => ?_) (fun cA => ?_)
  · refine zz_go C [(10, .iconst 0), (11, .goto 9)] (by decide +kernel) (pc' := 20) (lv' := [some (.ref o), some (.int x)]) (st' := [.int (nI 0)]) rfl ?_
    exact zr_i C E (by decide) (by decide) (by decide +kernel) (⟨rfl, by rw [if_pos (Or.inl cA)]; rfl⟩)
  · refine zz_go C [(4, .iload_n 1), (5, .bipush 8)] (by decide +kernel) (pc' := 7) (lv' := [some (.ref o), some (.int x)]) (st' := [.int (nI 8), .int x]) rfl ?_
    refine zz_if C (i := .if_icmp .le 7) (by decide +kernel) (Pt := x ≤ (nI 8)) (Pf := ¬ x ≤ (nI 8)) (off := 7) (r := []) (tgt := 14) rfl (by decide) (fun cB => ?_) (fun cB => ?_)
    · refine zz_go C [(14, .aload_n 0)] (by decide +kernel) (pc' := 15) (lv' := [some (.ref o), some (.int x)]) (st' := [.ref o]) rfl ?_
      refine zz_get C fd_S_15 ho (v := .ref v) rfl (by decide +kernel) ?_
      refine zz_go C [(18, .iload_n 1)] (by decide +kernel) (pc' := 19) (lv' := [some (.ref o), some (.int x)]) (st' := [.int x, .ref v]) rfl ?_
      have hx : vp_in x 9 := by
        obtain ⟨j, hj, rfl⟩ := nI_of2 (x := x) (M := 8) (n := 8) (by decide) cA cB
        exact vp_in_nI (by omega) (by omega)
      refine zz_iald C 0 (fun _ => rfl) hk hx (by decide +kernel) ?_
      exact zr_i C E (by decide) (by decide) (by decide +kernel) (⟨rfl, by rw [if_neg]; rintro (q | q); exact cA q; exact absurd cB (Int32.not_le.mpr q)⟩)
    · refine zz_go C [(10, .iconst 0), (11, .goto 9)] (by decide +kernel) (pc' := 20) (lv' := [some (.ref o), some (.int x)]) (st' := [.int (nI 0)]) rfl ?_
      exact zr_i C E (by decide) (by decide) (by decide +kernel) (⟨rfl, by rw [if_pos (Or.inr (Int32.not_le.mp cB))]; rfl⟩)
theorem sgNew {h : zz_Hp} {aC : Nat → ClassId} {o k v f s : Nat} {e1 e2 e3 e4 : va_E} (ok : o ≠ k) (ov : o ≠ v) (of : o ≠ f) (os : o ≠ s) (hk : h k = none) (hv : (va_up (va_up h k (some (iaE aC 9 (fun _ => 0)))) o (some e1)) v = none) (hf : (va_up (va_up (va_up (va_up h k (some (iaE aC 9 (fun _ => 0)))) o (some e1)) v (some (iaE aC 9 (fun _ => 0)))) o (some e2)) f = none)
    (hs : (va_up (va_up (va_up (va_up (va_up (va_up h k (some (iaE aC 9 (fun _ => 0)))) o (some e1)) v (some (iaE aC 9 (fun _ => 0)))) o (some e2)) f (some (maE aC 8 (fun _ => none)))) o (some e3)) s = none) :
    ∃ k' v' f' s' : Nat, sgD k' v' f' s' ∧ (h k' = none ∧ h v' = none ∧ h f' = none ∧ h s' = none) ∧ va_up (va_up (va_up (va_up (va_up (va_up (va_up (va_up h k (some (iaE aC 9 (fun _ => 0)))) o (some e1)) v (some (iaE aC 9 (fun _ => 0)))) o (some e2)) f (some (maE aC 8 (fun _ => none)))) o (some e3)) s (some (zaE aC 8 (fun _ => 0)))) o (some (sgE k v f s)) = va_up (sgU h aC k' v' f' s' (fun _ => 0) (fun _ => 0) (fun _ => none) (fun _ => 0)) o (some (sgE k' v' f' s')) ∧ (Sum.inl none : zz_R) = .inl none := by
  have kv : v ≠ k := fun e => by
    rw [e, va_up_ne _ _ (Ne.symm ok), va_up_self] at hv; cases hv
  have hv0 : h v = none := by
    rw [va_up_ne _ _ (Ne.symm ov), va_up_ne _ _ kv] at hv; exact hv
  have fv : f ≠ v := fun e => by
    rw [e, va_up_ne _ _ (Ne.symm ov), va_up_self] at hf; cases hf
  have fk : f ≠ k := fun e => by
    rw [va_up_ne _ _ (Ne.symm of), va_up_ne _ _ fv, va_up_ne _ _ (Ne.symm of), e, va_up_self] at hf; cases hf
  have hf0 : h f = none := by
    rw [va_up_ne _ _ (Ne.symm of), va_up_ne _ _ fv, va_up_ne _ _ (Ne.symm of), va_up_ne _ _ fk] at hf; exact hf
  have sf : s ≠ f := fun e => by
    rw [e, va_up_ne _ _ (Ne.symm of), va_up_self] at hs; cases hs
  have sv : s ≠ v := fun e => by
    rw [va_up_ne _ _ (Ne.symm os), va_up_ne _ _ sf, va_up_ne _ _ (Ne.symm os), e, va_up_self] at hs; cases hs
  have sk : s ≠ k := fun e => by
    rw [va_up_ne _ _ (Ne.symm os), va_up_ne _ _ sf, va_up_ne _ _ (Ne.symm os), va_up_ne _ _ sv, va_up_ne _ _ (Ne.symm os), e, va_up_self] at hs; cases hs
  have hs0 : h s = none := by
    rw [va_up_ne _ _ (Ne.symm os), va_up_ne _ _ sf, va_up_ne _ _ (Ne.symm os), va_up_ne _ _ sv, va_up_ne _ _ (Ne.symm os), va_up_ne _ _ sk] at hs; exact hs
  refine ⟨k, v, f, s, ⟨Ne.symm kv, Ne.symm fk, Ne.symm sk, Ne.symm fv, Ne.symm sv, Ne.symm sf⟩, ⟨hk, hv0, hf0, hs0⟩, ?_, rfl⟩
  funext a
  by_cases e0 : a = o
  · subst e0; rw [va_up_self, va_up_self]
  rw [va_up_ne _ _ e0, va_up_ne _ _ e0]
  by_cases e4 : a = s
  · subst e4; rw [va_up_self, sgU_s ⟨Ne.symm kv, Ne.symm fk, Ne.symm sk, Ne.symm fv, Ne.symm sv, Ne.symm sf⟩]
  rw [va_up_ne _ _ e4, va_up_ne _ _ e0]
  by_cases e3 : a = f
  · subst e3; rw [va_up_self, sgU_f ⟨Ne.symm kv, Ne.symm fk, Ne.symm sk, Ne.symm fv, Ne.symm sv, Ne.symm sf⟩]
  rw [va_up_ne _ _ e3, va_up_ne _ _ e0]
  by_cases e2 : a = v
  · subst e2; rw [va_up_self, sgU_v ⟨Ne.symm kv, Ne.symm fk, Ne.symm sk, Ne.symm fv, Ne.symm sv, Ne.symm sf⟩]
  rw [va_up_ne _ _ e2, va_up_ne _ _ e0]
  by_cases e1 : a = k
  · subst e1; rw [va_up_self, sgU_k]
  rw [va_up_ne _ _ e1, sgU_o e1 e2 e3 e4]
set_option maxHeartbeats 2000000 in
theorem c_S_init (l : Launch) (D : va_G) (aC : Nat → ClassId) (h : zz_Hp) (o : Nat) (ho : h o = some (.inr (1, [.null, .null, .null, .null]))) :
    zz_Ct l D aC y_S_init (zrm 1 4 34 13) [.ref o] h (fun r h' => ∃ k v f s : Nat, sgD k v f s ∧ (h k = none ∧ h v = none ∧ h f = none ∧ h s = none) ∧ h' = va_up (sgU h aC k v f s (fun _ => 0) (fun _ => 0) (fun _ => none) (fun _ => 0)) o (some (sgE k v f s)) ∧ r = .inl none) := by
  refine zz_ct md_S_init rfl (by simp [Value.category]) (Nat.le_of_ble_eq_true rfl) fun K C E hI => ?_
  obtain rfl := E.ac
  refine zz_go C [(0, .aload_n 0)] (by decide +kernel) (pc' := 1) (lv' := [some (.ref o)]) (st' := [.ref o]) rfl ?_
  refine zr_obj C E ml_S_3 (by decide) (by decide) (by decide +kernel) ?_
  refine zz_go C [(4, .aload_n 0), (5, .bipush 9)] (by decide +kernel) (pc' := 7) (lv' := [some (.ref o)]) (st' := [.int (nI 9), .ref o]) rfl ?_
  refine zr_newI C E (by decide) (by decide) (by decide) (by decide) (by decide) (by decide +kernel) (fun k hk zk => ?_)
  have ok : o ≠ k := fun e => by rw [e, hk] at ho; cases ho
  refine zz_putF C fd_S_9 (hI rfl) (by rw [va_up_ne _ _ ok]; exact ho) rfl rfl (Nat.le_of_ble_eq_true rfl) (by decide +kernel) ?_
  refine zz_go C [(12, .aload_n 0), (13, .bipush 9)] (by decide +kernel) (pc' := 15) (lv' := [some (.ref o)]) (st' := [.int (nI 9), .ref o]) rfl ?_
  refine zr_newI C E (by decide) (by decide) (by decide) (by decide) (by decide) (by decide +kernel) (fun v hv zv => ?_)
  have ov : o ≠ v := fun e => by rw [← e, va_up_self] at hv; cases hv
  refine zz_putF C fd_S_15 (hI rfl) (by rw [va_up_ne _ _ ov]; exact va_up_self _ _ _) rfl rfl (Nat.le_of_ble_eq_true rfl) (by decide +kernel) ?_
  refine zz_go C [(20, .aload_n 0), (21, .bipush 8)] (by decide +kernel) (pc' := 23) (lv' := [some (.ref o)]) (st' := [.int (nI 8), .ref o]) rfl ?_
  refine zr_anewM C E cl_S_18 (by decide) (by decide) (by decide) (by decide) (by decide) (by decide +kernel) (fun f hf zf => ?_)
  have of : o ≠ f := fun e => by rw [← e, va_up_self] at hf; cases hf
  refine zz_putF C fd_S_20 (hI rfl) (by rw [va_up_ne _ _ of]; exact va_up_self _ _ _) rfl rfl (Nat.le_of_ble_eq_true rfl) (by decide +kernel) ?_
  refine zz_go C [(29, .aload_n 0), (30, .bipush 8)] (by decide +kernel) (pc' := 32) (lv' := [some (.ref o)]) (st' := [.int (nI 8), .ref o]) rfl ?_
  refine zr_newZ C E (by decide) (by decide) (by decide) (by decide) (by decide) (by decide +kernel) (fun s hs zs => ?_)
  have os : o ≠ s := fun e => by rw [← e, va_up_self] at hs; cases hs
  refine zz_putF C fd_S_24 (hI rfl) (by rw [va_up_ne _ _ os]; exact va_up_self _ _ _) rfl rfl (Nat.le_of_ble_eq_true rfl) (by decide +kernel) ?_
  exact zr_v C E (by decide) (by decide) (by decide +kernel) (by exact sgNew ok ov of os hk hv hf hs)
