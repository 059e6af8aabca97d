/-! ===== OverlayTree$Sight ===== -/
set_option maxHeartbeats 2000000 in
theorem c_S_kindIn (l : Launch) (D : va_G) (aC : Nat → ClassId) (h : zz_Hp) (o k v f s : Nat) (x : Int32) (Kd : Nat → Int32) (ho : h o = some (sgE k v f s)) (hk : h k = some (iaE aC 9 Kd)) :
    zz_Ct l D aC y_S_kindIn (zrm 0 0 0 0) [.ref o, .int x] h (fun r h' => h' = h ∧ r = .inl (some (.int (if x < 0 ∨ 8 < x then (-1) else Kd x.toNatClampNeg)))) := by
  refine zz_ct md_S_kindIn rfl (by simp [Value.category]) (Nat.le_of_ble_eq_true rfl) fun K C E hI => ?_
  obtain rfl := E.ac
  refine zz_go C [(0, .iload_n 1)] (by decide +kernel) (pc' := 1) (lv' := [some (.ref o), some (.int x)]) (st' := [.int x]) rfl ?_
  refine zz_if C (i := .ifCond .lt 9) (by decide +kernel) (Pt := x < 0) (Pf := ¬ x < 0) (off := 9) (r := []) (tgt := 10) rfl (by decide) (fun cA => ?_) (fun cA => ?_)
  · refine zz_go C [(10, .iconst (-1)), (11, .goto 9)] (by decide +kernel) (pc' := 20) (lv' := [some (.ref o), some (.int x)]) (st' := [.int ((-1))]) rfl ?_
    exact zr_i C E (by decide) (by decide) (by decide +kernel) (⟨rfl, by rw [if_pos (Or.inl cA)]⟩)
  · refine zz_go C [(4, .iload_n 1), (5, .bipush 8)] (by decide +kernel) (pc' := 7) (lv' := [some (.ref o), some (.int x)]) (st' := [.int (nI 8), .int x]) rfl ?_
    refine zz_if C (i := .if_icmp .le 7) (by decide +kernel) (Pt := x ≤ (nI 8)) (Pf := ¬ x ≤ (nI 8)) (off := 7) (r := []) (tgt := 14) rfl (by decide) (fun cB => ?_) (fun cB => ?_)
    · refine zz_go C [(14, .aload_n 0)] (by decide +kernel) (pc' := 15) (lv' := [some (.ref o), some (.int x)]) (st' := [.ref o]) rfl ?_
      refine zz_get C fd_S_9 ho (v := .ref k) rfl (by decide +kernel) ?_
      refine zz_go C [(18, .iload_n 1)] (by decide +kernel) (pc' := 19) (lv' := [some (.ref o), some (.int x)]) (st' := [.int x, .ref k]) rfl ?_
      have hx : vp_in x 9 := by
        obtain ⟨j, hj, rfl⟩ := nI_of2 (x := x) (M := 8) (n := 8) (by decide) cA cB
        exact vp_in_nI (by omega) (by omega)
      refine zz_iald C 0 (fun _ => rfl) hk hx (by decide +kernel) ?_
      exact zr_i C E (by decide) (by decide) (by decide +kernel) (⟨rfl, by rw [if_neg]; rintro (q | q); exact cA q; exact absurd cB (Int32.not_le.mpr q)⟩)
    · refine zz_go C [(10, .iconst (-1)), (11, .goto 9)] (by decide +kernel) (pc' := 20) (lv' := [some (.ref o), some (.int x)]) (st' := [.int ((-1))]) rfl ?_
      exact zr_i C E (by decide) (by decide) (by decide +kernel) (⟨rfl, by rw [if_pos (Or.inr (show (8 : Int32) < x from Int32.not_le.mp cB))]⟩)
set_option maxHeartbeats 2000000 in
theorem c_S_valueIn (l : Launch) (D : va_G) (aC : Nat → ClassId) (h : zz_Hp) (o k v f s : Nat) (x : Int32) (Kd : Nat → Int32) (ho : h o = some (sgE k v f s)) (hk : h v = some (iaE aC 9 Kd)) :
    zz_Ct l D aC y_S_valueIn (zrm 0 0 0 0) [.ref o, .int x] h (fun r h' => h' = h ∧ r = .inl (some (.int (if x < 0 ∨ 8 < x then 0 else Kd x.toNatClampNeg)))) := by
  refine zz_ct md_S_valueIn rfl (by simp [Value.category]) (Nat.le_of_ble_eq_true rfl) fun K C E hI => ?_
  obtain rfl := E.ac
  refine zz_go C [(0, .iload_n 1)] (by decide +kernel) (pc' := 1) (lv' := [some (.ref o), some (.int x)]) (st' := [.int x]) rfl ?_
  refine zz_if C (i := .ifCond .lt 9) (by decide +kernel) (Pt := x < 0) (Pf := ¬ x < 0) (off := 9) (r := []) (tgt := 10) rfl (by decide) (fun cA => ?_) (fun cA => ?_)
  · refine zz_go C [(10, .iconst 0), (11, .goto 9)] (by decide +kernel) (pc' := 20) (lv' := [some (.ref o), some (.int x)]) (st' := [.int (nI 0)]) rfl ?_
    exact zr_i C E (by decide) (by decide) (by decide +kernel) (⟨rfl, by rw [if_pos (Or.inl cA)]; rfl⟩)
  · refine zz_go C [(4, .iload_n 1), (5, .bipush 8)] (by decide +kernel) (pc' := 7) (lv' := [some (.ref o), some (.int x)]) (st' := [.int (nI 8), .int x]) rfl ?_
    refine zz_if C (i := .if_icmp .le 7) (by decide +kernel) (Pt := x ≤ (nI 8)) (Pf := ¬ x ≤ (nI 8)) (off := 7) (r := []) (tgt := 14) rfl (by decide) (fun cB => ?_) (fun cB => ?_)
    · refine zz_go C [(14, .aload_n 0)] (by decide +kernel) (pc' := 15) (lv' := [some (.ref o), some (.int x)]) (st' := [.ref o]) rfl ?_
      refine zz_get C fd_S_15 ho (v := .ref v) rfl (by decide +kernel) ?_
      refine zz_go C [(18, .iload_n 1)] (by decide +kernel) (pc' := 19) (lv' := [some (.ref o), some (.int x)]) (st' := [.int x, .ref v]) rfl ?_
      have hx : vp_in x 9 := by
        obtain ⟨j, hj, rfl⟩ := nI_of2 (x := x) (M := 8) (n := 8) (by decide) cA cB
        exact vp_in_nI (by omega) (by omega)
      refine zz_iald C 0 (fun _ => rfl) hk hx (by decide +kernel) ?_
      exact zr_i C E (by decide) (by decide) (by decide +kernel) (⟨rfl, by rw [if_neg]; rintro (q | q); exact cA q; exact absurd cB (Int32.not_le.mpr q)⟩)
    · refine zz_go C [(10, .iconst 0), (11, .goto 9)] (by decide +kernel) (pc' := 20) (lv' := [some (.ref o), some (.int x)]) (st' := [.int (nI 0)]) rfl ?_
      exact zr_i C E (by decide) (by decide) (by decide +kernel) (⟨rfl, by rw [if_pos (Or.inr (show (8 : Int32) < x from Int32.not_le.mp cB))]; rfl⟩)
theorem sgNew {h : zz_Hp} {aC : Nat → ClassId} {o k v f s : Nat} {e1 e2 e3 : va_E} (ok : o ≠ k) (ov : o ≠ v) (of : o ≠ f) (os : o ≠ s) (hk : h k = none) (hv : (va_up (va_up h k (some (iaE aC 9 (fun _ => 0)))) o (some e1)) v = none) (hf : (va_up (va_up (va_up (va_up h k (some (iaE aC 9 (fun _ => 0)))) o (some e1)) v (some (iaE aC 9 (fun _ => 0)))) o (some e2)) f = none)
    (hs : (va_up (va_up (va_up (va_up (va_up (va_up h k (some (iaE aC 9 (fun _ => 0)))) o (some e1)) v (some (iaE aC 9 (fun _ => 0)))) o (some e2)) f (some (maE aC 8 (fun _ => none)))) o (some e3)) s = none) :
    ∃ k' v' f' s' : Nat, sgD k' v' f' s' ∧ (h k' = none ∧ h v' = none ∧ h f' = none ∧ h s' = none) ∧ va_up (va_up (va_up (va_up (va_up (va_up (va_up (va_up h k (some (iaE aC 9 (fun _ => 0)))) o (some e1)) v (some (iaE aC 9 (fun _ => 0)))) o (some e2)) f (some (maE aC 8 (fun _ => none)))) o (some e3)) s (some (zaE aC 8 (fun _ => 0)))) o (some (sgE k v f s)) = va_up (sgU h aC k' v' f' s' (fun _ => 0) (fun _ => 0) (fun _ => none) (fun _ => 0)) o (some (sgE k' v' f' s')) ∧ (Sum.inl none : zz_R) = .inl none := by
  have kv : v ≠ k := fun e => by
    rw [e, va_up_ne _ _ (Ne.symm ok), va_up_self] at hv; cases hv
  have hv0 : h v = none := by
    rw [va_up_ne _ _ (Ne.symm ov), va_up_ne _ _ kv] at hv; exact hv
  have fv : f ≠ v := fun e => by
    rw [e, va_up_ne _ _ (Ne.symm ov), va_up_self] at hf; cases hf
  have fk : f ≠ k := fun e => by
    rw [va_up_ne _ _ (Ne.symm of), va_up_ne _ _ fv, va_up_ne _ _ (Ne.symm of), e, va_up_self] at hf; cases hf
  have hf0 : h f = none := by
    rw [va_up_ne _ _ (Ne.symm of), va_up_ne _ _ fv, va_up_ne _ _ (Ne.symm of), va_up_ne _ _ fk] at hf; exact hf
  have sf : s ≠ f := fun e => by
    rw [e, va_up_ne _ _ (Ne.symm of), va_up_self] at hs; cases hs
  have sv : s ≠ v := fun e => by
    rw [va_up_ne _ _ (Ne.symm os), va_up_ne _ _ sf, va_up_ne _ _ (Ne.symm os), e, va_up_self] at hs; cases hs
  have sk : s ≠ k := fun e => by
    rw [va_up_ne _ _ (Ne.symm os), va_up_ne _ _ sf, va_up_ne _ _ (Ne.symm os), va_up_ne _ _ sv, va_up_ne _ _ (Ne.symm os), e, va_up_self] at hs; cases hs
  have hs0 : h s = none := by
    rw [va_up_ne _ _ (Ne.symm os), va_up_ne _ _ sf, va_up_ne _ _ (Ne.symm os), va_up_ne _ _ sv, va_up_ne _ _ (Ne.symm os), va_up_ne _ _ sk] at hs; exact hs
  refine ⟨k, v, f, s, ⟨Ne.symm kv, Ne.symm fk, Ne.symm sk, Ne.symm fv, Ne.symm sv, Ne.symm sf⟩, ⟨hk, hv0, hf0, hs0⟩, ?_, rfl⟩
  funext a
  by_cases e0 : a = o
  · subst e0; rw [va_up_self, va_up_self]
  rw [va_up_ne _ _ e0, va_up_ne _ _ e0]
  by_cases e4 : a = s
  · subst e4; rw [va_up_self, sgU_s ⟨Ne.symm kv, Ne.symm fk, Ne.symm sk, Ne.symm fv, Ne.symm sv, Ne.symm sf⟩]
  rw [va_up_ne _ _ e4, va_up_ne _ _ e0]
  by_cases e3 : a = f
  · subst e3; rw [va_up_self, sgU_f ⟨Ne.symm kv, Ne.symm fk, Ne.symm sk, Ne.symm fv, Ne.symm sv, Ne.symm sf⟩]
  rw [va_up_ne _ _ e3, va_up_ne _ _ e0]
  by_cases e2 : a = v
  · subst e2; rw [va_up_self, sgU_v ⟨Ne.symm kv, Ne.symm fk, Ne.symm sk, Ne.symm fv, Ne.symm sv, Ne.symm sf⟩]
  rw [va_up_ne _ _ e2, va_up_ne _ _ e0]
  by_cases e1 : a = k
  · subst e1; rw [va_up_self, sgU_k]
  rw [va_up_ne _ _ e1, sgU_o e1 e2 e3 e4]
set_option maxHeartbeats 2000000 in
theorem c_S_init (l : Launch) (D : va_G) (aC : Nat → ClassId) (h : zz_Hp) (o : Nat) (ho : h o = some (.inr (1, [.null, .null, .null, .null]))) :
    zz_Ct l D aC y_S_init (zrm 1 4 34 13) [.ref o] h (fun r h' => ∃ k v f s : Nat, sgD k v f s ∧ (h k = none ∧ h v = none ∧ h f = none ∧ h s = none) ∧ h' = va_up (sgU h aC k v f s (fun _ => 0) (fun _ => 0) (fun _ => none) (fun _ => 0)) o (some (sgE k v f s)) ∧ r = .inl none) := by
  refine zz_ct md_S_init rfl (by simp [Value.category]) (Nat.le_of_ble_eq_true rfl) fun K C E hI => ?_
  obtain rfl := E.ac
  refine zz_go C [(0, .aload_n 0)] (by decide +kernel) (pc' := 1) (lv' := [some (.ref o)]) (st' := [.ref o]) rfl ?_
  refine zr_obj C E ml_S_3 (by decide) (by decide) (by decide +kernel) ?_
  refine zz_go C [(4, .aload_n 0), (5, .bipush 9)] (by decide +kernel) (pc' := 7) (lv' := [some (.ref o)]) (st' := [.int (nI 9), .ref o]) rfl ?_
  refine zr_newI C E (by decide) (N := 9) (by decide) (by decide) (by decide) (by decide) (by decide +kernel) (fun k hk zk => ?_)
  have ok : o ≠ k := fun e => by rw [e, hk] at ho; cases ho
  refine zz_putF C fd_S_9 (hI rfl) (by rw [va_up_ne _ _ ok]; exact ho) rfl rfl (Nat.le_of_ble_eq_true rfl) (by decide +kernel) ?_
  refine zz_go C [(12, .aload_n 0), (13, .bipush 9)] (by decide +kernel) (pc' := 15) (lv' := [some (.ref o)]) (st' := [.int (nI 9), .ref o]) rfl ?_
  refine zr_newI C E (by decide) (N := 9) (by decide) (by decide) (by decide) (by decide) (by decide +kernel) (fun v hv zv => ?_)
  have ov : o ≠ v := fun e => by rw [← e, va_up_self] at hv; cases hv
  refine zz_putF C fd_S_15 (hI rfl) (by rw [va_up_ne _ _ ov]; exact va_up_self _ _ _) rfl rfl (Nat.le_of_ble_eq_true rfl) (by decide +kernel) ?_
  refine zz_go C [(20, .aload_n 0), (21, .bipush 8)] (by decide +kernel) (pc' := 23) (lv' := [some (.ref o)]) (st' := [.int (nI 8), .ref o]) rfl ?_
  refine zr_anewM C E cl_S_18 (by decide) (N := 8) (by decide) (by decide) (by decide) (by decide) (by decide +kernel) (fun f hf zf => ?_)
  have of : o ≠ f := fun e => by rw [← e, va_up_self] at hf; cases hf
  refine zz_putF C fd_S_20 (hI rfl) (by rw [va_up_ne _ _ of]; exact va_up_self _ _ _) rfl rfl (Nat.le_of_ble_eq_true rfl) (by decide +kernel) ?_
  refine zz_go C [(29, .aload_n 0), (30, .bipush 8)] (by decide +kernel) (pc' := 32) (lv' := [some (.ref o)]) (st' := [.int (nI 8), .ref o]) rfl ?_
  refine zr_newZ C E (by decide) (N := 8) (by decide) (by decide) (by decide) (by decide) (by decide +kernel) (fun s hs zs => ?_)
  have os : o ≠ s := fun e => by rw [← e, va_up_self] at hs; cases hs
  refine zz_putF C fd_S_24 (hI rfl) (by rw [va_up_ne _ _ os]; exact va_up_self _ _ _) rfl rfl (Nat.le_of_ble_eq_true rfl) (by decide +kernel) ?_
  exact zr_v C E (by decide) (by decide) (by decide +kernel) (by exact sgNew ok ov of os hk hv hf hs)
/-! one layer more in a sight -/
def sgN (c k v f s : Nat) : Prop := c ≠ k ∧ c ≠ v ∧ c ≠ f ∧ c ≠ s
theorem sgU_n {h : zz_Hp} {aC : Nat → ClassId} {k v f s c : Nat} {Kd Vl Sh : Nat → Int32} {Fd : Nat → Option Nat} (n : sgN c k v f s) : sgU h aC k v f s Kd Vl Fd Sh c = h c := sgU_o n.1 n.2.1 n.2.2.1 n.2.2.2
theorem upd_upd (f : Nat → Int32) (j : Nat) (x y : Int32) : upd (upd f j x) j y = upd f j y := by
  funext a; unfold upd; by_cases h : a = j
  · rw [if_pos h, if_pos h]
  · rw [if_neg h, if_neg h, if_neg h]
theorem upd_ne (f : Nat → Int32) {j a : Nat} (x : Int32) (h : a ≠ j) : upd f j x a = f a := if_neg h
theorem upd_at (f : Nat → Int32) (j : Nat) (x : Int32) : upd f j x j = x := if_pos rfl
theorem upd_self (f : Nat → Int32) (j : Nat) : upd f j (f j) = f := by
  funext a; unfold upd; by_cases h : a = j
  · rw [if_pos h, h]
  · rw [if_neg h]
section GA
variable {K : zz_K} {Q : State → Prop} {h0 h : zz_Hp} {ck cn pc : Nat} {lv : List (Option Value)} {st : List Value} {cc : ByteArray} {own : String}
theorem ga_ild (C : zz_C K cc own) {a N j : Nat} {g : Nat → Int32} (ha : h a = some (iaE (zz_ac K) N g)) (hj : j < N) (hN : N ≤ 100000) (hd : decode cc pc = .ok (.iaload, 1)) (kk : zz_Z K Q h0 h ck cn (pc + 1) lv (.int (g j) :: st)) : zz_Z K Q h0 h ck cn pc lv (.int (nI j) :: .ref a :: st) := by
  refine zz_iald C 0 (fun _ => rfl) ha (vp_in_nI hj (by omega)) hd ?_
  rw [nI_clamp (by omega)]; exact kk
theorem ga_zld (C : zz_C K cc own) {a N j : Nat} {g : Nat → Int32} (ha : h a = some (zaE (zz_ac K) N g)) (hj : j < N) (hN : N ≤ 100000) (hd : decode cc pc = .ok (.baload, 1)) (kk : zz_Z K Q h0 h ck cn (pc + 1) lv (.int (g j) :: st)) : zz_Z K Q h0 h ck cn pc lv (.int (nI j) :: .ref a :: st) := by
  refine zz_zald C 1 (fun _ => rfl) ha (vp_in_nI hj (by omega)) hd ?_
  rw [nI_clamp (by omega)]; exact kk
theorem ga_qld (C : zz_C K cc own) {a N j : Nat} {g : Nat → Option Nat} (ha : h a = some (maE (zz_ac K) N g)) (hj : j < N) (hN : N ≤ 100000) (hd : decode cc pc = .ok (.aaload, 1)) (kk : zz_Z K Q h0 h ck cn (pc + 1) lv (va_rf (g j) :: st)) : zz_Z K Q h0 h ck cn pc lv (.int (nI j) :: .ref a :: st) := by
  refine zz_qald C 3 (fun _ => rfl) ha (vp_in_nI hj (by omega)) hd ?_
  rw [nI_clamp (by omega)]; exact kk
end GA
def alK (P S : Int32) (m : Option Nat) (ms K0 : Int32) : Int32 := if P = nI 1 then (if m = none then (if S = 0 then -1 else K0) else if ms = nI 3 then -1 else if ms = 0 then nI 0 else nI 1) else -1
def alV (P S : Int32) (m : Option Nat) (mv V0 V1 : Int32) : Int32 := if P = nI 1 then (if m = none then (if S = 0 then V1 else V0) else mv) else V1
def alS (S : Int32) (m : Option Nat) (ms K0 : Int32) : Bool := decide (¬ S = 0 ∧ K0 = nI 1 ∧ (m = none ∨ ms = nI 1))
set_option maxHeartbeats 4000000 in
theorem c_S_addLayer (l : Launch) (D : va_G) (aC : Nat → ClassId) (h : zz_Hp) (o k v f s po pk pv pf ps i : Nat) (Kd Vl : Nat → Int32) (Fd : Nat → Option Nat) (Sh PK PS : Nat → Int32) (ms mv : Int32) (d : sgD k v f s) (no : sgN o k v f s) (ho : h o = some (sgE k v f s)) (np : sgN po k v f s) (hpo : h po = some (sgE pk pv pf ps)) (npk : sgN pk k v f s) (hpk : h pk = some (iaE aC 9 PK)) (nps : sgN ps k v f s) (hps : h ps = some (zaE aC 8 PS)) (hi : i < 8) (hm : ∀ c, Fd i = some c → sgN c k v f s ∧ ∃ b, h c = some (mkE ms mv b)) :
    zz_Ct l D aC y_S_addLayer (zrm 0 0 0 0) [.ref o, .ref po, .int (nI i)] (sgU h aC k v f s Kd Vl Fd Sh) (fun r h' => h' = sgU h aC k v f s (upd Kd (i + 1) (alK (PK (i + 1)) (PS i) (Fd i) ms (Kd i))) (upd Vl (i + 1) (alV (PK (i + 1)) (PS i) (Fd i) mv (Vl i) (Vl (i + 1)))) Fd (upd Sh i (bI (alS (PS i) (Fd i) ms (Kd i)))) ∧ r = .inl none) := by
  refine zz_ct md_S_addLayer rfl (by simp [Value.category]) (Nat.le_of_ble_eq_true rfl) fun K C E hI => ?_
  obtain rfl := E.ac
  refine zz_go C [(0, .iload_n 2)] (by decide +kernel) (pc' := 1) (lv' := [some (.ref o), some (.ref po), some (.int (nI i)), none]) (st' := [.int (nI i)]) rfl ?_
  refine zz_if C (i := .ifCond .lt 9) (by decide +kernel) (Pt := (nI i) < 0) (Pf := ¬ (nI i) < 0) (off := 9) (r := []) (tgt := 10) rfl (by decide) (fun cA => ?_) (fun cA => ?_)
  · exact absurd cA (nI_pos (by omega))
  · refine zz_go C [(4, .iload_n 2), (5, .bipush 8)] (by decide +kernel) (pc' := 7) (lv' := [some (.ref o), some (.ref po), some (.int (nI i)), none]) (st' := [.int (nI 8), .int (nI i)]) rfl ?_
    refine zz_if C (i := .if_icmp .lt 4) (by decide +kernel) (Pt := (nI i) < (nI 8)) (Pf := ¬ (nI i) < (nI 8)) (off := 4) (r := []) (tgt := 11) rfl (by decide) (fun cB => ?_) (fun cB => ?_)
    · refine zz_go C [(11, .aload_n 0)] (by decide +kernel) (pc' := 12) (lv' := [some (.ref o), some (.ref po), some (.int (nI i)), none]) (st' := [.ref o]) rfl ?_
      refine zz_get C fd_S_20 ((sgU_n no).trans ho) (v := .ref f) rfl (by decide +kernel) ?_
      refine zz_go C [(15, .iload_n 2)] (by decide +kernel) (pc' := 16) (lv' := [some (.ref o), some (.ref po), some (.int (nI i)), none]) (st' := [.int (nI i), .ref f]) rfl ?_
      refine sg_fld C d hi (by decide +kernel) ?_
      cases hF : Fd i with
      | none =>
        show zz_Z _ _ _ _ _ _ _ _ [.null]
        refine zz_go C [(17, .astore_n 3), (18, .aload_n 0)] (by decide +kernel) (pc' := 19) (lv' := [some (.ref o), some (.ref po), some (.int (nI i)), some (.null)]) (st' := [.ref o]) rfl ?_
        refine zz_get C fd_S_9 ((sgU_n no).trans ho) (v := .ref k) rfl (by decide +kernel) ?_
        refine zz_go C [(22, .iload_n 2), (23, .iconst 1), (24, .iadd), (25, .iconst (-1))] (by decide +kernel) (pc' := 26) (lv' := [some (.ref o), some (.ref po), some (.int (nI i)), some (.null)]) (st' := [.int ((-1)), .int ((nI i) + (nI 1)), .ref k]) rfl ?_
        rw [show nI i + nI 1 = nI (i + 1) from nI_add i 1]
        refine sg_kst C (by omega) (by decide +kernel) ?_
        have J2 : ∀ (K2 V2 : Nat → Int32) (b : Bool), K2 = upd Kd (i + 1) (alK (PK (i + 1)) (PS i) none ms (Kd i)) → V2 = upd Vl (i + 1) (alV (PK (i + 1)) (PS i) none mv (Vl i) (Vl (i + 1))) → b = alS (PS i) none ms (Kd i) → zz_Z K (zz_End K (sgU h (zz_ac K) k v f s Kd Vl Fd Sh) (fun r h' => h' = sgU h (zz_ac K) k v f s (upd Kd (i + 1) (alK (PK (i + 1)) (PS i) none ms (Kd i))) (upd Vl (i + 1) (alV (PK (i + 1)) (PS i) none mv (Vl i) (Vl (i + 1)))) Fd (upd Sh i (bI (alS (PS i) none ms (Kd i)))) ∧ r = .inl none)) (sgU h (zz_ac K) k v f s Kd Vl Fd Sh) (sgU h (zz_ac K) k v f s K2 V2 Fd Sh) 0 0 168 [some (.ref o), some (.ref po), some (.int (nI i)), some (.null)] [.int (bI b), .int (nI i), .ref s] := fun K2 V2 b e1 e2 e3 => by
          refine sg_sst C d b hi (by decide +kernel) ?_
          subst e1; subst e2; subst e3
          exact zr_v C E (by decide) (by decide) (by decide +kernel) (⟨rfl, rfl⟩)
        have J : ∀ K2 V2 : Nat → Int32, K2 = upd Kd (i + 1) (alK (PK (i + 1)) (PS i) none ms (Kd i)) → V2 = upd Vl (i + 1) (alV (PK (i + 1)) (PS i) none mv (Vl i) (Vl (i + 1))) → zz_Z K (zz_End K (sgU h (zz_ac K) k v f s Kd Vl Fd Sh) (fun r h' => h' = sgU h (zz_ac K) k v f s (upd Kd (i + 1) (alK (PK (i + 1)) (PS i) none ms (Kd i))) (upd Vl (i + 1) (alV (PK (i + 1)) (PS i) none mv (Vl i) (Vl (i + 1)))) Fd (upd Sh i (bI (alS (PS i) none ms (Kd i)))) ∧ r = .inl none)) (sgU h (zz_ac K) k v f s Kd Vl Fd Sh) (sgU h (zz_ac K) k v f s K2 V2 Fd Sh) 0 0 127 [some (.ref o), some (.ref po), some (.int (nI i)), some (.null)] [] := fun K2 V2 e1 e2 => by
          refine zz_go C [(127, .aload_n 0)] (by decide +kernel) (pc' := 128) (lv' := [some (.ref o), some (.ref po), some (.int (nI i)), some (.null)]) (st' := [.ref o]) rfl ?_
          refine zz_get C fd_S_24 ((sgU_n no).trans ho) (v := .ref s) rfl (by decide +kernel) ?_
          refine zz_go C [(131, .iload_n 2), (132, .aload_n 1)] (by decide +kernel) (pc' := 133) (lv' := [some (.ref o), some (.ref po), some (.int (nI i)), some (.null)]) (st' := [.ref po, .int (nI i), .ref s]) rfl ?_
          refine zz_get C fd_S_24 ((sgU_n np).trans hpo) (v := .ref ps) rfl (by decide +kernel) ?_
          refine zz_go C [(136, .iload_n 2)] (by decide +kernel) (pc' := 137) (lv' := [some (.ref o), some (.ref po), some (.int (nI i)), some (.null)]) (st' := [.int (nI i), .ref ps, .int (nI i), .ref s]) rfl ?_
          refine ga_zld C ((sgU_n nps).trans hps) hi (by decide) (by decide +kernel) ?_
          refine zz_if C (i := .ifCond .eq 29) (by decide +kernel) (Pt := (PS i) = 0) (Pf := ¬ (PS i) = 0) (off := 29) (r := [.int (nI i), .ref s]) (tgt := 167) rfl (by decide) (fun g1 => ?_) (fun g1 => ?_)
          · refine zz_go C [(167, .iconst 0)] (by decide +kernel) (pc' := 168) (lv' := [some (.ref o), some (.ref po), some (.int (nI i)), some (.null)]) (st' := [.int (nI 0), .int (nI i), .ref s]) rfl ?_
            exact J2 K2 V2 false e1 e2 (by unfold alS; symm; exact decide_eq_false (fun q => q.1 g1))
          · refine zz_go C [(141, .aload_n 0)] (by decide +kernel) (pc' := 142) (lv' := [some (.ref o), some (.ref po), some (.int (nI i)), some (.null)]) (st' := [.ref o, .int (nI i), .ref s]) rfl ?_
            refine zz_get C fd_S_9 ((sgU_n no).trans ho) (v := .ref k) rfl (by decide +kernel) ?_
            refine zz_go C [(145, .iload_n 2)] (by decide +kernel) (pc' := 146) (lv' := [some (.ref o), some (.ref po), some (.int (nI i)), some (.null)]) (st' := [.int (nI i), .ref k, .int (nI i), .ref s]) rfl ?_
            refine sg_kld C (by omega) (by decide +kernel) ?_
            rw [show K2 i = Kd i from by rw [e1, upd_ne _ _ (by omega)]]
            refine zz_go C [(147, .iconst 1)] (by decide +kernel) (pc' := 148) (lv' := [some (.ref o), some (.ref po), some (.int (nI i)), some (.null)]) (st' := [.int (nI 1), .int (Kd i), .int (nI i), .ref s]) rfl ?_
            refine zz_if C (i := .if_icmp .ne 19) (by decide +kernel) (Pt := ¬ (Kd i) = (nI 1)) (Pf := (Kd i) = (nI 1)) (off := 19) (r := [.int (nI i), .ref s]) (tgt := 167) rfl (by decide) (fun g2 => ?_) (fun g2 => ?_)
            · refine zz_go C [(167, .iconst 0)] (by decide +kernel) (pc' := 168) (lv' := [some (.ref o), some (.ref po), some (.int (nI i)), some (.null)]) (st' := [.int (nI 0), .int (nI i), .ref s]) rfl ?_
              exact J2 K2 V2 false e1 e2 (by unfold alS; symm; exact decide_eq_false (fun q => g2 q.2.1))
            · refine zz_go C [(151, .aload_n 3), (152, .ifnull 11), (163, .iconst 1), (164, .goto 4)] (by decide +kernel) (pc' := 168) (lv' := [some (.ref o), some (.ref po), some (.int (nI i)), some (.null)]) (st' := [.int (nI 1), .int (nI i), .ref s]) rfl ?_
              exact J2 K2 V2 true e1 e2 (by unfold alS; symm; exact decide_eq_true ⟨g1, g2, Or.inl rfl⟩)
        refine zz_go C [(27, .aload_n 1)] (by decide +kernel) (pc' := 28) (lv' := [some (.ref o), some (.ref po), some (.int (nI i)), some (.null)]) (st' := [.ref po]) rfl ?_
        refine zz_get C fd_S_9 ((sgU_n np).trans hpo) (v := .ref pk) rfl (by decide +kernel) ?_
        refine zz_go C [(31, .iload_n 2), (32, .iconst 1), (33, .iadd)] (by decide +kernel) (pc' := 34) (lv' := [some (.ref o), some (.ref po), some (.int (nI i)), some (.null)]) (st' := [.int ((nI i) + (nI 1)), .ref pk]) rfl ?_
        rw [show nI i + nI 1 = nI (i + 1) from nI_add i 1]
        refine ga_ild C ((sgU_n npk).trans hpk) (by omega) (by decide) (by decide +kernel) ?_
        refine zz_go C [(35, .iconst 1)] (by decide +kernel) (pc' := 36) (lv' := [some (.ref o), some (.ref po), some (.int (nI i)), some (.null)]) (st' := [.int (nI 1), .int (PK (i + 1))]) rfl ?_
        refine zz_if C (i := .if_icmp .ne 91) (by decide +kernel) (Pt := ¬ (PK (i + 1)) = (nI 1)) (Pf := (PK (i + 1)) = (nI 1)) (off := 91) (r := []) (tgt := 127) rfl (by decide) (fun c1 => ?_) (fun c1 => ?_)
        · refine J _ _ ?_ ?_
          · rw [alK, if_neg c1]
          · rw [alV, if_neg c1, upd_self]
        · refine zz_go C [(39, .aload_n 3), (40, .ifnull 50), (90, .aload_n 1)] (by decide +kernel) (pc' := 91) (lv' := [some (.ref o), some (.ref po), some (.int (nI i)), some (.null)]) (st' := [.ref po]) rfl ?_
          refine zz_get C fd_S_24 ((sgU_n np).trans hpo) (v := .ref ps) rfl (by decide +kernel) ?_
          refine zz_go C [(94, .iload_n 2)] (by decide +kernel) (pc' := 95) (lv' := [some (.ref o), some (.ref po), some (.int (nI i)), some (.null)]) (st' := [.int (nI i), .ref ps]) rfl ?_
          refine ga_zld C ((sgU_n nps).trans hps) hi (by decide) (by decide +kernel) ?_
          refine zz_if C (i := .ifCond .eq 31) (by decide +kernel) (Pt := (PS i) = 0) (Pf := ¬ (PS i) = 0) (off := 31) (r := []) (tgt := 127) rfl (by decide) (fun c2 => ?_) (fun c2 => ?_)
          · refine J _ _ ?_ ?_
            · rw [alK, if_pos c1, if_pos rfl, if_pos c2]
            · rw [alV, if_pos c1, if_pos rfl, if_pos c2, upd_self]
          · refine zz_go C [(99, .aload_n 0)] (by decide +kernel) (pc' := 100) (lv' := [some (.ref o), some (.ref po), some (.int (nI i)), some (.null)]) (st' := [.ref o]) rfl ?_
            refine zz_get C fd_S_9 ((sgU_n no).trans ho) (v := .ref k) rfl (by decide +kernel) ?_
            refine zz_go C [(103, .iload_n 2), (104, .iconst 1), (105, .iadd), (106, .aload_n 0)] (by decide +kernel) (pc' := 107) (lv' := [some (.ref o), some (.ref po), some (.int (nI i)), some (.null)]) (st' := [.ref o, .int ((nI i) + (nI 1)), .ref k]) rfl ?_
            rw [show nI i + nI 1 = nI (i + 1) from nI_add i 1]
            refine zz_get C fd_S_9 ((sgU_n no).trans ho) (v := .ref k) rfl (by decide +kernel) ?_
            refine zz_go C [(110, .iload_n 2)] (by decide +kernel) (pc' := 111) (lv' := [some (.ref o), some (.ref po), some (.int (nI i)), some (.null)]) (st' := [.int (nI i), .ref k, .int (nI (i + 1)), .ref k]) rfl ?_
            refine sg_kld C (by omega) (by decide +kernel) ?_
            rw [upd_ne _ _ (show i ≠ i + 1 by omega)]
            refine sg_kst C (by omega) (by decide +kernel) ?_
            refine zz_go C [(113, .aload_n 0)] (by decide +kernel) (pc' := 114) (lv' := [some (.ref o), some (.ref po), some (.int (nI i)), some (.null)]) (st' := [.ref o]) rfl ?_
            refine zz_get C fd_S_15 ((sgU_n no).trans ho) (v := .ref v) rfl (by decide +kernel) ?_
            refine zz_go C [(117, .iload_n 2), (118, .iconst 1), (119, .iadd), (120, .aload_n 0)] (by decide +kernel) (pc' := 121) (lv' := [some (.ref o), some (.ref po), some (.int (nI i)), some (.null)]) (st' := [.ref o, .int ((nI i) + (nI 1)), .ref v]) rfl ?_
            rw [show nI i + nI 1 = nI (i + 1) from nI_add i 1]
            refine zz_get C fd_S_15 ((sgU_n no).trans ho) (v := .ref v) rfl (by decide +kernel) ?_
            refine zz_go C [(124, .iload_n 2)] (by decide +kernel) (pc' := 125) (lv' := [some (.ref o), some (.ref po), some (.int (nI i)), some (.null)]) (st' := [.int (nI i), .ref v, .int (nI (i + 1)), .ref v]) rfl ?_
            refine sg_vld C d (by omega) (by decide +kernel) ?_
            refine sg_vst C d (by omega) (by decide +kernel) ?_
            refine J _ _ ?_ ?_
            · rw [upd_upd, alK, if_pos c1, if_pos rfl, if_neg c2]
            · rw [alV, if_pos c1, if_pos rfl, if_neg c2]
      | some c =>
        obtain ⟨nc, mb, hc⟩ := hm c hF
        show zz_Z _ _ _ _ _ _ _ _ [.ref c]
        refine zz_go C [(17, .astore_n 3), (18, .aload_n 0)] (by decide +kernel) (pc' := 19) (lv' := [some (.ref o), some (.ref po), some (.int (nI i)), some (.ref c)]) (st' := [.ref o]) rfl ?_
        refine zz_get C fd_S_9 ((sgU_n no).trans ho) (v := .ref k) rfl (by decide +kernel) ?_
        refine zz_go C [(22, .iload_n 2), (23, .iconst 1), (24, .iadd), (25, .iconst (-1))] (by decide +kernel) (pc' := 26) (lv' := [some (.ref o), some (.ref po), some (.int (nI i)), some (.ref c)]) (st' := [.int ((-1)), .int ((nI i) + (nI 1)), .ref k]) rfl ?_
        rw [show nI i + nI 1 = nI (i + 1) from nI_add i 1]
        refine sg_kst C (by omega) (by decide +kernel) ?_
        have J2 : ∀ (K2 V2 : Nat → Int32) (b : Bool), K2 = upd Kd (i + 1) (alK (PK (i + 1)) (PS i) (some c) ms (Kd i)) → V2 = upd Vl (i + 1) (alV (PK (i + 1)) (PS i) (some c) mv (Vl i) (Vl (i + 1))) → b = alS (PS i) (some c) ms (Kd i) → zz_Z K (zz_End K (sgU h (zz_ac K) k v f s Kd Vl Fd Sh) (fun r h' => h' = sgU h (zz_ac K) k v f s (upd Kd (i + 1) (alK (PK (i + 1)) (PS i) (some c) ms (Kd i))) (upd Vl (i + 1) (alV (PK (i + 1)) (PS i) (some c) mv (Vl i) (Vl (i + 1)))) Fd (upd Sh i (bI (alS (PS i) (some c) ms (Kd i)))) ∧ r = .inl none)) (sgU h (zz_ac K) k v f s Kd Vl Fd Sh) (sgU h (zz_ac K) k v f s K2 V2 Fd Sh) 0 0 168 [some (.ref o), some (.ref po), some (.int (nI i)), some (.ref c)] [.int (bI b), .int (nI i), .ref s] := fun K2 V2 b e1 e2 e3 => by
          refine sg_sst C d b hi (by decide +kernel) ?_
          subst e1; subst e2; subst e3
          exact zr_v C E (by decide) (by decide) (by decide +kernel) (⟨rfl, rfl⟩)
        have J : ∀ K2 V2 : Nat → Int32, K2 = upd Kd (i + 1) (alK (PK (i + 1)) (PS i) (some c) ms (Kd i)) → V2 = upd Vl (i + 1) (alV (PK (i + 1)) (PS i) (some c) mv (Vl i) (Vl (i + 1))) → zz_Z K (zz_End K (sgU h (zz_ac K) k v f s Kd Vl Fd Sh) (fun r h' => h' = sgU h (zz_ac K) k v f s (upd Kd (i + 1) (alK (PK (i + 1)) (PS i) (some c) ms (Kd i))) (upd Vl (i + 1) (alV (PK (i + 1)) (PS i) (some c) mv (Vl i) (Vl (i + 1)))) Fd (upd Sh i (bI (alS (PS i) (some c) ms (Kd i)))) ∧ r = .inl none)) (sgU h (zz_ac K) k v f s Kd Vl Fd Sh) (sgU h (zz_ac K) k v f s K2 V2 Fd Sh) 0 0 127 [some (.ref o), some (.ref po), some (.int (nI i)), some (.ref c)] [] := fun K2 V2 e1 e2 => by
          refine zz_go C [(127, .aload_n 0)] (by decide +kernel) (pc' := 128) (lv' := [some (.ref o), some (.ref po), some (.int (nI i)), some (.ref c)]) (st' := [.ref o]) rfl ?_
          refine zz_get C fd_S_24 ((sgU_n no).trans ho) (v := .ref s) rfl (by decide +kernel) ?_
          refine zz_go C [(131, .iload_n 2), (132, .aload_n 1)] (by decide +kernel) (pc' := 133) (lv' := [some (.ref o), some (.ref po), some (.int (nI i)), some (.ref c)]) (st' := [.ref po, .int (nI i), .ref s]) rfl ?_
          refine zz_get C fd_S_24 ((sgU_n np).trans hpo) (v := .ref ps) rfl (by decide +kernel) ?_
          refine zz_go C [(136, .iload_n 2)] (by decide +kernel) (pc' := 137) (lv' := [some (.ref o), some (.ref po), some (.int (nI i)), some (.ref c)]) (st' := [.int (nI i), .ref ps, .int (nI i), .ref s]) rfl ?_
          refine ga_zld C ((sgU_n nps).trans hps) hi (by decide) (by decide +kernel) ?_
          refine zz_if C (i := .ifCond .eq 29) (by decide +kernel) (Pt := (PS i) = 0) (Pf := ¬ (PS i) = 0) (off := 29) (r := [.int (nI i), .ref s]) (tgt := 167) rfl (by decide) (fun g1 => ?_) (fun g1 => ?_)
          · refine zz_go C [(167, .iconst 0)] (by decide +kernel) (pc' := 168) (lv' := [some (.ref o), some (.ref po), some (.int (nI i)), some (.ref c)]) (st' := [.int (nI 0), .int (nI i), .ref s]) rfl ?_
            exact J2 K2 V2 false e1 e2 (by unfold alS; symm; exact decide_eq_false (fun q => q.1 g1))
          · refine zz_go C [(141, .aload_n 0)] (by decide +kernel) (pc' := 142) (lv' := [some (.ref o), some (.ref po), some (.int (nI i)), some (.ref c)]) (st' := [.ref o, .int (nI i), .ref s]) rfl ?_
            refine zz_get C fd_S_9 ((sgU_n no).trans ho) (v := .ref k) rfl (by decide +kernel) ?_
            refine zz_go C [(145, .iload_n 2)] (by decide +kernel) (pc' := 146) (lv' := [some (.ref o), some (.ref po), some (.int (nI i)), some (.ref c)]) (st' := [.int (nI i), .ref k, .int (nI i), .ref s]) rfl ?_
            refine sg_kld C (by omega) (by decide +kernel) ?_
            rw [show K2 i = Kd i from by rw [e1, upd_ne _ _ (by omega)]]
            refine zz_go C [(147, .iconst 1)] (by decide +kernel) (pc' := 148) (lv' := [some (.ref o), some (.ref po), some (.int (nI i)), some (.ref c)]) (st' := [.int (nI 1), .int (Kd i), .int (nI i), .ref s]) rfl ?_
            refine zz_if C (i := .if_icmp .ne 19) (by decide +kernel) (Pt := ¬ (Kd i) = (nI 1)) (Pf := (Kd i) = (nI 1)) (off := 19) (r := [.int (nI i), .ref s]) (tgt := 167) rfl (by decide) (fun g2 => ?_) (fun g2 => ?_)
            · refine zz_go C [(167, .iconst 0)] (by decide +kernel) (pc' := 168) (lv' := [some (.ref o), some (.ref po), some (.int (nI i)), some (.ref c)]) (st' := [.int (nI 0), .int (nI i), .ref s]) rfl ?_
              exact J2 K2 V2 false e1 e2 (by unfold alS; symm; exact decide_eq_false (fun q => g2 q.2.1))
            · refine zz_go C [(151, .aload_n 3), (152, .ifnull 11), (155, .aload_n 3)] (by decide +kernel) (pc' := 156) (lv' := [some (.ref o), some (.ref po), some (.int (nI i)), some (.ref c)]) (st' := [.ref c, .int (nI i), .ref s]) rfl ?_
              refine zz_get C fd_S_36 ((sgU_n nc).trans hc) (v := .int ms) rfl (by decide +kernel) ?_
              refine zz_go C [(159, .iconst 1)] (by decide +kernel) (pc' := 160) (lv' := [some (.ref o), some (.ref po), some (.int (nI i)), some (.ref c)]) (st' := [.int (nI 1), .int ms, .int (nI i), .ref s]) rfl ?_
              refine zz_if C (i := .if_icmp .ne 7) (by decide +kernel) (Pt := ¬ ms = (nI 1)) (Pf := ms = (nI 1)) (off := 7) (r := [.int (nI i), .ref s]) (tgt := 167) rfl (by decide) (fun g3 => ?_) (fun g3 => ?_)
              · refine zz_go C [(167, .iconst 0)] (by decide +kernel) (pc' := 168) (lv' := [some (.ref o), some (.ref po), some (.int (nI i)), some (.ref c)]) (st' := [.int (nI 0), .int (nI i), .ref s]) rfl ?_
                exact J2 K2 V2 false e1 e2 (by unfold alS; symm; exact decide_eq_false (fun q => q.2.2.elim (fun x => by cases x) g3))
              · refine zz_go C [(163, .iconst 1), (164, .goto 4)] (by decide +kernel) (pc' := 168) (lv' := [some (.ref o), some (.ref po), some (.int (nI i)), some (.ref c)]) (st' := [.int (nI 1), .int (nI i), .ref s]) rfl ?_
                exact J2 K2 V2 true e1 e2 (by unfold alS; symm; exact decide_eq_true (⟨g1, g2, Or.inr g3⟩))
        refine zz_go C [(27, .aload_n 1)] (by decide +kernel) (pc' := 28) (lv' := [some (.ref o), some (.ref po), some (.int (nI i)), some (.ref c)]) (st' := [.ref po]) rfl ?_
        refine zz_get C fd_S_9 ((sgU_n np).trans hpo) (v := .ref pk) rfl (by decide +kernel) ?_
        refine zz_go C [(31, .iload_n 2), (32, .iconst 1), (33, .iadd)] (by decide +kernel) (pc' := 34) (lv' := [some (.ref o), some (.ref po), some (.int (nI i)), some (.ref c)]) (st' := [.int ((nI i) + (nI 1)), .ref pk]) rfl ?_
        rw [show nI i + nI 1 = nI (i + 1) from nI_add i 1]
        refine ga_ild C ((sgU_n npk).trans hpk) (by omega) (by decide) (by decide +kernel) ?_
        refine zz_go C [(35, .iconst 1)] (by decide +kernel) (pc' := 36) (lv' := [some (.ref o), some (.ref po), some (.int (nI i)), some (.ref c)]) (st' := [.int (nI 1), .int (PK (i + 1))]) rfl ?_
        refine zz_if C (i := .if_icmp .ne 91) (by decide +kernel) (Pt := ¬ (PK (i + 1)) = (nI 1)) (Pf := (PK (i + 1)) = (nI 1)) (off := 91) (r := []) (tgt := 127) rfl (by decide) (fun c1 => ?_) (fun c1 => ?_)
        · refine J _ _ ?_ ?_
          · rw [alK, if_neg c1]
          · rw [alV, if_neg c1, upd_self]
        · refine zz_go C [(39, .aload_n 3), (40, .ifnull 50), (43, .aload_n 0)] (by decide +kernel) (pc' := 44) (lv' := [some (.ref o), some (.ref po), some (.int (nI i)), some (.ref c)]) (st' := [.ref o]) rfl ?_
          refine zz_get C fd_S_9 ((sgU_n no).trans ho) (v := .ref k) rfl (by decide +kernel) ?_
          refine zz_go C [(47, .iload_n 2), (48, .iconst 1), (49, .iadd), (50, .aload_n 3)] (by decide +kernel) (pc' := 51) (lv' := [some (.ref o), some (.ref po), some (.int (nI i)), some (.ref c)]) (st' := [.ref c, .int ((nI i) + (nI 1)), .ref k]) rfl ?_
          rw [show nI i + nI 1 = nI (i + 1) from nI_add i 1]
          refine zz_get C fd_S_36 ((sgU_n nc).trans hc) (v := .int ms) rfl (by decide +kernel) ?_
          refine zz_go C [(54, .iconst 3)] (by decide +kernel) (pc' := 55) (lv' := [some (.ref o), some (.ref po), some (.int (nI i)), some (.ref c)]) (st' := [.int (nI 3), .int ms, .int (nI (i + 1)), .ref k]) rfl ?_
          refine zz_if C (i := .if_icmp .ne 7) (by decide +kernel) (Pt := ¬ ms = (nI 3)) (Pf := ms = (nI 3)) (off := 7) (r := [.int (nI (i + 1)), .ref k]) (tgt := 62) rfl (by decide) (fun c2 => ?_) (fun c2 => ?_)
          · refine zz_go C [(62, .aload_n 3)] (by decide +kernel) (pc' := 63) (lv' := [some (.ref o), some (.ref po), some (.int (nI i)), some (.ref c)]) (st' := [.ref c, .int (nI (i + 1)), .ref k]) rfl ?_
            refine zz_get C fd_S_36 ((sgU_n nc).trans hc) (v := .int ms) rfl (by decide +kernel) ?_
            refine zz_if C (i := .ifCond .ne 7) (by decide +kernel) (Pt := ¬ ms = 0) (Pf := ms = 0) (off := 7) (r := [.int (nI (i + 1)), .ref k]) (tgt := 73) rfl (by decide) (fun c3 => ?_) (fun c3 => ?_)
            · refine zz_go C [(73, .iconst 1)] (by decide +kernel) (pc' := 74) (lv' := [some (.ref o), some (.ref po), some (.int (nI i)), some (.ref c)]) (st' := [.int (nI 1), .int (nI (i + 1)), .ref k]) rfl ?_
              refine sg_kst C (by omega) (by decide +kernel) ?_
              refine zz_go C [(75, .aload_n 0)] (by decide +kernel) (pc' := 76) (lv' := [some (.ref o), some (.ref po), some (.int (nI i)), some (.ref c)]) (st' := [.ref o]) rfl ?_
              refine zz_get C fd_S_15 ((sgU_n no).trans ho) (v := .ref v) rfl (by decide +kernel) ?_
              refine zz_go C [(79, .iload_n 2), (80, .iconst 1), (81, .iadd), (82, .aload_n 3)] (by decide +kernel) (pc' := 83) (lv' := [some (.ref o), some (.ref po), some (.int (nI i)), some (.ref c)]) (st' := [.ref c, .int ((nI i) + (nI 1)), .ref v]) rfl ?_
              rw [show nI i + nI 1 = nI (i + 1) from nI_add i 1]
              refine zz_get C fd_S_40 ((sgU_n nc).trans hc) (v := .int mv) rfl (by decide +kernel) ?_
              refine sg_vst C d (by omega) (by decide +kernel) ?_
              refine zz_go C [(87, .goto 40)] (by decide +kernel) (pc' := 127) (lv' := [some (.ref o), some (.ref po), some (.int (nI i)), some (.ref c)]) (st' := []) rfl ?_
              refine J _ _ ?_ ?_
              · rw [upd_upd, alK, if_pos c1, if_neg (by simp), if_neg c2, if_neg c3]
              · rw [alV, if_pos c1, if_neg (by simp)]
            · refine zz_go C [(69, .iconst 0), (70, .goto 4)] (by decide +kernel) (pc' := 74) (lv' := [some (.ref o), some (.ref po), some (.int (nI i)), some (.ref c)]) (st' := [.int (nI 0), .int (nI (i + 1)), .ref k]) rfl ?_
              refine sg_kst C (by omega) (by decide +kernel) ?_
              refine zz_go C [(75, .aload_n 0)] (by decide +kernel) (pc' := 76) (lv' := [some (.ref o), some (.ref po), some (.int (nI i)), some (.ref c)]) (st' := [.ref o]) rfl ?_
              refine zz_get C fd_S_15 ((sgU_n no).trans ho) (v := .ref v) rfl (by decide +kernel) ?_
              refine zz_go C [(79, .iload_n 2), (80, .iconst 1), (81, .iadd), (82, .aload_n 3)] (by decide +kernel) (pc' := 83) (lv' := [some (.ref o), some (.ref po), some (.int (nI i)), some (.ref c)]) (st' := [.ref c, .int ((nI i) + (nI 1)), .ref v]) rfl ?_
              rw [show nI i + nI 1 = nI (i + 1) from nI_add i 1]
              refine zz_get C fd_S_40 ((sgU_n nc).trans hc) (v := .int mv) rfl (by decide +kernel) ?_
              refine sg_vst C d (by omega) (by decide +kernel) ?_
              refine zz_go C [(87, .goto 40)] (by decide +kernel) (pc' := 127) (lv' := [some (.ref o), some (.ref po), some (.int (nI i)), some (.ref c)]) (st' := []) rfl ?_
              refine J _ _ ?_ ?_
              · rw [upd_upd, alK, if_pos c1, if_neg (by simp), if_neg c2, if_pos c3]
              · rw [alV, if_pos c1, if_neg (by simp)]
          · refine zz_go C [(58, .iconst (-1)), (59, .goto 15)] (by decide +kernel) (pc' := 74) (lv' := [some (.ref o), some (.ref po), some (.int (nI i)), some (.ref c)]) (st' := [.int ((-1)), .int (nI (i + 1)), .ref k]) rfl ?_
            refine sg_kst C (by omega) (by decide +kernel) ?_
            refine zz_go C [(75, .aload_n 0)] (by decide +kernel) (pc' := 76) (lv' := [some (.ref o), some (.ref po), some (.int (nI i)), some (.ref c)]) (st' := [.ref o]) rfl ?_
            refine zz_get C fd_S_15 ((sgU_n no).trans ho) (v := .ref v) rfl (by decide +kernel) ?_
            refine zz_go C [(79, .iload_n 2), (80, .iconst 1), (81, .iadd), (82, .aload_n 3)] (by decide +kernel) (pc' := 83) (lv' := [some (.ref o), some (.ref po), some (.int (nI i)), some (.ref c)]) (st' := [.ref c, .int ((nI i) + (nI 1)), .ref v]) rfl ?_
            rw [show nI i + nI 1 = nI (i + 1) from nI_add i 1]
            refine zz_get C fd_S_40 ((sgU_n nc).trans hc) (v := .int mv) rfl (by decide +kernel) ?_
            refine sg_vst C d (by omega) (by decide +kernel) ?_
            refine zz_go C [(87, .goto 40)] (by decide +kernel) (pc' := 127) (lv' := [some (.ref o), some (.ref po), some (.int (nI i)), some (.ref c)]) (st' := []) rfl ?_
            refine J _ _ ?_ ?_
            · rw [upd_upd, alK, if_pos c1, if_neg (by simp), if_pos c2]
            · rw [alV, if_pos c1, if_neg (by simp)]
    · exact absurd (show nI i < nI 8 from nI_lt hi (by omega)) cB
