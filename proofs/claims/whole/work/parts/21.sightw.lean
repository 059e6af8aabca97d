/-! ===== the world of a sight: its four rows over a heap ===== -/
def sgE (k v f s : Nat) : va_E := .inr (1, [.ref k, .ref v, .ref f, .ref s])
def iaE (aC : Nat → ClassId) (N : Nat) (g : Nat → Int32) : va_E := .inl (aC 0, N, .inl g)
def zaE (aC : Nat → ClassId) (N : Nat) (g : Nat → Int32) : va_E := .inl (aC 1, N, .inl g)
def sgU (h : zz_Hp) (aC : Nat → ClassId) (k v f s : Nat) (Kd Vl : Nat → Int32) (Fd : Nat → Option Nat) (Sh : Nat → Int32) : zz_Hp := fun a => if a = k then some (iaE aC 9 Kd) else if a = v then some (iaE aC 9 Vl) else if a = f then some (maE aC 8 Fd) else if a = s then some (zaE aC 8 Sh) else h a
/-- four different places -/
def sgD (k v f s : Nat) : Prop := k ≠ v ∧ k ≠ f ∧ k ≠ s ∧ v ≠ f ∧ v ≠ s ∧ f ≠ s
section SGA
variable {h : zz_Hp} {aC : Nat → ClassId} {k v f s : Nat} {Kd Vl Sh : Nat → Int32} {Fd : Nat → Option Nat}
theorem sgU_o {a : Nat} (h1 : a ≠ k) (h2 : a ≠ v) (h3 : a ≠ f) (h4 : a ≠ s) : sgU h aC k v f s Kd Vl Fd Sh a = h a := by
  unfold sgU
  rw [if_neg h1, if_neg h2, if_neg h3, if_neg h4]
theorem sgU_k : sgU h aC k v f s Kd Vl Fd Sh k = some (iaE aC 9 Kd) := if_pos rfl
theorem sgU_v (d : sgD k v f s) : sgU h aC k v f s Kd Vl Fd Sh v = some (iaE aC 9 Vl) := by
  unfold sgU
  rw [if_neg (Ne.symm d.1), if_pos rfl]
theorem sgU_f (d : sgD k v f s) : sgU h aC k v f s Kd Vl Fd Sh f = some (maE aC 8 Fd) := by
  unfold sgU
  rw [if_neg (Ne.symm d.2.1), if_neg (Ne.symm d.2.2.2.1), if_pos rfl]
theorem sgU_s (d : sgD k v f s) : sgU h aC k v f s Kd Vl Fd Sh s = some (zaE aC 8 Sh) := by
  unfold sgU
  rw [if_neg (Ne.symm d.2.2.1), if_neg (Ne.symm d.2.2.2.2.1), if_neg (Ne.symm d.2.2.2.2.2), if_pos rfl]
theorem sgU_self (d : sgD k v f s) (h1 : h k = some (iaE aC 9 Kd)) (h2 : h v = some (iaE aC 9 Vl)) (h3 : h f = some (maE aC 8 Fd)) (h4 : h s = some (zaE aC 8 Sh)) : sgU h aC k v f s Kd Vl Fd Sh = h := by
  funext a
  by_cases e1 : a = k
  · subst e1; rw [sgU_k, h1]
  by_cases e2 : a = v
  · subst e2; rw [sgU_v d, h2]
  by_cases e3 : a = f
  · subst e3; rw [sgU_f d, h3]
  by_cases e4 : a = s
  · subst e4; rw [sgU_s d, h4]
  exact sgU_o e1 e2 e3 e4
theorem sgU_uk (K2 : Nat → Int32) : va_up (sgU h aC k v f s Kd Vl Fd Sh) k (some (iaE aC 9 K2)) = sgU h aC k v f s K2 Vl Fd Sh := by
  funext a
  by_cases e1 : a = k
  · subst e1; rw [va_up_self, sgU_k]
  · rw [va_up_ne _ _ e1]
    unfold sgU
    rw [if_neg e1, if_neg e1]
theorem sgU_uv (d : sgD k v f s) (V2 : Nat → Int32) : va_up (sgU h aC k v f s Kd Vl Fd Sh) v (some (iaE aC 9 V2)) = sgU h aC k v f s Kd V2 Fd Sh := by
  funext a
  by_cases e1 : a = v
  · subst e1; rw [va_up_self, sgU_v d]
  · rw [va_up_ne _ _ e1]
    unfold sgU
    rw [if_neg e1, if_neg e1]
theorem sgU_uf (d : sgD k v f s) (F2 : Nat → Option Nat) : va_up (sgU h aC k v f s Kd Vl Fd Sh) f (some (maE aC 8 F2)) = sgU h aC k v f s Kd Vl F2 Sh := by
  funext a
  by_cases e1 : a = f
  · subst e1; rw [va_up_self, sgU_f d]
  · rw [va_up_ne _ _ e1]
    unfold sgU
    rw [if_neg e1, if_neg e1]
theorem sgU_us (d : sgD k v f s) (S2 : Nat → Int32) : va_up (sgU h aC k v f s Kd Vl Fd Sh) s (some (zaE aC 8 S2)) = sgU h aC k v f s Kd Vl Fd S2 := by
  funext a
  by_cases e1 : a = s
  · subst e1; rw [va_up_self, sgU_s d]
  · rw [va_up_ne _ _ e1]
    unfold sgU
    rw [if_neg e1, if_neg e1]
end SGA
section SGR
variable {K : zz_K} {Q : State → Prop} {h0 h : zz_Hp} {ck cn pc : Nat} {lv : List (Option Value)} {st : List Value} {cc : ByteArray} {own : String}
variable {k v f s j : Nat} {Kd Vl Sh : Nat → Int32} {Fd : Nat → Option Nat}
theorem sg_kld (C : zz_C K cc own) (hj : j < 9) (hd : decode cc pc = .ok (.iaload, 1)) (kk : zz_Z K Q h0 (sgU h (zz_ac K) k v f s Kd Vl Fd Sh) ck cn (pc + 1) lv (.int (Kd j) :: st)) : zz_Z K Q h0 (sgU h (zz_ac K) k v f s Kd Vl Fd Sh) ck cn pc lv (.int (nI j) :: .ref k :: st) := by
  refine zz_iald C 0 (fun _ => rfl) sgU_k (vp_in_nI hj (by omega)) hd ?_
  rw [nI_clamp (by omega)]; exact kk
theorem sg_vld (C : zz_C K cc own) (d : sgD k v f s) (hj : j < 9) (hd : decode cc pc = .ok (.iaload, 1)) (kk : zz_Z K Q h0 (sgU h (zz_ac K) k v f s Kd Vl Fd Sh) ck cn (pc + 1) lv (.int (Vl j) :: st)) : zz_Z K Q h0 (sgU h (zz_ac K) k v f s Kd Vl Fd Sh) ck cn pc lv (.int (nI j) :: .ref v :: st) := by
  refine zz_iald C 0 (fun _ => rfl) (sgU_v d) (vp_in_nI hj (by omega)) hd ?_
  rw [nI_clamp (by omega)]; exact kk
theorem sg_fld (C : zz_C K cc own) (d : sgD k v f s) (hj : j < 8) (hd : decode cc pc = .ok (.aaload, 1)) (kk : zz_Z K Q h0 (sgU h (zz_ac K) k v f s Kd Vl Fd Sh) ck cn (pc + 1) lv (va_rf (Fd j) :: st)) : zz_Z K Q h0 (sgU h (zz_ac K) k v f s Kd Vl Fd Sh) ck cn pc lv (.int (nI j) :: .ref f :: st) := by
  refine zz_qald C 3 (fun _ => rfl) (sgU_f d) (vp_in_nI hj (by omega)) hd ?_
  rw [nI_clamp (by omega)]; exact kk
theorem sg_kst (C : zz_C K cc own) {x : Int32} (hj : j < 9) (hd : decode cc pc = .ok (.iastore, 1)) (kk : zz_Z K Q h0 (sgU h (zz_ac K) k v f s (upd Kd j x) Vl Fd Sh) ck cn (pc + 1) lv st) : zz_Z K Q h0 (sgU h (zz_ac K) k v f s Kd Vl Fd Sh) ck cn pc lv (.int x :: .int (nI j) :: .ref k :: st) := by
  refine zz_iast C 0 (fun _ => rfl) sgU_k (vp_in_nI hj (by omega)) hd ?_
  rw [nI_clamp (by omega)]; exact zz_hp (sgU_uk _) kk
theorem sg_vst (C : zz_C K cc own) (d : sgD k v f s) {x : Int32} (hj : j < 9) (hd : decode cc pc = .ok (.iastore, 1)) (kk : zz_Z K Q h0 (sgU h (zz_ac K) k v f s Kd (upd Vl j x) Fd Sh) ck cn (pc + 1) lv st) : zz_Z K Q h0 (sgU h (zz_ac K) k v f s Kd Vl Fd Sh) ck cn pc lv (.int x :: .int (nI j) :: .ref v :: st) := by
  refine zz_iast C 0 (fun _ => rfl) (sgU_v d) (vp_in_nI hj (by omega)) hd ?_
  rw [nI_clamp (by omega)]; exact zz_hp (sgU_uv d _) kk
theorem sg_sst (C : zz_C K cc own) (d : sgD k v f s) (b : Bool) (hj : j < 8) (hd : decode cc pc = .ok (.bastore, 1)) (kk : zz_Z K Q h0 (sgU h (zz_ac K) k v f s Kd Vl Fd (upd Sh j (bI b))) ck cn (pc + 1) lv st) : zz_Z K Q h0 (sgU h (zz_ac K) k v f s Kd Vl Fd Sh) ck cn pc lv (.int (bI b) :: .int (nI j) :: .ref s :: st) := by
  refine zz_zast C 1 (fun _ => rfl) (sgU_s d) (vp_in_nI hj (by omega)) hd ?_
  rw [nI_clamp (by omega), bI_vp]; exact zz_hp (sgU_us d _) kk
theorem sg_fst (C : zz_C K cc own) (d : sgD k v f s) {c : Nat} {vs : List Value} (hj : j < 8) (hc : sgU h (zz_ac K) k v f s Kd Vl Fd Sh c = some (.inr (0, vs))) (hd : decode cc pc = .ok (.aastore, 1)) (kk : zz_Z K Q h0 (sgU h (zz_ac K) k v f s Kd Vl (va_up Fd j (some c)) Sh) ck cn (pc + 1) lv st) : zz_Z K Q h0 (sgU h (zz_ac K) k v f s Kd Vl Fd Sh) ck cn pc lv (.ref c :: .int (nI j) :: .ref f :: st) := by
  refine zz_qast C 3 (fun _ => rfl) (ci := 0) rfl (sgU_f d) hc (vp_in_nI hj (by omega)) hd ?_
  rw [nI_clamp (by omega)]; exact zz_hp (sgU_uf d _) kk
theorem sg_fstN (C : zz_C K cc own) (d : sgD k v f s) (hj : j < 8) (hd : decode cc pc = .ok (.aastore, 1)) (kk : zz_Z K Q h0 (sgU h (zz_ac K) k v f s Kd Vl (va_up Fd j none) Sh) ck cn (pc + 1) lv st) : zz_Z K Q h0 (sgU h (zz_ac K) k v f s Kd Vl Fd Sh) ck cn pc lv (.null :: .int (nI j) :: .ref f :: st) := by
  refine zz_qastN C 3 (fun _ => rfl) (sgU_f d) (vp_in_nI hj (by omega)) hd ?_
  rw [nI_clamp (by omega)]; exact zz_hp (sgU_uf d _) kk
end SGR
