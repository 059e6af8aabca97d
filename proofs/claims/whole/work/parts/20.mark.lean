/-! ===== OverlayTree$Mark ===== -/
def atF (b : Option Nat) (f : Nat → Option Nat) (x : Int32) : Option Nat := if b = none ∨ x < 1 ∨ 9 < x then none else f x.toNatClampNeg
theorem nI9 : ∀ x : Int32, 1 ≤ x → x ≤ 9 → ∃ j : Nat, 1 ≤ j ∧ j ≤ 9 ∧ x = nI j := fun x h1 h2 => by
  obtain ⟨j, hj, rfl⟩ := nI_of2 (x := x) (M := 9) (n := 9) (by decide) (fun h => by
    have := Int32.lt_of_le_of_lt h1 h
    exact absurd this (by decide)) h2
  refine ⟨j, ?_, hj, rfl⟩
  have h3 : nI 1 ≤ nI j := h1
  exact (nI_leI (by decide) (by omega)).mp h3
set_option maxHeartbeats 1000000 in
theorem c_M_at (l : Launch) (D : va_G) (aC : Nat → ClassId) (h : zz_Hp) (a : Nat) (s v x : Int32) (b : Option Nat) (f : Nat → Option Nat) (ha : h a = some (mkE s v b)) (hb : ∀ q, b = some q → h q = some (maE aC 10 f)) :
    zz_Ct l D aC y_M_at (zrm 0 0 0 0) [.ref a, .int x] h (fun r h' => h' = h ∧ r = .inl (some (va_rf (atF b f x)))) := by
  refine zz_ct md_M_at rfl (by simp [Value.category]) (Nat.le_of_ble_eq_true rfl) fun K C E _ => ?_
  obtain rfl := E.ac
  refine zz_go C [(0, .aload_n 0)] (by decide +kernel) (pc' := 1) (lv' := [some (.ref a), some (.int x)]) (st' := [.ref a]) rfl ?_
  refine zz_get C fd_M_18 ha (v := va_rf b) rfl (by decide +kernel) ?_
  cases b with
  | none =>
    show zz_Z _ _ _ _ _ _ _ _ [.null]
    refine zz_go C [(4, .ifnull 14), (18, .aconst_null)] (by decide +kernel) (pc' := 19) (lv' := [some (.ref a), some (.int x)]) (st' := [.null]) rfl ?_
    exact zr_a C E (r := none) rfl (by decide) (by decide) (by decide +kernel) (⟨rfl, by simp [atF]⟩)
  | some q =>
    show zz_Z _ _ _ _ _ _ _ _ [.ref q]
    refine zz_go C [(4, .ifnull 14), (7, .iload_n 1), (8, .iconst 1)] (by decide +kernel) (pc' := 9) (lv' := [some (.ref a), some (.int x)]) (st' := [.int (nI 1), .int x]) rfl ?_
    refine zz_if C (i := .if_icmp .lt 9) (by decide +kernel) (Pt := x < (nI 1)) (Pf := ¬ x < (nI 1)) (off := 9) (r := []) (tgt := 18) rfl (by decide) (fun c1 => ?_) (fun c1 => ?_)
    · refine zz_go C [(18, .aconst_null)] (by decide +kernel) (pc' := 19) (lv' := [some (.ref a), some (.int x)]) (st' := [.null]) rfl ?_
      exact zr_a C E (r := none) rfl (by decide) (by decide) (by decide +kernel) (⟨rfl, by have c2 : x < 1 := c1; simp [atF, c2]⟩)
    · refine zz_go C [(12, .iload_n 1), (13, .bipush 9)] (by decide +kernel) (pc' := 15) (lv' := [some (.ref a), some (.int x)]) (st' := [.int (nI 9), .int x]) rfl ?_
      refine zz_if C (i := .if_icmp .le 5) (by decide +kernel) (Pt := x ≤ (nI 9)) (Pf := ¬ x ≤ (nI 9)) (off := 5) (r := []) (tgt := 20) rfl (by decide) (fun c2 => ?_) (fun c2 => ?_)
      · refine zz_go C [(20, .aload_n 0)] (by decide +kernel) (pc' := 21) (lv' := [some (.ref a), some (.int x)]) (st' := [.ref a]) rfl ?_
        refine zz_get C fd_M_18 ha (v := va_rf ((some q))) rfl (by decide +kernel) ?_
        show zz_Z _ _ _ _ _ _ _ _ [.ref q]
        refine zz_go C [(24, .iload_n 1)] (by decide +kernel) (pc' := 25) (lv' := [some (.ref a), some (.int x)]) (st' := [.int x, .ref q]) rfl ?_
        obtain ⟨j, hj1, hj2, rfl⟩ := nI9 x (Int32.not_lt.mp c1) c2
        refine zz_qald C 3 (fun _ => rfl) (hb q rfl) (vp_in_nI (by omega) (by omega)) (by decide +kernel) ?_
        rw [nI_clamp (by omega)]
        exact zr_a C E (r := f j) rfl (by decide) (by decide) (by decide +kernel) (⟨rfl, by rw [show atF (some q) f (nI j) = f j from by unfold atF; rw [if_neg, nI_clamp (by omega)]; rintro (h | h | h); cases h; exact c1 h; exact absurd c2 (Int32.not_le.mpr h)]⟩)
      · refine zz_go C [(18, .aconst_null)] (by decide +kernel) (pc' := 19) (lv' := [some (.ref a), some (.int x)]) (st' := [.null]) rfl ?_
        exact zr_a C E (r := none) rfl (by decide) (by decide) (by decide +kernel) (⟨rfl, by have c3 : 9 < x := Int32.not_le.mp c2; simp [atF, c3]⟩)
set_option maxHeartbeats 1000000 in
theorem c_M_init (l : Launch) (D : va_G) (aC : Nat → ClassId) (h : zz_Hp) (a : Nat) (s v x y : Int32) (b : Option Nat) (ha : h a = some (mkE s v b)) :
    zz_Ct l D aC y_M_init (zrm 1 0 0 12) [.ref a, .int x, .int y] h (fun r h' => h' = va_up h a (some (mkE x y b)) ∧ r = .inl none) := by
  refine zz_ct md_M_init rfl (by simp [Value.category]) (Nat.le_of_ble_eq_true rfl) fun K C E _ => ?_
  obtain rfl := E.ac
  refine zz_go C [(0, .aload_n 0)] (by decide +kernel) (pc' := 1) (lv' := [some (.ref a), some (.int x), some (.int y)]) (st' := [.ref a]) rfl ?_
  refine zr_obj C E ml_M_3 (by decide) (by decide) (by decide +kernel) ?_
  refine zz_go C [(4, .aload_n 0), (5, .iload_n 1)] (by decide +kernel) (pc' := 6) (lv' := [some (.ref a), some (.int x), some (.int y)]) (st' := [.int x, .ref a]) rfl ?_
  refine zz_putf C fd_M_9 ha rfl rfl (Nat.le_of_ble_eq_true rfl) (by decide +kernel) ?_
  refine zz_go C [(9, .aload_n 0), (10, .iload_n 2)] (by decide +kernel) (pc' := 11) (lv' := [some (.ref a), some (.int x), some (.int y)]) (st' := [.int y, .ref a]) rfl ?_
  refine zz_putf C fd_M_15 (va_up_self _ _ _) rfl rfl (Nat.le_of_ble_eq_true rfl) (by decide +kernel) ?_
  exact zr_v C E (by decide) (by decide) (by decide +kernel) (⟨by rw [bx_uu]; rfl, rfl⟩)
def hangF (h : zz_Hp) (aC : Nat → ClassId) (a : Nat) (s v : Int32) (b : Option Nat) (f : Nat → Option Nat) (j : Nat) (r : Option Nat) (q : Nat) : zz_Hp := match b with
  | some c => va_up h c (some (maE aC 10 (va_up f j r)))
  | none => va_up (va_up h a (some (mkE s v (some q)))) q (some (maE aC 10 (va_up (fun _ => none) j r)))
theorem hangN {h : zz_Hp} {aC : Nat → ClassId} {a q : Nat} {s v : Int32} {g : Nat → Option Nat} {j : Nat} {r : Option Nat} (hqa : a ≠ q) :
    va_up (va_up (va_up h q (some (.inl (aC 3, 10, .inr (.inr (.inr (.inr (fun _ => none)))))))) a (some (.inr (0, List.set [.int s, .int v, va_rf none] 2 (.ref q))))) q (some (.inl (aC 3, 10, .inr (.inr (.inr (.inr (va_up g j r))))))) = va_up (va_up h a (some (mkE s v (some q)))) q (some (maE aC 10 (va_up g j r))) := by
  funext x
  by_cases h1 : x = q
  · subst h1
    rw [va_up_self, va_up_self]; rfl
  · rw [va_up_ne _ _ h1, va_up_ne _ _ h1]
    by_cases h2 : x = a
    · subst h2
      rw [va_up_self, va_up_self]; rfl
    · rw [va_up_ne _ _ h2, va_up_ne _ _ h2, va_up_ne _ _ h1]
set_option maxHeartbeats 1000000 in
theorem c_M_hang (l : Launch) (D : va_G) (aC : Nat → ClassId) (h : zz_Hp) (a j : Nat) (s v : Int32) (b : Option Nat) (f : Nat → Option Nat) (ha : h a = some (mkE s v b)) (hb : ∀ q, b = some q → h q = some (maE aC 10 f)) (hj1 : 1 ≤ j) (hj2 : j ≤ 9) (c2 : Nat) (s2 v2 : Int32) (b2 : Option Nat) (hc : h c2 = some (mkE s2 v2 b2)) (hac : a ≠ c2) :
    zz_Ct l D aC y_M_hang (zrm 0 1 10 0) [.ref a, .int (nI j), .ref c2] h (fun r h' => ∃ q : Nat, h' = hangF h aC a s v b f j (some c2) q ∧ r = .inl none ∧ (b = none → h q = none)) := by
  refine zz_ct md_M_hang rfl (by simp [Value.category]) (Nat.le_of_ble_eq_true rfl) fun K C E _ => ?_
  obtain rfl := E.ac
  refine zz_go C [(0, .iload_n 1), (1, .iconst 1)] (by decide +kernel) (pc' := 2) (lv' := [some (.ref a), some (.int (nI j)), some (.ref c2)]) (st' := [.int (nI 1), .int (nI j)]) rfl ?_
  have hj1' : ¬ nI j < nI 1 := nI_nlt hj1 (by omega)
  have hj9 : nI j ≤ nI 9 := nI_le hj2 (by omega)
  refine zz_if C (i := .if_icmp .lt 9) (by decide +kernel) (Pt := (nI j) < (nI 1)) (Pf := ¬ (nI j) < (nI 1)) (off := 9) (r := []) (tgt := 11) rfl (by decide) (fun cA => ?_) (fun cA => ?_)
  · exact absurd cA hj1'
  · refine zz_go C [(5, .iload_n 1), (6, .bipush 9)] (by decide +kernel) (pc' := 8) (lv' := [some (.ref a), some (.int (nI j)), some (.ref c2)]) (st' := [.int (nI 9), .int (nI j)]) rfl ?_
    refine zz_if C (i := .if_icmp .le 4) (by decide +kernel) (Pt := (nI j) ≤ (nI 9)) (Pf := ¬ (nI j) ≤ (nI 9)) (off := 4) (r := []) (tgt := 12) rfl (by decide) (fun cB => ?_) (fun cB => ?_)
    · refine zz_go C [(12, .aload_n 0)] (by decide +kernel) (pc' := 13) (lv' := [some (.ref a), some (.int (nI j)), some (.ref c2)]) (st' := [.ref a]) rfl ?_
      refine zz_get C fd_M_18 ha (v := va_rf b) rfl (by decide +kernel) ?_
      cases b with
      | some c =>
        show zz_Z _ _ _ _ _ _ _ _ [.ref c]
        refine zz_go C [(16, .ifnonnull 12), (28, .aload_n 0)] (by decide +kernel) (pc' := 29) (lv' := [some (.ref a), some (.int (nI j)), some (.ref c2)]) (st' := [.ref a]) rfl ?_
        refine zz_get C fd_M_18 ha (v := va_rf ((some c))) rfl (by decide +kernel) ?_
        show zz_Z _ _ _ _ _ _ _ _ [.ref c]
        refine zz_go C [(32, .iload_n 1), (33, .aload_n 2)] (by decide +kernel) (pc' := 34) (lv' := [some (.ref a), some (.int (nI j)), some (.ref c2)]) (st' := [.ref c2, .int (nI j), .ref c]) rfl ?_
        refine zz_qast C 3 (fun _ => rfl) (ci := 0) rfl (hb c rfl) hc (vp_in_nI (by omega) (by omega)) (by decide +kernel) ?_
        rw [nI_clamp (by omega)]
        exact zr_v C E (by decide) (by decide) (by decide +kernel) (⟨0, rfl, rfl, fun hbn => by cases hbn⟩)
      | none =>
        show zz_Z _ _ _ _ _ _ _ _ [.null]
        refine zz_go C [(16, .ifnonnull 12), (19, .aload_n 0), (20, .bipush 10)] (by decide +kernel) (pc' := 22) (lv' := [some (.ref a), some (.int (nI j)), some (.ref c2)]) (st' := [.int (nI 10), .ref a]) rfl ?_
        refine zr_anewM C E cl_M_10 (by decide) (N := 10) (by decide) (by decide) (by decide) (by decide) (by decide +kernel) (fun q hq hz => ?_)
        have hqa : a ≠ q := fun e => by rw [e, hq] at ha; cases ha
        refine zz_putf C fd_M_18 (by rw [va_up_ne _ _ hqa]; exact ha) rfl rfl (Nat.le_of_ble_eq_true rfl) (by decide +kernel) ?_
        refine zz_go C [(28, .aload_n 0)] (by decide +kernel) (pc' := 29) (lv' := [some (.ref a), some (.int (nI j)), some (.ref c2)]) (st' := [.ref a]) rfl ?_
        have hqq : (va_up (va_up h q (some (.inl (zz_ac K 3, 10, .inr (.inr (.inr (.inr (fun _ => none)))))))) a (some (.inr (0, List.set [.int s, .int v, va_rf none] 2 (.ref q))))) q = some (maE (zz_ac K) 10 (fun _ => none)) := by rw [va_up_ne _ _ (Ne.symm hqa), va_up_self]; rfl
        refine zz_get C fd_M_18 (va_up_self _ _ _) (v := .ref q) rfl (by decide +kernel) ?_
        refine zz_go C [(32, .iload_n 1), (33, .aload_n 2)] (by decide +kernel) (pc' := 34) (lv' := [some (.ref a), some (.int (nI j)), some (.ref c2)]) (st' := [.ref c2, .int (nI j), .ref q]) rfl ?_
        refine zz_qast C 3 (fun _ => rfl) (ci := 0) rfl hqq (show _ = some (mkE s2 v2 b2) by rw [va_up_ne _ _ (Ne.symm hac), va_up_ne _ _ (fun e => by rw [e, hq] at hc; cases hc)]; exact hc) (vp_in_nI (by omega) (by omega)) (by decide +kernel) ?_
        rw [nI_clamp (by omega)]
        exact zr_v C E (by decide) (by decide) (by decide +kernel) (⟨q, hangN hqa, rfl, fun _ => hq⟩)
    · exact absurd hj9 cB
set_option maxHeartbeats 1000000 in
theorem c_M_hang0 (l : Launch) (D : va_G) (aC : Nat → ClassId) (h : zz_Hp) (a j : Nat) (s v : Int32) (b : Option Nat) (f : Nat → Option Nat) (ha : h a = some (mkE s v b)) (hb : ∀ q, b = some q → h q = some (maE aC 10 f)) (hj1 : 1 ≤ j) (hj2 : j ≤ 9) :
    zz_Ct l D aC y_M_hang (zrm 0 1 10 0) [.ref a, .int (nI j), .null] h (fun r h' => ∃ q : Nat, h' = hangF h aC a s v b f j (none) q ∧ r = .inl none ∧ (b = none → h q = none)) := by
  refine zz_ct md_M_hang rfl (by simp [Value.category]) (Nat.le_of_ble_eq_true rfl) fun K C E _ => ?_
  obtain rfl := E.ac
  refine zz_go C [(0, .iload_n 1), (1, .iconst 1)] (by decide +kernel) (pc' := 2) (lv' := [some (.ref a), some (.int (nI j)), some (.null)]) (st' := [.int (nI 1), .int (nI j)]) rfl ?_
  have hj1' : ¬ nI j < nI 1 := nI_nlt hj1 (by omega)
  have hj9 : nI j ≤ nI 9 := nI_le hj2 (by omega)
  refine zz_if C (i := .if_icmp .lt 9) (by decide +kernel) (Pt := (nI j) < (nI 1)) (Pf := ¬ (nI j) < (nI 1)) (off := 9) (r := []) (tgt := 11) rfl (by decide) (fun cA => ?_) (fun cA => ?_)
  · exact absurd cA hj1'
  · refine zz_go C [(5, .iload_n 1), (6, .bipush 9)] (by decide +kernel) (pc' := 8) (lv' := [some (.ref a), some (.int (nI j)), some (.null)]) (st' := [.int (nI 9), .int (nI j)]) rfl ?_
    refine zz_if C (i := .if_icmp .le 4) (by decide +kernel) (Pt := (nI j) ≤ (nI 9)) (Pf := ¬ (nI j) ≤ (nI 9)) (off := 4) (r := []) (tgt := 12) rfl (by decide) (fun cB => ?_) (fun cB => ?_)
    · refine zz_go C [(12, .aload_n 0)] (by decide +kernel) (pc' := 13) (lv' := [some (.ref a), some (.int (nI j)), some (.null)]) (st' := [.ref a]) rfl ?_
      refine zz_get C fd_M_18 ha (v := va_rf b) rfl (by decide +kernel) ?_
      cases b with
      | some c =>
        show zz_Z _ _ _ _ _ _ _ _ [.ref c]
        refine zz_go C [(16, .ifnonnull 12), (28, .aload_n 0)] (by decide +kernel) (pc' := 29) (lv' := [some (.ref a), some (.int (nI j)), some (.null)]) (st' := [.ref a]) rfl ?_
        refine zz_get C fd_M_18 ha (v := va_rf ((some c))) rfl (by decide +kernel) ?_
        show zz_Z _ _ _ _ _ _ _ _ [.ref c]
        refine zz_go C [(32, .iload_n 1), (33, .aload_n 2)] (by decide +kernel) (pc' := 34) (lv' := [some (.ref a), some (.int (nI j)), some (.null)]) (st' := [.null, .int (nI j), .ref c]) rfl ?_
        refine zz_qastN C 3 (fun _ => rfl) (hb c rfl) (vp_in_nI (by omega) (by omega)) (by decide +kernel) ?_
        rw [nI_clamp (by omega)]
        exact zr_v C E (by decide) (by decide) (by decide +kernel) (⟨0, rfl, rfl, fun hbn => by cases hbn⟩)
      | none =>
        show zz_Z _ _ _ _ _ _ _ _ [.null]
        refine zz_go C [(16, .ifnonnull 12), (19, .aload_n 0), (20, .bipush 10)] (by decide +kernel) (pc' := 22) (lv' := [some (.ref a), some (.int (nI j)), some (.null)]) (st' := [.int (nI 10), .ref a]) rfl ?_
        refine zr_anewM C E cl_M_10 (by decide) (N := 10) (by decide) (by decide) (by decide) (by decide) (by decide +kernel) (fun q hq hz => ?_)
        have hqa : a ≠ q := fun e => by rw [e, hq] at ha; cases ha
        refine zz_putf C fd_M_18 (by rw [va_up_ne _ _ hqa]; exact ha) rfl rfl (Nat.le_of_ble_eq_true rfl) (by decide +kernel) ?_
        refine zz_go C [(28, .aload_n 0)] (by decide +kernel) (pc' := 29) (lv' := [some (.ref a), some (.int (nI j)), some (.null)]) (st' := [.ref a]) rfl ?_
        have hqq : (va_up (va_up h q (some (.inl (zz_ac K 3, 10, .inr (.inr (.inr (.inr (fun _ => none)))))))) a (some (.inr (0, List.set [.int s, .int v, va_rf none] 2 (.ref q))))) q = some (maE (zz_ac K) 10 (fun _ => none)) := by rw [va_up_ne _ _ (Ne.symm hqa), va_up_self]; rfl
        refine zz_get C fd_M_18 (va_up_self _ _ _) (v := .ref q) rfl (by decide +kernel) ?_
        refine zz_go C [(32, .iload_n 1), (33, .aload_n 2)] (by decide +kernel) (pc' := 34) (lv' := [some (.ref a), some (.int (nI j)), some (.null)]) (st' := [.null, .int (nI j), .ref q]) rfl ?_
        refine zz_qastN C 3 (fun _ => rfl) hqq (vp_in_nI (by omega) (by omega)) (by decide +kernel) ?_
        rw [nI_clamp (by omega)]
        exact zr_v C E (by decide) (by decide) (by decide +kernel) (⟨q, hangN hqa, rfl, fun _ => hq⟩)
    · exact absurd hj9 cB
set_option maxHeartbeats 1000000 in
theorem c_M_atOrNew (l : Launch) (D : va_G) (aC : Nat → ClassId) (h : zz_Hp) (a j : Nat) (s v : Int32) (b : Option Nat) (f : Nat → Option Nat) (ha : h a = some (mkE s v b)) (hb : ∀ q, b = some q → h q = some (maE aC 10 f)) (hj1 : 1 ≤ j) (hj2 : j ≤ 9) :
    zz_Ct l D aC y_M_atOrNew (zrm 3 2 13 60) [.ref a, .int (nI j)] h (fun r h' => (∃ c, atF b f (nI j) = some c ∧ r = .inl (some (va_rf (some c))) ∧ h' = h) ∨ (atF b f (nI j) = none ∧ ∃ q2 q : Nat, h q2 = none ∧ r = .inl (some (va_rf (some q2))) ∧ h' = hangF (va_up h q2 (some (mkE (nI 1) (nI 0) none))) aC a s v b f j (some q2) q ∧ (b = none → h q = none ∧ q ≠ q2))) := by
  refine zz_ct md_M_atOrNew rfl (by simp [Value.category]) (Nat.le_of_ble_eq_true rfl) fun K C E _ => ?_
  obtain rfl := E.ac
  refine zz_go C [(0, .aload_n 0), (1, .iload_n 1)] (by decide +kernel) (pc' := 2) (lv' := [some (.ref a), some (.int (nI j)), none]) (st' := [.int (nI j), .ref a]) rfl ?_
  refine zz_cV C E (ci := 0) (As := [.int (nI j)]) (rest := []) (hc := h) md_M_at (c_M_at l D (zz_ac K) h a s v (nI j) b f ha hb) ml_M_22 im_M_at se_M_at rfl ha (fun _ _ q => q) rfl rfl (Nat.le_of_ble_eq_true rfl) ⟨by decide, by decide⟩ ⟨by decide, by decide⟩ (by decide +kernel) (fun v h' hp hn hd => ?_) (fun v h' hp hn hd => ?_)
  · rw [zz_mix_self hd]
    obtain ⟨hh, hv⟩ := hp
    rw [hh]
    cases hv
    generalize hg : atF b f (nI j) = g
    cases g with
    | some c =>
      show zz_Z _ _ _ _ _ _ _ _ [.ref c]
      refine zz_go C [(5, .astore_n 2), (6, .aload_n 2), (7, .ifnonnull 19), (26, .aload_n 2)] (by decide +kernel) (pc' := 27) (lv' := [some (.ref a), some (.int (nI j)), some (.ref c)]) (st' := [.ref c]) rfl ?_
      exact zr_a C E (r := some c) rfl (by decide) (by decide) (by decide +kernel) (Or.inl ⟨c, rfl, rfl, rfl⟩)
    | none =>
      show zz_Z _ _ _ _ _ _ _ _ [.null]
      refine zz_go C [(5, .astore_n 2), (6, .aload_n 2), (7, .ifnonnull 19)] (by decide +kernel) (pc' := 10) (lv' := [some (.ref a), some (.int (nI j)), some (.null)]) (st' := []) rfl ?_
      refine zr_new C E nd_M_10 (by decide) (by decide) (by decide +kernel) (fun q2 hq2 hz2 => ?_)
      refine zz_go C [(13, .dup), (14, .iconst 1), (15, .iconst 0)] (by decide +kernel) (pc' := 16) (lv' := [some (.ref a), some (.int (nI j)), some (.null)]) (st' := [.int (nI 0), .int (nI 1), .ref q2, .ref q2]) rfl ?_
      refine zz_cI C E (As := [.int (nI 1), .int (nI 0)]) (rest := [.ref q2]) (hc := (va_up h q2 (some (.inr (0, [.int 0, .int 0, .null]))))) md_M_init (c_M_init l D (zz_ac K) _ q2 0 0 (nI 1) (nI 0) none (va_up_self _ _ _)) cw_M_init ml_M_26 im_M_init rfl (fun _ _ q => q) rfl rfl (Nat.le_of_ble_eq_true rfl) ⟨by decide, by decide⟩ ⟨by decide, by decide⟩ (by decide +kernel) (fun v h' hp hn hd => ?_) (fun v h' hp hn hd => ?_)
      · rw [zz_mix_self hd]
        obtain ⟨hh, hv⟩ := hp
        rw [hh]
        cases hv
        show zz_Z _ _ _ _ _ _ _ _ [.ref q2]
        refine zz_go C [(19, .astore_n 2), (20, .aload_n 0), (21, .iload_n 1), (22, .aload_n 2)] (by decide +kernel) (pc' := 23) (lv' := [some (.ref a), some (.int (nI j)), some (.ref q2)]) (st' := [.ref q2, .int (nI j), .ref a]) rfl ?_
        rw [bx_uu]
        have haq : a ≠ q2 := fun e => by rw [e, hq2] at ha; cases ha
        refine zz_cV C E (ci := 0) (As := [.int (nI j), .ref q2]) (rest := []) (hc := (va_up h q2 (some (mkE (nI 1) (nI 0) none)))) md_M_hang (c_M_hang l D (zz_ac K) _ a j s v b f (by rw [va_up_ne _ _ haq]; exact ha) (fun q e => by rw [va_up_ne _ _ (fun e2 => by have := hb q e; rw [e2, hq2] at this; cases this)]; exact hb q e) hj1 hj2 q2 (nI 1) (nI 0) none (va_up_self _ _ _) haq) ml_M_29 im_M_hang se_M_hang rfl (by rw [va_up_ne _ _ haq]; exact ha) (fun _ _ q => q) rfl rfl (Nat.le_of_ble_eq_true rfl) ⟨by decide, by decide⟩ ⟨by decide, by decide⟩ (by decide +kernel) (fun v h' hp hn hd => ?_) (fun v h' hp hn hd => ?_)
        · rw [zz_mix_self hd]
          obtain ⟨q, hh, hv, hqf⟩ := hp
          rw [hh]
          cases hv
          show zz_Z _ _ _ _ _ _ _ _ []
          refine zz_go C [(26, .aload_n 2)] (by decide +kernel) (pc' := 27) (lv' := [some (.ref a), some (.int (nI j)), some (.ref q2)]) (st' := [.ref q2]) rfl ?_
          exact zr_a C E (r := some q2) rfl (by decide) (by decide) (by decide +kernel) (Or.inr ⟨rfl, q2, q, hq2, rfl, rfl, fun hbn => by have := hqf hbn; by_cases e : q = q2; subst e; rw [va_up_self] at this; cases this; rw [va_up_ne _ _ e] at this; exact ⟨this, e⟩⟩)
        · obtain ⟨_, _, hv, _⟩ := hp; cases hv
      · cases hp.2
  · cases hp.2
