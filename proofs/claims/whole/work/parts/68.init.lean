/-! ===== a new model ===== -/
theorem zz_ldc {K : zz_K} {Q : State → Prop} {h0 h : zz_Hp} {k n pc : Nat} {lv : List (Option Value)} {st : List Value} {cc : ByteArray} {own : String} (C : zz_C K cc own) {index : Nat} {v : Int32} (hw : Cond.constant own index v ∈ zz_g) (hd : decode cc pc = .ok (.ldc index, 2)) (kk : zz_Z K Q h0 h k n (pc + 2) lv (.int v :: st)) : zz_Z K Q h0 h k n pc lv st := by
  obtain ⟨p, l, e, R, s, m, args, below, meth, c, D, aC⟩ := K
  obtain ⟨hexec, hb, hown, hts, hK, hlk⟩ := C
  intro H locs ls hP hS hN hls hn
  exact lv_ldc hexec hb hown (hts _ hw) hd (kk H locs ls hP hS hN hls hn)
theorem kc_O_13 : Cond.constant "OverlayTreeModel" 13 (nI 80000) ∈ zz_g := by decide +kernel
def arE (aC : Nat → ClassId) (i : Nat) : va_E := match i with
  | 0 => iaE aC 80000 (fun _ => 0)
  | 1 => iaE aC 80000 (fun _ => 0)
  | 2 => iaE aC 10000 (fun _ => 0)
  | 3 => iaE aC 10000 (fun _ => 0)
  | 4 => zaE aC 10000 (fun _ => 0)
  | 5 => iaE aC 7380 (fun _ => 0)
  | _ => iaE aC 10000 (fun _ => 0)
theorem arE_l (aC : Nat → ClassId) (i : Nat) : ∃ y, arE aC i = .inl y := by
  unfold arE; split <;> exact ⟨_, rfl⟩
/-- a new model while its first k rows are made -/
def iniW (aC : Nat → ClassId) (h : zz_Hp) (o : Nat) (ad : Nat → Nat) (k : Nat) (fs : List Value) : Prop := h o = some (.inr (3, fs)) ∧ (∀ i, i < k → h (ad i) = some (arE aC i)) ∧ ∀ i j, i < k → j < k → i ≠ j → ad i ≠ ad j
theorem iniW.no {aC : Nat → ClassId} {h : zz_Hp} {o k q : Nat} {ad : Nat → Nat} {fs : List Value} (I : iniW aC h o ad k fs) (hq : h q = none) : o ≠ q := fun e => by rw [← e, I.1] at hq; cases hq
theorem iniW.s {aC : Nat → ClassId} {h : zz_Hp} {o k q : Nat} {ad : Nat → Nat} {fs : List Value} (I : iniW aC h o ad k fs) (hq : h q = none) (fs' : List Value) : iniW aC (va_up (va_up h q (some (arE aC k))) o (some (.inr (3, fs')))) o (fun i => if i = k then q else ad i) (k + 1) fs' := by
  have no := I.no hq
  have na : ∀ i, i < k → ad i ≠ o := fun i hi e => by
    have h1 := I.2.1 i hi
    obtain ⟨y, hy⟩ := arE_l aC i
    rw [e, I.1, hy] at h1; cases h1
  have nq : ∀ i, i < k → ad i ≠ q := fun i hi e => by
    have h1 := I.2.1 i hi
    rw [e, hq] at h1; cases h1
  refine ⟨va_up_self _ _ _, fun i hi => ?_, fun i j hi hj hne => ?_⟩
  · show va_up (va_up h q (some (arE aC k))) o (some (.inr (3, fs'))) (if i = k then q else ad i) = _
    by_cases e : i = k
    · rw [if_pos e, va_up_ne _ _ (Ne.symm no), va_up_self, e]
    · rw [if_neg e, va_up_ne _ _ (na i (by omega)), va_up_ne _ _ (nq i (by omega))]; exact I.2.1 i (by omega)
  · show (if i = k then q else ad i) ≠ (if j = k then q else ad j)
    by_cases e : i = k
    · rw [if_pos e, if_neg (show ¬ j = k by omega)]; exact Ne.symm (nq j (by omega))
    · rw [if_neg e]
      by_cases e' : j = k
      · rw [if_pos e']; exact nq i (by omega)
      · rw [if_neg e']; exact I.2.2 i j (by omega) (by omega) hne
/-- how many paths there are below p, but the root -/
def cnP (p : Nat) : Nat := ((List.range p).filter fun q => pok q && nz q).length
theorem cnP_n {p : Nat} (h : pok p = false) : cnP (p + 1) = cnP p := by
  unfold cnP; rw [List.range_succ, List.filter_append, List.filter_cons, h]; simp
theorem cnP_y {p : Nat} (h : pok p = true) (h0 : ¬ p = 0) : cnP (p + 1) = cnP p + 1 := by
  unfold cnP; rw [List.range_succ, List.filter_append, List.filter_cons, h, show nz p = true from decide_eq_true h0]; simp
theorem cnP_p {p : Nat} (h9 : p ≤ 9999) (h : pok p = true) (h0 : ¬ p = 0) : pth (cnP p) = p ∧ cnP p < 7380 := by
  have h1 : ((List.range (p + 1)).filter fun q => pok q && nz q) <+: pths := by
    unfold pths
    refine List.IsPrefix.filter _ ?_
    rw [show List.range (p + 1) = (List.range 10000).take (p + 1) from by rw [List.take_range, Nat.min_eq_left (by omega)]]
    exact List.take_prefix _ _
  obtain ⟨t, ht⟩ := h1
  have e : ((List.range (p + 1)).filter fun q => pok q && nz q) = ((List.range p).filter fun q => pok q && nz q) ++ [p] := by
    rw [List.range_succ, List.filter_append, List.filter_cons, h, show nz p = true from decide_eq_true h0]; simp
  rw [e] at ht
  have hl : cnP p < pths.length := by rw [← ht]; unfold cnP; simp only [List.length_append, List.length_cons, List.length_nil]; omega
  refine ⟨?_, by rw [← pths_len]; exact hl⟩
  unfold pth
  rw [List.getD_eq_getElem?_getD, ← ht, List.append_assoc, List.getElem?_append_right (by unfold cnP; exact Nat.le_refl _)]
  unfold cnP; rw [Nat.sub_self]; rfl
theorem cnP_1 : cnP 1 = 0 := by decide +kernel
theorem cnP_e : cnP 10000 = 7380 := pths_len
def inO (ad : Nat → Nat) (c : Nat) : va_E := .inr (3, [.int 0, .int (nI 1), .ref (ad 0), .ref (ad 1), .ref (ad 2), .ref (ad 3), .ref (ad 4), .int (nI c), .ref (ad 5), .ref (ad 6)])
def iniL (aC : Nat → ClassId) (h : zz_Hp) (o : Nat) (ad : Nat → Nat) (p : Nat) (PA PR : Nat → Int32) : Prop := h o = some (inO ad (cnP p)) ∧ (∀ i, i < 5 → h (ad i) = some (arE aC i)) ∧ h (ad 5) = some (iaE aC 7380 PA) ∧ h (ad 6) = some (iaE aC 10000 PR) ∧ (∀ i j, i < 7 → j < 7 → i ≠ j → ad i ≠ ad j) ∧ (∀ i, i < 7 → o ≠ ad i) ∧ (∀ k, k < cnP p → PA k = nI (pth k)) ∧ ∀ q, q < p → pok q = true → PR q = nI (prN q)
theorem iniL.of {aC : Nat → ClassId} {h : zz_Hp} {o : Nat} {ad : Nat → Nat} (I : iniW aC h o ad 7 [.int 0, .int (nI 1), .ref (ad 0), .ref (ad 1), .ref (ad 2), .ref (ad 3), .ref (ad 4), .int 0, .ref (ad 5), .ref (ad 6)]) : iniL aC h o ad 1 (fun _ => 0) (fun _ => 0) := by
  have no : ∀ i, i < 7 → o ≠ ad i := fun i hi e => by
    have h1 := I.2.1 i hi
    obtain ⟨y, hy⟩ := arE_l aC i
    rw [← e, I.1, hy] at h1; cases h1
  exact ⟨by rw [cnP_1]; exact I.1, fun i hi => I.2.1 i (by omega), I.2.1 5 (by decide), I.2.1 6 (by decide), I.2.2, no, fun k hk => absurd hk (by rw [cnP_1]; omega), fun q hq _ => by rw [show q = 0 by omega]; rfl⟩
theorem iniL.n {aC : Nat → ClassId} {h : zz_Hp} {o p : Nat} {ad : Nat → Nat} {PA PR : Nat → Int32} (I : iniL aC h o ad p PA PR) (hp : pok p = false) : iniL aC h o ad (p + 1) PA PR := by
  obtain ⟨i1, i2, i3, i4, i5, i6, i7, i8⟩ := I
  refine ⟨by rw [cnP_n hp]; exact i1, i2, i3, i4, i5, i6, by rw [cnP_n hp]; exact i7, fun q hq hk => i8 q ?_ hk⟩
  by_cases e : q = p
  · rw [e, hp] at hk; cases hk
  · omega
theorem iniL.s {aC : Nat → ClassId} {h : zz_Hp} {o p : Nat} {ad : Nat → Nat} {PA PR : Nat → Int32} (I : iniL aC h o ad p PA PR) (h9 : p ≤ 9999) (hp : pok p = true) (h0 : ¬ p = 0) : iniL aC (va_up (va_up (va_up h (ad 5) (some (iaE aC 7380 (upd PA (cnP p) (nI p))))) (ad 6) (some (iaE aC 10000 (upd PR p (nI (prN p)))))) o (some (inO ad (cnP p + 1)))) o ad (p + 1) (upd PA (cnP p) (nI p)) (upd PR p (nI (prN p))) := by
  obtain ⟨i1, i2, i3, i4, i5, i6, i7, i8⟩ := I
  refine ⟨by rw [va_up_self, cnP_y hp h0], fun i hi => ?_, ?_, ?_, i5, i6, fun k hk => ?_, fun q hq hk => ?_⟩
  · rw [va_up_ne _ _ (Ne.symm (i6 i (by omega))), va_up_ne _ _ (i5 i 6 (by omega) (by decide) (by omega)), va_up_ne _ _ (i5 i 5 (by omega) (by decide) (by omega))]; exact i2 i hi
  · rw [va_up_ne _ _ (Ne.symm (i6 5 (by decide))), va_up_ne _ _ (i5 5 6 (by decide) (by decide) (by decide)), va_up_self]
  · rw [va_up_ne _ _ (Ne.symm (i6 6 (by decide))), va_up_self]
  · rw [cnP_y hp h0] at hk
    by_cases e : k = cnP p
    · rw [e, upd_at, (cnP_p h9 hp h0).1]
    · rw [upd_ne _ _ e]; exact i7 k (by omega)
  · by_cases e : q = p
    · rw [e, upd_at]
    · rw [upd_ne _ _ e]; exact i8 q (by omega) hk
theorem iniL.W {aC : Nat → ClassId} {h : zz_Hp} {o : Nat} {ad : Nat → Nat} {PA PR : Nat → Int32} (I : iniL aC h o ad 10000 PA PR) : mW h aC o ad 0 1 (fun _ => 0) (fun _ => 0) (fun _ => 0) (fun _ => 0) (fun _ => 0) := by
  obtain ⟨i1, i2, i3, i4, i5, i6, i7, i8⟩ := I
  rw [cnP_e] at i1 i7
  exact ⟨by decide, ⟨i5, fun _ _ _ => rfl⟩, i1, i2 0 (by decide), i2 1 (by decide), i2 2 (by decide), i2 3 (by decide), i2 4 (by decide), ⟨PA, i3, i7⟩, PR, i4, fun p hp hk => i8 p (by omega) hk⟩
set_option maxRecDepth 8192 in
set_option maxHeartbeats 4000000 in
theorem c_O_init (l : Launch) (D : va_G) (aC : Nat → ClassId) (h : zz_Hp) (o : Nat) (ho : h o = some (.inr (3, [.int 0, .int 0, .null, .null, .null, .null, .null, .int 0, .null, .null]))) :
    zz_Ct l D aC y_O_init (zrm 2 7 207380 90) [.ref o] h (fun r' h' => r' = .inl none ∧ ∃ ad : Nat → Nat, mW h' aC o ad 0 1 (fun _ => 0) (fun _ => 0) (fun _ => 0) (fun _ => 0) (fun _ => 0)) := by
  refine zz_ct md_O_init rfl (by simp [Value.category]) (Nat.le_of_ble_eq_true rfl) fun K C E hI => ?_
  obtain rfl := E.ac
  have loop : ∀ (g p : Nat) (hc : zz_Hp) (ad : Nat → Nat) (PA PR : Nat → Int32), p + g = 10000 → 1 ≤ p → iniL (zz_ac K) hc o ad p PA PR → zz_Z K (zz_End K h (fun r' h' => r' = .inl none ∧ ∃ ad : Nat → Nat, mW h' (zz_ac K) o ad 0 1 (fun _ => 0) (fun _ => 0) (fun _ => 0) (fun _ => 0) (fun _ => 0))) h hc 7 207380 72 [some (.ref o), some (.int (nI p))] [] := by
    intro g
    induction g with
    | zero =>
      intro p hc ad PA PR hpg hp1 J
      refine zz_go C [(72, .iload_n 1), (73, .sipush 10000)] (by decide +kernel) (pc' := 76) (lv' := [some (.ref o), some (.int (nI p))]) (st' := [.int (nI 10000), .int (nI p)]) rfl ?_
      refine zz_if C (i := .if_icmp .ge 46) (by decide +kernel) (Pt := (nI 10000) ≤ (nI p)) (Pf := ¬ (nI 10000) ≤ (nI p)) (off := 46) (r := []) (tgt := 122) rfl (by decide) (fun cA => ?_) (fun cA => ?_)
      · rw [show p = 10000 by omega] at J
        exact zr_v C E (Nat.le_of_ble_eq_true rfl) (Nat.le_of_ble_eq_true rfl) (by decide +kernel) (⟨rfl, ad, J.W⟩)
      · exact absurd (nI_le (by omega) (by omega)) cA
    | succ g ih =>
      intro p hc ad PA PR hpg hp1 J
      refine zz_go C [(72, .iload_n 1), (73, .sipush 10000)] (by decide +kernel) (pc' := 76) (lv' := [some (.ref o), some (.int (nI p))]) (st' := [.int (nI 10000), .int (nI p)]) rfl ?_
      refine zz_if C (i := .if_icmp .ge 46) (by decide +kernel) (Pt := (nI 10000) ≤ (nI p)) (Pf := ¬ (nI 10000) ≤ (nI p)) (off := 46) (r := []) (tgt := 122) rfl (by decide) (fun cA => ?_) (fun cA => ?_)
      · exact absurd ((nI_leI (by omega) (by omega)).mp cA) (by omega)
      · refine zz_go C [(79, .iload_n 1)] (by decide +kernel) (pc' := 80) (lv' := [some (.ref o), some (.int (nI p))]) (st' := [.int (nI p)]) rfl ?_
        refine zz_cS C E (As := [.int (nI p)]) (rest := []) (hc := hc) md_O_isPath (c_O_isPath l D (zz_ac K) hc (nI p)) ml_O_37 sm_O_isPath (fun _ _ q => q) rfl rfl (Nat.le_of_ble_eq_true rfl) ⟨by decide, by decide⟩ ⟨(Nat.le_of_ble_eq_true rfl), (Nat.le_of_ble_eq_true rfl)⟩ (by decide +kernel) (fun v0 h9 hp hn hd => ?_) (fun v0 h9 hp hn hd => ?_)
        · rw [zz_mix_self hd]
          obtain ⟨hh, hv⟩ := hp
          rw [hh]
          cases hv
          show zz_Z _ _ _ _ _ _ _ _ [.int (bI (isP (nI p)))]
          rw [isP_n (show p ≤ 9999 by omega)]
          refine zz_if C (i := .ifCond .eq 33) (by decide +kernel) (Pt := (bI (pok p)) = 0) (Pf := ¬ (bI (pok p)) = 0) (off := 33) (r := []) (tgt := 116) rfl (by decide) (fun cB => ?_) (fun cB => ?_)
          · have J2 := J.n ((bI_0 _).mp cB)
            refine zz_go C [(116, .iinc 1 1), (119, .goto (-47))] (by decide +kernel) (pc' := 72) (lv' := [some (.ref o), some (.int ((nI p) + (nI 1)))]) (st' := []) rfl ?_
            rw [show nI p + nI 1 = nI (p + 1) from nI_add p 1]
            exact ih (p + 1) hc ad PA PR (by omega) (by omega) J2
          · have hk := bI_1 cB
            have hp0 : ¬ p = 0 := by omega
            obtain ⟨c1, c2⟩ := cnP_p (show p ≤ 9999 by omega) hk hp0
            have o5 : o ≠ ad 5 := J.2.2.2.2.2.1 5 (by decide)
            have o6 : o ≠ ad 6 := J.2.2.2.2.2.1 6 (by decide)
            refine zz_go C [(86, .aload_n 0)] (by decide +kernel) (pc' := 87) (lv' := [some (.ref o), some (.int (nI p))]) (st' := [.ref o]) rfl ?_
            refine zz_get C fd_O_31 J.1 (v := .ref (ad 5)) rfl (by decide +kernel) ?_
            refine zz_go C [(90, .aload_n 0)] (by decide +kernel) (pc' := 91) (lv' := [some (.ref o), some (.int (nI p))]) (st' := [.ref o, .ref (ad 5)]) rfl ?_
            refine zz_get C fd_O_41 J.1 (v := .int (nI (cnP p))) rfl (by decide +kernel) ?_
            refine zz_go C [(94, .iload_n 1)] (by decide +kernel) (pc' := 95) (lv' := [some (.ref o), some (.int (nI p))]) (st' := [.int (nI p), .int (nI (cnP p)), .ref (ad 5)]) rfl ?_
            refine ga_ist C J.2.2.1 c2 (by decide) (by decide +kernel) ?_
            have e1 : (va_up hc (ad 5) (some (iaE (zz_ac K) 7380 (upd PA (cnP p) (nI p))))) o = some (inO ad (cnP p)) := by rw [va_up_ne _ _ o5]; exact J.1
            refine zz_go C [(96, .aload_n 0)] (by decide +kernel) (pc' := 97) (lv' := [some (.ref o), some (.int (nI p))]) (st' := [.ref o]) rfl ?_
            refine zz_get C fd_O_34 e1 (v := .ref (ad 6)) rfl (by decide +kernel) ?_
            refine zz_go C [(100, .iload_n 1), (101, .iload_n 1)] (by decide +kernel) (pc' := 102) (lv' := [some (.ref o), some (.int (nI p))]) (st' := [.int (nI p), .int (nI p), .ref (ad 6)]) rfl ?_
            refine zz_cS C E (As := [.int (nI p)]) (rest := [.int (nI p), .ref (ad 6)]) (hc := (va_up hc (ad 5) (some (iaE (zz_ac K) 7380 (upd PA (cnP p) (nI p)))))) md_O_parentOf (c_O_parentOf l D (zz_ac K) (va_up hc (ad 5) (some (iaE (zz_ac K) 7380 (upd PA (cnP p) (nI p))))) p (by omega)) ml_O_44 sm_O_parentOf (fun _ _ q => q) rfl rfl (Nat.le_of_ble_eq_true rfl) ⟨by decide, by decide⟩ ⟨(Nat.le_of_ble_eq_true rfl), (Nat.le_of_ble_eq_true rfl)⟩ (by decide +kernel) (fun v0 h9 hp hn hd => ?_) (fun v0 h9 hp hn hd => ?_)
            · rw [zz_mix_self hd]
              obtain ⟨hh, hv⟩ := hp
              rw [hh]
              cases hv
              show zz_Z _ _ _ _ _ _ _ _ [.int (nI (prN p)), .int (nI p), .ref (ad 6)]
              refine ga_ist C (show (va_up hc (ad 5) (some (iaE (zz_ac K) 7380 (upd PA (cnP p) (nI p))))) (ad 6) = some (iaE (zz_ac K) 10000 PR) by rw [va_up_ne _ _ (J.2.2.2.2.1 6 5 (by decide) (by decide) (by decide))]; exact J.2.2.2.1) (show p < 10000 by omega) (by decide) (by decide +kernel) ?_
              have e2 : (va_up (va_up hc (ad 5) (some (iaE (zz_ac K) 7380 (upd PA (cnP p) (nI p))))) (ad 6) (some (iaE (zz_ac K) 10000 (upd PR p (nI (prN p)))))) o = some (inO ad (cnP p)) := by rw [va_up_ne _ _ o6]; exact e1
              refine zz_go C [(106, .aload_n 0), (107, .dup)] (by decide +kernel) (pc' := 108) (lv' := [some (.ref o), some (.int (nI p))]) (st' := [.ref o, .ref o]) rfl ?_
              refine zz_get C fd_O_41 e2 (v := .int (nI (cnP p))) rfl (by decide +kernel) ?_
              refine zz_go C [(111, .iconst 1), (112, .iadd)] (by decide +kernel) (pc' := 113) (lv' := [some (.ref o), some (.int (nI p))]) (st' := [.int ((nI (cnP p)) + (nI 1)), .ref o]) rfl ?_
              rw [show nI (cnP p) + nI 1 = nI (cnP p + 1) from nI_add _ 1]
              refine zz_putf C fd_O_41 e2 rfl rfl (Nat.le_of_ble_eq_true rfl) (by decide +kernel) ?_
              refine zz_go C [(116, .iinc 1 1), (119, .goto (-47))] (by decide +kernel) (pc' := 72) (lv' := [some (.ref o), some (.int ((nI p) + (nI 1)))]) (st' := []) rfl ?_
              rw [show nI p + nI 1 = nI (p + 1) from nI_add p 1]
              exact ih (p + 1) _ ad _ _ (by omega) (by omega) (J.s (by omega) hk hp0)
            · cases hp.2
        · cases hp.2
  refine zz_go C [(0, .aload_n 0)] (by decide +kernel) (pc' := 1) (lv' := [some (.ref o), none]) (st' := [.ref o]) rfl ?_
  refine zr_obj C E ml_O_1 (by decide) (by decide) (by decide +kernel) ?_
  refine zz_go C [(4, .aload_n 0), (5, .iconst 1)] (by decide +kernel) (pc' := 6) (lv' := [some (.ref o), none]) (st' := [.int (nI 1), .ref o]) rfl ?_
  refine zz_putf C fd_O_7 (fs := [.int 0, .int 0, .null, .null, .null, .null, .null, .int 0, .null, .null]) ho rfl rfl (Nat.le_of_ble_eq_true rfl) (by decide +kernel) ?_
  have I0 : iniW (zz_ac K) (va_up h o (some (.inr (3, [.int 0, .int (nI 1), .null, .null, .null, .null, .null, .int 0, .null, .null])))) o (fun _ => 0) 0 [.int 0, .int (nI 1), .null, .null, .null, .null, .null, .int 0, .null, .null] := ⟨va_up_self _ _ _, fun i hi => absurd hi (by omega), fun i j hi => absurd hi (by omega)⟩
  refine zz_go C [(9, .aload_n 0)] (by decide +kernel) (pc' := 10) (lv' := [some (.ref o), none]) (st' := [.ref o]) rfl ?_
  refine zz_ldc C kc_O_13 (by decide +kernel) ?_
  refine zr_newI C E (by decide) (N := 80000) (by decide) (by decide) (Nat.le_of_ble_eq_true rfl) (Nat.le_of_ble_eq_true rfl) (by decide +kernel) (fun q0 hq0 _ => ?_)
  refine zz_putF C fd_O_14 (hI rfl) (fs := [.int 0, .int (nI 1), .null, .null, .null, .null, .null, .int 0, .null, .null]) (by rw [va_up_ne _ _ (I0.no hq0)]; exact I0.1) rfl rfl (Nat.le_of_ble_eq_true rfl) (by decide +kernel) ?_
  have I1 := I0.s hq0 [.int 0, .int (nI 1), .ref q0, .null, .null, .null, .null, .int 0, .null, .null]
  refine zz_go C [(17, .aload_n 0)] (by decide +kernel) (pc' := 18) (lv' := [some (.ref o), none]) (st' := [.ref o]) rfl ?_
  refine zz_ldc C kc_O_13 (by decide +kernel) ?_
  refine zr_newI C E (by decide) (N := 80000) (by decide) (by decide) (Nat.le_of_ble_eq_true rfl) (Nat.le_of_ble_eq_true rfl) (by decide +kernel) (fun q1 hq1 _ => ?_)
  refine zz_putF C fd_O_18 (hI rfl) (fs := [.int 0, .int (nI 1), .ref q0, .null, .null, .null, .null, .int 0, .null, .null]) (by rw [va_up_ne _ _ (I1.no hq1)]; exact I1.1) rfl rfl (Nat.le_of_ble_eq_true rfl) (by decide +kernel) ?_
  have I2 := I1.s hq1 [.int 0, .int (nI 1), .ref q0, .ref q1, .null, .null, .null, .int 0, .null, .null]
  refine zz_go C [(25, .aload_n 0), (26, .sipush 10000)] (by decide +kernel) (pc' := 29) (lv' := [some (.ref o), none]) (st' := [.int (nI 10000), .ref o]) rfl ?_
  refine zr_newI C E (by decide) (N := 10000) (by decide) (by decide) (Nat.le_of_ble_eq_true rfl) (Nat.le_of_ble_eq_true rfl) (by decide +kernel) (fun q2 hq2 _ => ?_)
  refine zz_putF C fd_O_21 (hI rfl) (fs := [.int 0, .int (nI 1), .ref q0, .ref q1, .null, .null, .null, .int 0, .null, .null]) (by rw [va_up_ne _ _ (I2.no hq2)]; exact I2.1) rfl rfl (Nat.le_of_ble_eq_true rfl) (by decide +kernel) ?_
  have I3 := I2.s hq2 [.int 0, .int (nI 1), .ref q0, .ref q1, .ref q2, .null, .null, .int 0, .null, .null]
  refine zz_go C [(34, .aload_n 0), (35, .sipush 10000)] (by decide +kernel) (pc' := 38) (lv' := [some (.ref o), none]) (st' := [.int (nI 10000), .ref o]) rfl ?_
  refine zr_newI C E (by decide) (N := 10000) (by decide) (by decide) (Nat.le_of_ble_eq_true rfl) (Nat.le_of_ble_eq_true rfl) (by decide +kernel) (fun q3 hq3 _ => ?_)
  refine zz_putF C fd_O_24 (hI rfl) (fs := [.int 0, .int (nI 1), .ref q0, .ref q1, .ref q2, .null, .null, .int 0, .null, .null]) (by rw [va_up_ne _ _ (I3.no hq3)]; exact I3.1) rfl rfl (Nat.le_of_ble_eq_true rfl) (by decide +kernel) ?_
  have I4 := I3.s hq3 [.int 0, .int (nI 1), .ref q0, .ref q1, .ref q2, .ref q3, .null, .int 0, .null, .null]
  refine zz_go C [(43, .aload_n 0), (44, .sipush 10000)] (by decide +kernel) (pc' := 47) (lv' := [some (.ref o), none]) (st' := [.int (nI 10000), .ref o]) rfl ?_
  refine zr_newZ C E (by decide) (N := 10000) (by decide) (by decide) (Nat.le_of_ble_eq_true rfl) (Nat.le_of_ble_eq_true rfl) (by decide +kernel) (fun q4 hq4 _ => ?_)
  refine zz_putF C fd_O_27 (hI rfl) (fs := [.int 0, .int (nI 1), .ref q0, .ref q1, .ref q2, .ref q3, .null, .int 0, .null, .null]) (by rw [va_up_ne _ _ (I4.no hq4)]; exact I4.1) rfl rfl (Nat.le_of_ble_eq_true rfl) (by decide +kernel) ?_
  have I5 := I4.s hq4 [.int 0, .int (nI 1), .ref q0, .ref q1, .ref q2, .ref q3, .ref q4, .int 0, .null, .null]
  refine zz_go C [(52, .aload_n 0), (53, .sipush 7380)] (by decide +kernel) (pc' := 56) (lv' := [some (.ref o), none]) (st' := [.int (nI 7380), .ref o]) rfl ?_
  refine zr_newI C E (by decide) (N := 7380) (by decide) (by decide) (Nat.le_of_ble_eq_true rfl) (Nat.le_of_ble_eq_true rfl) (by decide +kernel) (fun q5 hq5 _ => ?_)
  refine zz_putF C fd_O_31 (hI rfl) (fs := [.int 0, .int (nI 1), .ref q0, .ref q1, .ref q2, .ref q3, .ref q4, .int 0, .null, .null]) (by rw [va_up_ne _ _ (I5.no hq5)]; exact I5.1) rfl rfl (Nat.le_of_ble_eq_true rfl) (by decide +kernel) ?_
  have I6 := I5.s hq5 [.int 0, .int (nI 1), .ref q0, .ref q1, .ref q2, .ref q3, .ref q4, .int 0, .ref q5, .null]
  refine zz_go C [(61, .aload_n 0), (62, .sipush 10000)] (by decide +kernel) (pc' := 65) (lv' := [some (.ref o), none]) (st' := [.int (nI 10000), .ref o]) rfl ?_
  refine zr_newI C E (by decide) (N := 10000) (by decide) (by decide) (Nat.le_of_ble_eq_true rfl) (Nat.le_of_ble_eq_true rfl) (by decide +kernel) (fun q6 hq6 _ => ?_)
  refine zz_putF C fd_O_34 (hI rfl) (fs := [.int 0, .int (nI 1), .ref q0, .ref q1, .ref q2, .ref q3, .ref q4, .int 0, .ref q5, .null]) (by rw [va_up_ne _ _ (I6.no hq6)]; exact I6.1) rfl rfl (Nat.le_of_ble_eq_true rfl) (by decide +kernel) ?_
  have I7 := I6.s hq6 [.int 0, .int (nI 1), .ref q0, .ref q1, .ref q2, .ref q3, .ref q4, .int 0, .ref q5, .ref q6]
  refine zz_go C [(70, .iconst 1), (71, .istore_n 1)] (by decide +kernel) (pc' := 72) (lv' := [some (.ref o), some (.int (nI 1))]) (st' := []) rfl ?_
  exact loop 9999 1 _ _ _ _ (by omega) (by omega) (iniL.of I7)
