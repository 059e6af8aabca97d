/-! ===== squash ===== -/
def sqL (Ls : zLs) (k : Nat) (w : List Nat → Option zMk) : zLs := fun i => if i < k then Ls i else if i = k then w else Ls (i + 1)
theorem sqL_k (Ls : zLs) (k : Nat) (w : List Nat → Option zMk) : sqL Ls k w k = w := by unfold sqL; rw [if_neg (by omega), if_pos rfl]
def sqG (Lr : Nat → Option Nat) (k i : Nat) : Nat → Option Nat := fun j => if k ≤ j ∧ j < i then Lr (j + 1) else Lr j
theorem sqG_0 (Lr : Nat → Option Nat) (k : Nat) : sqG Lr k k = Lr := by
  funext j; exact if_neg (by omega)
theorem sqG_n (Lr : Nat → Option Nat) (k : Nat) {i j : Nat} (h : i ≤ j) : sqG Lr k i j = Lr j := if_neg (by omega)
theorem sqG_s (Lr : Nat → Option Nat) {k i : Nat} (h : k ≤ i) : va_up (sqG Lr k i) i (Lr (i + 1)) = sqG Lr k (i + 1) := by
  funext j
  by_cases e : j = i
  · subst e; rw [va_up_self]; exact (if_pos ⟨h, by omega⟩).symm
  · rw [va_up_ne _ _ e]
    unfold sqG
    by_cases c : k ≤ j ∧ j < i
    · rw [if_pos c, if_pos ⟨c.1, by omega⟩]
    · rw [if_neg c, if_neg (fun z => c ⟨z.1, by omega⟩)]
section SQ
variable {h h1 h3 : zz_Hp} {aC : Nat → ClassId} {t la sa m k : Nat} {A : zA5} {Ls : zLs} {w : List Nat → Option zMk}
theorem djU_of (I : trI Ls (m + 1)) (hk : k < m) (s : List Nat) (q : zMk) (hq : Ls (k + 1) s = some q) : own (Ls k) q :=
  ⟨fun s' p hp e => absurd (I.1 k (k + 1) s' s p q (by omega) (by omega) hp hq e).1 (by omega), fun c hc s' p hp e => absurd (I.2 k (k + 1) s' s p q c (by omega) (by omega) hp hq e hc).1 (by omega)⟩
theorem sq_keep (W : tW h aC t la sa A (m + 1) Ls) (hk : k < m) (J : loI h aC (Ls (k + 1)) (Ls k) [] false 9 h1 w) {x : Nat} {e : va_E} (hx : h x = some e) (hq : ∀ s q, Ls (k + 1) s = some q → x ≠ q.1 ∧ q.2.2.2 ≠ some x) : h1 x = some e := J.2.2.2.2.1 x e hx (fun s q _ hs => hq s q hs)
theorem sq_kind (W : tW h aC t la sa A (m + 1) Ls) (hk : k < m) (J : loI h aC (Ls (k + 1)) (Ls k) [] false 9 h1 w) {x : Nat} {e : va_E} (hx : h x = some e) (h0 : zKi e ≠ 0) (h10 : zEl e ≠ 10) : h1 x = some e :=
  sq_keep W hk J hx (fun s q hs => by
    have T := W.2.2.2.2.2.2.2.1 (k + 1) (by omega)
    refine ⟨ne_k hx (T.1 s q hs) h0, fun hc => ?_⟩
    obtain ⟨g, hg, -⟩ := T.2.1 s q x hs hc
    exact ne_l hx hg h10 rfl)
theorem sq_lay (W : tW h aC t la sa A (m + 1) Ls) (hk : k < m) (J : loI h aC (Ls (k + 1)) (Ls k) [] false 9 h1 w) {i : Nat} (hi : i < m + 1) (hne : i ≠ k + 1) : trP h1 aC (Ls i) := by
  have I := W.2.2.2.2.2.2.2.2
  have Tk := W.2.2.2.2.2.2.2.1 (k + 1) (by omega)
  obtain ⟨a1, a2, a3⟩ := W.2.2.2.2.2.2.2.1 i hi
  refine ⟨fun s q hs => sq_keep W hk J (a1 s q hs) (fun s' q' hs' => ⟨fun e => hne (I.1 i (k + 1) s s' q q' hi (by omega) hs hs' e).1, fun e => ?_⟩), fun s q c hs hc => ?_, a3⟩
  · obtain ⟨g, hg, -⟩ := Tk.2.1 s' q' _ hs' e
    exact ne_k (a1 s q hs) hg (by rw [ki_mk, ki_ma]; decide) rfl
  · obtain ⟨g, hg, hj⟩ := a2 s q c hs hc
    exact ⟨g, sq_keep W hk J hg (fun s' q' hs' => ⟨ne_k hg (Tk.1 s' q' hs') (by rw [ki_mk, ki_ma]; decide), fun e => hne (I.2 i (k + 1) s s' q q' c hi (by omega) hs hs' hc e).1⟩), hj⟩
theorem sq_I (W : tW h aC t la sa A (m + 1) Ls) (hk : k < m) (J : loI h aC (Ls (k + 1)) (Ls k) [] false 9 h1 w) : trI (sqL Ls k w) m := by
  have I := W.2.2.2.2.2.2.2.2
  obtain ⟨⟨-, -, U, -⟩, -, -, -, -, j7, j8, -⟩ := J
  have lay : ∀ i, i < m → i ≠ k → ∃ i0, i0 < m + 1 ∧ i0 ≠ k ∧ i0 ≠ k + 1 ∧ sqL Ls k w i = Ls i0 ∧ (i0 = if i < k then i else i + 1) := fun i hi hne => by
    by_cases c : i < k
    · exact ⟨i, by omega, by omega, by omega, by unfold sqL; rw [if_pos c], by rw [if_pos c]⟩
    · exact ⟨i + 1, by omega, by omega, by omega, by unfold sqL; rw [if_neg c, if_neg hne], by rw [if_neg c]⟩
  have inj : ∀ i i' : Nat, i ≠ k → i' ≠ k → (if i < k then i else i + 1) = (if i' < k then i' else i' + 1) → i = i' := fun i i' h1 h2 e => by
    by_cases c : i < k <;> by_cases c' : i' < k
    · rw [if_pos c, if_pos c'] at e; exact e
    · rw [if_pos c, if_neg c'] at e; omega
    · rw [if_neg c, if_pos c'] at e; omega
    · rw [if_neg c, if_neg c'] at e; omega
  have src : ∀ s q, w s = some q → ∃ k0 q0, (k0 = k ∨ k0 = k + 1) ∧ Ls k0 s = some q0 ∧ q0.1 = q.1 := fun s q hs => by
    rcases j7 s q hs with ⟨q0, h0, h1⟩ | h0
    · exact ⟨k + 1, q0, Or.inr rfl, h0, h1⟩
    · exact ⟨k, q, Or.inl rfl, h0, rfl⟩
  have srr : ∀ s q c, w s = some q → q.2.2.2 = some c → (∃ k0 q0, (k0 = k ∨ k0 = k + 1) ∧ Ls k0 s = some q0 ∧ q0.2.2.2 = some c) ∨ h c = none := fun s q c hs hc => by
    rcases j8 s q c hs hc with ⟨q0, h0, h1⟩ | h0 | h0
    · exact Or.inl ⟨k + 1, q0, Or.inr rfl, h0, h1⟩
    · exact Or.inl ⟨k, q, Or.inl rfl, h0, hc⟩
    · exact Or.inr h0
  constructor
  · intro i i' r r' q q' hi hi' hq hq' he
    by_cases e : i = k
    · subst e
      rw [sqL_k] at hq
      by_cases e' : i' = i
      · subst e'; rw [sqL_k] at hq'; exact ⟨rfl, U.1 r r' q q' hq hq' he⟩
      · obtain ⟨i0, l1, l2, l3, l4, l5⟩ := lay i' hi' e'
        rw [l4] at hq'
        obtain ⟨k0, q0, m1, m2, m3⟩ := src r q hq
        have := (I.1 k0 i0 r r' q0 q' (by omega) l1 m2 hq' (m3.trans he)).1
        omega
    · obtain ⟨i0, l1, l2, l3, l4, l5⟩ := lay i hi e
      rw [l4] at hq
      by_cases e' : i' = k
      · subst e'
        rw [sqL_k] at hq'
        obtain ⟨k0, q0, m1, m2, m3⟩ := src r' q' hq'
        have := (I.1 i0 k0 r r' q q0 l1 (by omega) hq m2 (he.trans m3.symm)).1
        omega
      · obtain ⟨i0', l1', l2', l3', l4', l5'⟩ := lay i' hi' e'
        rw [l4'] at hq'
        obtain ⟨z1, z2⟩ := I.1 i0 i0' r r' q q' l1 l1' hq hq' he
        exact ⟨inj i i' e e' (by rw [← l5, ← l5', z1]), z2⟩
  · intro i i' r r' q q' c hi hi' hq hq' hc hc'
    by_cases e : i = k
    · subst e
      rw [sqL_k] at hq
      by_cases e' : i' = i
      · subst e'; rw [sqL_k] at hq'; exact ⟨rfl, U.2 r r' q q' c hq hq' hc hc'⟩
      · obtain ⟨i0, l1, l2, l3, l4, l5⟩ := lay i' hi' e'
        rw [l4] at hq'
        rcases srr r q c hq hc with ⟨k0, q0, m1, m2, m3⟩ | m1
        · have := (I.2 k0 i0 r r' q0 q' c (by omega) l1 m2 hq' m3 hc').1
          omega
        · obtain ⟨g, hg, -⟩ := (W.2.2.2.2.2.2.2.1 i0 l1).2.1 r' q' c hq' hc'
          rw [hg] at m1; cases m1
    · obtain ⟨i0, l1, l2, l3, l4, l5⟩ := lay i hi e
      rw [l4] at hq
      by_cases e' : i' = k
      · subst e'
        rw [sqL_k] at hq'
        rcases srr r' q' c hq' hc' with ⟨k0, q0, m1, m2, m3⟩ | m1
        · have := (I.2 i0 k0 r r' q q0 c l1 (by omega) hq m2 hc m3).1
          omega
        · obtain ⟨g, hg, -⟩ := (W.2.2.2.2.2.2.2.1 i0 l1).2.1 r q c hq hc
          rw [hg] at m1; cases m1
      · obtain ⟨i0', l1', l2', l3', l4', l5'⟩ := lay i' hi' e'
        rw [l4'] at hq'
        obtain ⟨z1, z2⟩ := I.2 i0 i0' r r' q q' c l1 l1' hq hq' hc hc'
        exact ⟨inj i i' e e' (by rw [← l5, ← l5', z1]), z2⟩
theorem sq_W (W : tW h aC t la sa A (m + 1) Ls) (hk : k < m) (J : loI h aC (Ls (k + 1)) (Ls k) [] false 9 h1 w) {Lr G : Nat → Option Nat} (hLa : h la = some (maE aC 8 Lr)) (hLr : ∀ i, i < m + 1 → Lr i = mkA (Ls i [])) (hk3 : ∀ x e, h1 x = some e → x ≠ t → x ≠ la → h3 x = some e) (ht : h3 t = some (otE la m sa)) (hla : h3 la = some (maE aC 8 G)) (hG : ∀ i, i < m → G i = sqG Lr k m i) : tW h3 aC t la sa A m (sqL Ls k w) := by
  have w4 := W.2.2.2.1
  have ht1 : h1 t = some (otE la (m + 1) sa) := sq_kind W hk J w4 (by rw [ki_ot]; decide) (fun e => absurd (show (0 : Nat) = 10 from e) (by decide))
  have hl1 : h1 la = some (maE aC 8 Lr) := sq_kind W hk J hLa (by rw [ki_ma]; decide) (by rw [el_ma]; decide)
  have up : ∀ u, trP h1 aC u → trP h3 aC u := fun u T => T.kp (fun x e hx hd => hk3 x e hx (ne_k hx ht1 (by rw [ki_ot]; rcases hd with hd | hd; rw [hd]; decide; rw [hd.1]; decide)) (by
    rcases hd with hd | hd
    · exact ne_k hx hl1 (by rw [ki_ma, hd]; decide)
    · exact ne_l hx hl1 (by rw [el_ma, hd.2]; decide)))
  obtain ⟨Sr, w6, w6'⟩ := W.2.2.2.2.2.1
  have hsa1 : h1 sa = some (saE aC 5 Sr) := sq_kind W hk J w6 (by rw [ki_sa]; decide) (by rw [el_sa]; decide)
  have S1 : siH h1 aC A := fun d hd => by
    obtain ⟨s0, ⟨g1, s1⟩, ⟨g2, s2⟩, ⟨g3, s3⟩, g4, s4⟩ := W.2.2.2.2.2.2.1 d hd
    exact ⟨sq_kind W hk J s0 (by rw [ki_sg]; decide) (fun e => absurd (show (0 : Nat) = 10 from e) (by decide)), ⟨g1, sq_kind W hk J s1 (by rw [ki_ia]; decide) (fun e => absurd (show (9 : Nat) = 10 from e) (by decide))⟩, ⟨g2, sq_kind W hk J s2 (by rw [ki_ia]; decide) (fun e => absurd (show (9 : Nat) = 10 from e) (by decide))⟩, ⟨g3, sq_kind W hk J s3 (by rw [ki_ma]; decide) (by rw [el_ma]; decide)⟩, g4, sq_kind W hk J s4 (by rw [ki_za]; decide) (fun e => absurd (show (8 : Nat) = 10 from e) (by decide))⟩
  refine ⟨by have := W.1; omega, W.2.1, W.2.2.1, ht, ⟨G, hla, fun i hi => ?_⟩, ⟨Sr, hk3 _ _ hsa1 (ne_k hsa1 ht1 (by rw [ki_sa, ki_ot]; decide)) (ne_l hsa1 hl1 (by rw [el_sa, el_ma]; decide)), w6'⟩, S1.kp hk3 ht1 hl1 W.2.2.1, fun i hi => ?_, sq_I W hk J⟩
  · rw [hG i hi]
    unfold sqG sqL
    by_cases c : i < k
    · rw [if_neg (by omega), if_pos c]; exact hLr i (by omega)
    · rw [if_pos ⟨by omega, hi⟩, if_neg c]
      by_cases c2 : i = k
      · rw [if_pos c2, c2, hLr (k + 1) (by omega)]; exact J.2.2.1.1.symm
      · rw [if_neg c2]; exact hLr (i + 1) (by omega)
  · unfold sqL
    by_cases c : i < k
    · rw [if_pos c]; exact up _ (sq_lay W hk J (by omega) (by omega))
    · rw [if_neg c]
      by_cases c2 : i = k
      · rw [if_pos c2]; exact up _ J.1.1
      · rw [if_neg c2]; exact up _ (sq_lay W hk J (by omega) (by omega))
end SQ
set_option maxRecDepth 4096 in
set_option maxHeartbeats 8000000 in
theorem c_T_squash (l : Launch) (hst : l.stackTraces = false) (D : va_G) (aC : Nat → ClassId) (h : zz_Hp) (t la sa : Nat) (A : zA5) (m : Nat) (Ls : zLs) (W : tW h aC t la sa A (m + 1) Ls) (x : Int32) :
    zz_Ct l D aC y_T_squash (zrm 6 820 8206 260) [.ref t, .int x] h (fun r' h' => (x < 0 ∨ nI m ≤ x → h' = h ∧ r' = .inr "java/lang/IndexOutOfBoundsException") ∧ (¬ (x < 0 ∨ nI m ≤ x) → x.toNatClampNeg < m ∧ r' = .inl (some (.int (nI m))) ∧ ∃ w, tW h' aC t la sa A m (sqL Ls x.toNatClampNeg w) ∧ ∀ s, s ≠ [] → ctS (w s) = layC (ctF (Ls (x.toNatClampNeg + 1))) (ctF (Ls x.toNatClampNeg)) false [] s)) := by
  refine zz_ct md_T_squash rfl (by simp [Value.category]) (Nat.le_of_ble_eq_true rfl) fun K C E hI => ?_
  obtain rfl := E.ac
  have n8 := W.1
  refine zz_go C [(0, .iload_n 1)] (by decide +kernel) (pc' := 1) (lv' := [some (.ref t), some (.int x), none]) (st' := [.int x]) rfl ?_
  refine zz_if C (i := .ifCond .lt 13) (by decide +kernel) (Pt := x < 0) (Pf := ¬ x < 0) (off := 13) (r := []) (tgt := 14) rfl (by decide) (fun cA => ?_) (fun cA => ?_)
  · exact zz_throw C E hst xd_83 (⟨fun _ => ⟨rfl, rfl⟩, fun z => absurd (Or.inl cA) z⟩) (by decide) (by decide) (by decide) (by decide) (by decide +kernel) (by decide +kernel) (by decide +kernel) (by decide +kernel) (by decide +kernel)
  · refine zz_go C [(4, .iload_n 1), (5, .aload_n 0)] (by decide +kernel) (pc' := 6) (lv' := [some (.ref t), some (.int x), none]) (st' := [.ref t, .int x]) rfl ?_
    refine zz_get C fd_T_18 W.2.2.2.1 (v := .int (nI (m + 1))) rfl (by decide +kernel) ?_
    refine zz_go C [(9, .iconst 1), (10, .isub)] (by decide +kernel) (pc' := 11) (lv' := [some (.ref t), some (.int x), none]) (st' := [.int ((nI (m + 1)) - (nI 1)), .int x]) rfl ?_
    rw [show nI (m + 1) - nI 1 = nI m from nI_pred m]
    refine zz_if C (i := .if_icmp .lt 13) (by decide +kernel) (Pt := x < (nI m)) (Pf := ¬ x < (nI m)) (off := 13) (r := []) (tgt := 24) rfl (by decide) (fun cB => ?_) (fun cB => ?_)
    · obtain ⟨k, hk0, rfl⟩ := nI_of (x := x) cA
      have hk : k < m := (nI_ltI hk0 (by omega)).mp cB
      have nb : ¬ (nI k < 0 ∨ nI m ≤ nI k) := fun z => z.elim cA (fun e => absurd cB (Int32.not_lt.mpr e))
      obtain ⟨Lr, hla, hLr⟩ := id W.2.2.2.2.1
      have root : ∀ i, i < m + 1 → ∃ q, Ls i [] = some q ∧ Lr i = some q.1 := fun i hi => by
        obtain ⟨q, hq, -⟩ := (W.2.2.2.2.2.2.2.1 i hi).2.2.2.2.2
        exact ⟨q, hq, by rw [hLr i hi, hq]; rfl⟩
      obtain ⟨q, hq, eq⟩ := root (k + 1) (by omega)
      obtain ⟨p, hp, ep⟩ := root k (by omega)
      have I0 := W.2.2.2.2.2.2.2.2
      refine zz_go C [(24, .aload_n 0)] (by decide +kernel) (pc' := 25) (lv' := [some (.ref t), some (.int (nI k)), none]) (st' := [.ref t]) rfl ?_
      refine zz_get C fd_T_11 W.2.2.2.1 (v := .ref la) rfl (by decide +kernel) ?_
      refine zz_go C [(28, .iload_n 1), (29, .iconst 1), (30, .iadd)] (by decide +kernel) (pc' := 31) (lv' := [some (.ref t), some (.int (nI k)), none]) (st' := [.int ((nI k) + (nI 1)), .ref la]) rfl ?_
      rw [show nI k + nI 1 = nI (k + 1) from nI_add k 1]
      refine ga_qld C hla (by omega) (by decide) (by decide +kernel) ?_
      rw [eq]
      show zz_Z _ _ _ _ _ _ _ [some (.ref t), some (.int (nI k)), none] [.ref q.1]
      refine zz_go C [(32, .aload_n 0)] (by decide +kernel) (pc' := 33) (lv' := [some (.ref t), some (.int (nI k)), none]) (st' := [.ref t, .ref q.1]) rfl ?_
      refine zz_get C fd_T_11 W.2.2.2.1 (v := .ref la) rfl (by decide +kernel) ?_
      refine zz_go C [(36, .iload_n 1)] (by decide +kernel) (pc' := 37) (lv' := [some (.ref t), some (.int (nI k)), none]) (st' := [.int (nI k), .ref la, .ref q.1]) rfl ?_
      refine ga_qld C hla (by omega) (by decide) (by decide +kernel) ?_
      rw [ep]
      show zz_Z _ _ _ _ _ _ _ [some (.ref t), some (.int (nI k)), none] [.ref p.1, .ref q.1]
      refine zz_go C [(38, .iconst 0), (39, .iconst 0)] (by decide +kernel) (pc' := 40) (lv' := [some (.ref t), some (.int (nI k)), none]) (st' := [.int (nI 0), .int (nI 0), .ref p.1, .ref q.1]) rfl ?_
      show zz_Z _ _ _ _ _ _ _ [some (.ref t), some (.int (nI k)), none] [.int (nI 0), .int (bI false), .ref p.1, .ref q.1]
      refine zz_cS C E (As := [.ref q.1, .ref p.1, .int (bI false), .int (nI 0)]) (rest := []) (hc := h) md_T_layOver (c_T_layOver l D (zz_ac K) (Ls k) 4 0 [] false h (Ls (k + 1)) q p rfl rfl (W.2.2.2.2.2.2.2.1 (k + 1) (by omega)) (W.2.2.2.2.2.2.2.1 k (by omega)) (I0.in (by omega)) (I0.in (by omega)) (fun s q0 h0 => Or.inr (djU_of I0 hk s q0 h0)) hq hp (fun s q0 _ h0 => djU_of I0 hk s q0 h0)) ml_T_86 sm_T_layOver (fun _ _ q => q) rfl rfl (Nat.le_of_ble_eq_true rfl) ⟨by decide, by decide⟩ ⟨(by decide), (by decide)⟩ (by decide +kernel) (fun v0 h1 hp1 hn hd => ?_) (fun v0 h1 hp1 hn hd => ?_)
      · rw [zz_mix_self hd]
        obtain ⟨hv, w, J⟩ := hp1
        cases hv
        show zz_Z _ _ _ _ _ _ _ [some (.ref t), some (.int (nI k)), none] []
        have ht1 : h1 t = some (otE la (m + 1) sa) := sq_kind W hk J W.2.2.2.1 (by rw [ki_ot]; decide) (fun e => absurd (show (0 : Nat) = 10 from e) (by decide))
        have hl1 : h1 la = some (maE (zz_ac K) 8 Lr) := sq_kind W hk J hla (by rw [ki_ma]; decide) (by rw [el_ma]; decide)
        have tl : t ≠ la := ne_k ht1 hl1 (by rw [ki_ot, ki_ma]; decide)
        have rm1 : ∀ i, i < m + 1 → ∃ (a : Nat) (s v : Int32) (b : Option Nat), Lr i = some a ∧ h1 a = some (mkE s v b) := fun i hi => by
          obtain ⟨q0, h0, e0⟩ := root i hi
          by_cases c : i = k + 1
          · subst c
            have e1 := J.2.2.1.1
            cases hw : w [] with
            | none => rw [hw, h0] at e1; cases e1
            | some q9 =>
              rw [hw, h0] at e1
              exact ⟨q0.1, q9.2.1, q9.2.2.1, q9.2.2.2, e0, by rw [← (show q9.1 = q0.1 from Option.some.inj e1)]; exact J.1.1.1 [] q9 hw⟩
          · exact ⟨q0.1, _, _, _, e0, (sq_lay W hk J hi c).1 [] q0 h0⟩
        have loop : ∀ (z i : Nat), i + z = m → k ≤ i → zz_Z K (zz_End K h (fun r' h' => (nI k < 0 ∨ nI m ≤ nI k → h' = h ∧ r' = .inr "java/lang/IndexOutOfBoundsException") ∧ (¬ (nI k < 0 ∨ nI m ≤ nI k) → (nI k).toNatClampNeg < m ∧ r' = .inl (some (.int (nI m))) ∧ ∃ w, tW h' (zz_ac K) t la sa A m (sqL Ls (nI k).toNatClampNeg w) ∧ ∀ s, s ≠ [] → ctS (w s) = layC (ctF (Ls ((nI k).toNatClampNeg + 1))) (ctF (Ls (nI k).toNatClampNeg)) false [] s))) h (va_up h1 la (some (maE (zz_ac K) 8 (sqG Lr k i)))) (0 + (zrm (4 + 1) (ceL 4) (10 * ceL 4) (40 + 40 * 4)).cells) (0 + (zrm (4 + 1) (ceL 4) (10 * ceL 4) (40 + 40 * 4)).slots) 45 [some (.ref t), some (.int (nI k)), some (.int (nI i))] [] := by
          intro z
          induction z with
          | zero =>
            intro i hiz hki
            have ht2 : (va_up h1 la (some (maE (zz_ac K) 8 (sqG Lr k i)))) t = some (otE la (m + 1) sa) := by rw [va_up_ne _ _ tl]; exact ht1
            refine zz_go C [(45, .iload_n 2), (46, .aload_n 0)] (by decide +kernel) (pc' := 47) (lv' := [some (.ref t), some (.int (nI k)), some (.int (nI i))]) (st' := [.ref t, .int (nI i)]) rfl ?_
            refine zz_get C fd_T_18 ht2 (v := .int (nI (m + 1))) rfl (by decide +kernel) ?_
            refine zz_go C [(50, .iconst 1), (51, .isub)] (by decide +kernel) (pc' := 52) (lv' := [some (.ref t), some (.int (nI k)), some (.int (nI i))]) (st' := [.int ((nI (m + 1)) - (nI 1)), .int (nI i)]) rfl ?_
            rw [show nI (m + 1) - nI 1 = nI m from nI_pred m]
            refine zz_if C (i := .if_icmp .ge 23) (by decide +kernel) (Pt := (nI m) ≤ (nI i)) (Pf := ¬ (nI m) ≤ (nI i)) (off := 23) (r := []) (tgt := 75) rfl (by decide) (fun cC => ?_) (fun cC => ?_)
            · have him : i = m := by omega
              refine zz_go C [(75, .aload_n 0)] (by decide +kernel) (pc' := 76) (lv' := [some (.ref t), some (.int (nI k)), some (.int (nI i))]) (st' := [.ref t]) rfl ?_
              refine zz_cV C E (ci := 2) (As := []) (rest := []) (hc := (va_up h1 la (some (maE (zz_ac K) 8 (sqG Lr k i))))) md_T_loseTop (c_T_loseTop l D (zz_ac K) (va_up h1 la (some (maE (zz_ac K) 8 (sqG Lr k i)))) t la sa m (sqG Lr k i) ht2 (va_up_self _ _ _) (by omega)) ml_T_90 im_T_loseTop se_T_loseTop rfl ht2 (fun _ _ q => q) rfl rfl (Nat.le_of_ble_eq_true rfl) ⟨by decide, by decide⟩ ⟨(by decide), (by decide)⟩ (by decide +kernel) (fun v2 h2 hp2 hn2 hd2 => ?_) (fun v2 h2 hp2 hn2 hd2 => ?_)
              · rw [zz_mix_self hd2]
                obtain ⟨hh2, hv2⟩ := hp2
                cases hv2
                show zz_Z _ _ _ _ _ _ _ [some (.ref t), some (.int (nI k)), some (.int (nI i))] [.int (nI m)]
                have W3 := sq_W (h3 := h2) (G := va_up (sqG Lr k i) m none) W hk J hla hLr (fun x e hx a1 a2 => by rw [hh2, va_up_ne _ _ a2, va_up_ne _ _ a1, va_up_ne _ _ a2]; exact hx) (by rw [hh2, va_up_ne _ _ tl, va_up_self]) (by rw [hh2, va_up_self]) (fun j hj => by rw [va_up_ne _ _ (by omega), him])
                have ck : (nI k).toNatClampNeg = k := nI_clamp hk0
                exact zr_i C E (by decide) (by decide) (by decide +kernel) (⟨fun z => absurd z nb, fun _ => ⟨by rw [ck]; exact hk, rfl, w, by rw [ck]; exact W3, fun s hs => by rw [ck]; obtain ⟨y, hy⟩ := sfx_next (List.nil_suffix (l := s)) hs; by_cases y9 : y ≤ 9; exact (J.2.2.2.1 y s hy).1 y9; have vn : Ls k s = none := (by obtain ⟨z, rfl⟩ := hy; exact (W.2.2.2.2.2.2.2.1 k (by omega)).no ((W.2.2.2.2.2.2.2.1 k (by omega)).2.2.2.2.1 _ y (Or.inr (Or.inl y9))) z); rw [(J.2.2.2.1 y s hy).2 (by omega), layC_nv (show ctF (Ls k) s = none by show ctS (Ls k s) = none; rw [vn]; rfl)]; rfl⟩⟩)
              · cases hp2.2
            · exact absurd (nI_le (by omega) (by omega)) cC
          | succ z ih =>
            intro i hiz hki
            have ht2 : (va_up h1 la (some (maE (zz_ac K) 8 (sqG Lr k i)))) t = some (otE la (m + 1) sa) := by rw [va_up_ne _ _ tl]; exact ht1
            refine zz_go C [(45, .iload_n 2), (46, .aload_n 0)] (by decide +kernel) (pc' := 47) (lv' := [some (.ref t), some (.int (nI k)), some (.int (nI i))]) (st' := [.ref t, .int (nI i)]) rfl ?_
            refine zz_get C fd_T_18 ht2 (v := .int (nI (m + 1))) rfl (by decide +kernel) ?_
            refine zz_go C [(50, .iconst 1), (51, .isub)] (by decide +kernel) (pc' := 52) (lv' := [some (.ref t), some (.int (nI k)), some (.int (nI i))]) (st' := [.int ((nI (m + 1)) - (nI 1)), .int (nI i)]) rfl ?_
            rw [show nI (m + 1) - nI 1 = nI m from nI_pred m]
            refine zz_if C (i := .if_icmp .ge 23) (by decide +kernel) (Pt := (nI m) ≤ (nI i)) (Pf := ¬ (nI m) ≤ (nI i)) (off := 23) (r := []) (tgt := 75) rfl (by decide) (fun cC => ?_) (fun cC => ?_)
            · exact absurd ((nI_leI (by omega) (by omega)).mp cC) (by omega)
            · obtain ⟨a, s9, v9, b9, ea, ha⟩ := rm1 (i + 1) (by omega)
              have hl2 : (va_up h1 la (some (maE (zz_ac K) 8 (sqG Lr k i)))) la = some (maE (zz_ac K) 8 (sqG Lr k i)) := va_up_self _ _ _
              refine zz_go C [(55, .aload_n 0)] (by decide +kernel) (pc' := 56) (lv' := [some (.ref t), some (.int (nI k)), some (.int (nI i))]) (st' := [.ref t]) rfl ?_
              refine zz_get C fd_T_11 ht2 (v := .ref la) rfl (by decide +kernel) ?_
              refine zz_go C [(59, .iload_n 2), (60, .aload_n 0)] (by decide +kernel) (pc' := 61) (lv' := [some (.ref t), some (.int (nI k)), some (.int (nI i))]) (st' := [.ref t, .int (nI i), .ref la]) rfl ?_
              refine zz_get C fd_T_11 ht2 (v := .ref la) rfl (by decide +kernel) ?_
              refine zz_go C [(64, .iload_n 2), (65, .iconst 1), (66, .iadd)] (by decide +kernel) (pc' := 67) (lv' := [some (.ref t), some (.int (nI k)), some (.int (nI i))]) (st' := [.int ((nI i) + (nI 1)), .ref la, .int (nI i), .ref la]) rfl ?_
              rw [show nI i + nI 1 = nI (i + 1) from nI_add i 1]
              refine ga_qld C hl2 (by omega) (by decide) (by decide +kernel) ?_
              rw [sqG_n Lr k (by omega), ea]
              show zz_Z _ _ _ _ _ _ _ [some (.ref t), some (.int (nI k)), some (.int (nI i))] [.ref a, .int (nI i), .ref la]
              refine zz_qast C 3 (fun _ => rfl) (ci := 0) rfl hl2 (show _ = some (mkE s9 v9 b9) by rw [va_up_ne _ _ (ne_k ha hl1 (by rw [ki_mk, ki_ma]; decide))]; exact ha) (vp_in_nI (by omega) (by omega)) (by decide +kernel) ?_
              rw [nI_clamp (n := i) (by omega), bx_uu, ← ea, sqG_s Lr hki]
              refine zz_go C [(69, .iinc 2 1), (72, .goto (-27))] (by decide +kernel) (pc' := 45) (lv' := [some (.ref t), some (.int (nI k)), some (.int ((nI i) + (nI 1)))]) (st' := []) rfl ?_
              rw [show nI i + nI 1 = nI (i + 1) from nI_add i 1]
              exact ih (i + 1) (by omega) (by omega)
        refine zz_go C [(43, .iload_n 1), (44, .istore_n 2)] (by decide +kernel) (pc' := 45) (lv' := [some (.ref t), some (.int (nI k)), some (.int (nI k))]) (st' := []) rfl ?_
        have hz := loop (m - k) k (by omega) (Nat.le_refl k)
        rw [sqG_0] at hz
        refine zz_hp ?_ hz
        funext x; by_cases e : x = la
        · rw [e, va_up_self]; exact hl1
        · rw [va_up_ne _ _ e]
      · cases hp1.1
    · exact zz_throw C E hst xd_83 (⟨fun _ => ⟨rfl, rfl⟩, fun z => absurd (Or.inr (Int32.not_lt.mp cB)) z⟩) (by decide) (by decide) (by decide) (by decide) (by decide +kernel) (by decide +kernel) (by decide +kernel) (by decide +kernel) (by decide +kernel)
