/-! ===== isBelow ===== -/
def blB (q a : Nat) : Bool := decide (rp a <:+ (rp q).tail)
theorem pnum_mono {s : List Nat} : ∀ t : List Nat, s <:+ t → pnum s ≤ pnum t
  | [], h => by rw [List.suffix_nil.mp h]; exact Nat.le_refl _
  | x :: t, h => by
    rcases List.suffix_cons_iff.mp h with e | e
    · rw [e]; exact Nat.le_refl _
    · exact Nat.le_trans (pnum_mono t e) (Nat.le_add_right _ _)
theorem blB_lt {q a : Nat} (q9 : q ≤ 9999) (qk : pok q = true) (a9 : a ≤ 9999) (ak : pok a = true) (a0 : ¬ a = 0) (h : blB q a = true) : a < q := by
  have h1 := of_decide_eq_true h
  obtain ⟨e1, e2, e3⟩ := rp_par q9 qk
  have q0 : ¬ q = 0 := fun e => by
    rw [e] at h1
    have h2 : rp a = [] := List.suffix_nil.mp (show rp a <:+ [] from h1)
    obtain ⟨x, hx⟩ := rp_cons a0
    rw [hx] at h2; cases h2
  rw [← e1] at h1
  have h3 := pnum_mono _ h1
  rw [pnum_rp a9 ak, pnum_rp e3 e2] at h3
  have := prN_lt q0
  omega
theorem blB_s {q a : Nat} (q9 : q ≤ 9999) (qk : pok q = true) (a9 : a ≤ 9999) (ak : pok a = true) (a0 : ¬ a = 0) (hne : ¬ prN q = a) : blB q a = blB (prN q) a := by
  obtain ⟨e1, e2, e3⟩ := rp_par q9 qk
  unfold blB
  rw [← e1]
  by_cases z : prN q = 0
  · rw [z]; rfl
  · obtain ⟨x, hx⟩ := rp_cons z
    refine decide_eq_decide.mpr ⟨fun c => ?_, fun c => ?_⟩
    · rw [hx] at c
      rcases List.suffix_cons_iff.mp c with d | d
      · exact absurd (rp_inj a9 ak e3 e2 (d.trans hx.symm)).symm hne
      · exact d
    · rw [hx]; exact c.trans (List.suffix_cons _ _)
theorem blB_y {q a : Nat} (q9 : q ≤ 9999) (qk : pok q = true) (he : prN q = a) : blB q a = true := by
  obtain ⟨e1, -, -⟩ := rp_par q9 qk
  unfold blB
  rw [← e1, he]; exact decide_eq_true (List.suffix_refl _)
set_option maxHeartbeats 4000000 in
theorem c_O_isBelow (l : Launch) (D : va_G) (aC : Nat → ClassId) (h : zz_Hp) (p a : Nat) (hp : p ≤ 9999 ∧ pok p = true) (ha : a ≤ 9999 ∧ pok a = true) (a0 : ¬ a = 0) :
    zz_Ct l D aC y_O_isBelow (zrm 1 0 0 40) [.int (nI p), .int (nI a)] h (fun r' h' => h' = h ∧ r' = .inl (some (.int (bI (blB p a))))) := by
  refine zz_ct md_O_isBelow rfl (by simp [Value.category]) (Nat.le_of_ble_eq_true rfl) fun K C E hI => ?_
  obtain rfl := E.ac
  obtain ⟨a9, ak⟩ := ha
  obtain ⟨p9, pk⟩ := hp
  have loop : ∀ (g q : Nat) (b : Bool), q ≤ g → q ≤ 9999 → pok q = true → blB p a = (b || blB q a) → (b = true → blB p a = true) → zz_Z K (zz_End K h (fun r' h' => h' = h ∧ r' = .inl (some (.int (bI (blB p a)))))) h h 0 0 4 [some (.int (nI p)), some (.int (nI a)), some (.int (bI b)), some (.int (nI q))] [] := by
    intro g
    induction g with
    | zero =>
      intro q b hqg q9 qk hR hb
      refine zz_go C [(4, .iload_n 3), (5, .iload_n 1)] (by decide +kernel) (pc' := 6) (lv' := [some (.int (nI p)), some (.int (nI a)), some (.int (bI b)), some (.int (nI q))]) (st' := [.int (nI a), .int (nI q)]) rfl ?_
      refine zz_if C (i := .if_icmp .le 29) (by decide +kernel) (Pt := (nI q) ≤ (nI a)) (Pf := ¬ (nI q) ≤ (nI a)) (off := 29) (r := []) (tgt := 35) rfl (by decide) (fun cA => ?_) (fun cA => ?_)
      · have qa := (nI_leI (by omega) (by omega)).mp cA
        have hf : blB q a = false := by
          cases hq : blB q a with
          | false => rfl
          | true => exact absurd (blB_lt q9 qk a9 ak a0 hq) (by omega)
        rw [hf, Bool.or_false] at hR
        refine zz_go C [(35, .iload_n 2)] (by decide +kernel) (pc' := 36) (lv' := [some (.int (nI p)), some (.int (nI a)), some (.int (bI b)), some (.int (nI q))]) (st' := [.int (bI b)]) rfl ?_
        exact zr_z C E b rfl (by decide) (by decide) (by decide +kernel) (⟨rfl, by rw [hR]⟩)
      · have qa : a < q := Nat.not_le.mp (fun e => cA (nI_le e (by omega)))
        exact absurd hqg (by omega)
    | succ g ih =>
      intro q b hqg q9 qk hR hb
      refine zz_go C [(4, .iload_n 3), (5, .iload_n 1)] (by decide +kernel) (pc' := 6) (lv' := [some (.int (nI p)), some (.int (nI a)), some (.int (bI b)), some (.int (nI q))]) (st' := [.int (nI a), .int (nI q)]) rfl ?_
      refine zz_if C (i := .if_icmp .le 29) (by decide +kernel) (Pt := (nI q) ≤ (nI a)) (Pf := ¬ (nI q) ≤ (nI a)) (off := 29) (r := []) (tgt := 35) rfl (by decide) (fun cA => ?_) (fun cA => ?_)
      · have qa := (nI_leI (by omega) (by omega)).mp cA
        have hf : blB q a = false := by
          cases hq : blB q a with
          | false => rfl
          | true => exact absurd (blB_lt q9 qk a9 ak a0 hq) (by omega)
        rw [hf, Bool.or_false] at hR
        refine zz_go C [(35, .iload_n 2)] (by decide +kernel) (pc' := 36) (lv' := [some (.int (nI p)), some (.int (nI a)), some (.int (bI b)), some (.int (nI q))]) (st' := [.int (bI b)]) rfl ?_
        exact zr_z C E b rfl (by decide) (by decide) (by decide +kernel) (⟨rfl, by rw [hR]⟩)
      · have qa : a < q := Nat.not_le.mp (fun e => cA (nI_le e (by omega)))
        obtain ⟨e1, e2, e3⟩ := rp_par q9 qk
        have lt := prN_lt (show ¬ q = 0 by omega)
        refine zz_go C [(9, .iload_n 2)] (by decide +kernel) (pc' := 10) (lv' := [some (.int (nI p)), some (.int (nI a)), some (.int (bI b)), some (.int (nI q))]) (st' := [.int (bI b)]) rfl ?_
        refine zz_if C (i := .ifCond .ne 25) (by decide +kernel) (Pt := ¬ (bI b) = 0) (Pf := (bI b) = 0) (off := 25) (r := []) (tgt := 35) rfl (by decide) (fun cB => ?_) (fun cB => ?_)
        · have hb1 := bI_1 cB
          refine zz_go C [(35, .iload_n 2)] (by decide +kernel) (pc' := 36) (lv' := [some (.int (nI p)), some (.int (nI a)), some (.int (bI b)), some (.int (nI q))]) (st' := [.int (bI b)]) rfl ?_
          exact zr_z C E b rfl (by decide) (by decide) (by decide +kernel) (⟨rfl, by rw [hb hb1, hb1]⟩)
        · have hb0 := (bI_0 b).mp cB
          rw [hb0, Bool.false_or] at hR
          refine zz_go C [(13, .iload_n 3)] (by decide +kernel) (pc' := 14) (lv' := [some (.int (nI p)), some (.int (nI a)), some (.int (bI b)), some (.int (nI q))]) (st' := [.int (nI q)]) rfl ?_
          refine zz_cS C E (As := [.int (nI q)]) (rest := []) (hc := h) md_O_parentOf (c_O_parentOf l D (zz_ac K) h q q9) ml_O_44 sm_O_parentOf (fun _ _ q => q) rfl rfl (Nat.le_of_ble_eq_true rfl) ⟨by decide, by decide⟩ ⟨(by decide), (by decide)⟩ (by decide +kernel) (fun v0 h9 hp hn hd => ?_) (fun v0 h9 hp hn hd => ?_)
          · rw [zz_mix_self hd]
            obtain ⟨hh, hv⟩ := hp
            rw [hh]
            cases hv
            show zz_Z _ _ _ _ _ _ _ _ [.int (nI (prN q))]
            refine zz_go C [(17, .iload_n 1)] (by decide +kernel) (pc' := 18) (lv' := [some (.int (nI p)), some (.int (nI a)), some (.int (bI b)), some (.int (nI q))]) (st' := [.int (nI a), .int (nI (prN q))]) rfl ?_
            refine zz_if C (i := .if_icmp .ne 7) (by decide +kernel) (Pt := ¬ (nI (prN q)) = (nI a)) (Pf := (nI (prN q)) = (nI a)) (off := 7) (r := []) (tgt := 25) rfl (by decide) (fun cC => ?_) (fun cC => ?_)
            · have hne : ¬ prN q = a := fun e => cC (by rw [e])
              refine zz_go C [(25, .iconst 0), (26, .istore_n 2), (27, .iload_n 3)] (by decide +kernel) (pc' := 28) (lv' := [some (.int (nI p)), some (.int (nI a)), some (.int (nI 0)), some (.int (nI q))]) (st' := [.int (nI q)]) rfl ?_
              refine zz_cS C E (As := [.int (nI q)]) (rest := []) (hc := h) md_O_parentOf (c_O_parentOf l D (zz_ac K) h q q9) ml_O_44 sm_O_parentOf (fun _ _ q => q) rfl rfl (Nat.le_of_ble_eq_true rfl) ⟨by decide, by decide⟩ ⟨(by decide), (by decide)⟩ (by decide +kernel) (fun v0 h9 hp hn hd => ?_) (fun v0 h9 hp hn hd => ?_)
              · rw [zz_mix_self hd]
                obtain ⟨hh, hv⟩ := hp
                rw [hh]
                cases hv
                show zz_Z _ _ _ _ _ _ _ _ [.int (nI (prN q))]
                refine zz_go C [(31, .istore_n 3), (32, .goto (-28))] (by decide +kernel) (pc' := 4) (lv' := [some (.int (nI p)), some (.int (nI a)), some (.int (nI 0)), some (.int (nI (prN q)))]) (st' := []) rfl ?_
                exact ih (prN q) false (by omega) e3 e2 (by rw [hR, blB_s q9 qk a9 ak a0 hne, Bool.false_or]) (fun z => by cases z)
              · cases hp.2
            · have heq : prN q = a := (nI_eq (by omega) (by omega)).mp cC
              refine zz_go C [(21, .iconst 1), (22, .goto 4), (26, .istore_n 2), (27, .iload_n 3)] (by decide +kernel) (pc' := 28) (lv' := [some (.int (nI p)), some (.int (nI a)), some (.int (nI 1)), some (.int (nI q))]) (st' := [.int (nI q)]) rfl ?_
              refine zz_cS C E (As := [.int (nI q)]) (rest := []) (hc := h) md_O_parentOf (c_O_parentOf l D (zz_ac K) h q q9) ml_O_44 sm_O_parentOf (fun _ _ q => q) rfl rfl (Nat.le_of_ble_eq_true rfl) ⟨by decide, by decide⟩ ⟨(by decide), (by decide)⟩ (by decide +kernel) (fun v0 h9 hp hn hd => ?_) (fun v0 h9 hp hn hd => ?_)
              · rw [zz_mix_self hd]
                obtain ⟨hh, hv⟩ := hp
                rw [hh]
                cases hv
                show zz_Z _ _ _ _ _ _ _ _ [.int (nI (prN q))]
                refine zz_go C [(31, .istore_n 3), (32, .goto (-28))] (by decide +kernel) (pc' := 4) (lv' := [some (.int (nI p)), some (.int (nI a)), some (.int (nI 1)), some (.int (nI (prN q)))]) (st' := []) rfl ?_
                exact ih (prN q) true (by omega) e3 e2 (by rw [hR, blB_y q9 qk heq]; rfl) (fun _ => by rw [hR, blB_y q9 qk heq])
              · cases hp.2
          · cases hp.2
  refine zz_go C [(0, .iconst 0), (1, .istore_n 2), (2, .iload_n 0), (3, .istore_n 3)] (by decide +kernel) (pc' := 4) (lv' := [some (.int (nI p)), some (.int (nI a)), some (.int (nI 0)), some (.int (nI p))]) (st' := []) rfl ?_
  exact loop 9999 p false p9 p9 pk (by rw [Bool.false_or]) (fun z => by cases z)
