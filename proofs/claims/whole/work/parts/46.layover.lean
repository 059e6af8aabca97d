/-! ===== layOver ===== -/
set_option maxHeartbeats 4000000 in
theorem c_M_hangS (l : Launch) (D : va_G) (aC : Nat → ClassId) (h : zz_Hp) (a j c : Nat) (s v : Int32) (f : Nat → Option Nat) (ha : h a = some (mkE s v (some c))) (hb : h c = some (maE aC 10 f)) (hj1 : 1 ≤ j) (hj2 : j ≤ 9) (c2 : Nat) (s2 v2 : Int32) (b2 : Option Nat) (hc : h c2 = some (mkE s2 v2 b2)) :
    zz_Ct l D aC y_M_hang (zrm 0 0 0 0) [.ref a, .int (nI j), .ref c2] h (fun r h' => h' = va_up h c (some (maE aC 10 (va_up f j (some c2)))) ∧ r = .inl none) := by
  refine zz_ct md_M_hang rfl (by simp [Value.category]) (Nat.le_of_ble_eq_true rfl) fun K C E hI => ?_
  obtain rfl := E.ac
  refine zz_go C [(0, .iload_n 1), (1, .iconst 1)] (by decide +kernel) (pc' := 2) (lv' := [some (.ref a), some (.int (nI j)), some (.ref c2)]) (st' := [.int (nI 1), .int (nI j)]) rfl ?_
  refine zz_if C (i := .if_icmp .lt 9) (by decide +kernel) (Pt := (nI j) < (nI 1)) (Pf := ¬ (nI j) < (nI 1)) (off := 9) (r := []) (tgt := 11) rfl (by decide) (fun cA => ?_) (fun cA => ?_)
  · exact absurd cA (nI_nlt hj1 (by omega))
  · refine zz_go C [(5, .iload_n 1), (6, .bipush 9)] (by decide +kernel) (pc' := 8) (lv' := [some (.ref a), some (.int (nI j)), some (.ref c2)]) (st' := [.int (nI 9), .int (nI j)]) rfl ?_
    refine zz_if C (i := .if_icmp .le 4) (by decide +kernel) (Pt := (nI j) ≤ (nI 9)) (Pf := ¬ (nI j) ≤ (nI 9)) (off := 4) (r := []) (tgt := 12) rfl (by decide) (fun cB => ?_) (fun cB => ?_)
    · refine zz_go C [(12, .aload_n 0)] (by decide +kernel) (pc' := 13) (lv' := [some (.ref a), some (.int (nI j)), some (.ref c2)]) (st' := [.ref a]) rfl ?_
      refine zz_get C fd_M_18 ha (v := .ref c) rfl (by decide +kernel) ?_
      refine zz_go C [(16, .ifnonnull 12), (28, .aload_n 0)] (by decide +kernel) (pc' := 29) (lv' := [some (.ref a), some (.int (nI j)), some (.ref c2)]) (st' := [.ref a]) rfl ?_
      refine zz_get C fd_M_18 ha (v := .ref c) rfl (by decide +kernel) ?_
      refine zz_go C [(32, .iload_n 1), (33, .aload_n 2)] (by decide +kernel) (pc' := 34) (lv' := [some (.ref a), some (.int (nI j)), some (.ref c2)]) (st' := [.ref c2, .int (nI j), .ref c]) rfl ?_
      refine zz_qast C 3 (fun _ => rfl) (ci := 0) rfl hb hc (vp_in_nI (by omega) (by omega)) (by decide +kernel) ?_
      rw [nI_clamp (by omega)]
      exact zr_v C E (by decide) (by decide) (by decide +kernel) (⟨rfl, rfl⟩)
    · exact absurd (nI_le hj2 (by omega)) cB
theorem bI_1 {b : Bool} (h : ¬ bI b = 0) : b = true := by
  cases b with
  | false => exact absurd rfl h
  | true => rfl
def ceL : Nat → Nat
  | 0 => 0
  | g + 1 => 1 + 9 * ceL g
def rN (w : List Nat → Option zMk) (r : List Nat) : Nat := match w r with
  | some q => if q.2.2.2 = none then 0 else 1
  | none => 0
theorem rN_le (w : List Nat → Option zMk) (r : List Nat) : rN w r ≤ 1 := by
  unfold rN
  cases w r with
  | none => exact Nat.zero_le 1
  | some q => show (if _ then _ else _) ≤ 1; by_cases e : q.2.2.2 = none
              · rw [if_pos e]; decide
              · rw [if_neg e]; decide
theorem loI.end4 {h : zz_Hp} {aC : Nat → ClassId} {u v : List Nat → Option zMk} {r : List Nat} {hid : Bool} (I : loI h aC u v r hid 0 h u) (hl : 4 ≤ r.length) : loI h aC u v r hid 9 h u := by
  obtain ⟨i0, i1, i2, i5, i6⟩ := I
  refine ⟨i0, i1, i2, fun y s hs => ⟨fun hy => ?_, fun _ => rfl⟩, i6⟩
  have hv : v s = none := by
    obtain ⟨z, rfl⟩ := hs
    exact i0.2.1.no (i0.2.1.2.2.2.2.1 r y (Or.inr (Or.inr hl))) z
  exact (layC_nv (cu := ctF u) (hid := hid) (r := r) (show ctF v s = none by unfold ctF; rw [hv]; rfl)).symm
set_option maxRecDepth 8192 in
set_option maxHeartbeats 16000000 in
theorem c_T_layOver (l : Launch) (D : va_G) (aC : Nat → ClassId) (v : List Nat → Option zMk) : ∀ (g d : Nat) (r : List Nat) (hid : Bool) (h : zz_Hp) (u : List Nat → Option zMk) (q p : zMk), r.length = d → d + g = 4 → trP h aC u → trP h aC v → inU u → inU v → djU u v → u r = some q → v r = some p → (∀ s q0, r <:+ s → u s = some q0 → own v q0) →
    zz_Ct l D aC y_T_layOver (zrm (g + 1) (ceL g) (10 * ceL g) (40 + 40 * g)) [.ref q.1, .ref p.1, .int (bI hid), .int (nI d)] h (fun r' h' => r' = .inl none ∧ ∃ w, loI h aC u v r hid 9 h' w) := by
  intro g
  induction g with
  | zero =>
    intro d r hid h u q p hlen hdg Tu Tv Uu Uv D0 hq hp hown
    refine zz_ct md_T_layOver rfl (by simp [Value.category]) (Nat.le_of_ble_eq_true rfl) fun K C E hI => ?_
    obtain rfl := E.ac
    refine zz_go C [(0, .iload_n 3), (1, .iconst 4)] (by decide +kernel) (pc' := 2) (lv' := [some (.ref q.1), some (.ref p.1), some (.int (bI hid)), some (.int (nI d)), none, none, none, none]) (st' := [.int (nI 4), .int (nI d)]) rfl ?_
    refine zz_if C (i := .if_icmp .lt 4) (by decide +kernel) (Pt := (nI d) < (nI 4)) (Pf := ¬ (nI d) < (nI 4)) (off := 4) (r := []) (tgt := 6) rfl (by decide) (fun cA => ?_) (fun cA => ?_)
    · exact absurd cA (nI_nlt (by omega) (by omega))
    · exact zr_v C E (Nat.le_of_ble_eq_true rfl) (Nat.le_of_ble_eq_true rfl) (by decide +kernel) (⟨rfl, u, (loI_0 Tu Tv Uu D0 (fun q0 h0 => hown r q0 (List.suffix_refl _) h0)).end4 (by omega)⟩)
  | succ g IH =>
    intro d r hid h u q p hlen hdg Tu Tv Uu Uv D0 hq hp hown
    refine zz_ct md_T_layOver rfl (by simp [Value.category]) (Nat.le_of_ble_eq_true rfl) fun K C E hI => ?_
    obtain rfl := E.ac
    have loop : ∀ (z x : Nat) (hc : zz_Hp) (w : List Nat → Option zMk), x + z = 9 → loI h (zz_ac K) u v r hid x hc w → zz_Z K (zz_End K h (fun r' h' => r' = .inl none ∧ ∃ w, loI h (zz_ac K) u v r hid 9 h' w)) h hc (x * ceL g + rN w r) (10 * (x * ceL g + rN w r)) 9 [some (.ref q.1), some (.ref p.1), some (.int (bI hid)), some (.int (nI d)), some (.int (nI (x + 1))), none, none, none] [] := by
      intro z
      induction z with
      | zero =>
        intro x hc w hxz I
        have hx9 : x * ceL g ≤ 9 * ceL g := Nat.mul_le_mul_right _ (by omega)
        have hrN := rN_le w r
        refine zz_go C [(9, .iload 4), (11, .bipush 9)] (by decide +kernel) (pc' := 13) (lv' := [some (.ref q.1), some (.ref p.1), some (.int (bI hid)), some (.int (nI d)), some (.int (nI (x + 1))), none, none, none]) (st' := [.int (nI 9), .int (nI (x + 1))]) rfl ?_
        refine zz_if C (i := .if_icmp .gt 115) (by decide +kernel) (Pt := (nI 9) < (nI (x + 1))) (Pf := ¬ (nI 9) < (nI (x + 1))) (off := 115) (r := []) (tgt := 128) rfl (by decide) (fun cA => ?_) (fun cA => ?_)
        · rw [show x = 9 by omega] at I
          exact zr_v C E (by show x * ceL g + rN w r ≤ 1 + 9 * ceL g; omega) (by show 10 * (x * ceL g + rN w r) ≤ 10 * (1 + 9 * ceL g); omega) (by decide +kernel) ⟨rfl, w, I⟩
        · exact absurd (nI_lt (by omega) (by omega)) cA
      | succ z ih =>
        intro x hc w hxz I
        have hx9 : x * ceL g ≤ 9 * ceL g := Nat.mul_le_mul_right _ (by omega)
        have hrN := rN_le w r
        refine zz_go C [(9, .iload 4), (11, .bipush 9)] (by decide +kernel) (pc' := 13) (lv' := [some (.ref q.1), some (.ref p.1), some (.int (bI hid)), some (.int (nI d)), some (.int (nI (x + 1))), none, none, none]) (st' := [.int (nI 9), .int (nI (x + 1))]) rfl ?_
        refine zz_if C (i := .if_icmp .gt 115) (by decide +kernel) (Pt := (nI 9) < (nI (x + 1))) (Pf := ¬ (nI 9) < (nI (x + 1))) (off := 115) (r := []) (tgt := 128) rfl (by decide) (fun cA => ?_) (fun cA => ?_)
        · exact absurd ((nI_ltI (by omega) (by omega)).mp cA) (by omega)
        · have next : ∀ (k2 : Nat) (h2 : zz_Hp) (w2 : List Nat → Option zMk) (l5 l6 l7 : Option Value), loS (zz_ac K) u v r hid (x + 1) hc w h2 w2 → k2 ≤ (x + 1) * ceL g + rN w2 r → zz_Z K (zz_End K h (fun r' h' => r' = .inl none ∧ ∃ w, loI h (zz_ac K) u v r hid 9 h' w)) h h2 k2 (10 * k2) 122 [some (.ref q.1), some (.ref p.1), some (.int (bI hid)), some (.int (nI d)), some (.int (nI (x + 1))), l5, l6, l7] [] := by
            intro k2 h2 w2 l5 l6 l7 S hk
            refine zz_widen (k' := (x + 1) * ceL g + rN w2 r) (n' := 10 * ((x + 1) * ceL g + rN w2 r)) hk (by omega) ?_
            refine zz_go C [(122, .iinc 4 1), (125, .goto (-116))] (by decide +kernel) (pc' := 9) (lv' := [some (.ref q.1), some (.ref p.1), some (.int (bI hid)), some (.int (nI d)), some (.int (nI (x + 1) + nI 1)), l5, l6, l7]) (st' := []) rfl ?_
            rw [show nI (x + 1) + nI 1 = nI (x + 1 + 1) from nI_add (x + 1) 1]
            exact zz_lv [some (.ref q.1), some (.ref p.1), some (.int (bI hid)), some (.int (nI d)), some (.int (nI (x + 1 + 1))), none, none, none] (fun j u hu => by rcases j with _ | _ | _ | _ | _ | _ | _ | _ | j <;> first | exact hu | cases hu) (Nat.le_of_ble_eq_true rfl) (ih (x + 1) h2 w2 (by omega) (loI_s I S hown Tu Tv))
          obtain ⟨⟨Tw, Tvc, Uw, Dw⟩, i1, ⟨i2, i3, i4⟩, i5, i6, i7, i8, i9⟩ := id I
          obtain ⟨qw, hqw⟩ : ∃ qw, w r = some qw := by
            cases hw : w r with
            | none => rw [hw, hq] at i2; cases i2
            | some qw => exact ⟨qw, rfl⟩
          have hqa : qw.1 = q.1 := by rw [hqw, hq] at i2; exact Option.some.inj i2
          have wu : w ((x + 1) :: r) = u ((x + 1) :: r) := (i5 (x + 1) _ (List.suffix_refl _)).2 (by omega)
          have hcm : (x + 1) * ceL g = x * ceL g + ceL g := Nat.succ_mul x (ceL g)
          have hx10 : (x + 1) * ceL g ≤ 9 * ceL g := Nat.mul_le_mul_right _ (by omega)
          rw [← hqa]
          refine zz_go C [(16, .aload_n 0), (17, .iload 4)] (by decide +kernel) (pc' := 19) (lv' := [some (.ref qw.1), some (.ref p.1), some (.int (bI hid)), some (.int (nI d)), some (.int (nI (x + 1))), none, none, none]) (st' := [.int (nI (x + 1)), .ref qw.1]) rfl ?_
          refine zz_cV C E (ci := 0) (As := [.int (nI (x + 1))]) (rest := []) (hc := hc) md_M_at (c_at l D Tw hqw (show 1 ≤ x + 1 by omega) (by omega)) ml_T_107 im_M_at se_M_at rfl (Tw.1 r qw hqw) (fun _ _ q => q) rfl rfl (Nat.le_of_ble_eq_true rfl) ⟨by show 0 + 1 ≤ g + 1 + 1; omega, by show 8 + (2 + 11) + 0 ≤ 40 + 40 * (g + 1); omega⟩ ⟨by show (x * ceL g + rN w r) + 0 ≤ 1 + 9 * ceL g; omega, by show 10 * (x * ceL g + rN w r) + 0 ≤ 10 * (1 + 9 * ceL g); omega⟩ (by decide +kernel) (fun v h' hp2 hn hd => ?_) (fun v h' hp2 hn hd => ?_)
          · rw [zz_mix_self hd]
            obtain ⟨hh, hv⟩ := hp2
            rw [hh]
            cases hv
            cases hw : w ((x + 1) :: r) with
            | none =>
              show zz_Z _ _ _ _ _ _ _ [some (.ref qw.1), some (.ref p.1), some (.int (bI hid)), some (.int (nI d)), some (.int (nI (x + 1))), none, none, none] [.null]
              refine zz_go C [(22, .astore 5), (24, .aload_n 1), (25, .iload 4)] (by decide +kernel) (pc' := 27) (lv' := [some (.ref qw.1), some (.ref p.1), some (.int (bI hid)), some (.int (nI d)), some (.int (nI (x + 1))), some (.null), none, none]) (st' := [.int (nI (x + 1)), .ref p.1]) rfl ?_
              refine zz_cV C E (ci := 0) (As := [.int (nI (x + 1))]) (rest := []) (hc := hc) md_M_at (c_at l D Tvc hp (show 1 ≤ x + 1 by omega) (by omega)) ml_T_107 im_M_at se_M_at rfl (Tvc.1 r p hp) (fun _ _ q => q) rfl rfl (Nat.le_of_ble_eq_true rfl) ⟨by show 0 + 1 ≤ g + 1 + 1; omega, by show 8 + (2 + 11) + 0 ≤ 40 + 40 * (g + 1); omega⟩ ⟨by show (x * ceL g + rN w r) + 0 + 0 ≤ 1 + 9 * ceL g; omega, by show 10 * (x * ceL g + rN w r) + 0 + 0 ≤ 10 * (1 + 9 * ceL g); omega⟩ (by decide +kernel) (fun v1 h3 hp3 hn3 hd3 => ?_) (fun v1 h3 hp3 hn3 hd3 => ?_)
              · rw [zz_mix_self hd3]
                obtain ⟨hh3, hv3⟩ := hp3
                rw [hh3]
                cases hv3
                cases hv : v ((x + 1) :: r) with
                | none =>
                  show zz_Z _ _ _ _ _ _ _ [some (.ref qw.1), some (.ref p.1), some (.int (bI hid)), some (.int (nI d)), some (.int (nI (x + 1))), some (.null), none, none] [.null]
                  refine zz_go C [(30, .astore 6), (32, .aload 5), (34, .ifnull 71), (105, .aload 6), (107, .ifnull 15)] (by decide +kernel) (pc' := 122) (lv' := [some (.ref qw.1), some (.ref p.1), some (.int (bI hid)), some (.int (nI d)), some (.int (nI (x + 1))), some (.null), some (.null), none]) (st' := []) rfl ?_
                  rw [hqa]
                  exact next _ hc w _ _ _ (loS_id I (fun s hs => (layC_nv (cu := ctF u) (show ctF v s = none by obtain ⟨y, rfl⟩ := hs; show ctS (v _) = none; rw [Tv.no hv y]; rfl)).symm)) (by show (x * ceL g + rN w r) ≤ _; omega)
                | some p1 =>
                  show zz_Z _ _ _ _ _ _ _ [some (.ref qw.1), some (.ref p.1), some (.int (bI hid)), some (.int (nI d)), some (.int (nI (x + 1))), some (.null), none, none] [.ref p1.1]
                  have un : u ((x + 1) :: r) = none := wu.symm.trans hw
                  refine zz_go C [(30, .astore 6), (32, .aload 5), (34, .ifnull 71), (105, .aload 6), (107, .ifnull 15), (110, .iload_n 2)] (by decide +kernel) (pc' := 111) (lv' := [some (.ref qw.1), some (.ref p.1), some (.int (bI hid)), some (.int (nI d)), some (.int (nI (x + 1))), some (.null), some (.ref p1.1), none]) (st' := [.int (bI hid)]) rfl ?_
                  refine zz_if C (i := .ifCond .ne 11) (by decide +kernel) (Pt := ¬ (bI hid) = 0) (Pf := (bI hid) = 0) (off := 11) (r := []) (tgt := 122) rfl (by decide) (fun cB => ?_) (fun cB => ?_)
                  · have hh2 : hid = true := bI_1 cB
                    subst hh2
                    rw [hqa]
                    exact next _ hc w _ _ _ (loS_id I (fun s hs => by
                      have us : u s = none := by obtain ⟨y, rfl⟩ := hs; exact Tu.no un y
                      rw [us]; exact (layC_hid (show ctF u s = none by show ctS (u s) = none; rw [us]; rfl)).symm)) (by show (x * ceL g + rN w r) ≤ _; omega)
                  · have hh2 : hid = false := (bI_0 hid).mp cB
                    subst hh2
                    refine zz_go C [(114, .aload_n 0), (115, .iload 4), (117, .aload 6)] (by decide +kernel) (pc' := 119) (lv' := [some (.ref qw.1), some (.ref p.1), some (.int (bI false)), some (.int (nI d)), some (.int (nI (x + 1))), some (.null), some (.ref p1.1), none]) (st' := [.ref p1.1, .int (nI (x + 1)), .ref qw.1]) rfl ?_
                    cases hrow : qw.2.2.2 with
                    | some c =>
                      obtain ⟨f, hf, hfj⟩ := Tw.2.1 r qw c hqw hrow
                      have rn1 : rN w r = 1 := by unfold rN; rw [hqw]; show (if qw.2.2.2 = none then 0 else 1) = 1; rw [if_neg (by rw [hrow]; simp)]
                      have hqm : hc qw.1 = some (mkE qw.2.1 qw.2.2.1 (some c)) := by rw [← hrow]; exact Tw.1 r qw hqw
                      refine zz_cV C E (ci := 0) (As := [.int (nI (x + 1)), .ref p1.1]) (rest := []) (hc := hc) md_M_hang (c_M_hangS l D (zz_ac K) hc qw.1 (x + 1) c qw.2.1 qw.2.2.1 f hqm hf (by omega) (by omega) p1.1 p1.2.1 p1.2.2.1 p1.2.2.2 (Tvc.1 _ p1 hv)) ml_T_160 im_M_hang se_M_hang rfl hqm (fun _ _ q => q) rfl rfl (Nat.le_of_ble_eq_true rfl) ⟨by show 0 + 1 ≤ g + 1 + 1; omega, by show 8 + (3 + 11) + 0 ≤ 40 + 40 * (g + 1); omega⟩ ⟨by show (x * ceL g + rN w r) + 0 + 0 + 0 ≤ 1 + 9 * ceL g; omega, by show 10 * (x * ceL g + rN w r) + 0 + 0 + 0 ≤ 10 * (1 + 9 * ceL g); omega⟩ (by decide +kernel) (fun v4 h4 hp4 hn4 hd4 => ?_) (fun v4 h4 hp4 hn4 hd4 => ?_)
                      · rw [zz_mix_self hd4]
                        obtain ⟨hh4, hv4⟩ := hp4
                        cases hv4
                        show zz_Z _ _ _ _ _ _ _ [some (.ref qw.1), some (.ref p.1), some (.int (bI false)), some (.int (nI d)), some (.int (nI (x + 1))), some (.null), some (.ref p1.1), none] []
                        rw [hqa]
                        have qc : qw.1 ≠ c := ne_k hqm hf (by rw [ki_mk, ki_ma]; decide)
                        have S := loS_gr (h2 := h4) (c := c) (g := va_up f (x + 1) (some p1.1)) I Uv hqw un Tu hv (by rw [hh4, va_up_ne _ _ qc]; exact hqm) (by rw [hh4, va_up_self]) (va_up_self _ _ _) (fun i a1 a9 hi => by rw [va_up_ne _ _ hi]; exact hfj i a1 a9) (fun a e ha n1 n2 => by rw [hh4, va_up_ne _ _ (fun e2 => n2 (by rw [e2]; exact hrow))]; exact ha) (Or.inl hrow) (fun a ha => by
                          by_cases e2 : a = c
                          · rw [e2, hh4, va_up_self] at ha; cases ha
                          · rw [hh4, va_up_ne _ _ e2] at ha; exact ha)
                        have rn2 : rN (gfU w v r (x + 1) qw c) r = 1 := by unfold rN; rw [gfU_r]; rfl
                        exact next _ h4 _ _ _ _ S (by rw [rn2]; show (x * ceL g + rN w r) ≤ _; omega)
                      · cases hp4.2
                    | none =>
                      have rn0 : rN w r = 0 := by unfold rN; rw [hqw]; show (if qw.2.2.2 = none then 0 else 1) = 0; rw [if_pos hrow]
                      have hqm : hc qw.1 = some (mkE qw.2.1 qw.2.2.1 none) := by rw [← hrow]; exact Tw.1 r qw hqw
                      have hown1 := i4 qw hqw
                      refine zz_cV C E (ci := 0) (As := [.int (nI (x + 1)), .ref p1.1]) (rest := []) (hc := hc) md_M_hang (c_M_hang l D (zz_ac K) hc qw.1 (x + 1) qw.2.1 qw.2.2.1 none (fun _ => none) hqm (fun c2 h2 => by cases h2) (by omega) (by omega) p1.1 p1.2.1 p1.2.2.1 p1.2.2.2 (Tvc.1 _ p1 hv) (Ne.symm (hown1.1 _ p1 hv))) ml_T_160 im_M_hang se_M_hang rfl hqm (fun _ _ q => q) rfl rfl (Nat.le_of_ble_eq_true rfl) ⟨by show 0 + 1 ≤ g + 1 + 1; omega, by show 8 + (3 + 11) + 0 ≤ 40 + 40 * (g + 1); omega⟩ ⟨by show (x * ceL g + rN w r) + 0 + 0 + 1 ≤ 1 + 9 * ceL g; omega, by show 10 * (x * ceL g + rN w r) + 0 + 0 + 10 ≤ 10 * (1 + 9 * ceL g); omega⟩ (by decide +kernel) (fun v4 h4 hp4 hn4 hd4 => ?_) (fun v4 h4 hp4 hn4 hd4 => ?_)
                      · rw [zz_mix_self hd4]
                        obtain ⟨c, hh4, hv4, hcf⟩ := hp4
                        cases hv4
                        show zz_Z _ _ _ _ _ _ _ [some (.ref qw.1), some (.ref p.1), some (.int (bI false)), some (.int (nI d)), some (.int (nI (x + 1))), some (.null), some (.ref p1.1), none] []
                        rw [hqa]
                        have hcn := hcf rfl
                        have hh5 : h4 = va_up (va_up hc qw.1 (some (mkE qw.2.1 qw.2.2.1 (some c)))) c (some (maE (zz_ac K) 10 (va_up (fun _ => none) (x + 1) (some p1.1)))) := hh4
                        have qc : qw.1 ≠ c := fun e2 => by rw [e2, hcn] at hqm; cases hqm
                        have S := loS_gr (h2 := h4) (c := c) (g := va_up (fun _ => none) (x + 1) (some p1.1)) I Uv hqw un Tu hv (by rw [hh5, va_up_ne _ _ qc, va_up_self]) (by rw [hh5, va_up_self]) (va_up_self _ _ _) (fun i a1 a9 hi => by rw [va_up_ne _ _ hi, Tw.2.2.1 r qw i hqw hrow]; rfl) (fun a e ha n1 n2 => by rw [hh5, va_up_ne _ _ (fun e2 => by rw [e2, hcn] at ha; cases ha), va_up_ne _ _ n1]; exact ha) (Or.inr hcn) (fun a ha => by
                          by_cases e2 : a = c
                          · rw [e2, hh5, va_up_self] at ha; cases ha
                          · by_cases e3 : a = qw.1
                            · rw [e3, hh5, va_up_ne _ _ qc, va_up_self] at ha; cases ha
                            · rw [hh5, va_up_ne _ _ e2, va_up_ne _ _ e3] at ha; exact ha)
                        have rn2 : rN (gfU w v r (x + 1) qw c) r = 1 := by unfold rN; rw [gfU_r]; rfl
                        exact next _ h4 _ _ _ _ S (by rw [rn2]; show (x * ceL g + rN w r) + 0 + 0 + 1 ≤ _; omega)
                      · obtain ⟨_, _, hv, _⟩ := hp4; cases hv
              · cases hp3.2
            | some q1 =>
              show zz_Z _ _ _ _ _ _ _ [some (.ref qw.1), some (.ref p.1), some (.int (bI hid)), some (.int (nI d)), some (.int (nI (x + 1))), none, none, none] [.ref q1.1]
              refine zz_go C [(22, .astore 5), (24, .aload_n 1), (25, .iload 4)] (by decide +kernel) (pc' := 27) (lv' := [some (.ref qw.1), some (.ref p.1), some (.int (bI hid)), some (.int (nI d)), some (.int (nI (x + 1))), some (.ref q1.1), none, none]) (st' := [.int (nI (x + 1)), .ref p.1]) rfl ?_
              refine zz_cV C E (ci := 0) (As := [.int (nI (x + 1))]) (rest := []) (hc := hc) md_M_at (c_at l D Tvc hp (show 1 ≤ x + 1 by omega) (by omega)) ml_T_107 im_M_at se_M_at rfl (Tvc.1 r p hp) (fun _ _ q => q) rfl rfl (Nat.le_of_ble_eq_true rfl) ⟨by show 0 + 1 ≤ g + 1 + 1; omega, by show 8 + (2 + 11) + 0 ≤ 40 + 40 * (g + 1); omega⟩ ⟨by show (x * ceL g + rN w r) + 0 + 0 ≤ 1 + 9 * ceL g; omega, by show 10 * (x * ceL g + rN w r) + 0 + 0 ≤ 10 * (1 + 9 * ceL g); omega⟩ (by decide +kernel) (fun v1 h3 hp3 hn3 hd3 => ?_) (fun v1 h3 hp3 hn3 hd3 => ?_)
              · rw [zz_mix_self hd3]
                obtain ⟨hh3, hv3⟩ := hp3
                rw [hh3]
                cases hv3
                cases hv : v ((x + 1) :: r) with
                | none =>
                  show zz_Z _ _ _ _ _ _ _ [some (.ref qw.1), some (.ref p.1), some (.int (bI hid)), some (.int (nI d)), some (.int (nI (x + 1))), some (.ref q1.1), none, none] [.null]
                  refine zz_go C [(30, .astore 6), (32, .aload 5), (34, .ifnull 71), (37, .aload 6), (39, .ifnull 66), (105, .aload 6), (107, .ifnull 15)] (by decide +kernel) (pc' := 122) (lv' := [some (.ref qw.1), some (.ref p.1), some (.int (bI hid)), some (.int (nI d)), some (.int (nI (x + 1))), some (.ref q1.1), some (.null), none]) (st' := []) rfl ?_
                  rw [hqa]
                  exact next _ hc w _ _ _ (loS_id I (fun s hs => (layC_nv (cu := ctF u) (show ctF v s = none by obtain ⟨y, rfl⟩ := hs; show ctS (v _) = none; rw [Tv.no hv y]; rfl)).symm)) (by show (x * ceL g + rN w r) ≤ _; omega)
                | some p1 =>
                  show zz_Z _ _ _ _ _ _ _ [some (.ref qw.1), some (.ref p.1), some (.int (bI hid)), some (.int (nI d)), some (.int (nI (x + 1))), some (.ref q1.1), none, none] [.ref p1.1]
                  have uq : u ((x + 1) :: r) = some q1 := wu.symm.trans hw
                  have own1 := hown _ q1 (List.suffix_cons (x + 1) r) uq
                  have hcw : hc q1.1 = some (mkE q1.2.1 q1.2.2.1 q1.2.2.2) := Tw.1 _ q1 hw
                  have go : ∀ (h1 : zz_Hp) (w1 : List Nat → Option zMk) (s' : Int32), trP h1 (zz_ac K) w1 → trP h1 (zz_ac K) v → inU w1 → djU w1 v → some (s', q1.2.2.1) = layC (ctF u) (ctF v) hid r ((x + 1) :: r) → (∀ s, s ≠ (x + 1) :: r → w1 s = w s) → w1 ((x + 1) :: r) = some (q1.1, s', q1.2.2.1, q1.2.2.2) → (∀ a e, hc a = some e → a ≠ q1.1 → h1 a = some e) → (∀ a, h1 a = none → hc a = none) → zz_Z K (zz_End K h (fun r' h' => r' = .inl none ∧ ∃ w, loI h (zz_ac K) u v r hid 9 h' w)) h h1 ((x * ceL g + rN w r) + 0 + 0) (10 * (x * ceL g + rN w r) + 0 + 0) 78 [some (.ref qw.1), some (.ref p.1), some (.int (bI hid)), some (.int (nI d)), some (.int (nI (x + 1))), some (.ref q1.1), some (.ref p1.1), some (.int (bI (decide (¬ q1.2.1 = nI 1))))] [] := by
                    intro h1 w1 s' T1 Tv1 U1 D1 hs' ho1 hR1 hf1 hd1
                    have rcc : ∀ hid' : Bool, hid' = (hid || bdC (ctS (u ((x + 1) :: r)))) → zz_Z K (zz_End K h (fun r' h' => r' = .inl none ∧ ∃ w, loI h (zz_ac K) u v r hid 9 h' w)) h h1 ((x * ceL g + rN w r) + 0 + 0) (10 * (x * ceL g + rN w r) + 0 + 0) 96 [some (.ref qw.1), some (.ref p.1), some (.int (bI hid)), some (.int (nI d)), some (.int (nI (x + 1))), some (.ref q1.1), some (.ref p1.1), some (.int (bI (decide (¬ q1.2.1 = nI 1))))] [.int (bI hid'), .ref p1.1, .ref q1.1] := by
                      intro hid' hh'
                      refine zz_go C [(96, .iload_n 3), (97, .iconst 1), (98, .iadd)] (by decide +kernel) (pc' := 99) (lv' := [some (.ref qw.1), some (.ref p.1), some (.int (bI hid)), some (.int (nI d)), some (.int (nI (x + 1))), some (.ref q1.1), some (.ref p1.1), some (.int (bI (decide (¬ q1.2.1 = nI 1))))]) (st' := [.int ((nI d) + (nI 1)), .int (bI hid'), .ref p1.1, .ref q1.1]) rfl ?_
                      rw [show nI d + nI 1 = nI (d + 1) from nI_add d 1]
                      refine zz_cS C E (As := [.ref q1.1, .ref p1.1, .int (bI hid'), .int (nI (d + 1))]) (rest := []) (hc := h1) md_T_layOver (IH (d + 1) ((x + 1) :: r) hid' h1 w1 (q1.1, s', q1.2.2.1, q1.2.2.2) p1 (by rw [List.length_cons, hlen]) (by omega) T1 Tv1 U1 Uv D1 hR1 hv (fun s q0 hs h0 => by
                        by_cases e2 : s = (x + 1) :: r
                        · subst e2; rw [hR1] at h0; cases h0; exact own1
                        · rw [ho1 s e2, (i5 (x + 1) s hs).2 (by omega)] at h0; exact hown s q0 ((List.suffix_cons (x + 1) r).trans hs) h0)) ml_T_86 sm_T_layOver (fun _ _ q => q) rfl rfl (Nat.le_of_ble_eq_true rfl) ⟨by show g + 1 + 1 ≤ g + 1 + 1; omega, by show 8 + (8 + 11) + (40 + 40 * g) ≤ 40 + 40 * (g + 1); omega⟩ ⟨by show (x * ceL g + rN w r) + 0 + 0 + ceL g ≤ 1 + 9 * ceL g; omega, by show 10 * (x * ceL g + rN w r) + 0 + 0 + 10 * ceL g ≤ 10 * (1 + 9 * ceL g); omega⟩ (by decide +kernel) (fun v5 h5 hp5 hn5 hd5 => ?_) (fun v5 h5 hp5 hn5 hd5 => ?_)
                      · rw [zz_mix_self hd5]
                        obtain ⟨hv5, w5, J⟩ := hp5
                        cases hv5
                        show zz_Z _ _ _ _ _ _ _ [some (.ref qw.1), some (.ref p.1), some (.int (bI hid)), some (.int (nI d)), some (.int (nI (x + 1))), some (.ref q1.1), some (.ref p1.1), some (.int (bI (decide (¬ q1.2.1 = nI 1))))] []
                        rw [hh'] at J
                        have S := loS_rec I Tu hw hs' ho1 hR1 hf1 hd1 J
                        have rn2 : rN w5 r = rN w r := by unfold rN; rw [J.2.1 r (nsf r (x + 1)), ho1 r (ne_jr r (x + 1))]
                        refine zz_go C [(102, .goto 20)] (by decide +kernel) (pc' := 122) (lv' := [some (.ref qw.1), some (.ref p.1), some (.int (bI hid)), some (.int (nI d)), some (.int (nI (x + 1))), some (.ref q1.1), some (.ref p1.1), some (.int (bI (decide (¬ q1.2.1 = nI 1))))]) (st' := []) rfl ?_
                        rw [hqa]
                        refine zz_widen (k' := (x * ceL g + rN w r) + ceL g) (n' := 10 * ((x * ceL g + rN w r) + ceL g)) (Nat.le_refl _) (by show 10 * (x * ceL g + rN w r) + 0 + 0 + 10 * ceL g ≤ _; omega) ?_
                        exact next _ h5 _ _ _ _ S (by rw [rn2]; omega)
                      · cases hp5.1
                    have hbd : bdC (ctS (u ((x + 1) :: r))) = decide (¬ q1.2.1 = nI 1) := by rw [uq]; rfl
                    refine zz_go C [(78, .aload 5), (80, .aload 6), (82, .iload_n 2)] (by decide +kernel) (pc' := 83) (lv' := [some (.ref qw.1), some (.ref p.1), some (.int (bI hid)), some (.int (nI d)), some (.int (nI (x + 1))), some (.ref q1.1), some (.ref p1.1), some (.int (bI (decide (¬ q1.2.1 = nI 1))))]) (st' := [.int (bI hid), .ref p1.1, .ref q1.1]) rfl ?_
                    refine zz_if C (i := .ifCond .ne 8) (by decide +kernel) (Pt := ¬ (bI hid) = 0) (Pf := (bI hid) = 0) (off := 8) (r := [.ref p1.1, .ref q1.1]) (tgt := 91) rfl (by decide) (fun cB => ?_) (fun cB => ?_)
                    · refine zz_go C [(91, .iconst 1), (92, .goto 4)] (by decide +kernel) (pc' := 96) (lv' := [some (.ref qw.1), some (.ref p.1), some (.int (bI hid)), some (.int (nI d)), some (.int (nI (x + 1))), some (.ref q1.1), some (.ref p1.1), some (.int (bI (decide (¬ q1.2.1 = nI 1))))]) (st' := [.int (nI 1), .ref p1.1, .ref q1.1]) rfl ?_
                      have hh2 : hid = true := bI_1 cB
                      exact rcc true (by rw [hh2]; rfl)
                    · have hh2 : hid = false := (bI_0 hid).mp cB
                      refine zz_go C [(86, .iload 7)] (by decide +kernel) (pc' := 88) (lv' := [some (.ref qw.1), some (.ref p.1), some (.int (bI hid)), some (.int (nI d)), some (.int (nI (x + 1))), some (.ref q1.1), some (.ref p1.1), some (.int (bI (decide (¬ q1.2.1 = nI 1))))]) (st' := [.int (bI (decide (¬ q1.2.1 = nI 1))), .ref p1.1, .ref q1.1]) rfl ?_
                      refine zz_if C (i := .ifCond .eq 7) (by decide +kernel) (Pt := (bI (decide (¬ q1.2.1 = nI 1))) = 0) (Pf := ¬ (bI (decide (¬ q1.2.1 = nI 1))) = 0) (off := 7) (r := [.ref p1.1, .ref q1.1]) (tgt := 95) rfl (by decide) (fun cC => ?_) (fun cC => ?_)
                      · refine zz_go C [(95, .iconst 0)] (by decide +kernel) (pc' := 96) (lv' := [some (.ref qw.1), some (.ref p.1), some (.int (bI hid)), some (.int (nI d)), some (.int (nI (x + 1))), some (.ref q1.1), some (.ref p1.1), some (.int (bI (decide (¬ q1.2.1 = nI 1))))]) (st' := [.int (nI 0), .ref p1.1, .ref q1.1]) rfl ?_
                        exact rcc false (by rw [hh2, hbd, (bI_0 _).mp cC]; rfl)
                      · refine zz_go C [(91, .iconst 1), (92, .goto 4)] (by decide +kernel) (pc' := 96) (lv' := [some (.ref qw.1), some (.ref p.1), some (.int (bI hid)), some (.int (nI d)), some (.int (nI (x + 1))), some (.ref q1.1), some (.ref p1.1), some (.int (bI (decide (¬ q1.2.1 = nI 1))))]) (st' := [.int (nI 1), .ref p1.1, .ref q1.1]) rfl ?_
                        exact rcc true (by rw [hh2, hbd, bI_1 cC]; rfl)
                  refine zz_go C [(30, .astore 6), (32, .aload 5), (34, .ifnull 71), (37, .aload 6), (39, .ifnull 66), (42, .aload 5)] (by decide +kernel) (pc' := 44) (lv' := [some (.ref qw.1), some (.ref p.1), some (.int (bI hid)), some (.int (nI d)), some (.int (nI (x + 1))), some (.ref q1.1), some (.ref p1.1), none]) (st' := [.ref q1.1]) rfl ?_
                  refine zz_get C fd_T_111 hcw (v := .int q1.2.1) rfl (by decide +kernel) ?_
                  refine zz_go C [(47, .iconst 1)] (by decide +kernel) (pc' := 48) (lv' := [some (.ref qw.1), some (.ref p.1), some (.int (bI hid)), some (.int (nI d)), some (.int (nI (x + 1))), some (.ref q1.1), some (.ref p1.1), none]) (st' := [.int (nI 1), .int q1.2.1]) rfl ?_
                  refine zz_if C (i := .if_icmp .eq 7) (by decide +kernel) (Pt := q1.2.1 = (nI 1)) (Pf := ¬ q1.2.1 = (nI 1)) (off := 7) (r := []) (tgt := 55) rfl (by decide) (fun cB => ?_) (fun cB => ?_)
                  · have hde : decide (¬ q1.2.1 = nI 1) = false := decide_eq_false (fun z => z cB)
                    rw [hde] at go
                    have hcv : hc p1.1 = some (mkE p1.2.1 p1.2.2.1 p1.2.2.2) := Tvc.1 _ p1 hv
                    refine zz_go C [(55, .iconst 0), (56, .istore 7)] (by decide +kernel) (pc' := 58) (lv' := [some (.ref qw.1), some (.ref p.1), some (.int (bI hid)), some (.int (nI d)), some (.int (nI (x + 1))), some (.ref q1.1), some (.ref p1.1), some (.int (nI 0))]) (st' := []) rfl ?_
                    show zz_Z _ _ _ _ _ _ _ [some (.ref qw.1), some (.ref p.1), some (.int (bI hid)), some (.int (nI d)), some (.int (nI (x + 1))), some (.ref q1.1), some (.ref p1.1), some (.int (bI false))] []
                    refine zz_go C [(58, .iload 7)] (by decide +kernel) (pc' := 60) (lv' := [some (.ref qw.1), some (.ref p.1), some (.int (bI hid)), some (.int (nI d)), some (.int (nI (x + 1))), some (.ref q1.1), some (.ref p1.1), some (.int (bI false))]) (st' := [.int (bI false)]) rfl ?_
                    refine zz_if C (i := .ifCond .ne 18) (by decide +kernel) (Pt := ¬ (bI false) = 0) (Pf := (bI false) = 0) (off := 18) (r := []) (tgt := 78) rfl (by decide) (fun cC => ?_) (fun cC => ?_)
                    · exact absurd rfl cC
                    · refine zz_go C [(63, .aload 6)] (by decide +kernel) (pc' := 65) (lv' := [some (.ref qw.1), some (.ref p.1), some (.int (bI hid)), some (.int (nI d)), some (.int (nI (x + 1))), some (.ref q1.1), some (.ref p1.1), some (.int (bI false))]) (st' := [.ref p1.1]) rfl ?_
                      refine zz_get C fd_T_111 hcv (v := .int p1.2.1) rfl (by decide +kernel) ?_
                      refine zz_go C [(68, .iconst 1)] (by decide +kernel) (pc' := 69) (lv' := [some (.ref qw.1), some (.ref p.1), some (.int (bI hid)), some (.int (nI d)), some (.int (nI (x + 1))), some (.ref q1.1), some (.ref p1.1), some (.int (bI false))]) (st' := [.int (nI 1), .int p1.2.1]) rfl ?_
                      refine zz_if C (i := .if_icmp .eq 9) (by decide +kernel) (Pt := p1.2.1 = (nI 1)) (Pf := ¬ p1.2.1 = (nI 1)) (off := 9) (r := []) (tgt := 78) rfl (by decide) (fun cD => ?_) (fun cD => ?_)
                      · exact go hc w q1.2.1 Tw Tvc Uw Dw (by unfold layC ctF; rw [uq, hv]; show _ = some (if q1.2.1 = nI 1 ∧ decide (¬ p1.2.1 = nI 1) = true then (nI 2, q1.2.2.1) else (q1.2.1, q1.2.2.1)); rw [if_neg (fun z => absurd cD (of_decide_eq_true z.2))]) (fun _ _ => rfl) hw (fun _ _ ha _ => ha) (fun _ ha => ha)
                      · refine zz_go C [(72, .aload 5), (74, .iconst 2)] (by decide +kernel) (pc' := 75) (lv' := [some (.ref qw.1), some (.ref p.1), some (.int (bI hid)), some (.int (nI d)), some (.int (nI (x + 1))), some (.ref q1.1), some (.ref p1.1), some (.int (bI false))]) (st' := [.int (nI 2), .ref q1.1]) rfl ?_
                        refine zz_putf C fd_T_111 hcw rfl rfl (Nat.le_of_ble_eq_true rfl) (by decide +kernel) ?_
                        refine go (va_up hc q1.1 (some (mkE (nI 2) q1.2.2.1 q1.2.2.2))) (stU w ((x + 1) :: r) q1 (nI 2) q1.2.2.1) (nI 2) (stU_T Tw Uw hw (by simp) (va_up_self _ _ _) (fun a e ha n1 => by rw [va_up_ne _ _ n1]; exact ha)) (Tvc.far Tw hw own1 (fun a e ha n1 _ => by rw [va_up_ne _ _ n1]; exact ha)) (stU_in Uw hw) (fun s q0 hs => ?_) (by unfold layC ctF; rw [uq, hv]; show _ = some (if q1.2.1 = nI 1 ∧ decide (¬ p1.2.1 = nI 1) = true then (nI 2, q1.2.2.1) else (q1.2.1, q1.2.2.1)); rw [if_pos ⟨cB, decide_eq_true cD⟩]) (fun s hs => stU_o hs) stU_r (fun a e ha n1 => by rw [va_up_ne _ _ n1]; exact ha) (fun a ha => ?_)
                        · by_cases e2 : s = (x + 1) :: r
                          · subst e2; rw [stU_r] at hs; cases hs; exact Or.inr own1
                          · rw [stU_o e2] at hs; exact Dw s q0 hs
                        · by_cases e2 : a = q1.1
                          · rw [e2, va_up_self] at ha; cases ha
                          · rw [va_up_ne _ _ e2] at ha; exact ha
                  · have hde : decide (¬ q1.2.1 = nI 1) = true := decide_eq_true cB
                    rw [hde] at go
                    refine zz_go C [(51, .iconst 1), (52, .goto 4), (56, .istore 7)] (by decide +kernel) (pc' := 58) (lv' := [some (.ref qw.1), some (.ref p.1), some (.int (bI hid)), some (.int (nI d)), some (.int (nI (x + 1))), some (.ref q1.1), some (.ref p1.1), some (.int (nI 1))]) (st' := []) rfl ?_
                    show zz_Z _ _ _ _ _ _ _ [some (.ref qw.1), some (.ref p.1), some (.int (bI hid)), some (.int (nI d)), some (.int (nI (x + 1))), some (.ref q1.1), some (.ref p1.1), some (.int (bI true))] []
                    refine zz_go C [(58, .iload 7)] (by decide +kernel) (pc' := 60) (lv' := [some (.ref qw.1), some (.ref p.1), some (.int (bI hid)), some (.int (nI d)), some (.int (nI (x + 1))), some (.ref q1.1), some (.ref p1.1), some (.int (bI true))]) (st' := [.int (bI true)]) rfl ?_
                    refine zz_if C (i := .ifCond .ne 18) (by decide +kernel) (Pt := ¬ (bI true) = 0) (Pf := (bI true) = 0) (off := 18) (r := []) (tgt := 78) rfl (by decide) (fun cC => ?_) (fun cC => ?_)
                    · exact go hc w q1.2.1 Tw Tvc Uw Dw (by unfold layC ctF; rw [uq, hv]; show _ = some (if q1.2.1 = nI 1 ∧ decide (¬ p1.2.1 = nI 1) = true then (nI 2, q1.2.2.1) else (q1.2.1, q1.2.2.1)); rw [if_neg (fun z => cB z.1)]) (fun _ _ => rfl) hw (fun _ _ ha _ => ha) (fun _ ha => ha)
                    · exact absurd cC (by decide)
              · cases hp3.2
          · cases hp2.2
    refine zz_go C [(0, .iload_n 3), (1, .iconst 4)] (by decide +kernel) (pc' := 2) (lv' := [some (.ref q.1), some (.ref p.1), some (.int (bI hid)), some (.int (nI d)), none, none, none, none]) (st' := [.int (nI 4), .int (nI d)]) rfl ?_
    refine zz_if C (i := .if_icmp .lt 4) (by decide +kernel) (Pt := (nI d) < (nI 4)) (Pf := ¬ (nI d) < (nI 4)) (off := 4) (r := []) (tgt := 6) rfl (by decide) (fun cA => ?_) (fun cA => ?_)
    · refine zz_go C [(6, .iconst 1), (7, .istore 4)] (by decide +kernel) (pc' := 9) (lv' := [some (.ref q.1), some (.ref p.1), some (.int (bI hid)), some (.int (nI d)), some (.int (nI 1)), none, none, none]) (st' := []) rfl ?_
      refine zz_widen (k' := 0 * ceL g + rN u r) (n' := 10 * (0 * ceL g + rN u r)) (Nat.zero_le _) (Nat.zero_le _) ?_
      exact loop 9 0 h u (by omega) (loI_0 Tu Tv Uu D0 (fun q0 h0 => hown r q0 (List.suffix_refl _) h0))
    · exact absurd (nI_lt (by omega) (by omega)) cA
