/-! ===== the law, case by case ===== -/
abbrev b_L_law : ByteArray := code
theorem cd2_0 {X1 X2 : String} {r : zz_R} (h : cd2 X1 X2 r = 0) : ∃ v, r = .inl v := by
  cases r with
  | inl v => exact ⟨v, rfl⟩
  | inr X =>
    have h' : (if X = X1 then nI 1 else if X = X2 then nI 2 else nI 3) = 0 := h
    split at h'
    · exact absurd h' (by decide)
    · split at h'
      · exact absurd h' (by decide)
      · exact absurd h' (by decide)
/-- the law's world: the tree's part ht, the model's hm, the row of answers -/
def lawW (h : zz_Hp) (aC : Nat → ClassId) (ht hm : zz_Hp) (oa : Nat) (f : Nat → Int64) : Prop :=
  (∀ a e, ht a = some e → h a = some e) ∧ (∀ a e, hm a = some e → h a = some e ∧ ht a = none) ∧ h oa = some (loE aC f) ∧ ht oa = none ∧ hm oa = none
section LW
variable {h h' ht ht' hm hm' : zz_Hp} {aC : Nat → ClassId} {oa : Nat} {f f' : Nat → Int64}
theorem lawW.tree (L : lawW h aC ht hm oa f) (F : twF h ht h' ht' oa) (o1 : ht' oa = none) (o2 : h' oa = some (loE aC f')) : lawW h' aC ht' hm oa f' := by
  obtain ⟨l1, l2, l3, l4, l5⟩ := L
  refine ⟨F.1, fun a e ha => ?_, o2, o1, l5⟩
  obtain ⟨b1, b2⟩ := l2 a e ha
  exact F.2 a e b1 b2 (fun q => by rw [q, l5] at ha; cases ha)
theorem lawW.treeA (L : lawW h aC ht hm oa f) (F : twA h ht h' ht') : lawW h' aC ht' hm oa f := by
  obtain ⟨l1, l2, l3, l4, l5⟩ := L
  exact ⟨F.1, fun a e ha => F.2 a e (l2 a e ha).1 (l2 a e ha).2, (F.2 oa _ l3 l4).1, (F.2 oa _ l3 l4).2, l5⟩
theorem lawW.model (L : lawW h aC ht hm oa f) (hn : ∀ (a : Nat) (e : va_E), hm' a = some e → hm a = none → h a = none) : lawW (zz_mix hm hm' h) aC ht hm' oa f := by
  obtain ⟨l1, l2, l3, l4, l5⟩ := L
  have nt : ∀ a e, ht a = some e → hm a = none := fun a e ha => by
    cases hh : hm a with
    | none => rfl
    | some x => rw [(l2 a x hh).2] at ha; cases ha
  refine ⟨fun a e ha => (mix_k hn (l1 a e ha) (nt a e ha)).1, fun a e ha => ⟨mix_s ha, ?_⟩, (mix_k hn l3 l5).1, l4, (mix_k hn l3 l5).2⟩
  cases hh : ht a with
  | none => rfl
  | some x =>
    have := (mix_k hn (l1 a x hh) (nt a x hh)).2
    rw [ha] at this; cases this
theorem mix_id (sub : ∀ (a : Nat) (e : va_E), hm a = some e → h a = some e) : zz_mix hm hm h = h := by
  funext a
  cases hh : hm a with
  | none => simp only [zz_mix, hh]
  | some e => simp only [zz_mix, hh]; exact (sub a e hh).symm
end LW
/-- the script, which lies outside of all that is written to -/
def zz_sX (K : zz_K) (h0 : zz_Hp) (sc N : Nat) (S : Nat → Int32) : Prop := match K with
  | (_, _, _, _, s, _, _, _, _, _, _, _) => va_X sc N S s s.heap ∧ sc < s.heap.size ∧ ¬ zz_A h0 s.heap.size sc
section SX
variable {K : zz_K} {Q : State → Prop} {h0 h : zz_Hp} {k n pc j sc N : Nat} {S : Nat → Int32} {lv : List (Option Value)} {st : List Value} {cc : ByteArray} {own : String}
theorem zz_sld (C : zz_C K cc own) (X : zz_sX K h0 sc N S) (hj : j < N) (hN : N < 2 ^ 31) (hd : decode cc pc = .ok (.iaload, 1)) (kk : zz_Z K Q h0 h k n (pc + 1) lv (.int (S j) :: st)) : zz_Z K Q h0 h k n pc lv (.int (nI j) :: .ref sc :: st) := by
  obtain ⟨p, l, e, R, s, m, args, below, meth, c, D, aC⟩ := K
  obtain ⟨hexec, hb, hown, hts, hK, hlk⟩ := C
  obtain ⟨x1, x2, x3⟩ := X
  intro H locs ls hP hS hN' hls hn
  refine va_sld hexec hb x1 x2 x3 hS (vp_in_nI hj hN) hd ?_
  rw [nI_clamp (by omega)]
  exact kk H locs ls hP hS hN' hls hn
theorem zz_slen (C : zz_C K cc own) (X : zz_sX K h0 sc N S) (hd : decode cc pc = .ok (.arraylength, 1)) (kk : zz_Z K Q h0 h k n (pc + 1) lv (.int (nI N) :: st)) : zz_Z K Q h0 h k n pc lv (.ref sc :: st) := by
  obtain ⟨p, l, e, R, s, m, args, below, meth, c, D, aC⟩ := K
  obtain ⟨hexec, hb, hown, hts, hK, hlk⟩ := C
  obtain ⟨x1, x2, x3⟩ := X
  intro H locs ls hP hS hN' hls hn
  exact va_slen hexec hb x1 x2 x3 hS hd (kk H locs ls hP hS hN' hls hn)
end SX
set_option maxRecDepth 8192 in
set_option maxHeartbeats 4000000 in
theorem law_write {l : Launch} (hst : l.stackTraces = false) {D : va_G} {K : zz_K} {Q : State → Prop} {h0 : zz_Hp} {ret : Option FieldType} {hs : List (Nat × Nat × Nat × Nat)} (C : zz_C K b_L_law "OverlayTreeLaw") (E : zz_En l D (zz_ac K) (zrm 2048 601024 7293034 84000) ret hs h0 K) {hc ht hm : zz_Hp} {t o oa sc N j : Nat} {S : Nat → Int32} {f : Nat → Int64} {th : Int32} (X : zz_sX K h0 sc N S) (hN : N ≤ 1536) (hj : 3 * j + 3 ≤ N) (L : lawW hc (zz_ac K) ht hm oa f) (J : jS (zz_ac K) t o ht hm th)
    (next : ∀ (hc' ht' hm' : zz_Hp) (f' : Nat → Int64) (th' : Int32), lawW hc' (zz_ac K) ht' hm' oa f' → jS (zz_ac K) t o ht' hm' th' → zz_Z K Q h0 hc' (38 + 820 * (j + 1)) (207600 + 8206 * (j + 1)) 787 [some (.ref sc), some (.ref t), some (.ref o), some (.ref oa), some (.int (nI (3 * j))), none, none] []) : zz_Z K Q h0 hc (38 + 820 * j) (207600 + 8206 * j) 100 [some (.ref sc), some (.ref t), some (.ref o), some (.ref oa), some (.int (nI (3 * j))), none, none] [] := by
  obtain ⟨x, hx⟩ : ∃ x, S (3 * j + 1) = x := ⟨_, rfl⟩
  obtain ⟨y, hy⟩ : ∃ y, S (3 * j + 2) = y := ⟨_, rfl⟩
  obtain ⟨pT, pM, fs, fo, CT, CM, htt, hmo, hX, hV, jn⟩ := op_write l hst D (zz_ac K) J x y
  refine zz_go C [(100, .aload_n 1), (101, .aload_n 0), (102, .iload 4), (104, .iconst 1), (105, .iadd)] (by decide +kernel) (pc' := 106) (lv' := [some (.ref sc), some (.ref t), some (.ref o), some (.ref oa), some (.int (nI (3 * j))), none, none]) (st' := [.int ((nI (3 * j)) + (nI 1)), .ref sc, .ref t]) rfl ?_
  rw [show nI (3 * j) + nI 1 = nI (3 * j + 1) from nI_add _ 1]
  refine zz_sld C X (by omega) (by omega) (by decide +kernel) ?_
  rw [hx]
  refine zz_go C [(107, .aload_n 0), (108, .iload 4), (110, .iconst 2), (111, .iadd)] (by decide +kernel) (pc' := 112) (lv' := [some (.ref sc), some (.ref t), some (.ref o), some (.ref oa), some (.int (nI (3 * j))), none, none]) (st' := [.int ((nI (3 * j)) + (nI 2)), .ref sc, .int x, .ref t]) rfl ?_
  rw [show nI (3 * j) + nI 2 = nI (3 * j + 2) from nI_add _ 2]
  refine zz_sld C X (by omega) (by omega) (by decide +kernel) ?_
  rw [hy]
  refine zz_go C [(113, .aload_n 3)] (by decide +kernel) (pc' := 114) (lv' := [some (.ref sc), some (.ref t), some (.ref o), some (.ref oa), some (.int (nI (3 * j))), none, none]) (st' := [.ref oa, .int y, .int x, .ref t]) rfl ?_
  refine zz_cS C E (As := [.ref t, .int x, .int y, .ref oa]) (rest := []) (hc := hc) md_L_write (c_L_write l D (zz_ac K) hc ht t oa f x y CT htt L.1 L.2.2.1 L.2.2.2.1 hX hV) ml_L_65 sm_L_write (fun _ _ q => q) rfl rfl (Nat.le_of_ble_eq_true rfl) ⟨by decide, by decide⟩ ⟨by show 38 + 820 * j + 12 ≤ 601024; omega, by show 207600 + 8206 * j + 80 ≤ 7293034; omega⟩ (by decide +kernel) (fun v0 h1 hp hn hd => ?_) (fun v0 h1 hp hn hd => ?_)
  · rw [zz_mix_self hd]
    obtain ⟨r1, ht1, f1, pt, F, o1, o2, hv, hf⟩ := hp
    have L1 := L.tree F o1 o2
    cases hv
    show zz_Z _ _ _ _ _ _ _ _ [.int (cd2 "java/lang/IllegalArgumentException" "java/lang/IllegalStateException" r1)]
    refine zz_go C [(117, .istore 5), (119, .aload_n 2), (120, .aload_n 0), (121, .iload 4), (123, .iconst 1), (124, .iadd)] (by decide +kernel) (pc' := 125) (lv' := [some (.ref sc), some (.ref t), some (.ref o), some (.ref oa), some (.int (nI (3 * j))), some (.int (cd2 "java/lang/IllegalArgumentException" "java/lang/IllegalStateException" r1)), none]) (st' := [.int ((nI (3 * j)) + (nI 1)), .ref sc, .ref o]) rfl ?_
    rw [show nI (3 * j) + nI 1 = nI (3 * j + 1) from nI_add _ 1]
    refine zz_sld C X (by omega) (by omega) (by decide +kernel) ?_
    rw [hx]
    refine zz_go C [(126, .aload_n 0), (127, .iload 4), (129, .iconst 2), (130, .iadd)] (by decide +kernel) (pc' := 131) (lv' := [some (.ref sc), some (.ref t), some (.ref o), some (.ref oa), some (.int (nI (3 * j))), some (.int (cd2 "java/lang/IllegalArgumentException" "java/lang/IllegalStateException" r1)), none]) (st' := [.int ((nI (3 * j)) + (nI 2)), .ref sc, .int x, .ref o]) rfl ?_
    rw [show nI (3 * j) + nI 2 = nI (3 * j + 2) from nI_add _ 2]
    refine zz_sld C X (by omega) (by omega) (by decide +kernel) ?_
    rw [hy]
    refine zz_cV C E (ci := 3) (As := [.int x, .int y]) (rest := []) (hc := hm) md_O_write (CM) ml_L_70 im_O_write se_O_write rfl hmo (fun a e q => (L1.2.1 a e q).1) rfl rfl (Nat.le_of_ble_eq_true rfl) ⟨by decide, by decide⟩ ⟨by show 38 + 820 * j + 12 + 0 ≤ 601024; omega, by show 207600 + 8206 * j + 80 + 0 ≤ 7293034; omega⟩ (by decide +kernel) (fun v1 hm1 hp2 hn2 hd2 => ?_) (fun v1 hm1 hp2 hn2 hd2 => ?_)
    · obtain ⟨b0, hrv, J2, hans⟩ := jn r1 ht1 _ hm1 pt hp2
      cases hrv
      have L2 := L1.model hn2
      generalize zz_mix hm hm1 h1 = h2 at L2 ⊢
      show zz_Z _ _ _ _ _ _ _ _ [.int (bI b0)]
      refine zz_go C [(135, .istore 6), (137, .aload_n 2)] (by decide +kernel) (pc' := 138) (lv' := [some (.ref sc), some (.ref t), some (.ref o), some (.ref oa), some (.int (nI (3 * j))), some (.int (cd2 "java/lang/IllegalArgumentException" "java/lang/IllegalStateException" r1)), some (.int (bI b0))]) (st' := [.ref o]) rfl ?_
      obtain ⟨la1, sa1, A1, ad1, n1, Ls1, M1, V1, vs1, sn1, sh1, W1, Wm1, R1⟩ := id J2
      refine zz_cV C E (ci := 3) (As := []) (rest := []) (hc := hm1) md_O_thrown (c_O_thrown l D (zz_ac K) hm1 o ad1 _ n1 M1 V1 vs1 sn1 sh1 Wm1) ml_L_71 im_O_thrown se_O_thrown rfl Wm1.ob (fun a e q => (L2.2.1 a e q).1) rfl rfl (Nat.le_of_ble_eq_true rfl) ⟨by decide, by decide⟩ ⟨by show 38 + 820 * j + 12 + 0 + 0 ≤ 601024; omega, by show 207600 + 8206 * j + 80 + 0 + 0 ≤ 7293034; omega⟩ (by decide +kernel) (fun v2 h3 hp3 hn3 hd3 => ?_) (fun v2 h3 hp3 hn3 hd3 => ?_)
      · obtain ⟨hh, hv3⟩ := hp3
        cases hv3
        rw [hh, mix_id (fun a e q => (L2.2.1 a e q).1)]
        show zz_Z _ _ _ _ _ _ _ _ [.int (cd2 "java/lang/IllegalArgumentException" "java/lang/IllegalStateException" r1)]
        refine zz_go C [(141, .iload 5)] (by decide +kernel) (pc' := 143) (lv' := [some (.ref sc), some (.ref t), some (.ref o), some (.ref oa), some (.int (nI (3 * j))), some (.int (cd2 "java/lang/IllegalArgumentException" "java/lang/IllegalStateException" r1)), some (.int (bI b0))]) (st' := [.int (cd2 "java/lang/IllegalArgumentException" "java/lang/IllegalStateException" r1), .int (cd2 "java/lang/IllegalArgumentException" "java/lang/IllegalStateException" r1)]) rfl ?_
        refine zz_if C (i := .if_icmp .eq 5) (by decide +kernel) (Pt := (cd2 "java/lang/IllegalArgumentException" "java/lang/IllegalStateException" r1) = (cd2 "java/lang/IllegalArgumentException" "java/lang/IllegalStateException" r1)) (Pf := ¬ (cd2 "java/lang/IllegalArgumentException" "java/lang/IllegalStateException" r1) = (cd2 "java/lang/IllegalArgumentException" "java/lang/IllegalStateException" r1)) (off := 5) (r := []) (tgt := 148) rfl (by decide) (fun cT => ?_) (fun cT => ?_)
        · refine zz_go C [(148, .iload 5)] (by decide +kernel) (pc' := 150) (lv' := [some (.ref sc), some (.ref t), some (.ref o), some (.ref oa), some (.int (nI (3 * j))), some (.int (cd2 "java/lang/IllegalArgumentException" "java/lang/IllegalStateException" r1)), some (.int (bI b0))]) (st' := [.int (cd2 "java/lang/IllegalArgumentException" "java/lang/IllegalStateException" r1)]) rfl ?_
          refine zz_if C (i := .ifCond .ne 22) (by decide +kernel) (Pt := ¬ (cd2 "java/lang/IllegalArgumentException" "java/lang/IllegalStateException" r1) = 0) (Pf := (cd2 "java/lang/IllegalArgumentException" "java/lang/IllegalStateException" r1) = 0) (off := 22) (r := []) (tgt := 172) rfl (by decide) (fun cK => ?_) (fun cK => ?_)
          · refine zz_go C [(172, .goto 615)] (by decide +kernel) (pc' := 787) (lv' := [some (.ref sc), some (.ref t), some (.ref o), some (.ref oa), some (.int (nI (3 * j))), some (.int (cd2 "java/lang/IllegalArgumentException" "java/lang/IllegalStateException" r1)), some (.int (bI b0))]) (st' := []) rfl ?_
            exact zz_lv [some (.ref sc), some (.ref t), some (.ref o), some (.ref oa), some (.int (nI (3 * j))), none, none] (fun i u hu => by rcases i with _ | _ | _ | _ | _ | _ | _ | i <;> first | exact hu | cases hu) (Nat.le_of_ble_eq_true rfl) (zz_widen (k' := 38 + 820 * (j + 1)) (n' := 207600 + 8206 * (j + 1)) (by show 38 + 820 * j + 12 + 0 + 0 ≤ _; omega) (by show 207600 + 8206 * j + 80 + 0 + 0 ≤ _; omega) (next h2 ht1 hm1 f1 _ L2 J2))
          · obtain ⟨v9, rfl⟩ := cd2_0 cK
            obtain ⟨z, rfl⟩ := hV v9 ht1 pt
            have e1 := hf z rfl
            have e2 := hans z rfl
            refine zz_lv [some (.ref sc), some (.ref t), some (.ref o), some (.ref oa), some (.int (nI (3 * j))), none, some (.int (bI b0))] (fun i u hu => by rcases i with _ | _ | _ | _ | _ | _ | _ | i <;> first | exact hu | cases hu) (Nat.le_of_ble_eq_true rfl) ?_
            refine zz_go C [(153, .aload_n 3), (154, .iconst 0)] (by decide +kernel) (pc' := 155) (lv' := [some (.ref sc), some (.ref t), some (.ref o), some (.ref oa), some (.int (nI (3 * j))), none, some (.int (bI b0))]) (st' := [.int (nI 0), .ref oa]) rfl ?_
            refine zz_lald C 2 (fun _ => rfl) L2.2.2.1 vp_in0 (by decide +kernel) ?_
            rw [show (nI 0).toNatClampNeg = 0 by decide, e1]
            refine zz_go C [(156, .iload 6)] (by decide +kernel) (pc' := 158) (lv' := [some (.ref sc), some (.ref t), some (.ref o), some (.ref oa), some (.int (nI (3 * j))), none, some (.int (bI b0))]) (st' := [.int (bI b0), .long (Int64.ofNat (if z then 1 else 0))]) rfl ?_
            refine zz_if C (i := .ifCond .eq 7) (by decide +kernel) (Pt := (bI b0) = 0) (Pf := ¬ (bI b0) = 0) (off := 7) (r := [.long (Int64.ofNat (if z then 1 else 0))]) (tgt := 165) rfl (by decide) (fun cB => ?_) (fun cB => ?_)
            · have hb0 : b0 = false := (bI_0 b0).mp cB
              refine zz_go C [(165, .lconst 0), (166, .lcmp)] (by decide +kernel) (pc' := 167) (lv' := [some (.ref sc), some (.ref t), some (.ref o), some (.ref oa), some (.int (nI (3 * j))), none, some (.int (bI b0))]) (st' := [.int (lg_cmp (Int64.ofNat (if z then 1 else 0)) (Int64.ofNat 0))]) rfl ?_
              refine zz_if C (i := .ifCond .eq 5) (by decide +kernel) (Pt := (lg_cmp (Int64.ofNat (if z then 1 else 0)) (Int64.ofNat 0)) = 0) (Pf := ¬ (lg_cmp (Int64.ofNat (if z then 1 else 0)) (Int64.ofNat 0)) = 0) (off := 5) (r := []) (tgt := 172) rfl (by decide) (fun cL => ?_) (fun cL => ?_)
              · refine zz_go C [(172, .goto 615)] (by decide +kernel) (pc' := 787) (lv' := [some (.ref sc), some (.ref t), some (.ref o), some (.ref oa), some (.int (nI (3 * j))), none, some (.int (bI b0))]) (st' := []) rfl ?_
                exact zz_lv [some (.ref sc), some (.ref t), some (.ref o), some (.ref oa), some (.int (nI (3 * j))), none, none] (fun i u hu => by rcases i with _ | _ | _ | _ | _ | _ | _ | i <;> first | exact hu | cases hu) (Nat.le_of_ble_eq_true rfl) (zz_widen (k' := 38 + 820 * (j + 1)) (n' := 207600 + 8206 * (j + 1)) (by show 38 + 820 * j + 12 + 0 + 0 ≤ _; omega) (by show 207600 + 8206 * j + 80 + 0 + 0 ≤ _; omega) (next h2 ht1 hm1 f1 _ L2 J2))
              · exact absurd ((lg_cmp_eq _ _).mpr (by rw [← e2, hb0]; rfl)) cL
            · have hb0 : b0 = true := bI_1 cB
              refine zz_go C [(161, .lconst 1), (162, .goto 4), (166, .lcmp)] (by decide +kernel) (pc' := 167) (lv' := [some (.ref sc), some (.ref t), some (.ref o), some (.ref oa), some (.int (nI (3 * j))), none, some (.int (bI b0))]) (st' := [.int (lg_cmp (Int64.ofNat (if z then 1 else 0)) (Int64.ofNat 1))]) rfl ?_
              refine zz_if C (i := .ifCond .eq 5) (by decide +kernel) (Pt := (lg_cmp (Int64.ofNat (if z then 1 else 0)) (Int64.ofNat 1)) = 0) (Pf := ¬ (lg_cmp (Int64.ofNat (if z then 1 else 0)) (Int64.ofNat 1)) = 0) (off := 5) (r := []) (tgt := 172) rfl (by decide) (fun cL => ?_) (fun cL => ?_)
              · refine zz_go C [(172, .goto 615)] (by decide +kernel) (pc' := 787) (lv' := [some (.ref sc), some (.ref t), some (.ref o), some (.ref oa), some (.int (nI (3 * j))), none, some (.int (bI b0))]) (st' := []) rfl ?_
                exact zz_lv [some (.ref sc), some (.ref t), some (.ref o), some (.ref oa), some (.int (nI (3 * j))), none, none] (fun i u hu => by rcases i with _ | _ | _ | _ | _ | _ | _ | i <;> first | exact hu | cases hu) (Nat.le_of_ble_eq_true rfl) (zz_widen (k' := 38 + 820 * (j + 1)) (n' := 207600 + 8206 * (j + 1)) (by show 38 + 820 * j + 12 + 0 + 0 ≤ _; omega) (by show 207600 + 8206 * j + 80 + 0 + 0 ≤ _; omega) (next h2 ht1 hm1 f1 _ L2 J2))
              · exact absurd ((lg_cmp_eq _ _).mpr (by rw [← e2, hb0]; rfl)) cL
        · exact absurd rfl cT
      · cases hp3.2
    · obtain ⟨_, hrv, _⟩ := jn r1 ht1 _ hm1 pt hp2
      cases hrv
  · obtain ⟨_, _, _, _, _, _, _, hv, _⟩ := hp
    cases hv
set_option maxRecDepth 8192 in
set_option maxHeartbeats 4000000 in
theorem law_make {l : Launch} (hst : l.stackTraces = false) {D : va_G} {K : zz_K} {Q : State → Prop} {h0 : zz_Hp} {ret : Option FieldType} {hs : List (Nat × Nat × Nat × Nat)} (C : zz_C K b_L_law "OverlayTreeLaw") (E : zz_En l D (zz_ac K) (zrm 2048 601024 7293034 84000) ret hs h0 K) {hc ht hm : zz_Hp} {t o oa sc N j : Nat} {S : Nat → Int32} {f : Nat → Int64} {th : Int32} (X : zz_sX K h0 sc N S) (hN : N ≤ 1536) (hj : 3 * j + 3 ≤ N) (L : lawW hc (zz_ac K) ht hm oa f) (J : jS (zz_ac K) t o ht hm th)
    (next : ∀ (hc' ht' hm' : zz_Hp) (f' : Nat → Int64) (th' : Int32), lawW hc' (zz_ac K) ht' hm' oa f' → jS (zz_ac K) t o ht' hm' th' → zz_Z K Q h0 hc' (38 + 820 * (j + 1)) (207600 + 8206 * (j + 1)) 787 [some (.ref sc), some (.ref t), some (.ref o), some (.ref oa), some (.int (nI (3 * j))), none, none] []) : zz_Z K Q h0 hc (38 + 820 * j) (207600 + 8206 * j) 175 [some (.ref sc), some (.ref t), some (.ref o), some (.ref oa), some (.int (nI (3 * j))), none, none] [] := by
  obtain ⟨x, hx⟩ : ∃ x, S (3 * j + 1) = x := ⟨_, rfl⟩
  obtain ⟨pT, pM, fs, fo, CT, CM, htt, hmo, hX, hV, jn⟩ := op_make l hst D (zz_ac K) J x
  refine zz_go C [(175, .aload_n 1), (176, .aload_n 0), (177, .iload 4), (179, .iconst 1), (180, .iadd)] (by decide +kernel) (pc' := 181) (lv' := [some (.ref sc), some (.ref t), some (.ref o), some (.ref oa), some (.int (nI (3 * j))), none, none]) (st' := [.int ((nI (3 * j)) + (nI 1)), .ref sc, .ref t]) rfl ?_
  rw [show nI (3 * j) + nI 1 = nI (3 * j + 1) from nI_add _ 1]
  refine zz_sld C X (by omega) (by omega) (by decide +kernel) ?_
  rw [hx]
  refine zz_cS C E (As := [.ref t, .int x]) (rest := []) (hc := hc) md_L_make (c_L_make l D (zz_ac K) hc ht t oa f x CT htt L.1 L.2.2.1 L.2.2.2.1 hX hV) ml_L_74 sm_L_make (fun _ _ q => q) rfl rfl (Nat.le_of_ble_eq_true rfl) ⟨by decide, by decide⟩ ⟨by show 38 + 820 * j + 12 ≤ 601024; omega, by show 207600 + 8206 * j + 80 ≤ 7293034; omega⟩ (by decide +kernel) (fun v0 h1 hp hn hd => ?_) (fun v0 h1 hp hn hd => ?_)
  · rw [zz_mix_self hd]
    obtain ⟨r1, ht1, pt, F, hv⟩ := hp
    have L1 := L.treeA F
    cases hv
    show zz_Z _ _ _ _ _ _ _ _ [.int (cd2 "java/lang/IllegalArgumentException" "java/lang/IllegalStateException" r1)]
    refine zz_go C [(185, .istore 5), (187, .aload_n 2), (188, .aload_n 0), (189, .iload 4), (191, .iconst 1), (192, .iadd)] (by decide +kernel) (pc' := 193) (lv' := [some (.ref sc), some (.ref t), some (.ref o), some (.ref oa), some (.int (nI (3 * j))), some (.int (cd2 "java/lang/IllegalArgumentException" "java/lang/IllegalStateException" r1)), none]) (st' := [.int ((nI (3 * j)) + (nI 1)), .ref sc, .ref o]) rfl ?_
    rw [show nI (3 * j) + nI 1 = nI (3 * j + 1) from nI_add _ 1]
    refine zz_sld C X (by omega) (by omega) (by decide +kernel) ?_
    rw [hx]
    refine zz_cV C E (ci := 3) (As := [.int x]) (rest := []) (hc := hm) md_O_make (CM) ml_L_77 im_O_make se_O_make rfl hmo (fun a e q => (L1.2.1 a e q).1) rfl rfl (Nat.le_of_ble_eq_true rfl) ⟨by decide, by decide⟩ ⟨by show 38 + 820 * j + 12 + 0 ≤ 601024; omega, by show 207600 + 8206 * j + 80 + 0 ≤ 7293034; omega⟩ (by decide +kernel) (fun v1 hm1 hp2 hn2 hd2 => ?_) (fun v1 hm1 hp2 hn2 hd2 => ?_)
    · obtain ⟨hrv, J2⟩ := jn r1 ht1 _ hm1 pt hp2
      cases hrv
      have L2 := L1.model hn2
      generalize zz_mix hm hm1 h1 = h2 at L2 ⊢
      show zz_Z _ _ _ _ _ _ _ _ []
      refine zz_go C [(197, .aload_n 2)] (by decide +kernel) (pc' := 198) (lv' := [some (.ref sc), some (.ref t), some (.ref o), some (.ref oa), some (.int (nI (3 * j))), some (.int (cd2 "java/lang/IllegalArgumentException" "java/lang/IllegalStateException" r1)), none]) (st' := [.ref o]) rfl ?_
      obtain ⟨la1, sa1, A1, ad1, n1, Ls1, M1, V1, vs1, sn1, sh1, W1, Wm1, R1⟩ := id J2
      refine zz_cV C E (ci := 3) (As := []) (rest := []) (hc := hm1) md_O_thrown (c_O_thrown l D (zz_ac K) hm1 o ad1 _ n1 M1 V1 vs1 sn1 sh1 Wm1) ml_L_71 im_O_thrown se_O_thrown rfl Wm1.ob (fun a e q => (L2.2.1 a e q).1) rfl rfl (Nat.le_of_ble_eq_true rfl) ⟨by decide, by decide⟩ ⟨by show 38 + 820 * j + 12 + 0 + 0 ≤ 601024; omega, by show 207600 + 8206 * j + 80 + 0 + 0 ≤ 7293034; omega⟩ (by decide +kernel) (fun v2 h3 hp3 hn3 hd3 => ?_) (fun v2 h3 hp3 hn3 hd3 => ?_)
      · obtain ⟨hh, hv3⟩ := hp3
        cases hv3
        rw [hh, mix_id (fun a e q => (L2.2.1 a e q).1)]
        show zz_Z _ _ _ _ _ _ _ _ [.int (cd2 "java/lang/IllegalArgumentException" "java/lang/IllegalStateException" r1)]
        refine zz_go C [(201, .iload 5)] (by decide +kernel) (pc' := 203) (lv' := [some (.ref sc), some (.ref t), some (.ref o), some (.ref oa), some (.int (nI (3 * j))), some (.int (cd2 "java/lang/IllegalArgumentException" "java/lang/IllegalStateException" r1)), none]) (st' := [.int (cd2 "java/lang/IllegalArgumentException" "java/lang/IllegalStateException" r1), .int (cd2 "java/lang/IllegalArgumentException" "java/lang/IllegalStateException" r1)]) rfl ?_
        refine zz_if C (i := .if_icmp .eq 5) (by decide +kernel) (Pt := (cd2 "java/lang/IllegalArgumentException" "java/lang/IllegalStateException" r1) = (cd2 "java/lang/IllegalArgumentException" "java/lang/IllegalStateException" r1)) (Pf := ¬ (cd2 "java/lang/IllegalArgumentException" "java/lang/IllegalStateException" r1) = (cd2 "java/lang/IllegalArgumentException" "java/lang/IllegalStateException" r1)) (off := 5) (r := []) (tgt := 208) rfl (by decide) (fun cT => ?_) (fun cT => ?_)
        · refine zz_go C [(208, .goto 579)] (by decide +kernel) (pc' := 787) (lv' := [some (.ref sc), some (.ref t), some (.ref o), some (.ref oa), some (.int (nI (3 * j))), some (.int (cd2 "java/lang/IllegalArgumentException" "java/lang/IllegalStateException" r1)), none]) (st' := []) rfl ?_
          exact zz_lv [some (.ref sc), some (.ref t), some (.ref o), some (.ref oa), some (.int (nI (3 * j))), none, none] (fun i u hu => by rcases i with _ | _ | _ | _ | _ | _ | _ | i <;> first | exact hu | cases hu) (Nat.le_of_ble_eq_true rfl) (zz_widen (k' := 38 + 820 * (j + 1)) (n' := 207600 + 8206 * (j + 1)) (by show 38 + 820 * j + 12 + 0 + 0 ≤ _; omega) (by show 207600 + 8206 * j + 80 + 0 + 0 ≤ _; omega) (next h2 ht1 hm1 f _ L2 J2))
        · exact absurd rfl cT
      · cases hp3.2
    · obtain ⟨hrv, _⟩ := jn r1 ht1 _ hm1 pt hp2
      cases hrv
  · obtain ⟨_, _, _, _, hv⟩ := hp
    cases hv
set_option maxRecDepth 8192 in
set_option maxHeartbeats 4000000 in
theorem law_remove {l : Launch} (hst : l.stackTraces = false) {D : va_G} {K : zz_K} {Q : State → Prop} {h0 : zz_Hp} {ret : Option FieldType} {hs : List (Nat × Nat × Nat × Nat)} (C : zz_C K b_L_law "OverlayTreeLaw") (E : zz_En l D (zz_ac K) (zrm 2048 601024 7293034 84000) ret hs h0 K) {hc ht hm : zz_Hp} {t o oa sc N j : Nat} {S : Nat → Int32} {f : Nat → Int64} {th : Int32} (X : zz_sX K h0 sc N S) (hN : N ≤ 1536) (hj : 3 * j + 3 ≤ N) (L : lawW hc (zz_ac K) ht hm oa f) (J : jS (zz_ac K) t o ht hm th)
    (next : ∀ (hc' ht' hm' : zz_Hp) (f' : Nat → Int64) (th' : Int32), lawW hc' (zz_ac K) ht' hm' oa f' → jS (zz_ac K) t o ht' hm' th' → zz_Z K Q h0 hc' (38 + 820 * (j + 1)) (207600 + 8206 * (j + 1)) 787 [some (.ref sc), some (.ref t), some (.ref o), some (.ref oa), some (.int (nI (3 * j))), none, none] []) : zz_Z K Q h0 hc (38 + 820 * j) (207600 + 8206 * j) 211 [some (.ref sc), some (.ref t), some (.ref o), some (.ref oa), some (.int (nI (3 * j))), none, none] [] := by
  obtain ⟨x, hx⟩ : ∃ x, S (3 * j + 1) = x := ⟨_, rfl⟩
  obtain ⟨pT, pM, fs, fo, CT, CM, htt, hmo, hX, hV, jn⟩ := op_remove l hst D (zz_ac K) J x
  refine zz_go C [(211, .aload_n 1), (212, .aload_n 0), (213, .iload 4), (215, .iconst 1), (216, .iadd)] (by decide +kernel) (pc' := 217) (lv' := [some (.ref sc), some (.ref t), some (.ref o), some (.ref oa), some (.int (nI (3 * j))), none, none]) (st' := [.int ((nI (3 * j)) + (nI 1)), .ref sc, .ref t]) rfl ?_
  rw [show nI (3 * j) + nI 1 = nI (3 * j + 1) from nI_add _ 1]
  refine zz_sld C X (by omega) (by omega) (by decide +kernel) ?_
  rw [hx]
  refine zz_go C [(218, .aload_n 3)] (by decide +kernel) (pc' := 219) (lv' := [some (.ref sc), some (.ref t), some (.ref o), some (.ref oa), some (.int (nI (3 * j))), none, none]) (st' := [.ref oa, .int x, .ref t]) rfl ?_
  refine zz_cS C E (As := [.ref t, .int x, .ref oa]) (rest := []) (hc := hc) md_L_remove (c_L_remove l D (zz_ac K) hc ht t oa f x CT htt L.1 L.2.2.1 L.2.2.2.1 hX hV) ml_L_78 sm_L_remove (fun _ _ q => q) rfl rfl (Nat.le_of_ble_eq_true rfl) ⟨by decide, by decide⟩ ⟨by show 38 + 820 * j + 12 ≤ 601024; omega, by show 207600 + 8206 * j + 80 ≤ 7293034; omega⟩ (by decide +kernel) (fun v0 h1 hp hn hd => ?_) (fun v0 h1 hp hn hd => ?_)
  · rw [zz_mix_self hd]
    obtain ⟨r1, ht1, f1, pt, F, o1, o2, hv, hf⟩ := hp
    have L1 := L.tree F o1 o2
    cases hv
    show zz_Z _ _ _ _ _ _ _ _ [.int (cd2 "java/lang/IllegalArgumentException" "java/util/NoSuchElementException" r1)]
    refine zz_go C [(222, .istore 5), (224, .aload_n 2), (225, .aload_n 0), (226, .iload 4), (228, .iconst 1), (229, .iadd)] (by decide +kernel) (pc' := 230) (lv' := [some (.ref sc), some (.ref t), some (.ref o), some (.ref oa), some (.int (nI (3 * j))), some (.int (cd2 "java/lang/IllegalArgumentException" "java/util/NoSuchElementException" r1)), none]) (st' := [.int ((nI (3 * j)) + (nI 1)), .ref sc, .ref o]) rfl ?_
    rw [show nI (3 * j) + nI 1 = nI (3 * j + 1) from nI_add _ 1]
    refine zz_sld C X (by omega) (by omega) (by decide +kernel) ?_
    rw [hx]
    refine zz_cV C E (ci := 3) (As := [.int x]) (rest := []) (hc := hm) md_O_remove (CM) ml_L_81 im_O_remove se_O_remove rfl hmo (fun a e q => (L1.2.1 a e q).1) rfl rfl (Nat.le_of_ble_eq_true rfl) ⟨by decide, by decide⟩ ⟨by show 38 + 820 * j + 12 + 0 ≤ 601024; omega, by show 207600 + 8206 * j + 80 + 0 ≤ 7293034; omega⟩ (by decide +kernel) (fun v1 hm1 hp2 hn2 hd2 => ?_) (fun v1 hm1 hp2 hn2 hd2 => ?_)
    · obtain ⟨r0, hrv, J2, hans⟩ := jn r1 ht1 _ hm1 pt hp2
      cases hrv
      have L2 := L1.model hn2
      generalize zz_mix hm hm1 h1 = h2 at L2 ⊢
      show zz_Z _ _ _ _ _ _ _ _ [.int r0]
      refine zz_go C [(234, .istore 6), (236, .aload_n 2)] (by decide +kernel) (pc' := 237) (lv' := [some (.ref sc), some (.ref t), some (.ref o), some (.ref oa), some (.int (nI (3 * j))), some (.int (cd2 "java/lang/IllegalArgumentException" "java/util/NoSuchElementException" r1)), some (.int r0)]) (st' := [.ref o]) rfl ?_
      obtain ⟨la1, sa1, A1, ad1, n1, Ls1, M1, V1, vs1, sn1, sh1, W1, Wm1, R1⟩ := id J2
      refine zz_cV C E (ci := 3) (As := []) (rest := []) (hc := hm1) md_O_thrown (c_O_thrown l D (zz_ac K) hm1 o ad1 _ n1 M1 V1 vs1 sn1 sh1 Wm1) ml_L_71 im_O_thrown se_O_thrown rfl Wm1.ob (fun a e q => (L2.2.1 a e q).1) rfl rfl (Nat.le_of_ble_eq_true rfl) ⟨by decide, by decide⟩ ⟨by show 38 + 820 * j + 12 + 0 + 0 ≤ 601024; omega, by show 207600 + 8206 * j + 80 + 0 + 0 ≤ 7293034; omega⟩ (by decide +kernel) (fun v2 h3 hp3 hn3 hd3 => ?_) (fun v2 h3 hp3 hn3 hd3 => ?_)
      · obtain ⟨hh, hv3⟩ := hp3
        cases hv3
        rw [hh, mix_id (fun a e q => (L2.2.1 a e q).1)]
        show zz_Z _ _ _ _ _ _ _ _ [.int (cd2 "java/lang/IllegalArgumentException" "java/util/NoSuchElementException" r1)]
        refine zz_go C [(240, .iload 5)] (by decide +kernel) (pc' := 242) (lv' := [some (.ref sc), some (.ref t), some (.ref o), some (.ref oa), some (.int (nI (3 * j))), some (.int (cd2 "java/lang/IllegalArgumentException" "java/util/NoSuchElementException" r1)), some (.int r0)]) (st' := [.int (cd2 "java/lang/IllegalArgumentException" "java/util/NoSuchElementException" r1), .int (cd2 "java/lang/IllegalArgumentException" "java/util/NoSuchElementException" r1)]) rfl ?_
        refine zz_if C (i := .if_icmp .eq 5) (by decide +kernel) (Pt := (cd2 "java/lang/IllegalArgumentException" "java/util/NoSuchElementException" r1) = (cd2 "java/lang/IllegalArgumentException" "java/util/NoSuchElementException" r1)) (Pf := ¬ (cd2 "java/lang/IllegalArgumentException" "java/util/NoSuchElementException" r1) = (cd2 "java/lang/IllegalArgumentException" "java/util/NoSuchElementException" r1)) (off := 5) (r := []) (tgt := 247) rfl (by decide) (fun cT => ?_) (fun cT => ?_)
        · refine zz_go C [(247, .iload 5)] (by decide +kernel) (pc' := 249) (lv' := [some (.ref sc), some (.ref t), some (.ref o), some (.ref oa), some (.int (nI (3 * j))), some (.int (cd2 "java/lang/IllegalArgumentException" "java/util/NoSuchElementException" r1)), some (.int r0)]) (st' := [.int (cd2 "java/lang/IllegalArgumentException" "java/util/NoSuchElementException" r1)]) rfl ?_
          refine zz_if C (i := .ifCond .ne 15) (by decide +kernel) (Pt := ¬ (cd2 "java/lang/IllegalArgumentException" "java/util/NoSuchElementException" r1) = 0) (Pf := (cd2 "java/lang/IllegalArgumentException" "java/util/NoSuchElementException" r1) = 0) (off := 15) (r := []) (tgt := 264) rfl (by decide) (fun cK => ?_) (fun cK => ?_)
          · refine zz_go C [(264, .goto 523)] (by decide +kernel) (pc' := 787) (lv' := [some (.ref sc), some (.ref t), some (.ref o), some (.ref oa), some (.int (nI (3 * j))), some (.int (cd2 "java/lang/IllegalArgumentException" "java/util/NoSuchElementException" r1)), some (.int r0)]) (st' := []) rfl ?_
            exact zz_lv [some (.ref sc), some (.ref t), some (.ref o), some (.ref oa), some (.int (nI (3 * j))), none, none] (fun i u hu => by rcases i with _ | _ | _ | _ | _ | _ | _ | i <;> first | exact hu | cases hu) (Nat.le_of_ble_eq_true rfl) (zz_widen (k' := 38 + 820 * (j + 1)) (n' := 207600 + 8206 * (j + 1)) (by show 38 + 820 * j + 12 + 0 + 0 ≤ _; omega) (by show 207600 + 8206 * j + 80 + 0 + 0 ≤ _; omega) (next h2 ht1 hm1 f1 _ L2 J2))
          · obtain ⟨v9, rfl⟩ := cd2_0 cK
            obtain ⟨z, rfl⟩ := hV v9 ht1 pt
            have e1 := hf z rfl
            have e2 := hans z rfl
            refine zz_lv [some (.ref sc), some (.ref t), some (.ref o), some (.ref oa), some (.int (nI (3 * j))), none, some (.int r0)] (fun i u hu => by rcases i with _ | _ | _ | _ | _ | _ | _ | i <;> first | exact hu | cases hu) (Nat.le_of_ble_eq_true rfl) ?_
            refine zz_go C [(252, .aload_n 3), (253, .iconst 0)] (by decide +kernel) (pc' := 254) (lv' := [some (.ref sc), some (.ref t), some (.ref o), some (.ref oa), some (.int (nI (3 * j))), none, some (.int r0)]) (st' := [.int (nI 0), .ref oa]) rfl ?_
            refine zz_lald C 2 (fun _ => rfl) L2.2.2.1 vp_in0 (by decide +kernel) ?_
            rw [show (nI 0).toNatClampNeg = 0 by decide, e1]
            refine zz_go C [(255, .iload 6), (257, .i2l), (258, .lcmp)] (by decide +kernel) (pc' := 259) (lv' := [some (.ref sc), some (.ref t), some (.ref o), some (.ref oa), some (.int (nI (3 * j))), none, some (.int r0)]) (st' := [.int (lg_cmp z.toInt64 (Int32.toInt64 r0))]) rfl ?_
            refine zz_if C (i := .ifCond .eq 5) (by decide +kernel) (Pt := (lg_cmp z.toInt64 (Int32.toInt64 r0)) = 0) (Pf := ¬ (lg_cmp z.toInt64 (Int32.toInt64 r0)) = 0) (off := 5) (r := []) (tgt := 264) rfl (by decide) (fun cL => ?_) (fun cL => ?_)
            · refine zz_go C [(264, .goto 523)] (by decide +kernel) (pc' := 787) (lv' := [some (.ref sc), some (.ref t), some (.ref o), some (.ref oa), some (.int (nI (3 * j))), none, some (.int r0)]) (st' := []) rfl ?_
              exact zz_lv [some (.ref sc), some (.ref t), some (.ref o), some (.ref oa), some (.int (nI (3 * j))), none, none] (fun i u hu => by rcases i with _ | _ | _ | _ | _ | _ | _ | i <;> first | exact hu | cases hu) (Nat.le_of_ble_eq_true rfl) (zz_widen (k' := 38 + 820 * (j + 1)) (n' := 207600 + 8206 * (j + 1)) (by show 38 + 820 * j + 12 + 0 + 0 ≤ _; omega) (by show 207600 + 8206 * j + 80 + 0 + 0 ≤ _; omega) (next h2 ht1 hm1 f1 _ L2 J2))
            · exact absurd ((lg_cmp_eq _ _).mpr (by rw [e2])) cL
        · exact absurd rfl cT
      · cases hp3.2
    · obtain ⟨_, hrv, _⟩ := jn r1 ht1 _ hm1 pt hp2
      cases hrv
  · obtain ⟨_, _, _, _, _, _, _, hv, _⟩ := hp
    cases hv
set_option maxRecDepth 8192 in
set_option maxHeartbeats 4000000 in
theorem law_move {l : Launch} (hst : l.stackTraces = false) {D : va_G} {K : zz_K} {Q : State → Prop} {h0 : zz_Hp} {ret : Option FieldType} {hs : List (Nat × Nat × Nat × Nat)} (C : zz_C K b_L_law "OverlayTreeLaw") (E : zz_En l D (zz_ac K) (zrm 2048 601024 7293034 84000) ret hs h0 K) {hc ht hm : zz_Hp} {t o oa sc N j : Nat} {S : Nat → Int32} {f : Nat → Int64} {th : Int32} (X : zz_sX K h0 sc N S) (hN : N ≤ 1536) (hj : 3 * j + 3 ≤ N) (L : lawW hc (zz_ac K) ht hm oa f) (J : jS (zz_ac K) t o ht hm th)
    (next : ∀ (hc' ht' hm' : zz_Hp) (f' : Nat → Int64) (th' : Int32), lawW hc' (zz_ac K) ht' hm' oa f' → jS (zz_ac K) t o ht' hm' th' → zz_Z K Q h0 hc' (38 + 820 * (j + 1)) (207600 + 8206 * (j + 1)) 787 [some (.ref sc), some (.ref t), some (.ref o), some (.ref oa), some (.int (nI (3 * j))), none, none] []) : zz_Z K Q h0 hc (38 + 820 * j) (207600 + 8206 * j) 267 [some (.ref sc), some (.ref t), some (.ref o), some (.ref oa), some (.int (nI (3 * j))), none, none] [] := by
  obtain ⟨x, hx⟩ : ∃ x, S (3 * j + 1) = x := ⟨_, rfl⟩
  obtain ⟨y, hy⟩ : ∃ y, S (3 * j + 2) = y := ⟨_, rfl⟩
  obtain ⟨pT, pM, fs, fo, CT, CM, htt, hmo, hX, hV, jn⟩ := op_move l hst D (zz_ac K) J x y
  refine zz_go C [(267, .aload_n 1), (268, .aload_n 0), (269, .iload 4), (271, .iconst 1), (272, .iadd)] (by decide +kernel) (pc' := 273) (lv' := [some (.ref sc), some (.ref t), some (.ref o), some (.ref oa), some (.int (nI (3 * j))), none, none]) (st' := [.int ((nI (3 * j)) + (nI 1)), .ref sc, .ref t]) rfl ?_
  rw [show nI (3 * j) + nI 1 = nI (3 * j + 1) from nI_add _ 1]
  refine zz_sld C X (by omega) (by omega) (by decide +kernel) ?_
  rw [hx]
  refine zz_go C [(274, .aload_n 0), (275, .iload 4), (277, .iconst 2), (278, .iadd)] (by decide +kernel) (pc' := 279) (lv' := [some (.ref sc), some (.ref t), some (.ref o), some (.ref oa), some (.int (nI (3 * j))), none, none]) (st' := [.int ((nI (3 * j)) + (nI 2)), .ref sc, .int x, .ref t]) rfl ?_
  rw [show nI (3 * j) + nI 2 = nI (3 * j + 2) from nI_add _ 2]
  refine zz_sld C X (by omega) (by omega) (by decide +kernel) ?_
  rw [hy]
  refine zz_cS C E (As := [.ref t, .int x, .int y]) (rest := []) (hc := hc) md_L_move (c_L_move l D (zz_ac K) hc ht t oa f x y CT htt L.1 L.2.2.1 L.2.2.2.1 hX hV) ml_L_82 sm_L_move (fun _ _ q => q) rfl rfl (Nat.le_of_ble_eq_true rfl) ⟨by decide, by decide⟩ ⟨by show 38 + 820 * j + 24 ≤ 601024; omega, by show 207600 + 8206 * j + 160 ≤ 7293034; omega⟩ (by decide +kernel) (fun v0 h1 hp hn hd => ?_) (fun v0 h1 hp hn hd => ?_)
  · rw [zz_mix_self hd]
    obtain ⟨r1, ht1, pt, F, hv⟩ := hp
    have L1 := L.treeA F
    cases hv
    show zz_Z _ _ _ _ _ _ _ _ [.int (cd2 "java/lang/IllegalArgumentException" "java/util/NoSuchElementException" r1)]
    refine zz_go C [(283, .istore 5), (285, .aload_n 2), (286, .aload_n 0), (287, .iload 4), (289, .iconst 1), (290, .iadd)] (by decide +kernel) (pc' := 291) (lv' := [some (.ref sc), some (.ref t), some (.ref o), some (.ref oa), some (.int (nI (3 * j))), some (.int (cd2 "java/lang/IllegalArgumentException" "java/util/NoSuchElementException" r1)), none]) (st' := [.int ((nI (3 * j)) + (nI 1)), .ref sc, .ref o]) rfl ?_
    rw [show nI (3 * j) + nI 1 = nI (3 * j + 1) from nI_add _ 1]
    refine zz_sld C X (by omega) (by omega) (by decide +kernel) ?_
    rw [hx]
    refine zz_go C [(292, .aload_n 0), (293, .iload 4), (295, .iconst 2), (296, .iadd)] (by decide +kernel) (pc' := 297) (lv' := [some (.ref sc), some (.ref t), some (.ref o), some (.ref oa), some (.int (nI (3 * j))), some (.int (cd2 "java/lang/IllegalArgumentException" "java/util/NoSuchElementException" r1)), none]) (st' := [.int ((nI (3 * j)) + (nI 2)), .ref sc, .int x, .ref o]) rfl ?_
    rw [show nI (3 * j) + nI 2 = nI (3 * j + 2) from nI_add _ 2]
    refine zz_sld C X (by omega) (by omega) (by decide +kernel) ?_
    rw [hy]
    refine zz_cV C E (ci := 3) (As := [.int x, .int y]) (rest := []) (hc := hm) md_O_move (CM) ml_L_85 im_O_move se_O_move rfl hmo (fun a e q => (L1.2.1 a e q).1) rfl rfl (Nat.le_of_ble_eq_true rfl) ⟨by decide, by decide⟩ ⟨by show 38 + 820 * j + 24 + 0 ≤ 601024; omega, by show 207600 + 8206 * j + 160 + 0 ≤ 7293034; omega⟩ (by decide +kernel) (fun v1 hm1 hp2 hn2 hd2 => ?_) (fun v1 hm1 hp2 hn2 hd2 => ?_)
    · obtain ⟨hrv, J2⟩ := jn r1 ht1 _ hm1 pt hp2
      cases hrv
      have L2 := L1.model hn2
      generalize zz_mix hm hm1 h1 = h2 at L2 ⊢
      show zz_Z _ _ _ _ _ _ _ _ []
      refine zz_go C [(301, .aload_n 2)] (by decide +kernel) (pc' := 302) (lv' := [some (.ref sc), some (.ref t), some (.ref o), some (.ref oa), some (.int (nI (3 * j))), some (.int (cd2 "java/lang/IllegalArgumentException" "java/util/NoSuchElementException" r1)), none]) (st' := [.ref o]) rfl ?_
      obtain ⟨la1, sa1, A1, ad1, n1, Ls1, M1, V1, vs1, sn1, sh1, W1, Wm1, R1⟩ := id J2
      refine zz_cV C E (ci := 3) (As := []) (rest := []) (hc := hm1) md_O_thrown (c_O_thrown l D (zz_ac K) hm1 o ad1 _ n1 M1 V1 vs1 sn1 sh1 Wm1) ml_L_71 im_O_thrown se_O_thrown rfl Wm1.ob (fun a e q => (L2.2.1 a e q).1) rfl rfl (Nat.le_of_ble_eq_true rfl) ⟨by decide, by decide⟩ ⟨by show 38 + 820 * j + 24 + 0 + 0 ≤ 601024; omega, by show 207600 + 8206 * j + 160 + 0 + 0 ≤ 7293034; omega⟩ (by decide +kernel) (fun v2 h3 hp3 hn3 hd3 => ?_) (fun v2 h3 hp3 hn3 hd3 => ?_)
      · obtain ⟨hh, hv3⟩ := hp3
        cases hv3
        rw [hh, mix_id (fun a e q => (L2.2.1 a e q).1)]
        show zz_Z _ _ _ _ _ _ _ _ [.int (cd2 "java/lang/IllegalArgumentException" "java/util/NoSuchElementException" r1)]
        refine zz_go C [(305, .iload 5)] (by decide +kernel) (pc' := 307) (lv' := [some (.ref sc), some (.ref t), some (.ref o), some (.ref oa), some (.int (nI (3 * j))), some (.int (cd2 "java/lang/IllegalArgumentException" "java/util/NoSuchElementException" r1)), none]) (st' := [.int (cd2 "java/lang/IllegalArgumentException" "java/util/NoSuchElementException" r1), .int (cd2 "java/lang/IllegalArgumentException" "java/util/NoSuchElementException" r1)]) rfl ?_
        refine zz_if C (i := .if_icmp .eq 5) (by decide +kernel) (Pt := (cd2 "java/lang/IllegalArgumentException" "java/util/NoSuchElementException" r1) = (cd2 "java/lang/IllegalArgumentException" "java/util/NoSuchElementException" r1)) (Pf := ¬ (cd2 "java/lang/IllegalArgumentException" "java/util/NoSuchElementException" r1) = (cd2 "java/lang/IllegalArgumentException" "java/util/NoSuchElementException" r1)) (off := 5) (r := []) (tgt := 312) rfl (by decide) (fun cT => ?_) (fun cT => ?_)
        · refine zz_go C [(312, .goto 475)] (by decide +kernel) (pc' := 787) (lv' := [some (.ref sc), some (.ref t), some (.ref o), some (.ref oa), some (.int (nI (3 * j))), some (.int (cd2 "java/lang/IllegalArgumentException" "java/util/NoSuchElementException" r1)), none]) (st' := []) rfl ?_
          exact zz_lv [some (.ref sc), some (.ref t), some (.ref o), some (.ref oa), some (.int (nI (3 * j))), none, none] (fun i u hu => by rcases i with _ | _ | _ | _ | _ | _ | _ | i <;> first | exact hu | cases hu) (Nat.le_of_ble_eq_true rfl) (zz_widen (k' := 38 + 820 * (j + 1)) (n' := 207600 + 8206 * (j + 1)) (by show 38 + 820 * j + 24 + 0 + 0 ≤ _; omega) (by show 207600 + 8206 * j + 160 + 0 + 0 ≤ _; omega) (next h2 ht1 hm1 f _ L2 J2))
        · exact absurd rfl cT
      · cases hp3.2
    · obtain ⟨hrv, _⟩ := jn r1 ht1 _ hm1 pt hp2
      cases hrv
  · obtain ⟨_, _, _, _, hv⟩ := hp
    cases hv
set_option maxRecDepth 8192 in
set_option maxHeartbeats 4000000 in
theorem law_layer {l : Launch} (hst : l.stackTraces = false) {D : va_G} {K : zz_K} {Q : State → Prop} {h0 : zz_Hp} {ret : Option FieldType} {hs : List (Nat × Nat × Nat × Nat)} (C : zz_C K b_L_law "OverlayTreeLaw") (E : zz_En l D (zz_ac K) (zrm 2048 601024 7293034 84000) ret hs h0 K) {hc ht hm : zz_Hp} {t o oa sc N j : Nat} {S : Nat → Int32} {f : Nat → Int64} {th : Int32} (X : zz_sX K h0 sc N S) (hN : N ≤ 1536) (hj : 3 * j + 3 ≤ N) (L : lawW hc (zz_ac K) ht hm oa f) (J : jS (zz_ac K) t o ht hm th)
    (next : ∀ (hc' ht' hm' : zz_Hp) (f' : Nat → Int64) (th' : Int32), lawW hc' (zz_ac K) ht' hm' oa f' → jS (zz_ac K) t o ht' hm' th' → zz_Z K Q h0 hc' (38 + 820 * (j + 1)) (207600 + 8206 * (j + 1)) 787 [some (.ref sc), some (.ref t), some (.ref o), some (.ref oa), some (.int (nI (3 * j))), none, none] []) : zz_Z K Q h0 hc (38 + 820 * j) (207600 + 8206 * j) 315 [some (.ref sc), some (.ref t), some (.ref o), some (.ref oa), some (.int (nI (3 * j))), none, none] [] := by
  obtain ⟨pT, pM, fs, fo, CT, CM, htt, hmo, hX, hV, jn⟩ := op_layer l hst D (zz_ac K) J 
  refine zz_go C [(315, .aload_n 1), (316, .aload_n 3)] (by decide +kernel) (pc' := 317) (lv' := [some (.ref sc), some (.ref t), some (.ref o), some (.ref oa), some (.int (nI (3 * j))), none, none]) (st' := [.ref oa, .ref t]) rfl ?_
  refine zz_cS C E (As := [.ref t, .ref oa]) (rest := []) (hc := hc) md_L_layer (c_L_layer l D (zz_ac K) hc ht t oa f  CT htt L.1 L.2.2.1 L.2.2.2.1 hX hV) ml_L_86 sm_L_layer (fun _ _ q => q) rfl rfl (Nat.le_of_ble_eq_true rfl) ⟨by decide, by decide⟩ ⟨by show 38 + 820 * j + 2 ≤ 601024; omega, by show 207600 + 8206 * j + 9 ≤ 7293034; omega⟩ (by decide +kernel) (fun v0 h1 hp hn hd => ?_) (fun v0 h1 hp hn hd => ?_)
  · rw [zz_mix_self hd]
    obtain ⟨r1, ht1, f1, pt, F, o1, o2, hv, hf⟩ := hp
    have L1 := L.tree F o1 o2
    cases hv
    show zz_Z _ _ _ _ _ _ _ _ [.int (cd2 "java/lang/UnsupportedOperationException" "" r1)]
    refine zz_go C [(320, .istore 5), (322, .aload_n 2)] (by decide +kernel) (pc' := 323) (lv' := [some (.ref sc), some (.ref t), some (.ref o), some (.ref oa), some (.int (nI (3 * j))), some (.int (cd2 "java/lang/UnsupportedOperationException" "" r1)), none]) (st' := [.ref o]) rfl ?_
    refine zz_cV C E (ci := 3) (As := []) (rest := []) (hc := hm) md_O_layer (CM) ml_L_89 im_O_layer se_O_layer rfl hmo (fun a e q => (L1.2.1 a e q).1) rfl rfl (Nat.le_of_ble_eq_true rfl) ⟨by decide, by decide⟩ ⟨by show 38 + 820 * j + 2 + 0 ≤ 601024; omega, by show 207600 + 8206 * j + 9 + 0 ≤ 7293034; omega⟩ (by decide +kernel) (fun v1 hm1 hp2 hn2 hd2 => ?_) (fun v1 hm1 hp2 hn2 hd2 => ?_)
    · obtain ⟨r0, hrv, J2, hans⟩ := jn r1 ht1 _ hm1 pt hp2
      cases hrv
      have L2 := L1.model hn2
      generalize zz_mix hm hm1 h1 = h2 at L2 ⊢
      show zz_Z _ _ _ _ _ _ _ _ [.int r0]
      refine zz_go C [(326, .istore 6), (328, .aload_n 2)] (by decide +kernel) (pc' := 329) (lv' := [some (.ref sc), some (.ref t), some (.ref o), some (.ref oa), some (.int (nI (3 * j))), some (.int (cd2 "java/lang/UnsupportedOperationException" "" r1)), some (.int r0)]) (st' := [.ref o]) rfl ?_
      obtain ⟨la1, sa1, A1, ad1, n1, Ls1, M1, V1, vs1, sn1, sh1, W1, Wm1, R1⟩ := id J2
      refine zz_cV C E (ci := 3) (As := []) (rest := []) (hc := hm1) md_O_thrown (c_O_thrown l D (zz_ac K) hm1 o ad1 _ n1 M1 V1 vs1 sn1 sh1 Wm1) ml_L_71 im_O_thrown se_O_thrown rfl Wm1.ob (fun a e q => (L2.2.1 a e q).1) rfl rfl (Nat.le_of_ble_eq_true rfl) ⟨by decide, by decide⟩ ⟨by show 38 + 820 * j + 2 + 0 + 0 ≤ 601024; omega, by show 207600 + 8206 * j + 9 + 0 + 0 ≤ 7293034; omega⟩ (by decide +kernel) (fun v2 h3 hp3 hn3 hd3 => ?_) (fun v2 h3 hp3 hn3 hd3 => ?_)
      · obtain ⟨hh, hv3⟩ := hp3
        cases hv3
        rw [hh, mix_id (fun a e q => (L2.2.1 a e q).1)]
        show zz_Z _ _ _ _ _ _ _ _ [.int (cd2 "java/lang/UnsupportedOperationException" "" r1)]
        refine zz_go C [(332, .iload 5)] (by decide +kernel) (pc' := 334) (lv' := [some (.ref sc), some (.ref t), some (.ref o), some (.ref oa), some (.int (nI (3 * j))), some (.int (cd2 "java/lang/UnsupportedOperationException" "" r1)), some (.int r0)]) (st' := [.int (cd2 "java/lang/UnsupportedOperationException" "" r1), .int (cd2 "java/lang/UnsupportedOperationException" "" r1)]) rfl ?_
        refine zz_if C (i := .if_icmp .eq 5) (by decide +kernel) (Pt := (cd2 "java/lang/UnsupportedOperationException" "" r1) = (cd2 "java/lang/UnsupportedOperationException" "" r1)) (Pf := ¬ (cd2 "java/lang/UnsupportedOperationException" "" r1) = (cd2 "java/lang/UnsupportedOperationException" "" r1)) (off := 5) (r := []) (tgt := 339) rfl (by decide) (fun cT => ?_) (fun cT => ?_)
        · refine zz_go C [(339, .iload 5)] (by decide +kernel) (pc' := 341) (lv' := [some (.ref sc), some (.ref t), some (.ref o), some (.ref oa), some (.int (nI (3 * j))), some (.int (cd2 "java/lang/UnsupportedOperationException" "" r1)), some (.int r0)]) (st' := [.int (cd2 "java/lang/UnsupportedOperationException" "" r1)]) rfl ?_
          refine zz_if C (i := .ifCond .ne 15) (by decide +kernel) (Pt := ¬ (cd2 "java/lang/UnsupportedOperationException" "" r1) = 0) (Pf := (cd2 "java/lang/UnsupportedOperationException" "" r1) = 0) (off := 15) (r := []) (tgt := 356) rfl (by decide) (fun cK => ?_) (fun cK => ?_)
          · refine zz_go C [(356, .goto 431)] (by decide +kernel) (pc' := 787) (lv' := [some (.ref sc), some (.ref t), some (.ref o), some (.ref oa), some (.int (nI (3 * j))), some (.int (cd2 "java/lang/UnsupportedOperationException" "" r1)), some (.int r0)]) (st' := []) rfl ?_
            exact zz_lv [some (.ref sc), some (.ref t), some (.ref o), some (.ref oa), some (.int (nI (3 * j))), none, none] (fun i u hu => by rcases i with _ | _ | _ | _ | _ | _ | _ | i <;> first | exact hu | cases hu) (Nat.le_of_ble_eq_true rfl) (zz_widen (k' := 38 + 820 * (j + 1)) (n' := 207600 + 8206 * (j + 1)) (by show 38 + 820 * j + 2 + 0 + 0 ≤ _; omega) (by show 207600 + 8206 * j + 9 + 0 + 0 ≤ _; omega) (next h2 ht1 hm1 f1 _ L2 J2))
          · obtain ⟨v9, rfl⟩ := cd2_0 cK
            obtain ⟨z, rfl⟩ := hV v9 ht1 pt
            have e1 := hf z rfl
            have e2 := hans z rfl
            refine zz_lv [some (.ref sc), some (.ref t), some (.ref o), some (.ref oa), some (.int (nI (3 * j))), none, some (.int r0)] (fun i u hu => by rcases i with _ | _ | _ | _ | _ | _ | _ | i <;> first | exact hu | cases hu) (Nat.le_of_ble_eq_true rfl) ?_
            refine zz_go C [(344, .aload_n 3), (345, .iconst 0)] (by decide +kernel) (pc' := 346) (lv' := [some (.ref sc), some (.ref t), some (.ref o), some (.ref oa), some (.int (nI (3 * j))), none, some (.int r0)]) (st' := [.int (nI 0), .ref oa]) rfl ?_
            refine zz_lald C 2 (fun _ => rfl) L2.2.2.1 vp_in0 (by decide +kernel) ?_
            rw [show (nI 0).toNatClampNeg = 0 by decide, e1]
            refine zz_go C [(347, .iload 6), (349, .i2l), (350, .lcmp)] (by decide +kernel) (pc' := 351) (lv' := [some (.ref sc), some (.ref t), some (.ref o), some (.ref oa), some (.int (nI (3 * j))), none, some (.int r0)]) (st' := [.int (lg_cmp z.toInt64 (Int32.toInt64 r0))]) rfl ?_
            refine zz_if C (i := .ifCond .eq 5) (by decide +kernel) (Pt := (lg_cmp z.toInt64 (Int32.toInt64 r0)) = 0) (Pf := ¬ (lg_cmp z.toInt64 (Int32.toInt64 r0)) = 0) (off := 5) (r := []) (tgt := 356) rfl (by decide) (fun cL => ?_) (fun cL => ?_)
            · refine zz_go C [(356, .goto 431)] (by decide +kernel) (pc' := 787) (lv' := [some (.ref sc), some (.ref t), some (.ref o), some (.ref oa), some (.int (nI (3 * j))), none, some (.int r0)]) (st' := []) rfl ?_
              exact zz_lv [some (.ref sc), some (.ref t), some (.ref o), some (.ref oa), some (.int (nI (3 * j))), none, none] (fun i u hu => by rcases i with _ | _ | _ | _ | _ | _ | _ | i <;> first | exact hu | cases hu) (Nat.le_of_ble_eq_true rfl) (zz_widen (k' := 38 + 820 * (j + 1)) (n' := 207600 + 8206 * (j + 1)) (by show 38 + 820 * j + 2 + 0 + 0 ≤ _; omega) (by show 207600 + 8206 * j + 9 + 0 + 0 ≤ _; omega) (next h2 ht1 hm1 f1 _ L2 J2))
            · exact absurd ((lg_cmp_eq _ _).mpr (by rw [e2])) cL
        · exact absurd rfl cT
      · cases hp3.2
    · obtain ⟨_, hrv, _⟩ := jn r1 ht1 _ hm1 pt hp2
      cases hrv
  · obtain ⟨_, _, _, _, _, _, _, hv, _⟩ := hp
    cases hv
set_option maxRecDepth 8192 in
set_option maxHeartbeats 4000000 in
theorem law_squash {l : Launch} (hst : l.stackTraces = false) {D : va_G} {K : zz_K} {Q : State → Prop} {h0 : zz_Hp} {ret : Option FieldType} {hs : List (Nat × Nat × Nat × Nat)} (C : zz_C K b_L_law "OverlayTreeLaw") (E : zz_En l D (zz_ac K) (zrm 2048 601024 7293034 84000) ret hs h0 K) {hc ht hm : zz_Hp} {t o oa sc N j : Nat} {S : Nat → Int32} {f : Nat → Int64} {th : Int32} (X : zz_sX K h0 sc N S) (hN : N ≤ 1536) (hj : 3 * j + 3 ≤ N) (L : lawW hc (zz_ac K) ht hm oa f) (J : jS (zz_ac K) t o ht hm th)
    (next : ∀ (hc' ht' hm' : zz_Hp) (f' : Nat → Int64) (th' : Int32), lawW hc' (zz_ac K) ht' hm' oa f' → jS (zz_ac K) t o ht' hm' th' → zz_Z K Q h0 hc' (38 + 820 * (j + 1)) (207600 + 8206 * (j + 1)) 787 [some (.ref sc), some (.ref t), some (.ref o), some (.ref oa), some (.int (nI (3 * j))), none, none] []) : zz_Z K Q h0 hc (38 + 820 * j) (207600 + 8206 * j) 359 [some (.ref sc), some (.ref t), some (.ref o), some (.ref oa), some (.int (nI (3 * j))), none, none] [] := by
  obtain ⟨x, hx⟩ : ∃ x, S (3 * j + 1) = x := ⟨_, rfl⟩
  obtain ⟨pT, pM, fs, fo, CT, CM, htt, hmo, hX, hV, jn⟩ := op_squash l hst D (zz_ac K) J x
  refine zz_go C [(359, .aload_n 1), (360, .aload_n 0), (361, .iload 4), (363, .iconst 1), (364, .iadd)] (by decide +kernel) (pc' := 365) (lv' := [some (.ref sc), some (.ref t), some (.ref o), some (.ref oa), some (.int (nI (3 * j))), none, none]) (st' := [.int ((nI (3 * j)) + (nI 1)), .ref sc, .ref t]) rfl ?_
  rw [show nI (3 * j) + nI 1 = nI (3 * j + 1) from nI_add _ 1]
  refine zz_sld C X (by omega) (by omega) (by decide +kernel) ?_
  rw [hx]
  refine zz_go C [(366, .aload_n 3)] (by decide +kernel) (pc' := 367) (lv' := [some (.ref sc), some (.ref t), some (.ref o), some (.ref oa), some (.int (nI (3 * j))), none, none]) (st' := [.ref oa, .int x, .ref t]) rfl ?_
  refine zz_cS C E (As := [.ref t, .int x, .ref oa]) (rest := []) (hc := hc) md_L_squash (c_L_squash l D (zz_ac K) hc ht t oa f x CT htt L.1 L.2.2.1 L.2.2.2.1 hX hV) ml_L_90 sm_L_squash (fun _ _ q => q) rfl rfl (Nat.le_of_ble_eq_true rfl) ⟨by decide, by decide⟩ ⟨by show 38 + 820 * j + 820 ≤ 601024; omega, by show 207600 + 8206 * j + 8206 ≤ 7293034; omega⟩ (by decide +kernel) (fun v0 h1 hp hn hd => ?_) (fun v0 h1 hp hn hd => ?_)
  · rw [zz_mix_self hd]
    obtain ⟨r1, ht1, f1, pt, F, o1, o2, hv, hf⟩ := hp
    have L1 := L.tree F o1 o2
    cases hv
    show zz_Z _ _ _ _ _ _ _ _ [.int (cd2 "java/lang/IndexOutOfBoundsException" "" r1)]
    refine zz_go C [(370, .istore 5), (372, .aload_n 2), (373, .aload_n 0), (374, .iload 4), (376, .iconst 1), (377, .iadd)] (by decide +kernel) (pc' := 378) (lv' := [some (.ref sc), some (.ref t), some (.ref o), some (.ref oa), some (.int (nI (3 * j))), some (.int (cd2 "java/lang/IndexOutOfBoundsException" "" r1)), none]) (st' := [.int ((nI (3 * j)) + (nI 1)), .ref sc, .ref o]) rfl ?_
    rw [show nI (3 * j) + nI 1 = nI (3 * j + 1) from nI_add _ 1]
    refine zz_sld C X (by omega) (by omega) (by decide +kernel) ?_
    rw [hx]
    refine zz_cV C E (ci := 3) (As := [.int x]) (rest := []) (hc := hm) md_O_squash (CM) ml_L_92 im_O_squash se_O_squash rfl hmo (fun a e q => (L1.2.1 a e q).1) rfl rfl (Nat.le_of_ble_eq_true rfl) ⟨by decide, by decide⟩ ⟨by show 38 + 820 * j + 820 + 0 ≤ 601024; omega, by show 207600 + 8206 * j + 8206 + 0 ≤ 7293034; omega⟩ (by decide +kernel) (fun v1 hm1 hp2 hn2 hd2 => ?_) (fun v1 hm1 hp2 hn2 hd2 => ?_)
    · obtain ⟨r0, hrv, J2, hans⟩ := jn r1 ht1 _ hm1 pt hp2
      cases hrv
      have L2 := L1.model hn2
      generalize zz_mix hm hm1 h1 = h2 at L2 ⊢
      show zz_Z _ _ _ _ _ _ _ _ [.int r0]
      refine zz_go C [(382, .istore 6), (384, .aload_n 2)] (by decide +kernel) (pc' := 385) (lv' := [some (.ref sc), some (.ref t), some (.ref o), some (.ref oa), some (.int (nI (3 * j))), some (.int (cd2 "java/lang/IndexOutOfBoundsException" "" r1)), some (.int r0)]) (st' := [.ref o]) rfl ?_
      obtain ⟨la1, sa1, A1, ad1, n1, Ls1, M1, V1, vs1, sn1, sh1, W1, Wm1, R1⟩ := id J2
      refine zz_cV C E (ci := 3) (As := []) (rest := []) (hc := hm1) md_O_thrown (c_O_thrown l D (zz_ac K) hm1 o ad1 _ n1 M1 V1 vs1 sn1 sh1 Wm1) ml_L_71 im_O_thrown se_O_thrown rfl Wm1.ob (fun a e q => (L2.2.1 a e q).1) rfl rfl (Nat.le_of_ble_eq_true rfl) ⟨by decide, by decide⟩ ⟨by show 38 + 820 * j + 820 + 0 + 0 ≤ 601024; omega, by show 207600 + 8206 * j + 8206 + 0 + 0 ≤ 7293034; omega⟩ (by decide +kernel) (fun v2 h3 hp3 hn3 hd3 => ?_) (fun v2 h3 hp3 hn3 hd3 => ?_)
      · obtain ⟨hh, hv3⟩ := hp3
        cases hv3
        rw [hh, mix_id (fun a e q => (L2.2.1 a e q).1)]
        show zz_Z _ _ _ _ _ _ _ _ [.int (cd2 "java/lang/IndexOutOfBoundsException" "" r1)]
        refine zz_go C [(388, .iload 5)] (by decide +kernel) (pc' := 390) (lv' := [some (.ref sc), some (.ref t), some (.ref o), some (.ref oa), some (.int (nI (3 * j))), some (.int (cd2 "java/lang/IndexOutOfBoundsException" "" r1)), some (.int r0)]) (st' := [.int (cd2 "java/lang/IndexOutOfBoundsException" "" r1), .int (cd2 "java/lang/IndexOutOfBoundsException" "" r1)]) rfl ?_
        refine zz_if C (i := .if_icmp .eq 5) (by decide +kernel) (Pt := (cd2 "java/lang/IndexOutOfBoundsException" "" r1) = (cd2 "java/lang/IndexOutOfBoundsException" "" r1)) (Pf := ¬ (cd2 "java/lang/IndexOutOfBoundsException" "" r1) = (cd2 "java/lang/IndexOutOfBoundsException" "" r1)) (off := 5) (r := []) (tgt := 395) rfl (by decide) (fun cT => ?_) (fun cT => ?_)
        · refine zz_go C [(395, .iload 5)] (by decide +kernel) (pc' := 397) (lv' := [some (.ref sc), some (.ref t), some (.ref o), some (.ref oa), some (.int (nI (3 * j))), some (.int (cd2 "java/lang/IndexOutOfBoundsException" "" r1)), some (.int r0)]) (st' := [.int (cd2 "java/lang/IndexOutOfBoundsException" "" r1)]) rfl ?_
          refine zz_if C (i := .ifCond .ne 15) (by decide +kernel) (Pt := ¬ (cd2 "java/lang/IndexOutOfBoundsException" "" r1) = 0) (Pf := (cd2 "java/lang/IndexOutOfBoundsException" "" r1) = 0) (off := 15) (r := []) (tgt := 412) rfl (by decide) (fun cK => ?_) (fun cK => ?_)
          · refine zz_go C [(412, .goto 375)] (by decide +kernel) (pc' := 787) (lv' := [some (.ref sc), some (.ref t), some (.ref o), some (.ref oa), some (.int (nI (3 * j))), some (.int (cd2 "java/lang/IndexOutOfBoundsException" "" r1)), some (.int r0)]) (st' := []) rfl ?_
            exact zz_lv [some (.ref sc), some (.ref t), some (.ref o), some (.ref oa), some (.int (nI (3 * j))), none, none] (fun i u hu => by rcases i with _ | _ | _ | _ | _ | _ | _ | i <;> first | exact hu | cases hu) (Nat.le_of_ble_eq_true rfl) (zz_widen (k' := 38 + 820 * (j + 1)) (n' := 207600 + 8206 * (j + 1)) (by show 38 + 820 * j + 820 + 0 + 0 ≤ _; omega) (by show 207600 + 8206 * j + 8206 + 0 + 0 ≤ _; omega) (next h2 ht1 hm1 f1 _ L2 J2))
          · obtain ⟨v9, rfl⟩ := cd2_0 cK
            obtain ⟨z, rfl⟩ := hV v9 ht1 pt
            have e1 := hf z rfl
            have e2 := hans z rfl
            refine zz_lv [some (.ref sc), some (.ref t), some (.ref o), some (.ref oa), some (.int (nI (3 * j))), none, some (.int r0)] (fun i u hu => by rcases i with _ | _ | _ | _ | _ | _ | _ | i <;> first | exact hu | cases hu) (Nat.le_of_ble_eq_true rfl) ?_
            refine zz_go C [(400, .aload_n 3), (401, .iconst 0)] (by decide +kernel) (pc' := 402) (lv' := [some (.ref sc), some (.ref t), some (.ref o), some (.ref oa), some (.int (nI (3 * j))), none, some (.int r0)]) (st' := [.int (nI 0), .ref oa]) rfl ?_
            refine zz_lald C 2 (fun _ => rfl) L2.2.2.1 vp_in0 (by decide +kernel) ?_
            rw [show (nI 0).toNatClampNeg = 0 by decide, e1]
            refine zz_go C [(403, .iload 6), (405, .i2l), (406, .lcmp)] (by decide +kernel) (pc' := 407) (lv' := [some (.ref sc), some (.ref t), some (.ref o), some (.ref oa), some (.int (nI (3 * j))), none, some (.int r0)]) (st' := [.int (lg_cmp z.toInt64 (Int32.toInt64 r0))]) rfl ?_
            refine zz_if C (i := .ifCond .eq 5) (by decide +kernel) (Pt := (lg_cmp z.toInt64 (Int32.toInt64 r0)) = 0) (Pf := ¬ (lg_cmp z.toInt64 (Int32.toInt64 r0)) = 0) (off := 5) (r := []) (tgt := 412) rfl (by decide) (fun cL => ?_) (fun cL => ?_)
            · refine zz_go C [(412, .goto 375)] (by decide +kernel) (pc' := 787) (lv' := [some (.ref sc), some (.ref t), some (.ref o), some (.ref oa), some (.int (nI (3 * j))), none, some (.int r0)]) (st' := []) rfl ?_
              exact zz_lv [some (.ref sc), some (.ref t), some (.ref o), some (.ref oa), some (.int (nI (3 * j))), none, none] (fun i u hu => by rcases i with _ | _ | _ | _ | _ | _ | _ | i <;> first | exact hu | cases hu) (Nat.le_of_ble_eq_true rfl) (zz_widen (k' := 38 + 820 * (j + 1)) (n' := 207600 + 8206 * (j + 1)) (by show 38 + 820 * j + 820 + 0 + 0 ≤ _; omega) (by show 207600 + 8206 * j + 8206 + 0 + 0 ≤ _; omega) (next h2 ht1 hm1 f1 _ L2 J2))
            · exact absurd ((lg_cmp_eq _ _).mpr (by rw [e2])) cL
        · exact absurd rfl cT
      · cases hp3.2
    · obtain ⟨_, hrv, _⟩ := jn r1 ht1 _ hm1 pt hp2
      cases hrv
  · obtain ⟨_, _, _, _, _, _, _, hv, _⟩ := hp
    cases hv
set_option maxRecDepth 8192 in
set_option maxHeartbeats 4000000 in
theorem law_drop {l : Launch} (hst : l.stackTraces = false) {D : va_G} {K : zz_K} {Q : State → Prop} {h0 : zz_Hp} {ret : Option FieldType} {hs : List (Nat × Nat × Nat × Nat)} (C : zz_C K b_L_law "OverlayTreeLaw") (E : zz_En l D (zz_ac K) (zrm 2048 601024 7293034 84000) ret hs h0 K) {hc ht hm : zz_Hp} {t o oa sc N j : Nat} {S : Nat → Int32} {f : Nat → Int64} {th : Int32} (X : zz_sX K h0 sc N S) (hN : N ≤ 1536) (hj : 3 * j + 3 ≤ N) (L : lawW hc (zz_ac K) ht hm oa f) (J : jS (zz_ac K) t o ht hm th)
    (next : ∀ (hc' ht' hm' : zz_Hp) (f' : Nat → Int64) (th' : Int32), lawW hc' (zz_ac K) ht' hm' oa f' → jS (zz_ac K) t o ht' hm' th' → zz_Z K Q h0 hc' (38 + 820 * (j + 1)) (207600 + 8206 * (j + 1)) 787 [some (.ref sc), some (.ref t), some (.ref o), some (.ref oa), some (.int (nI (3 * j))), none, none] []) : zz_Z K Q h0 hc (38 + 820 * j) (207600 + 8206 * j) 415 [some (.ref sc), some (.ref t), some (.ref o), some (.ref oa), some (.int (nI (3 * j))), none, none] [] := by
  obtain ⟨pT, pM, fs, fo, CT, CM, htt, hmo, hX, hV, jn⟩ := op_drop l hst D (zz_ac K) J 
  refine zz_go C [(415, .aload_n 1), (416, .aload_n 3)] (by decide +kernel) (pc' := 417) (lv' := [some (.ref sc), some (.ref t), some (.ref o), some (.ref oa), some (.int (nI (3 * j))), none, none]) (st' := [.ref oa, .ref t]) rfl ?_
  refine zz_cS C E (As := [.ref t, .ref oa]) (rest := []) (hc := hc) md_L_drop (c_L_drop l D (zz_ac K) hc ht t oa f  CT htt L.1 L.2.2.1 L.2.2.2.1 hX hV) ml_L_93 sm_L_drop (fun _ _ q => q) rfl rfl (Nat.le_of_ble_eq_true rfl) ⟨by decide, by decide⟩ ⟨by show 38 + 820 * j + 1 ≤ 601024; omega, by show 207600 + 8206 * j + 6 ≤ 7293034; omega⟩ (by decide +kernel) (fun v0 h1 hp hn hd => ?_) (fun v0 h1 hp hn hd => ?_)
  · rw [zz_mix_self hd]
    obtain ⟨r1, ht1, f1, pt, F, o1, o2, hv, hf⟩ := hp
    have L1 := L.tree F o1 o2
    cases hv
    show zz_Z _ _ _ _ _ _ _ _ [.int (cd2 "java/lang/UnsupportedOperationException" "" r1)]
    refine zz_go C [(420, .istore 5), (422, .aload_n 2)] (by decide +kernel) (pc' := 423) (lv' := [some (.ref sc), some (.ref t), some (.ref o), some (.ref oa), some (.int (nI (3 * j))), some (.int (cd2 "java/lang/UnsupportedOperationException" "" r1)), none]) (st' := [.ref o]) rfl ?_
    refine zz_cV C E (ci := 3) (As := []) (rest := []) (hc := hm) md_O_drop (CM) ml_L_95 im_O_drop se_O_drop rfl hmo (fun a e q => (L1.2.1 a e q).1) rfl rfl (Nat.le_of_ble_eq_true rfl) ⟨by decide, by decide⟩ ⟨by show 38 + 820 * j + 1 + 0 ≤ 601024; omega, by show 207600 + 8206 * j + 6 + 0 ≤ 7293034; omega⟩ (by decide +kernel) (fun v1 hm1 hp2 hn2 hd2 => ?_) (fun v1 hm1 hp2 hn2 hd2 => ?_)
    · obtain ⟨r0, hrv, J2, hans⟩ := jn r1 ht1 _ hm1 pt hp2
      cases hrv
      have L2 := L1.model hn2
      generalize zz_mix hm hm1 h1 = h2 at L2 ⊢
      show zz_Z _ _ _ _ _ _ _ _ [.int r0]
      refine zz_go C [(426, .istore 6), (428, .aload_n 2)] (by decide +kernel) (pc' := 429) (lv' := [some (.ref sc), some (.ref t), some (.ref o), some (.ref oa), some (.int (nI (3 * j))), some (.int (cd2 "java/lang/UnsupportedOperationException" "" r1)), some (.int r0)]) (st' := [.ref o]) rfl ?_
      obtain ⟨la1, sa1, A1, ad1, n1, Ls1, M1, V1, vs1, sn1, sh1, W1, Wm1, R1⟩ := id J2
      refine zz_cV C E (ci := 3) (As := []) (rest := []) (hc := hm1) md_O_thrown (c_O_thrown l D (zz_ac K) hm1 o ad1 _ n1 M1 V1 vs1 sn1 sh1 Wm1) ml_L_71 im_O_thrown se_O_thrown rfl Wm1.ob (fun a e q => (L2.2.1 a e q).1) rfl rfl (Nat.le_of_ble_eq_true rfl) ⟨by decide, by decide⟩ ⟨by show 38 + 820 * j + 1 + 0 + 0 ≤ 601024; omega, by show 207600 + 8206 * j + 6 + 0 + 0 ≤ 7293034; omega⟩ (by decide +kernel) (fun v2 h3 hp3 hn3 hd3 => ?_) (fun v2 h3 hp3 hn3 hd3 => ?_)
      · obtain ⟨hh, hv3⟩ := hp3
        cases hv3
        rw [hh, mix_id (fun a e q => (L2.2.1 a e q).1)]
        show zz_Z _ _ _ _ _ _ _ _ [.int (cd2 "java/lang/UnsupportedOperationException" "" r1)]
        refine zz_go C [(432, .iload 5)] (by decide +kernel) (pc' := 434) (lv' := [some (.ref sc), some (.ref t), some (.ref o), some (.ref oa), some (.int (nI (3 * j))), some (.int (cd2 "java/lang/UnsupportedOperationException" "" r1)), some (.int r0)]) (st' := [.int (cd2 "java/lang/UnsupportedOperationException" "" r1), .int (cd2 "java/lang/UnsupportedOperationException" "" r1)]) rfl ?_
        refine zz_if C (i := .if_icmp .eq 5) (by decide +kernel) (Pt := (cd2 "java/lang/UnsupportedOperationException" "" r1) = (cd2 "java/lang/UnsupportedOperationException" "" r1)) (Pf := ¬ (cd2 "java/lang/UnsupportedOperationException" "" r1) = (cd2 "java/lang/UnsupportedOperationException" "" r1)) (off := 5) (r := []) (tgt := 439) rfl (by decide) (fun cT => ?_) (fun cT => ?_)
        · refine zz_go C [(439, .iload 5)] (by decide +kernel) (pc' := 441) (lv' := [some (.ref sc), some (.ref t), some (.ref o), some (.ref oa), some (.int (nI (3 * j))), some (.int (cd2 "java/lang/UnsupportedOperationException" "" r1)), some (.int r0)]) (st' := [.int (cd2 "java/lang/UnsupportedOperationException" "" r1)]) rfl ?_
          refine zz_if C (i := .ifCond .ne 15) (by decide +kernel) (Pt := ¬ (cd2 "java/lang/UnsupportedOperationException" "" r1) = 0) (Pf := (cd2 "java/lang/UnsupportedOperationException" "" r1) = 0) (off := 15) (r := []) (tgt := 456) rfl (by decide) (fun cK => ?_) (fun cK => ?_)
          · refine zz_go C [(456, .goto 331)] (by decide +kernel) (pc' := 787) (lv' := [some (.ref sc), some (.ref t), some (.ref o), some (.ref oa), some (.int (nI (3 * j))), some (.int (cd2 "java/lang/UnsupportedOperationException" "" r1)), some (.int r0)]) (st' := []) rfl ?_
            exact zz_lv [some (.ref sc), some (.ref t), some (.ref o), some (.ref oa), some (.int (nI (3 * j))), none, none] (fun i u hu => by rcases i with _ | _ | _ | _ | _ | _ | _ | i <;> first | exact hu | cases hu) (Nat.le_of_ble_eq_true rfl) (zz_widen (k' := 38 + 820 * (j + 1)) (n' := 207600 + 8206 * (j + 1)) (by show 38 + 820 * j + 1 + 0 + 0 ≤ _; omega) (by show 207600 + 8206 * j + 6 + 0 + 0 ≤ _; omega) (next h2 ht1 hm1 f1 _ L2 J2))
          · obtain ⟨v9, rfl⟩ := cd2_0 cK
            obtain ⟨z, rfl⟩ := hV v9 ht1 pt
            have e1 := hf z rfl
            have e2 := hans z rfl
            refine zz_lv [some (.ref sc), some (.ref t), some (.ref o), some (.ref oa), some (.int (nI (3 * j))), none, some (.int r0)] (fun i u hu => by rcases i with _ | _ | _ | _ | _ | _ | _ | i <;> first | exact hu | cases hu) (Nat.le_of_ble_eq_true rfl) ?_
            refine zz_go C [(444, .aload_n 3), (445, .iconst 0)] (by decide +kernel) (pc' := 446) (lv' := [some (.ref sc), some (.ref t), some (.ref o), some (.ref oa), some (.int (nI (3 * j))), none, some (.int r0)]) (st' := [.int (nI 0), .ref oa]) rfl ?_
            refine zz_lald C 2 (fun _ => rfl) L2.2.2.1 vp_in0 (by decide +kernel) ?_
            rw [show (nI 0).toNatClampNeg = 0 by decide, e1]
            refine zz_go C [(447, .iload 6), (449, .i2l), (450, .lcmp)] (by decide +kernel) (pc' := 451) (lv' := [some (.ref sc), some (.ref t), some (.ref o), some (.ref oa), some (.int (nI (3 * j))), none, some (.int r0)]) (st' := [.int (lg_cmp z.toInt64 (Int32.toInt64 r0))]) rfl ?_
            refine zz_if C (i := .ifCond .eq 5) (by decide +kernel) (Pt := (lg_cmp z.toInt64 (Int32.toInt64 r0)) = 0) (Pf := ¬ (lg_cmp z.toInt64 (Int32.toInt64 r0)) = 0) (off := 5) (r := []) (tgt := 456) rfl (by decide) (fun cL => ?_) (fun cL => ?_)
            · refine zz_go C [(456, .goto 331)] (by decide +kernel) (pc' := 787) (lv' := [some (.ref sc), some (.ref t), some (.ref o), some (.ref oa), some (.int (nI (3 * j))), none, some (.int r0)]) (st' := []) rfl ?_
              exact zz_lv [some (.ref sc), some (.ref t), some (.ref o), some (.ref oa), some (.int (nI (3 * j))), none, none] (fun i u hu => by rcases i with _ | _ | _ | _ | _ | _ | _ | i <;> first | exact hu | cases hu) (Nat.le_of_ble_eq_true rfl) (zz_widen (k' := 38 + 820 * (j + 1)) (n' := 207600 + 8206 * (j + 1)) (by show 38 + 820 * j + 1 + 0 + 0 ≤ _; omega) (by show 207600 + 8206 * j + 6 + 0 + 0 ≤ _; omega) (next h2 ht1 hm1 f1 _ L2 J2))
            · exact absurd ((lg_cmp_eq _ _).mpr (by rw [e2])) cL
        · exact absurd rfl cT
      · cases hp3.2
    · obtain ⟨_, hrv, _⟩ := jn r1 ht1 _ hm1 pt hp2
      cases hrv
  · obtain ⟨_, _, _, _, _, _, _, hv, _⟩ := hp
    cases hv
set_option maxRecDepth 8192 in
set_option maxHeartbeats 4000000 in
theorem law_kind {l : Launch} (hst : l.stackTraces = false) {D : va_G} {K : zz_K} {Q : State → Prop} {h0 : zz_Hp} {ret : Option FieldType} {hs : List (Nat × Nat × Nat × Nat)} (C : zz_C K b_L_law "OverlayTreeLaw") (E : zz_En l D (zz_ac K) (zrm 2048 601024 7293034 84000) ret hs h0 K) {hc ht hm : zz_Hp} {t o oa sc N j : Nat} {S : Nat → Int32} {f : Nat → Int64} {th : Int32} (X : zz_sX K h0 sc N S) (hN : N ≤ 1536) (hj : 3 * j + 3 ≤ N) (L : lawW hc (zz_ac K) ht hm oa f) (J : jS (zz_ac K) t o ht hm th)
    (next : ∀ (hc' ht' hm' : zz_Hp) (f' : Nat → Int64) (th' : Int32), lawW hc' (zz_ac K) ht' hm' oa f' → jS (zz_ac K) t o ht' hm' th' → zz_Z K Q h0 hc' (38 + 820 * (j + 1)) (207600 + 8206 * (j + 1)) 787 [some (.ref sc), some (.ref t), some (.ref o), some (.ref oa), some (.int (nI (3 * j))), none, none] []) : zz_Z K Q h0 hc (38 + 820 * j) (207600 + 8206 * j) 459 [some (.ref sc), some (.ref t), some (.ref o), some (.ref oa), some (.int (nI (3 * j))), none, none] [] := by
  obtain ⟨x, hx⟩ : ∃ x, S (3 * j + 1) = x := ⟨_, rfl⟩
  obtain ⟨y, hy⟩ : ∃ y, S (3 * j + 2) = y := ⟨_, rfl⟩
  obtain ⟨pT, pM, fs, fo, CT, CM, htt, hmo, hX, hV, jn⟩ := op_kind l hst D (zz_ac K) J x y
  refine zz_go C [(459, .aload_n 1), (460, .aload_n 0), (461, .iload 4), (463, .iconst 1), (464, .iadd)] (by decide +kernel) (pc' := 465) (lv' := [some (.ref sc), some (.ref t), some (.ref o), some (.ref oa), some (.int (nI (3 * j))), none, none]) (st' := [.int ((nI (3 * j)) + (nI 1)), .ref sc, .ref t]) rfl ?_
  rw [show nI (3 * j) + nI 1 = nI (3 * j + 1) from nI_add _ 1]
  refine zz_sld C X (by omega) (by omega) (by decide +kernel) ?_
  rw [hx]
  refine zz_go C [(466, .aload_n 0), (467, .iload 4), (469, .iconst 2), (470, .iadd)] (by decide +kernel) (pc' := 471) (lv' := [some (.ref sc), some (.ref t), some (.ref o), some (.ref oa), some (.int (nI (3 * j))), none, none]) (st' := [.int ((nI (3 * j)) + (nI 2)), .ref sc, .int x, .ref t]) rfl ?_
  rw [show nI (3 * j) + nI 2 = nI (3 * j + 2) from nI_add _ 2]
  refine zz_sld C X (by omega) (by omega) (by decide +kernel) ?_
  rw [hy]
  refine zz_go C [(472, .aload_n 3)] (by decide +kernel) (pc' := 473) (lv' := [some (.ref sc), some (.ref t), some (.ref o), some (.ref oa), some (.int (nI (3 * j))), none, none]) (st' := [.ref oa, .int y, .int x, .ref t]) rfl ?_
  refine zz_cS C E (As := [.ref t, .int x, .int y, .ref oa]) (rest := []) (hc := hc) md_L_kind (c_L_kind l D (zz_ac K) hc ht t oa f x y CT htt L.1 L.2.2.1 L.2.2.2.1 hX hV) ml_L_96 sm_L_kind (fun _ _ q => q) rfl rfl (Nat.le_of_ble_eq_true rfl) ⟨by decide, by decide⟩ ⟨by show 38 + 820 * j + 2 ≤ 601024; omega, by show 207600 + 8206 * j + 12 ≤ 7293034; omega⟩ (by decide +kernel) (fun v0 h1 hp hn hd => ?_) (fun v0 h1 hp hn hd => ?_)
  · rw [zz_mix_self hd]
    obtain ⟨r1, ht1, f1, pt, F, o1, o2, hv, hf⟩ := hp
    have L1 := L.tree F o1 o2
    cases hv
    show zz_Z _ _ _ _ _ _ _ _ [.int (cd2 "java/lang/IllegalArgumentException" "" r1)]
    refine zz_go C [(476, .istore 5), (478, .aload_n 2), (479, .aload_n 0), (480, .iload 4), (482, .iconst 1), (483, .iadd)] (by decide +kernel) (pc' := 484) (lv' := [some (.ref sc), some (.ref t), some (.ref o), some (.ref oa), some (.int (nI (3 * j))), some (.int (cd2 "java/lang/IllegalArgumentException" "" r1)), none]) (st' := [.int ((nI (3 * j)) + (nI 1)), .ref sc, .ref o]) rfl ?_
    rw [show nI (3 * j) + nI 1 = nI (3 * j + 1) from nI_add _ 1]
    refine zz_sld C X (by omega) (by omega) (by decide +kernel) ?_
    rw [hx]
    refine zz_go C [(485, .aload_n 0), (486, .iload 4), (488, .iconst 2), (489, .iadd)] (by decide +kernel) (pc' := 490) (lv' := [some (.ref sc), some (.ref t), some (.ref o), some (.ref oa), some (.int (nI (3 * j))), some (.int (cd2 "java/lang/IllegalArgumentException" "" r1)), none]) (st' := [.int ((nI (3 * j)) + (nI 2)), .ref sc, .int x, .ref o]) rfl ?_
    rw [show nI (3 * j) + nI 2 = nI (3 * j + 2) from nI_add _ 2]
    refine zz_sld C X (by omega) (by omega) (by decide +kernel) ?_
    rw [hy]
    refine zz_cV C E (ci := 3) (As := [.int x, .int y]) (rest := []) (hc := hm) md_O_kind (CM) ml_L_98 im_O_kind se_O_kind rfl hmo (fun a e q => (L1.2.1 a e q).1) rfl rfl (Nat.le_of_ble_eq_true rfl) ⟨by decide, by decide⟩ ⟨by show 38 + 820 * j + 2 + 0 ≤ 601024; omega, by show 207600 + 8206 * j + 12 + 0 ≤ 7293034; omega⟩ (by decide +kernel) (fun v1 hm1 hp2 hn2 hd2 => ?_) (fun v1 hm1 hp2 hn2 hd2 => ?_)
    · obtain ⟨r0, hrv, J2, hans⟩ := jn r1 ht1 _ hm1 pt hp2
      cases hrv
      have L2 := L1.model hn2
      generalize zz_mix hm hm1 h1 = h2 at L2 ⊢
      show zz_Z _ _ _ _ _ _ _ _ [.int r0]
      refine zz_go C [(494, .istore 6), (496, .aload_n 2)] (by decide +kernel) (pc' := 497) (lv' := [some (.ref sc), some (.ref t), some (.ref o), some (.ref oa), some (.int (nI (3 * j))), some (.int (cd2 "java/lang/IllegalArgumentException" "" r1)), some (.int r0)]) (st' := [.ref o]) rfl ?_
      obtain ⟨la1, sa1, A1, ad1, n1, Ls1, M1, V1, vs1, sn1, sh1, W1, Wm1, R1⟩ := id J2
      refine zz_cV C E (ci := 3) (As := []) (rest := []) (hc := hm1) md_O_thrown (c_O_thrown l D (zz_ac K) hm1 o ad1 _ n1 M1 V1 vs1 sn1 sh1 Wm1) ml_L_71 im_O_thrown se_O_thrown rfl Wm1.ob (fun a e q => (L2.2.1 a e q).1) rfl rfl (Nat.le_of_ble_eq_true rfl) ⟨by decide, by decide⟩ ⟨by show 38 + 820 * j + 2 + 0 + 0 ≤ 601024; omega, by show 207600 + 8206 * j + 12 + 0 + 0 ≤ 7293034; omega⟩ (by decide +kernel) (fun v2 h3 hp3 hn3 hd3 => ?_) (fun v2 h3 hp3 hn3 hd3 => ?_)
      · obtain ⟨hh, hv3⟩ := hp3
        cases hv3
        rw [hh, mix_id (fun a e q => (L2.2.1 a e q).1)]
        show zz_Z _ _ _ _ _ _ _ _ [.int (cd2 "java/lang/IllegalArgumentException" "" r1)]
        refine zz_go C [(500, .iload 5)] (by decide +kernel) (pc' := 502) (lv' := [some (.ref sc), some (.ref t), some (.ref o), some (.ref oa), some (.int (nI (3 * j))), some (.int (cd2 "java/lang/IllegalArgumentException" "" r1)), some (.int r0)]) (st' := [.int (cd2 "java/lang/IllegalArgumentException" "" r1), .int (cd2 "java/lang/IllegalArgumentException" "" r1)]) rfl ?_
        refine zz_if C (i := .if_icmp .eq 5) (by decide +kernel) (Pt := (cd2 "java/lang/IllegalArgumentException" "" r1) = (cd2 "java/lang/IllegalArgumentException" "" r1)) (Pf := ¬ (cd2 "java/lang/IllegalArgumentException" "" r1) = (cd2 "java/lang/IllegalArgumentException" "" r1)) (off := 5) (r := []) (tgt := 507) rfl (by decide) (fun cT => ?_) (fun cT => ?_)
        · refine zz_go C [(507, .iload 5)] (by decide +kernel) (pc' := 509) (lv' := [some (.ref sc), some (.ref t), some (.ref o), some (.ref oa), some (.int (nI (3 * j))), some (.int (cd2 "java/lang/IllegalArgumentException" "" r1)), some (.int r0)]) (st' := [.int (cd2 "java/lang/IllegalArgumentException" "" r1)]) rfl ?_
          refine zz_if C (i := .ifCond .ne 15) (by decide +kernel) (Pt := ¬ (cd2 "java/lang/IllegalArgumentException" "" r1) = 0) (Pf := (cd2 "java/lang/IllegalArgumentException" "" r1) = 0) (off := 15) (r := []) (tgt := 524) rfl (by decide) (fun cK => ?_) (fun cK => ?_)
          · refine zz_go C [(524, .goto 263)] (by decide +kernel) (pc' := 787) (lv' := [some (.ref sc), some (.ref t), some (.ref o), some (.ref oa), some (.int (nI (3 * j))), some (.int (cd2 "java/lang/IllegalArgumentException" "" r1)), some (.int r0)]) (st' := []) rfl ?_
            exact zz_lv [some (.ref sc), some (.ref t), some (.ref o), some (.ref oa), some (.int (nI (3 * j))), none, none] (fun i u hu => by rcases i with _ | _ | _ | _ | _ | _ | _ | i <;> first | exact hu | cases hu) (Nat.le_of_ble_eq_true rfl) (zz_widen (k' := 38 + 820 * (j + 1)) (n' := 207600 + 8206 * (j + 1)) (by show 38 + 820 * j + 2 + 0 + 0 ≤ _; omega) (by show 207600 + 8206 * j + 12 + 0 + 0 ≤ _; omega) (next h2 ht1 hm1 f1 _ L2 J2))
          · obtain ⟨v9, rfl⟩ := cd2_0 cK
            obtain ⟨z, rfl⟩ := hV v9 ht1 pt
            have e1 := hf z rfl
            have e2 := hans z rfl
            refine zz_lv [some (.ref sc), some (.ref t), some (.ref o), some (.ref oa), some (.int (nI (3 * j))), none, some (.int r0)] (fun i u hu => by rcases i with _ | _ | _ | _ | _ | _ | _ | i <;> first | exact hu | cases hu) (Nat.le_of_ble_eq_true rfl) ?_
            refine zz_go C [(512, .aload_n 3), (513, .iconst 0)] (by decide +kernel) (pc' := 514) (lv' := [some (.ref sc), some (.ref t), some (.ref o), some (.ref oa), some (.int (nI (3 * j))), none, some (.int r0)]) (st' := [.int (nI 0), .ref oa]) rfl ?_
            refine zz_lald C 2 (fun _ => rfl) L2.2.2.1 vp_in0 (by decide +kernel) ?_
            rw [show (nI 0).toNatClampNeg = 0 by decide, e1]
            refine zz_go C [(515, .iload 6), (517, .i2l), (518, .lcmp)] (by decide +kernel) (pc' := 519) (lv' := [some (.ref sc), some (.ref t), some (.ref o), some (.ref oa), some (.int (nI (3 * j))), none, some (.int r0)]) (st' := [.int (lg_cmp z.toInt64 (Int32.toInt64 r0))]) rfl ?_
            refine zz_if C (i := .ifCond .eq 5) (by decide +kernel) (Pt := (lg_cmp z.toInt64 (Int32.toInt64 r0)) = 0) (Pf := ¬ (lg_cmp z.toInt64 (Int32.toInt64 r0)) = 0) (off := 5) (r := []) (tgt := 524) rfl (by decide) (fun cL => ?_) (fun cL => ?_)
            · refine zz_go C [(524, .goto 263)] (by decide +kernel) (pc' := 787) (lv' := [some (.ref sc), some (.ref t), some (.ref o), some (.ref oa), some (.int (nI (3 * j))), none, some (.int r0)]) (st' := []) rfl ?_
              exact zz_lv [some (.ref sc), some (.ref t), some (.ref o), some (.ref oa), some (.int (nI (3 * j))), none, none] (fun i u hu => by rcases i with _ | _ | _ | _ | _ | _ | _ | i <;> first | exact hu | cases hu) (Nat.le_of_ble_eq_true rfl) (zz_widen (k' := 38 + 820 * (j + 1)) (n' := 207600 + 8206 * (j + 1)) (by show 38 + 820 * j + 2 + 0 + 0 ≤ _; omega) (by show 207600 + 8206 * j + 12 + 0 + 0 ≤ _; omega) (next h2 ht1 hm1 f1 _ L2 J2))
            · exact absurd ((lg_cmp_eq _ _).mpr (by rw [e2])) cL
        · exact absurd rfl cT
      · cases hp3.2
    · obtain ⟨_, hrv, _⟩ := jn r1 ht1 _ hm1 pt hp2
      cases hrv
  · obtain ⟨_, _, _, _, _, _, _, hv, _⟩ := hp
    cases hv
set_option maxRecDepth 8192 in
set_option maxHeartbeats 4000000 in
theorem law_value {l : Launch} (hst : l.stackTraces = false) {D : va_G} {K : zz_K} {Q : State → Prop} {h0 : zz_Hp} {ret : Option FieldType} {hs : List (Nat × Nat × Nat × Nat)} (C : zz_C K b_L_law "OverlayTreeLaw") (E : zz_En l D (zz_ac K) (zrm 2048 601024 7293034 84000) ret hs h0 K) {hc ht hm : zz_Hp} {t o oa sc N j : Nat} {S : Nat → Int32} {f : Nat → Int64} {th : Int32} (X : zz_sX K h0 sc N S) (hN : N ≤ 1536) (hj : 3 * j + 3 ≤ N) (L : lawW hc (zz_ac K) ht hm oa f) (J : jS (zz_ac K) t o ht hm th)
    (next : ∀ (hc' ht' hm' : zz_Hp) (f' : Nat → Int64) (th' : Int32), lawW hc' (zz_ac K) ht' hm' oa f' → jS (zz_ac K) t o ht' hm' th' → zz_Z K Q h0 hc' (38 + 820 * (j + 1)) (207600 + 8206 * (j + 1)) 787 [some (.ref sc), some (.ref t), some (.ref o), some (.ref oa), some (.int (nI (3 * j))), none, none] []) : zz_Z K Q h0 hc (38 + 820 * j) (207600 + 8206 * j) 527 [some (.ref sc), some (.ref t), some (.ref o), some (.ref oa), some (.int (nI (3 * j))), none, none] [] := by
  obtain ⟨x, hx⟩ : ∃ x, S (3 * j + 1) = x := ⟨_, rfl⟩
  obtain ⟨y, hy⟩ : ∃ y, S (3 * j + 2) = y := ⟨_, rfl⟩
  obtain ⟨pT, pM, fs, fo, CT, CM, htt, hmo, hX, hV, jn⟩ := op_value l hst D (zz_ac K) J x y
  refine zz_go C [(527, .aload_n 1), (528, .aload_n 0), (529, .iload 4), (531, .iconst 1), (532, .iadd)] (by decide +kernel) (pc' := 533) (lv' := [some (.ref sc), some (.ref t), some (.ref o), some (.ref oa), some (.int (nI (3 * j))), none, none]) (st' := [.int ((nI (3 * j)) + (nI 1)), .ref sc, .ref t]) rfl ?_
  rw [show nI (3 * j) + nI 1 = nI (3 * j + 1) from nI_add _ 1]
  refine zz_sld C X (by omega) (by omega) (by decide +kernel) ?_
  rw [hx]
  refine zz_go C [(534, .aload_n 0), (535, .iload 4), (537, .iconst 2), (538, .iadd)] (by decide +kernel) (pc' := 539) (lv' := [some (.ref sc), some (.ref t), some (.ref o), some (.ref oa), some (.int (nI (3 * j))), none, none]) (st' := [.int ((nI (3 * j)) + (nI 2)), .ref sc, .int x, .ref t]) rfl ?_
  rw [show nI (3 * j) + nI 2 = nI (3 * j + 2) from nI_add _ 2]
  refine zz_sld C X (by omega) (by omega) (by decide +kernel) ?_
  rw [hy]
  refine zz_go C [(540, .aload_n 3)] (by decide +kernel) (pc' := 541) (lv' := [some (.ref sc), some (.ref t), some (.ref o), some (.ref oa), some (.int (nI (3 * j))), none, none]) (st' := [.ref oa, .int y, .int x, .ref t]) rfl ?_
  refine zz_cS C E (As := [.ref t, .int x, .int y, .ref oa]) (rest := []) (hc := hc) md_L_value (c_L_value l D (zz_ac K) hc ht t oa f x y CT htt L.1 L.2.2.1 L.2.2.2.1 hX hV) ml_L_99 sm_L_value (fun _ _ q => q) rfl rfl (Nat.le_of_ble_eq_true rfl) ⟨by decide, by decide⟩ ⟨by show 38 + 820 * j + 2 ≤ 601024; omega, by show 207600 + 8206 * j + 12 ≤ 7293034; omega⟩ (by decide +kernel) (fun v0 h1 hp hn hd => ?_) (fun v0 h1 hp hn hd => ?_)
  · rw [zz_mix_self hd]
    obtain ⟨r1, ht1, f1, pt, F, o1, o2, hv, hf⟩ := hp
    have L1 := L.tree F o1 o2
    cases hv
    show zz_Z _ _ _ _ _ _ _ _ [.int (cd2 "java/lang/IllegalArgumentException" "java/util/NoSuchElementException" r1)]
    refine zz_go C [(544, .istore 5), (546, .aload_n 2), (547, .aload_n 0), (548, .iload 4), (550, .iconst 1), (551, .iadd)] (by decide +kernel) (pc' := 552) (lv' := [some (.ref sc), some (.ref t), some (.ref o), some (.ref oa), some (.int (nI (3 * j))), some (.int (cd2 "java/lang/IllegalArgumentException" "java/util/NoSuchElementException" r1)), none]) (st' := [.int ((nI (3 * j)) + (nI 1)), .ref sc, .ref o]) rfl ?_
    rw [show nI (3 * j) + nI 1 = nI (3 * j + 1) from nI_add _ 1]
    refine zz_sld C X (by omega) (by omega) (by decide +kernel) ?_
    rw [hx]
    refine zz_go C [(553, .aload_n 0), (554, .iload 4), (556, .iconst 2), (557, .iadd)] (by decide +kernel) (pc' := 558) (lv' := [some (.ref sc), some (.ref t), some (.ref o), some (.ref oa), some (.int (nI (3 * j))), some (.int (cd2 "java/lang/IllegalArgumentException" "java/util/NoSuchElementException" r1)), none]) (st' := [.int ((nI (3 * j)) + (nI 2)), .ref sc, .int x, .ref o]) rfl ?_
    rw [show nI (3 * j) + nI 2 = nI (3 * j + 2) from nI_add _ 2]
    refine zz_sld C X (by omega) (by omega) (by decide +kernel) ?_
    rw [hy]
    refine zz_cV C E (ci := 3) (As := [.int x, .int y]) (rest := []) (hc := hm) md_O_value (CM) ml_L_101 im_O_value se_O_value rfl hmo (fun a e q => (L1.2.1 a e q).1) rfl rfl (Nat.le_of_ble_eq_true rfl) ⟨by decide, by decide⟩ ⟨by show 38 + 820 * j + 2 + 0 ≤ 601024; omega, by show 207600 + 8206 * j + 12 + 0 ≤ 7293034; omega⟩ (by decide +kernel) (fun v1 hm1 hp2 hn2 hd2 => ?_) (fun v1 hm1 hp2 hn2 hd2 => ?_)
    · obtain ⟨r0, hrv, J2, hans⟩ := jn r1 ht1 _ hm1 pt hp2
      cases hrv
      have L2 := L1.model hn2
      generalize zz_mix hm hm1 h1 = h2 at L2 ⊢
      show zz_Z _ _ _ _ _ _ _ _ [.int r0]
      refine zz_go C [(562, .istore 6), (564, .aload_n 2)] (by decide +kernel) (pc' := 565) (lv' := [some (.ref sc), some (.ref t), some (.ref o), some (.ref oa), some (.int (nI (3 * j))), some (.int (cd2 "java/lang/IllegalArgumentException" "java/util/NoSuchElementException" r1)), some (.int r0)]) (st' := [.ref o]) rfl ?_
      obtain ⟨la1, sa1, A1, ad1, n1, Ls1, M1, V1, vs1, sn1, sh1, W1, Wm1, R1⟩ := id J2
      refine zz_cV C E (ci := 3) (As := []) (rest := []) (hc := hm1) md_O_thrown (c_O_thrown l D (zz_ac K) hm1 o ad1 _ n1 M1 V1 vs1 sn1 sh1 Wm1) ml_L_71 im_O_thrown se_O_thrown rfl Wm1.ob (fun a e q => (L2.2.1 a e q).1) rfl rfl (Nat.le_of_ble_eq_true rfl) ⟨by decide, by decide⟩ ⟨by show 38 + 820 * j + 2 + 0 + 0 ≤ 601024; omega, by show 207600 + 8206 * j + 12 + 0 + 0 ≤ 7293034; omega⟩ (by decide +kernel) (fun v2 h3 hp3 hn3 hd3 => ?_) (fun v2 h3 hp3 hn3 hd3 => ?_)
      · obtain ⟨hh, hv3⟩ := hp3
        cases hv3
        rw [hh, mix_id (fun a e q => (L2.2.1 a e q).1)]
        show zz_Z _ _ _ _ _ _ _ _ [.int (cd2 "java/lang/IllegalArgumentException" "java/util/NoSuchElementException" r1)]
        refine zz_go C [(568, .iload 5)] (by decide +kernel) (pc' := 570) (lv' := [some (.ref sc), some (.ref t), some (.ref o), some (.ref oa), some (.int (nI (3 * j))), some (.int (cd2 "java/lang/IllegalArgumentException" "java/util/NoSuchElementException" r1)), some (.int r0)]) (st' := [.int (cd2 "java/lang/IllegalArgumentException" "java/util/NoSuchElementException" r1), .int (cd2 "java/lang/IllegalArgumentException" "java/util/NoSuchElementException" r1)]) rfl ?_
        refine zz_if C (i := .if_icmp .eq 5) (by decide +kernel) (Pt := (cd2 "java/lang/IllegalArgumentException" "java/util/NoSuchElementException" r1) = (cd2 "java/lang/IllegalArgumentException" "java/util/NoSuchElementException" r1)) (Pf := ¬ (cd2 "java/lang/IllegalArgumentException" "java/util/NoSuchElementException" r1) = (cd2 "java/lang/IllegalArgumentException" "java/util/NoSuchElementException" r1)) (off := 5) (r := []) (tgt := 575) rfl (by decide) (fun cT => ?_) (fun cT => ?_)
        · refine zz_go C [(575, .iload 5)] (by decide +kernel) (pc' := 577) (lv' := [some (.ref sc), some (.ref t), some (.ref o), some (.ref oa), some (.int (nI (3 * j))), some (.int (cd2 "java/lang/IllegalArgumentException" "java/util/NoSuchElementException" r1)), some (.int r0)]) (st' := [.int (cd2 "java/lang/IllegalArgumentException" "java/util/NoSuchElementException" r1)]) rfl ?_
          refine zz_if C (i := .ifCond .ne 15) (by decide +kernel) (Pt := ¬ (cd2 "java/lang/IllegalArgumentException" "java/util/NoSuchElementException" r1) = 0) (Pf := (cd2 "java/lang/IllegalArgumentException" "java/util/NoSuchElementException" r1) = 0) (off := 15) (r := []) (tgt := 592) rfl (by decide) (fun cK => ?_) (fun cK => ?_)
          · refine zz_go C [(592, .goto 195)] (by decide +kernel) (pc' := 787) (lv' := [some (.ref sc), some (.ref t), some (.ref o), some (.ref oa), some (.int (nI (3 * j))), some (.int (cd2 "java/lang/IllegalArgumentException" "java/util/NoSuchElementException" r1)), some (.int r0)]) (st' := []) rfl ?_
            exact zz_lv [some (.ref sc), some (.ref t), some (.ref o), some (.ref oa), some (.int (nI (3 * j))), none, none] (fun i u hu => by rcases i with _ | _ | _ | _ | _ | _ | _ | i <;> first | exact hu | cases hu) (Nat.le_of_ble_eq_true rfl) (zz_widen (k' := 38 + 820 * (j + 1)) (n' := 207600 + 8206 * (j + 1)) (by show 38 + 820 * j + 2 + 0 + 0 ≤ _; omega) (by show 207600 + 8206 * j + 12 + 0 + 0 ≤ _; omega) (next h2 ht1 hm1 f1 _ L2 J2))
          · obtain ⟨v9, rfl⟩ := cd2_0 cK
            obtain ⟨z, rfl⟩ := hV v9 ht1 pt
            have e1 := hf z rfl
            have e2 := hans z rfl
            refine zz_lv [some (.ref sc), some (.ref t), some (.ref o), some (.ref oa), some (.int (nI (3 * j))), none, some (.int r0)] (fun i u hu => by rcases i with _ | _ | _ | _ | _ | _ | _ | i <;> first | exact hu | cases hu) (Nat.le_of_ble_eq_true rfl) ?_
            refine zz_go C [(580, .aload_n 3), (581, .iconst 0)] (by decide +kernel) (pc' := 582) (lv' := [some (.ref sc), some (.ref t), some (.ref o), some (.ref oa), some (.int (nI (3 * j))), none, some (.int r0)]) (st' := [.int (nI 0), .ref oa]) rfl ?_
            refine zz_lald C 2 (fun _ => rfl) L2.2.2.1 vp_in0 (by decide +kernel) ?_
            rw [show (nI 0).toNatClampNeg = 0 by decide, e1]
            refine zz_go C [(583, .iload 6), (585, .i2l), (586, .lcmp)] (by decide +kernel) (pc' := 587) (lv' := [some (.ref sc), some (.ref t), some (.ref o), some (.ref oa), some (.int (nI (3 * j))), none, some (.int r0)]) (st' := [.int (lg_cmp z.toInt64 (Int32.toInt64 r0))]) rfl ?_
            refine zz_if C (i := .ifCond .eq 5) (by decide +kernel) (Pt := (lg_cmp z.toInt64 (Int32.toInt64 r0)) = 0) (Pf := ¬ (lg_cmp z.toInt64 (Int32.toInt64 r0)) = 0) (off := 5) (r := []) (tgt := 592) rfl (by decide) (fun cL => ?_) (fun cL => ?_)
            · refine zz_go C [(592, .goto 195)] (by decide +kernel) (pc' := 787) (lv' := [some (.ref sc), some (.ref t), some (.ref o), some (.ref oa), some (.int (nI (3 * j))), none, some (.int r0)]) (st' := []) rfl ?_
              exact zz_lv [some (.ref sc), some (.ref t), some (.ref o), some (.ref oa), some (.int (nI (3 * j))), none, none] (fun i u hu => by rcases i with _ | _ | _ | _ | _ | _ | _ | i <;> first | exact hu | cases hu) (Nat.le_of_ble_eq_true rfl) (zz_widen (k' := 38 + 820 * (j + 1)) (n' := 207600 + 8206 * (j + 1)) (by show 38 + 820 * j + 2 + 0 + 0 ≤ _; omega) (by show 207600 + 8206 * j + 12 + 0 + 0 ≤ _; omega) (next h2 ht1 hm1 f1 _ L2 J2))
            · exact absurd ((lg_cmp_eq _ _).mpr (by rw [e2])) cL
        · exact absurd rfl cT
      · cases hp3.2
    · obtain ⟨_, hrv, _⟩ := jn r1 ht1 _ hm1 pt hp2
      cases hrv
  · obtain ⟨_, _, _, _, _, _, _, hv, _⟩ := hp
    cases hv
set_option maxRecDepth 8192 in
set_option maxHeartbeats 4000000 in
theorem law_names {l : Launch} (hst : l.stackTraces = false) {D : va_G} {K : zz_K} {Q : State → Prop} {h0 : zz_Hp} {ret : Option FieldType} {hs : List (Nat × Nat × Nat × Nat)} (C : zz_C K b_L_law "OverlayTreeLaw") (E : zz_En l D (zz_ac K) (zrm 2048 601024 7293034 84000) ret hs h0 K) {hc ht hm : zz_Hp} {t o oa sc N j : Nat} {S : Nat → Int32} {f : Nat → Int64} {th : Int32} (X : zz_sX K h0 sc N S) (hN : N ≤ 1536) (hj : 3 * j + 3 ≤ N) (L : lawW hc (zz_ac K) ht hm oa f) (J : jS (zz_ac K) t o ht hm th)
    (next : ∀ (hc' ht' hm' : zz_Hp) (f' : Nat → Int64) (th' : Int32), lawW hc' (zz_ac K) ht' hm' oa f' → jS (zz_ac K) t o ht' hm' th' → zz_Z K Q h0 hc' (38 + 820 * (j + 1)) (207600 + 8206 * (j + 1)) 787 [some (.ref sc), some (.ref t), some (.ref o), some (.ref oa), some (.int (nI (3 * j))), none, none] []) : zz_Z K Q h0 hc (38 + 820 * j) (207600 + 8206 * j) 595 [some (.ref sc), some (.ref t), some (.ref o), some (.ref oa), some (.int (nI (3 * j))), none, none] [] := by
  obtain ⟨x, hx⟩ : ∃ x, S (3 * j + 1) = x := ⟨_, rfl⟩
  obtain ⟨y, hy⟩ : ∃ y, S (3 * j + 2) = y := ⟨_, rfl⟩
  obtain ⟨pT, pM, fs, fo, CT, CM, htt, hmo, hX, hV, jn⟩ := op_names l hst D (zz_ac K) J x y
  refine zz_go C [(595, .aload_n 1), (596, .aload_n 0), (597, .iload 4), (599, .iconst 1), (600, .iadd)] (by decide +kernel) (pc' := 601) (lv' := [some (.ref sc), some (.ref t), some (.ref o), some (.ref oa), some (.int (nI (3 * j))), none, none]) (st' := [.int ((nI (3 * j)) + (nI 1)), .ref sc, .ref t]) rfl ?_
  rw [show nI (3 * j) + nI 1 = nI (3 * j + 1) from nI_add _ 1]
  refine zz_sld C X (by omega) (by omega) (by decide +kernel) ?_
  rw [hx]
  refine zz_go C [(602, .aload_n 0), (603, .iload 4), (605, .iconst 2), (606, .iadd)] (by decide +kernel) (pc' := 607) (lv' := [some (.ref sc), some (.ref t), some (.ref o), some (.ref oa), some (.int (nI (3 * j))), none, none]) (st' := [.int ((nI (3 * j)) + (nI 2)), .ref sc, .int x, .ref t]) rfl ?_
  rw [show nI (3 * j) + nI 2 = nI (3 * j + 2) from nI_add _ 2]
  refine zz_sld C X (by omega) (by omega) (by decide +kernel) ?_
  rw [hy]
  refine zz_go C [(608, .aload_n 3)] (by decide +kernel) (pc' := 609) (lv' := [some (.ref sc), some (.ref t), some (.ref o), some (.ref oa), some (.int (nI (3 * j))), none, none]) (st' := [.ref oa, .int y, .int x, .ref t]) rfl ?_
  refine zz_cS C E (As := [.ref t, .int x, .int y, .ref oa]) (rest := []) (hc := hc) md_L_names (c_L_names l D (zz_ac K) hc ht t oa f x y CT htt L.1 L.2.2.1 L.2.2.2.1 hX hV) ml_L_102 sm_L_names (fun _ _ q => q) rfl rfl (Nat.le_of_ble_eq_true rfl) ⟨by decide, by decide⟩ ⟨by show 38 + 820 * j + 2 ≤ 601024; omega, by show 207600 + 8206 * j + 12 ≤ 7293034; omega⟩ (by decide +kernel) (fun v0 h1 hp hn hd => ?_) (fun v0 h1 hp hn hd => ?_)
  · rw [zz_mix_self hd]
    obtain ⟨r1, ht1, f1, pt, F, o1, o2, hv, hf⟩ := hp
    have L1 := L.tree F o1 o2
    cases hv
    show zz_Z _ _ _ _ _ _ _ _ [.int (cd2 "java/lang/IllegalArgumentException" "java/util/NoSuchElementException" r1)]
    refine zz_go C [(612, .istore 5), (614, .aload_n 2), (615, .aload_n 0), (616, .iload 4), (618, .iconst 1), (619, .iadd)] (by decide +kernel) (pc' := 620) (lv' := [some (.ref sc), some (.ref t), some (.ref o), some (.ref oa), some (.int (nI (3 * j))), some (.int (cd2 "java/lang/IllegalArgumentException" "java/util/NoSuchElementException" r1)), none]) (st' := [.int ((nI (3 * j)) + (nI 1)), .ref sc, .ref o]) rfl ?_
    rw [show nI (3 * j) + nI 1 = nI (3 * j + 1) from nI_add _ 1]
    refine zz_sld C X (by omega) (by omega) (by decide +kernel) ?_
    rw [hx]
    refine zz_go C [(621, .aload_n 0), (622, .iload 4), (624, .iconst 2), (625, .iadd)] (by decide +kernel) (pc' := 626) (lv' := [some (.ref sc), some (.ref t), some (.ref o), some (.ref oa), some (.int (nI (3 * j))), some (.int (cd2 "java/lang/IllegalArgumentException" "java/util/NoSuchElementException" r1)), none]) (st' := [.int ((nI (3 * j)) + (nI 2)), .ref sc, .int x, .ref o]) rfl ?_
    rw [show nI (3 * j) + nI 2 = nI (3 * j + 2) from nI_add _ 2]
    refine zz_sld C X (by omega) (by omega) (by decide +kernel) ?_
    rw [hy]
    refine zz_cV C E (ci := 3) (As := [.int x, .int y]) (rest := []) (hc := hm) md_O_names (CM) ml_L_104 im_O_names se_O_names rfl hmo (fun a e q => (L1.2.1 a e q).1) rfl rfl (Nat.le_of_ble_eq_true rfl) ⟨by decide, by decide⟩ ⟨by show 38 + 820 * j + 2 + 0 ≤ 601024; omega, by show 207600 + 8206 * j + 12 + 0 ≤ 7293034; omega⟩ (by decide +kernel) (fun v1 hm1 hp2 hn2 hd2 => ?_) (fun v1 hm1 hp2 hn2 hd2 => ?_)
    · obtain ⟨r0, hrv, J2, hans⟩ := jn r1 ht1 _ hm1 pt hp2
      cases hrv
      have L2 := L1.model hn2
      generalize zz_mix hm hm1 h1 = h2 at L2 ⊢
      show zz_Z _ _ _ _ _ _ _ _ [.int r0]
      refine zz_go C [(630, .istore 6), (632, .aload_n 2)] (by decide +kernel) (pc' := 633) (lv' := [some (.ref sc), some (.ref t), some (.ref o), some (.ref oa), some (.int (nI (3 * j))), some (.int (cd2 "java/lang/IllegalArgumentException" "java/util/NoSuchElementException" r1)), some (.int r0)]) (st' := [.ref o]) rfl ?_
      obtain ⟨la1, sa1, A1, ad1, n1, Ls1, M1, V1, vs1, sn1, sh1, W1, Wm1, R1⟩ := id J2
      refine zz_cV C E (ci := 3) (As := []) (rest := []) (hc := hm1) md_O_thrown (c_O_thrown l D (zz_ac K) hm1 o ad1 _ n1 M1 V1 vs1 sn1 sh1 Wm1) ml_L_71 im_O_thrown se_O_thrown rfl Wm1.ob (fun a e q => (L2.2.1 a e q).1) rfl rfl (Nat.le_of_ble_eq_true rfl) ⟨by decide, by decide⟩ ⟨by show 38 + 820 * j + 2 + 0 + 0 ≤ 601024; omega, by show 207600 + 8206 * j + 12 + 0 + 0 ≤ 7293034; omega⟩ (by decide +kernel) (fun v2 h3 hp3 hn3 hd3 => ?_) (fun v2 h3 hp3 hn3 hd3 => ?_)
      · obtain ⟨hh, hv3⟩ := hp3
        cases hv3
        rw [hh, mix_id (fun a e q => (L2.2.1 a e q).1)]
        show zz_Z _ _ _ _ _ _ _ _ [.int (cd2 "java/lang/IllegalArgumentException" "java/util/NoSuchElementException" r1)]
        refine zz_go C [(636, .iload 5)] (by decide +kernel) (pc' := 638) (lv' := [some (.ref sc), some (.ref t), some (.ref o), some (.ref oa), some (.int (nI (3 * j))), some (.int (cd2 "java/lang/IllegalArgumentException" "java/util/NoSuchElementException" r1)), some (.int r0)]) (st' := [.int (cd2 "java/lang/IllegalArgumentException" "java/util/NoSuchElementException" r1), .int (cd2 "java/lang/IllegalArgumentException" "java/util/NoSuchElementException" r1)]) rfl ?_
        refine zz_if C (i := .if_icmp .eq 5) (by decide +kernel) (Pt := (cd2 "java/lang/IllegalArgumentException" "java/util/NoSuchElementException" r1) = (cd2 "java/lang/IllegalArgumentException" "java/util/NoSuchElementException" r1)) (Pf := ¬ (cd2 "java/lang/IllegalArgumentException" "java/util/NoSuchElementException" r1) = (cd2 "java/lang/IllegalArgumentException" "java/util/NoSuchElementException" r1)) (off := 5) (r := []) (tgt := 643) rfl (by decide) (fun cT => ?_) (fun cT => ?_)
        · refine zz_go C [(643, .iload 5)] (by decide +kernel) (pc' := 645) (lv' := [some (.ref sc), some (.ref t), some (.ref o), some (.ref oa), some (.int (nI (3 * j))), some (.int (cd2 "java/lang/IllegalArgumentException" "java/util/NoSuchElementException" r1)), some (.int r0)]) (st' := [.int (cd2 "java/lang/IllegalArgumentException" "java/util/NoSuchElementException" r1)]) rfl ?_
          refine zz_if C (i := .ifCond .ne 15) (by decide +kernel) (Pt := ¬ (cd2 "java/lang/IllegalArgumentException" "java/util/NoSuchElementException" r1) = 0) (Pf := (cd2 "java/lang/IllegalArgumentException" "java/util/NoSuchElementException" r1) = 0) (off := 15) (r := []) (tgt := 660) rfl (by decide) (fun cK => ?_) (fun cK => ?_)
          · refine zz_go C [(660, .goto 127)] (by decide +kernel) (pc' := 787) (lv' := [some (.ref sc), some (.ref t), some (.ref o), some (.ref oa), some (.int (nI (3 * j))), some (.int (cd2 "java/lang/IllegalArgumentException" "java/util/NoSuchElementException" r1)), some (.int r0)]) (st' := []) rfl ?_
            exact zz_lv [some (.ref sc), some (.ref t), some (.ref o), some (.ref oa), some (.int (nI (3 * j))), none, none] (fun i u hu => by rcases i with _ | _ | _ | _ | _ | _ | _ | i <;> first | exact hu | cases hu) (Nat.le_of_ble_eq_true rfl) (zz_widen (k' := 38 + 820 * (j + 1)) (n' := 207600 + 8206 * (j + 1)) (by show 38 + 820 * j + 2 + 0 + 0 ≤ _; omega) (by show 207600 + 8206 * j + 12 + 0 + 0 ≤ _; omega) (next h2 ht1 hm1 f1 _ L2 J2))
          · obtain ⟨v9, rfl⟩ := cd2_0 cK
            obtain ⟨z, rfl⟩ := hV v9 ht1 pt
            have e1 := hf z rfl
            have e2 := hans z rfl
            refine zz_lv [some (.ref sc), some (.ref t), some (.ref o), some (.ref oa), some (.int (nI (3 * j))), none, some (.int r0)] (fun i u hu => by rcases i with _ | _ | _ | _ | _ | _ | _ | i <;> first | exact hu | cases hu) (Nat.le_of_ble_eq_true rfl) ?_
            refine zz_go C [(648, .aload_n 3), (649, .iconst 0)] (by decide +kernel) (pc' := 650) (lv' := [some (.ref sc), some (.ref t), some (.ref o), some (.ref oa), some (.int (nI (3 * j))), none, some (.int r0)]) (st' := [.int (nI 0), .ref oa]) rfl ?_
            refine zz_lald C 2 (fun _ => rfl) L2.2.2.1 vp_in0 (by decide +kernel) ?_
            rw [show (nI 0).toNatClampNeg = 0 by decide, e1]
            refine zz_go C [(651, .iload 6), (653, .i2l), (654, .lcmp)] (by decide +kernel) (pc' := 655) (lv' := [some (.ref sc), some (.ref t), some (.ref o), some (.ref oa), some (.int (nI (3 * j))), none, some (.int r0)]) (st' := [.int (lg_cmp z.toInt64 (Int32.toInt64 r0))]) rfl ?_
            refine zz_if C (i := .ifCond .eq 5) (by decide +kernel) (Pt := (lg_cmp z.toInt64 (Int32.toInt64 r0)) = 0) (Pf := ¬ (lg_cmp z.toInt64 (Int32.toInt64 r0)) = 0) (off := 5) (r := []) (tgt := 660) rfl (by decide) (fun cL => ?_) (fun cL => ?_)
            · refine zz_go C [(660, .goto 127)] (by decide +kernel) (pc' := 787) (lv' := [some (.ref sc), some (.ref t), some (.ref o), some (.ref oa), some (.int (nI (3 * j))), none, some (.int r0)]) (st' := []) rfl ?_
              exact zz_lv [some (.ref sc), some (.ref t), some (.ref o), some (.ref oa), some (.int (nI (3 * j))), none, none] (fun i u hu => by rcases i with _ | _ | _ | _ | _ | _ | _ | i <;> first | exact hu | cases hu) (Nat.le_of_ble_eq_true rfl) (zz_widen (k' := 38 + 820 * (j + 1)) (n' := 207600 + 8206 * (j + 1)) (by show 38 + 820 * j + 2 + 0 + 0 ≤ _; omega) (by show 207600 + 8206 * j + 12 + 0 + 0 ≤ _; omega) (next h2 ht1 hm1 f1 _ L2 J2))
            · exact absurd ((lg_cmp_eq _ _).mpr (by rw [e2])) cL
        · exact absurd rfl cT
      · cases hp3.2
    · obtain ⟨_, hrv, _⟩ := jn r1 ht1 _ hm1 pt hp2
      cases hrv
  · obtain ⟨_, _, _, _, _, _, _, hv, _⟩ := hp
    cases hv
set_option maxRecDepth 8192 in
set_option maxHeartbeats 4000000 in
theorem law_mark {l : Launch} (hst : l.stackTraces = false) {D : va_G} {K : zz_K} {Q : State → Prop} {h0 : zz_Hp} {ret : Option FieldType} {hs : List (Nat × Nat × Nat × Nat)} (C : zz_C K b_L_law "OverlayTreeLaw") (E : zz_En l D (zz_ac K) (zrm 2048 601024 7293034 84000) ret hs h0 K) {hc ht hm : zz_Hp} {t o oa sc N j : Nat} {S : Nat → Int32} {f : Nat → Int64} {th : Int32} (X : zz_sX K h0 sc N S) (hN : N ≤ 1536) (hj : 3 * j + 3 ≤ N) (L : lawW hc (zz_ac K) ht hm oa f) (J : jS (zz_ac K) t o ht hm th)
    (next : ∀ (hc' ht' hm' : zz_Hp) (f' : Nat → Int64) (th' : Int32), lawW hc' (zz_ac K) ht' hm' oa f' → jS (zz_ac K) t o ht' hm' th' → zz_Z K Q h0 hc' (38 + 820 * (j + 1)) (207600 + 8206 * (j + 1)) 787 [some (.ref sc), some (.ref t), some (.ref o), some (.ref oa), some (.int (nI (3 * j))), none, none] []) : zz_Z K Q h0 hc (38 + 820 * j) (207600 + 8206 * j) 663 [some (.ref sc), some (.ref t), some (.ref o), some (.ref oa), some (.int (nI (3 * j))), none, none] [] := by
  obtain ⟨x, hx⟩ : ∃ x, S (3 * j + 1) = x := ⟨_, rfl⟩
  obtain ⟨y, hy⟩ : ∃ y, S (3 * j + 2) = y := ⟨_, rfl⟩
  obtain ⟨pT, pM, fs, fo, CT, CM, htt, hmo, hX, hV, jn⟩ := op_mark l hst D (zz_ac K) J x y
  refine zz_go C [(663, .aload_n 1), (664, .aload_n 0), (665, .iload 4), (667, .iconst 1), (668, .iadd)] (by decide +kernel) (pc' := 669) (lv' := [some (.ref sc), some (.ref t), some (.ref o), some (.ref oa), some (.int (nI (3 * j))), none, none]) (st' := [.int ((nI (3 * j)) + (nI 1)), .ref sc, .ref t]) rfl ?_
  rw [show nI (3 * j) + nI 1 = nI (3 * j + 1) from nI_add _ 1]
  refine zz_sld C X (by omega) (by omega) (by decide +kernel) ?_
  rw [hx]
  refine zz_go C [(670, .aload_n 0), (671, .iload 4), (673, .iconst 2), (674, .iadd)] (by decide +kernel) (pc' := 675) (lv' := [some (.ref sc), some (.ref t), some (.ref o), some (.ref oa), some (.int (nI (3 * j))), none, none]) (st' := [.int ((nI (3 * j)) + (nI 2)), .ref sc, .int x, .ref t]) rfl ?_
  rw [show nI (3 * j) + nI 2 = nI (3 * j + 2) from nI_add _ 2]
  refine zz_sld C X (by omega) (by omega) (by decide +kernel) ?_
  rw [hy]
  refine zz_go C [(676, .aload_n 3)] (by decide +kernel) (pc' := 677) (lv' := [some (.ref sc), some (.ref t), some (.ref o), some (.ref oa), some (.int (nI (3 * j))), none, none]) (st' := [.ref oa, .int y, .int x, .ref t]) rfl ?_
  refine zz_cS C E (As := [.ref t, .int x, .int y, .ref oa]) (rest := []) (hc := hc) md_L_mark (c_L_mark l D (zz_ac K) hc ht t oa f x y CT htt L.1 L.2.2.1 L.2.2.2.1 hX hV) ml_L_105 sm_L_mark (fun _ _ q => q) rfl rfl (Nat.le_of_ble_eq_true rfl) ⟨by decide, by decide⟩ ⟨by show 38 + 820 * j + 2 ≤ 601024; omega, by show 207600 + 8206 * j + 12 ≤ 7293034; omega⟩ (by decide +kernel) (fun v0 h1 hp hn hd => ?_) (fun v0 h1 hp hn hd => ?_)
  · rw [zz_mix_self hd]
    obtain ⟨r1, ht1, f1, pt, F, o1, o2, hv, hf⟩ := hp
    have L1 := L.tree F o1 o2
    cases hv
    show zz_Z _ _ _ _ _ _ _ _ [.int (cd2 "java/lang/IndexOutOfBoundsException" "java/lang/IllegalArgumentException" r1)]
    refine zz_go C [(680, .istore 5), (682, .aload_n 2), (683, .aload_n 0), (684, .iload 4), (686, .iconst 1), (687, .iadd)] (by decide +kernel) (pc' := 688) (lv' := [some (.ref sc), some (.ref t), some (.ref o), some (.ref oa), some (.int (nI (3 * j))), some (.int (cd2 "java/lang/IndexOutOfBoundsException" "java/lang/IllegalArgumentException" r1)), none]) (st' := [.int ((nI (3 * j)) + (nI 1)), .ref sc, .ref o]) rfl ?_
    rw [show nI (3 * j) + nI 1 = nI (3 * j + 1) from nI_add _ 1]
    refine zz_sld C X (by omega) (by omega) (by decide +kernel) ?_
    rw [hx]
    refine zz_go C [(689, .aload_n 0), (690, .iload 4), (692, .iconst 2), (693, .iadd)] (by decide +kernel) (pc' := 694) (lv' := [some (.ref sc), some (.ref t), some (.ref o), some (.ref oa), some (.int (nI (3 * j))), some (.int (cd2 "java/lang/IndexOutOfBoundsException" "java/lang/IllegalArgumentException" r1)), none]) (st' := [.int ((nI (3 * j)) + (nI 2)), .ref sc, .int x, .ref o]) rfl ?_
    rw [show nI (3 * j) + nI 2 = nI (3 * j + 2) from nI_add _ 2]
    refine zz_sld C X (by omega) (by omega) (by decide +kernel) ?_
    rw [hy]
    refine zz_cV C E (ci := 3) (As := [.int x, .int y]) (rest := []) (hc := hm) md_O_mark (CM) ml_L_107 im_O_mark se_O_mark rfl hmo (fun a e q => (L1.2.1 a e q).1) rfl rfl (Nat.le_of_ble_eq_true rfl) ⟨by decide, by decide⟩ ⟨by show 38 + 820 * j + 2 + 0 ≤ 601024; omega, by show 207600 + 8206 * j + 12 + 0 ≤ 7293034; omega⟩ (by decide +kernel) (fun v1 hm1 hp2 hn2 hd2 => ?_) (fun v1 hm1 hp2 hn2 hd2 => ?_)
    · obtain ⟨r0, hrv, J2, hans⟩ := jn r1 ht1 _ hm1 pt hp2
      cases hrv
      have L2 := L1.model hn2
      generalize zz_mix hm hm1 h1 = h2 at L2 ⊢
      show zz_Z _ _ _ _ _ _ _ _ [.int r0]
      refine zz_go C [(698, .istore 6), (700, .aload_n 2)] (by decide +kernel) (pc' := 701) (lv' := [some (.ref sc), some (.ref t), some (.ref o), some (.ref oa), some (.int (nI (3 * j))), some (.int (cd2 "java/lang/IndexOutOfBoundsException" "java/lang/IllegalArgumentException" r1)), some (.int r0)]) (st' := [.ref o]) rfl ?_
      obtain ⟨la1, sa1, A1, ad1, n1, Ls1, M1, V1, vs1, sn1, sh1, W1, Wm1, R1⟩ := id J2
      refine zz_cV C E (ci := 3) (As := []) (rest := []) (hc := hm1) md_O_thrown (c_O_thrown l D (zz_ac K) hm1 o ad1 _ n1 M1 V1 vs1 sn1 sh1 Wm1) ml_L_71 im_O_thrown se_O_thrown rfl Wm1.ob (fun a e q => (L2.2.1 a e q).1) rfl rfl (Nat.le_of_ble_eq_true rfl) ⟨by decide, by decide⟩ ⟨by show 38 + 820 * j + 2 + 0 + 0 ≤ 601024; omega, by show 207600 + 8206 * j + 12 + 0 + 0 ≤ 7293034; omega⟩ (by decide +kernel) (fun v2 h3 hp3 hn3 hd3 => ?_) (fun v2 h3 hp3 hn3 hd3 => ?_)
      · obtain ⟨hh, hv3⟩ := hp3
        cases hv3
        rw [hh, mix_id (fun a e q => (L2.2.1 a e q).1)]
        show zz_Z _ _ _ _ _ _ _ _ [.int (cd2 "java/lang/IndexOutOfBoundsException" "java/lang/IllegalArgumentException" r1)]
        refine zz_go C [(704, .iload 5)] (by decide +kernel) (pc' := 706) (lv' := [some (.ref sc), some (.ref t), some (.ref o), some (.ref oa), some (.int (nI (3 * j))), some (.int (cd2 "java/lang/IndexOutOfBoundsException" "java/lang/IllegalArgumentException" r1)), some (.int r0)]) (st' := [.int (cd2 "java/lang/IndexOutOfBoundsException" "java/lang/IllegalArgumentException" r1), .int (cd2 "java/lang/IndexOutOfBoundsException" "java/lang/IllegalArgumentException" r1)]) rfl ?_
        refine zz_if C (i := .if_icmp .eq 5) (by decide +kernel) (Pt := (cd2 "java/lang/IndexOutOfBoundsException" "java/lang/IllegalArgumentException" r1) = (cd2 "java/lang/IndexOutOfBoundsException" "java/lang/IllegalArgumentException" r1)) (Pf := ¬ (cd2 "java/lang/IndexOutOfBoundsException" "java/lang/IllegalArgumentException" r1) = (cd2 "java/lang/IndexOutOfBoundsException" "java/lang/IllegalArgumentException" r1)) (off := 5) (r := []) (tgt := 711) rfl (by decide) (fun cT => ?_) (fun cT => ?_)
        · refine zz_go C [(711, .iload 5)] (by decide +kernel) (pc' := 713) (lv' := [some (.ref sc), some (.ref t), some (.ref o), some (.ref oa), some (.int (nI (3 * j))), some (.int (cd2 "java/lang/IndexOutOfBoundsException" "java/lang/IllegalArgumentException" r1)), some (.int r0)]) (st' := [.int (cd2 "java/lang/IndexOutOfBoundsException" "java/lang/IllegalArgumentException" r1)]) rfl ?_
          refine zz_if C (i := .ifCond .ne 15) (by decide +kernel) (Pt := ¬ (cd2 "java/lang/IndexOutOfBoundsException" "java/lang/IllegalArgumentException" r1) = 0) (Pf := (cd2 "java/lang/IndexOutOfBoundsException" "java/lang/IllegalArgumentException" r1) = 0) (off := 15) (r := []) (tgt := 728) rfl (by decide) (fun cK => ?_) (fun cK => ?_)
          · refine zz_go C [(728, .goto 59)] (by decide +kernel) (pc' := 787) (lv' := [some (.ref sc), some (.ref t), some (.ref o), some (.ref oa), some (.int (nI (3 * j))), some (.int (cd2 "java/lang/IndexOutOfBoundsException" "java/lang/IllegalArgumentException" r1)), some (.int r0)]) (st' := []) rfl ?_
            exact zz_lv [some (.ref sc), some (.ref t), some (.ref o), some (.ref oa), some (.int (nI (3 * j))), none, none] (fun i u hu => by rcases i with _ | _ | _ | _ | _ | _ | _ | i <;> first | exact hu | cases hu) (Nat.le_of_ble_eq_true rfl) (zz_widen (k' := 38 + 820 * (j + 1)) (n' := 207600 + 8206 * (j + 1)) (by show 38 + 820 * j + 2 + 0 + 0 ≤ _; omega) (by show 207600 + 8206 * j + 12 + 0 + 0 ≤ _; omega) (next h2 ht1 hm1 f1 _ L2 J2))
          · obtain ⟨v9, rfl⟩ := cd2_0 cK
            obtain ⟨z, rfl⟩ := hV v9 ht1 pt
            have e1 := hf z rfl
            have e2 := hans z rfl
            refine zz_lv [some (.ref sc), some (.ref t), some (.ref o), some (.ref oa), some (.int (nI (3 * j))), none, some (.int r0)] (fun i u hu => by rcases i with _ | _ | _ | _ | _ | _ | _ | i <;> first | exact hu | cases hu) (Nat.le_of_ble_eq_true rfl) ?_
            refine zz_go C [(716, .aload_n 3), (717, .iconst 0)] (by decide +kernel) (pc' := 718) (lv' := [some (.ref sc), some (.ref t), some (.ref o), some (.ref oa), some (.int (nI (3 * j))), none, some (.int r0)]) (st' := [.int (nI 0), .ref oa]) rfl ?_
            refine zz_lald C 2 (fun _ => rfl) L2.2.2.1 vp_in0 (by decide +kernel) ?_
            rw [show (nI 0).toNatClampNeg = 0 by decide, e1]
            refine zz_go C [(719, .iload 6), (721, .i2l), (722, .lcmp)] (by decide +kernel) (pc' := 723) (lv' := [some (.ref sc), some (.ref t), some (.ref o), some (.ref oa), some (.int (nI (3 * j))), none, some (.int r0)]) (st' := [.int (lg_cmp z.toInt64 (Int32.toInt64 r0))]) rfl ?_
            refine zz_if C (i := .ifCond .eq 5) (by decide +kernel) (Pt := (lg_cmp z.toInt64 (Int32.toInt64 r0)) = 0) (Pf := ¬ (lg_cmp z.toInt64 (Int32.toInt64 r0)) = 0) (off := 5) (r := []) (tgt := 728) rfl (by decide) (fun cL => ?_) (fun cL => ?_)
            · refine zz_go C [(728, .goto 59)] (by decide +kernel) (pc' := 787) (lv' := [some (.ref sc), some (.ref t), some (.ref o), some (.ref oa), some (.int (nI (3 * j))), none, some (.int r0)]) (st' := []) rfl ?_
              exact zz_lv [some (.ref sc), some (.ref t), some (.ref o), some (.ref oa), some (.int (nI (3 * j))), none, none] (fun i u hu => by rcases i with _ | _ | _ | _ | _ | _ | _ | i <;> first | exact hu | cases hu) (Nat.le_of_ble_eq_true rfl) (zz_widen (k' := 38 + 820 * (j + 1)) (n' := 207600 + 8206 * (j + 1)) (by show 38 + 820 * j + 2 + 0 + 0 ≤ _; omega) (by show 207600 + 8206 * j + 12 + 0 + 0 ≤ _; omega) (next h2 ht1 hm1 f1 _ L2 J2))
            · exact absurd ((lg_cmp_eq _ _).mpr (by rw [e2])) cL
        · exact absurd rfl cT
      · cases hp3.2
    · obtain ⟨_, hrv, _⟩ := jn r1 ht1 _ hm1 pt hp2
      cases hrv
  · obtain ⟨_, _, _, _, _, _, _, hv, _⟩ := hp
    cases hv
set_option maxRecDepth 8192 in
set_option maxHeartbeats 4000000 in
theorem law_marks {l : Launch} (hst : l.stackTraces = false) {D : va_G} {K : zz_K} {Q : State → Prop} {h0 : zz_Hp} {ret : Option FieldType} {hs : List (Nat × Nat × Nat × Nat)} (C : zz_C K b_L_law "OverlayTreeLaw") (E : zz_En l D (zz_ac K) (zrm 2048 601024 7293034 84000) ret hs h0 K) {hc ht hm : zz_Hp} {t o oa sc N j : Nat} {S : Nat → Int32} {f : Nat → Int64} {th : Int32} (X : zz_sX K h0 sc N S) (hN : N ≤ 1536) (hj : 3 * j + 3 ≤ N) (L : lawW hc (zz_ac K) ht hm oa f) (J : jS (zz_ac K) t o ht hm th)
    (next : ∀ (hc' ht' hm' : zz_Hp) (f' : Nat → Int64) (th' : Int32), lawW hc' (zz_ac K) ht' hm' oa f' → jS (zz_ac K) t o ht' hm' th' → zz_Z K Q h0 hc' (38 + 820 * (j + 1)) (207600 + 8206 * (j + 1)) 787 [some (.ref sc), some (.ref t), some (.ref o), some (.ref oa), some (.int (nI (3 * j))), none, none] []) : zz_Z K Q h0 hc (38 + 820 * j) (207600 + 8206 * j) 731 [some (.ref sc), some (.ref t), some (.ref o), some (.ref oa), some (.int (nI (3 * j))), none, none] [] := by
  obtain ⟨x, hx⟩ : ∃ x, S (3 * j + 1) = x := ⟨_, rfl⟩
  obtain ⟨pT, pM, fs, fo, CT, CM, htt, hmo, hX, hV, jn⟩ := op_marks l hst D (zz_ac K) J x
  refine zz_go C [(731, .aload_n 1), (732, .aload_n 0), (733, .iload 4), (735, .iconst 1), (736, .iadd)] (by decide +kernel) (pc' := 737) (lv' := [some (.ref sc), some (.ref t), some (.ref o), some (.ref oa), some (.int (nI (3 * j))), none, none]) (st' := [.int ((nI (3 * j)) + (nI 1)), .ref sc, .ref t]) rfl ?_
  rw [show nI (3 * j) + nI 1 = nI (3 * j + 1) from nI_add _ 1]
  refine zz_sld C X (by omega) (by omega) (by decide +kernel) ?_
  rw [hx]
  refine zz_go C [(738, .aload_n 3)] (by decide +kernel) (pc' := 739) (lv' := [some (.ref sc), some (.ref t), some (.ref o), some (.ref oa), some (.int (nI (3 * j))), none, none]) (st' := [.ref oa, .int x, .ref t]) rfl ?_
  refine zz_cS C E (As := [.ref t, .int x, .ref oa]) (rest := []) (hc := hc) md_L_marks (c_L_marks l D (zz_ac K) hc ht t oa f x CT htt L.1 L.2.2.1 L.2.2.2.1 hX hV) ml_L_108 sm_L_marks (fun _ _ q => q) rfl rfl (Nat.le_of_ble_eq_true rfl) ⟨by decide, by decide⟩ ⟨by show 38 + 820 * j + 1 ≤ 601024; omega, by show 207600 + 8206 * j + 6 ≤ 7293034; omega⟩ (by decide +kernel) (fun v0 h1 hp hn hd => ?_) (fun v0 h1 hp hn hd => ?_)
  · rw [zz_mix_self hd]
    obtain ⟨r1, ht1, f1, pt, F, o1, o2, hv, hf⟩ := hp
    have L1 := L.tree F o1 o2
    cases hv
    show zz_Z _ _ _ _ _ _ _ _ [.int (cd2 "java/lang/IndexOutOfBoundsException" "" r1)]
    refine zz_go C [(742, .istore 5), (744, .aload_n 2), (745, .aload_n 0), (746, .iload 4), (748, .iconst 1), (749, .iadd)] (by decide +kernel) (pc' := 750) (lv' := [some (.ref sc), some (.ref t), some (.ref o), some (.ref oa), some (.int (nI (3 * j))), some (.int (cd2 "java/lang/IndexOutOfBoundsException" "" r1)), none]) (st' := [.int ((nI (3 * j)) + (nI 1)), .ref sc, .ref o]) rfl ?_
    rw [show nI (3 * j) + nI 1 = nI (3 * j + 1) from nI_add _ 1]
    refine zz_sld C X (by omega) (by omega) (by decide +kernel) ?_
    rw [hx]
    refine zz_cV C E (ci := 3) (As := [.int x]) (rest := []) (hc := hm) md_O_marks (CM) ml_L_110 im_O_marks se_O_marks rfl hmo (fun a e q => (L1.2.1 a e q).1) rfl rfl (Nat.le_of_ble_eq_true rfl) ⟨by decide, by decide⟩ ⟨by show 38 + 820 * j + 1 + 0 ≤ 601024; omega, by show 207600 + 8206 * j + 6 + 0 ≤ 7293034; omega⟩ (by decide +kernel) (fun v1 hm1 hp2 hn2 hd2 => ?_) (fun v1 hm1 hp2 hn2 hd2 => ?_)
    · obtain ⟨r0, hrv, J2, hans⟩ := jn r1 ht1 _ hm1 pt hp2
      cases hrv
      have L2 := L1.model hn2
      generalize zz_mix hm hm1 h1 = h2 at L2 ⊢
      show zz_Z _ _ _ _ _ _ _ _ [.int r0]
      refine zz_go C [(754, .istore 6), (756, .aload_n 2)] (by decide +kernel) (pc' := 757) (lv' := [some (.ref sc), some (.ref t), some (.ref o), some (.ref oa), some (.int (nI (3 * j))), some (.int (cd2 "java/lang/IndexOutOfBoundsException" "" r1)), some (.int r0)]) (st' := [.ref o]) rfl ?_
      obtain ⟨la1, sa1, A1, ad1, n1, Ls1, M1, V1, vs1, sn1, sh1, W1, Wm1, R1⟩ := id J2
      refine zz_cV C E (ci := 3) (As := []) (rest := []) (hc := hm1) md_O_thrown (c_O_thrown l D (zz_ac K) hm1 o ad1 _ n1 M1 V1 vs1 sn1 sh1 Wm1) ml_L_71 im_O_thrown se_O_thrown rfl Wm1.ob (fun a e q => (L2.2.1 a e q).1) rfl rfl (Nat.le_of_ble_eq_true rfl) ⟨by decide, by decide⟩ ⟨by show 38 + 820 * j + 1 + 0 + 0 ≤ 601024; omega, by show 207600 + 8206 * j + 6 + 0 + 0 ≤ 7293034; omega⟩ (by decide +kernel) (fun v2 h3 hp3 hn3 hd3 => ?_) (fun v2 h3 hp3 hn3 hd3 => ?_)
      · obtain ⟨hh, hv3⟩ := hp3
        cases hv3
        rw [hh, mix_id (fun a e q => (L2.2.1 a e q).1)]
        show zz_Z _ _ _ _ _ _ _ _ [.int (cd2 "java/lang/IndexOutOfBoundsException" "" r1)]
        refine zz_go C [(760, .iload 5)] (by decide +kernel) (pc' := 762) (lv' := [some (.ref sc), some (.ref t), some (.ref o), some (.ref oa), some (.int (nI (3 * j))), some (.int (cd2 "java/lang/IndexOutOfBoundsException" "" r1)), some (.int r0)]) (st' := [.int (cd2 "java/lang/IndexOutOfBoundsException" "" r1), .int (cd2 "java/lang/IndexOutOfBoundsException" "" r1)]) rfl ?_
        refine zz_if C (i := .if_icmp .eq 5) (by decide +kernel) (Pt := (cd2 "java/lang/IndexOutOfBoundsException" "" r1) = (cd2 "java/lang/IndexOutOfBoundsException" "" r1)) (Pf := ¬ (cd2 "java/lang/IndexOutOfBoundsException" "" r1) = (cd2 "java/lang/IndexOutOfBoundsException" "" r1)) (off := 5) (r := []) (tgt := 767) rfl (by decide) (fun cT => ?_) (fun cT => ?_)
        · refine zz_go C [(767, .iload 5)] (by decide +kernel) (pc' := 769) (lv' := [some (.ref sc), some (.ref t), some (.ref o), some (.ref oa), some (.int (nI (3 * j))), some (.int (cd2 "java/lang/IndexOutOfBoundsException" "" r1)), some (.int r0)]) (st' := [.int (cd2 "java/lang/IndexOutOfBoundsException" "" r1)]) rfl ?_
          refine zz_if C (i := .ifCond .ne 15) (by decide +kernel) (Pt := ¬ (cd2 "java/lang/IndexOutOfBoundsException" "" r1) = 0) (Pf := (cd2 "java/lang/IndexOutOfBoundsException" "" r1) = 0) (off := 15) (r := []) (tgt := 784) rfl (by decide) (fun cK => ?_) (fun cK => ?_)
          · refine zz_go C [(784, .goto 3)] (by decide +kernel) (pc' := 787) (lv' := [some (.ref sc), some (.ref t), some (.ref o), some (.ref oa), some (.int (nI (3 * j))), some (.int (cd2 "java/lang/IndexOutOfBoundsException" "" r1)), some (.int r0)]) (st' := []) rfl ?_
            exact zz_lv [some (.ref sc), some (.ref t), some (.ref o), some (.ref oa), some (.int (nI (3 * j))), none, none] (fun i u hu => by rcases i with _ | _ | _ | _ | _ | _ | _ | i <;> first | exact hu | cases hu) (Nat.le_of_ble_eq_true rfl) (zz_widen (k' := 38 + 820 * (j + 1)) (n' := 207600 + 8206 * (j + 1)) (by show 38 + 820 * j + 1 + 0 + 0 ≤ _; omega) (by show 207600 + 8206 * j + 6 + 0 + 0 ≤ _; omega) (next h2 ht1 hm1 f1 _ L2 J2))
          · obtain ⟨v9, rfl⟩ := cd2_0 cK
            obtain ⟨z, rfl⟩ := hV v9 ht1 pt
            have e1 := hf z rfl
            have e2 := hans z rfl
            refine zz_lv [some (.ref sc), some (.ref t), some (.ref o), some (.ref oa), some (.int (nI (3 * j))), none, some (.int r0)] (fun i u hu => by rcases i with _ | _ | _ | _ | _ | _ | _ | i <;> first | exact hu | cases hu) (Nat.le_of_ble_eq_true rfl) ?_
            refine zz_go C [(772, .aload_n 3), (773, .iconst 0)] (by decide +kernel) (pc' := 774) (lv' := [some (.ref sc), some (.ref t), some (.ref o), some (.ref oa), some (.int (nI (3 * j))), none, some (.int r0)]) (st' := [.int (nI 0), .ref oa]) rfl ?_
            refine zz_lald C 2 (fun _ => rfl) L2.2.2.1 vp_in0 (by decide +kernel) ?_
            rw [show (nI 0).toNatClampNeg = 0 by decide, e1]
            refine zz_go C [(775, .iload 6), (777, .i2l), (778, .lcmp)] (by decide +kernel) (pc' := 779) (lv' := [some (.ref sc), some (.ref t), some (.ref o), some (.ref oa), some (.int (nI (3 * j))), none, some (.int r0)]) (st' := [.int (lg_cmp z.toInt64 (Int32.toInt64 r0))]) rfl ?_
            refine zz_if C (i := .ifCond .eq 5) (by decide +kernel) (Pt := (lg_cmp z.toInt64 (Int32.toInt64 r0)) = 0) (Pf := ¬ (lg_cmp z.toInt64 (Int32.toInt64 r0)) = 0) (off := 5) (r := []) (tgt := 784) rfl (by decide) (fun cL => ?_) (fun cL => ?_)
            · refine zz_go C [(784, .goto 3)] (by decide +kernel) (pc' := 787) (lv' := [some (.ref sc), some (.ref t), some (.ref o), some (.ref oa), some (.int (nI (3 * j))), none, some (.int r0)]) (st' := []) rfl ?_
              exact zz_lv [some (.ref sc), some (.ref t), some (.ref o), some (.ref oa), some (.int (nI (3 * j))), none, none] (fun i u hu => by rcases i with _ | _ | _ | _ | _ | _ | _ | i <;> first | exact hu | cases hu) (Nat.le_of_ble_eq_true rfl) (zz_widen (k' := 38 + 820 * (j + 1)) (n' := 207600 + 8206 * (j + 1)) (by show 38 + 820 * j + 1 + 0 + 0 ≤ _; omega) (by show 207600 + 8206 * j + 6 + 0 + 0 ≤ _; omega) (next h2 ht1 hm1 f1 _ L2 J2))
            · exact absurd ((lg_cmp_eq _ _).mpr (by rw [e2])) cL
        · exact absurd rfl cT
      · cases hp3.2
    · obtain ⟨_, hrv, _⟩ := jn r1 ht1 _ hm1 pt hp2
      cases hrv
  · obtain ⟨_, _, _, _, _, _, _, hv, _⟩ := hp
    cases hv
