/-! ===== the law ===== -/
section SW
variable {K : zz_K} {Q : State → Prop} {h0 h : zz_Hp} {k n pc : Nat} {lv : List (Option Value)} {st : List Value} {cc : ByteArray} {own : String}
theorem zz_swO (C : zz_C K cc own) {dflt lo hi : Int} {offs : Array Int} {len : Nat} {x : Int32} {tgt : Nat} (hd : decode cc pc = .ok (.tableswitch dflt lo hi offs, len)) (hx : x.toInt < lo ∨ hi < x.toInt) (ht : (pc : Int) + dflt = (tgt : Int)) (kk : zz_Z K Q h0 h k n tgt lv st) : zz_Z K Q h0 h k n pc lv (.int x :: st) := by
  obtain ⟨p, l, e, R, s, m, args, below, meth, c, D, aC⟩ := K
  obtain ⟨hexec, hb, hown, hts, hK, hlk⟩ := C
  intro H locs ls hP hS hN hls hn
  exact lv_tableOut hexec hb hd hx ht (kk H locs ls hP hS hN hls hn)
theorem zz_swI (C : zz_C K cc own) {dflt lo hi : Int} {offs : Array Int} {len : Nat} {x : Int32} {off : Int} {tgt : Nat} (hd : decode cc pc = .ok (.tableswitch dflt lo hi offs, len)) (h1 : ¬ x.toInt < lo) (h2 : ¬ hi < x.toInt) (ho : offs[(x.toInt - lo).toNat]? = some off) (ht : (pc : Int) + off = (tgt : Int)) (kk : zz_Z K Q h0 h k n tgt lv st) : zz_Z K Q h0 h k n pc lv (.int x :: st) := by
  obtain ⟨p, l, e, R, s, m, args, below, meth, c, D, aC⟩ := K
  obtain ⟨hexec, hb, hown, hts, hK, hlk⟩ := C
  intro H locs ls hP hS hN hls hn
  exact lv_tableIn hexec hb hd h1 h2 ho ht (kk H locs ls hP hS hN hls hn)
end SW
theorem zr_newL {K : zz_K} {Q : State → Prop} {h0 h : zz_Hp} {k n pc : Nat} {lv : List (Option Value)} {st : List Value} {cc : ByteArray} {own : String} {l : Launch} {D : va_G} {aC : Nat → ClassId} {rm : Room} {ret : Option FieldType} {hs : List (Nat × Nat × Nat × Nat)} (C : zz_C K cc own) (E : zz_En l D aC rm ret hs h0 K) {x : Int32} {N : Nat} (hx : ¬ x < 0) (hN' : x.toNatClampNeg = N) (hby : N * 8 ≤ 536870912) (hce : k + 1 ≤ rm.cells) (hsl : n + N ≤ rm.slots) (hd : decode cc pc = .ok (.newarray .long, 2))
    (kk : ∀ q : Nat, h q = none → zz_sz K ≤ q → zz_Z K Q h0 (va_up h q (some (.inl (zz_ac K 2, N, .inr (.inl (fun _ => 0)))))) (k + 1) (n + N) (pc + 2) lv (.ref q :: st)) : zz_Z K Q h0 h k n pc lv (.int x :: st) :=
  zz_newa (atype := .long) C 2 rfl (fun _ => rfl) (fun _ h => by cases h) (by decide +kernel) (fun _ => rfl) hx hN' hby (by rw [E.cells]; exact hce) (by rw [E.slots]; exact hsl) hd kk
theorem sw_and (x : Int32) : ∃ c : Nat, c < 16 ∧ x &&& nI 15 = nI c := by
  refine ⟨(x &&& nI 15).toBitVec.toNat, ?_, ?_⟩
  · show (x.toBitVec &&& (15 : BitVec 32)).toNat < 16
    rw [BitVec.toNat_and]
    exact Nat.lt_succ_of_le Nat.and_le_right
  · apply Int32.toBitVec_inj.mp
    show (x &&& nI 15).toBitVec = BitVec.ofNat 32 _
    rw [BitVec.ofNat_toNat, BitVec.setWidth_eq]
theorem lw_le {N i : Nat} (hN : N ≤ 1536) (hi : i < 2 ^ 31) (h : ¬ nI N - nI 3 < nI i) : i + 3 ≤ N := by
  by_cases c : 3 ≤ N
  · obtain ⟨q, rfl⟩ : ∃ q, N = q + 3 := ⟨N - 3, by omega⟩
    rw [← nI_add q 3, Int32.add_sub_cancel] at h
    by_cases d : i ≤ q
    · omega
    · exact absurd (nI_lt (by omega) hi) h
  · refine absurd ?_ h
    have h0 : (0 : Int32) ≤ nI i := nI_pos' hi
    have hn : nI N - nI 3 < 0 := by
      rcases (show N = 0 ∨ N = 1 ∨ N = 2 by omega) with e | e | e <;> rw [e] <;> decide
    exact Int32.lt_of_lt_of_le hn h0
def oneW (a : Nat) (e : va_E) : zz_Hp := va_up (fun _ => none) a (some e)
theorem oneW_s (a : Nat) (e : va_E) : oneW a e a = some e := va_up_self _ _ _
theorem oneW_n {a b : Nat} (e : va_E) (h : b ≠ a) : oneW a e b = none := va_up_ne _ _ h
theorem oneW_sub {a : Nat} {e : va_E} {h : zz_Hp} (b : Nat) (x : va_E) (hb : oneW a e b = some x) : va_up h a (some e) b = some x := by
  by_cases c : b = a
  · rw [c, oneW_s] at hb; rw [c, va_up_self]; exact hb
  · rw [oneW_n e c] at hb; cases hb
set_option maxRecDepth 8192 in
set_option maxHeartbeats 4000000 in
theorem law_Z {l : Launch} (hst : l.stackTraces = false) {D : va_G} {K : zz_K} {Q : State → Prop} {h0 : zz_Hp} {ret : Option FieldType} {hs : List (Nat × Nat × Nat × Nat)} (C : zz_C K b_L_law "OverlayTreeLaw") (E : zz_En l D (zz_ac K) (zrm 2048 601024 7293034 84000) ret hs h0 K) {sc N : Nat} {S : Nat → Int32} (X : zz_sX K h0 sc N S) (hN : N ≤ 1536)
    (hend : ∀ (hc : zz_Hp) (k n : Nat) (lv : List (Option Value)), k ≤ 601024 → n ≤ 7293034 → zz_Z K Q h0 hc k n 794 lv [.int (nI 1)]) :
    zz_Z K Q h0 h0 0 0 0 [some (.ref sc), none, none, none, none, none, none] [] := by
  have loop : ∀ (g j t o oa : Nat) (hc ht hm : zz_Hp) (f : Nat → Int64) (th : Int32), j + g = 512 → lawW hc (zz_ac K) ht hm oa f → jS (zz_ac K) t o ht hm th → zz_Z K Q h0 hc (38 + 820 * j) (207600 + 8206 * j) 23 [some (.ref sc), some (.ref t), some (.ref o), some (.ref oa), some (.int (nI (3 * j))), none, none] [] := by
    intro g
    induction g with
    | zero =>
      intro j t o oa hc ht hm f th hjg L J
      refine zz_go C [(23, .iload 4), (25, .aload_n 0)] (by decide +kernel) (pc' := 26) (lv' := [some (.ref sc), some (.ref t), some (.ref o), some (.ref oa), some (.int (nI (3 * j))), none, none]) (st' := [.ref sc, .int (nI (3 * j))]) rfl ?_
      refine zz_slen C X (by decide +kernel) ?_
      show zz_Z _ _ _ _ _ _ _ _ [.int (nI N), .int (nI (3 * j))]
      refine zz_go C [(27, .iconst 3), (28, .isub)] (by decide +kernel) (pc' := 29) (lv' := [some (.ref sc), some (.ref t), some (.ref o), some (.ref oa), some (.int (nI (3 * j))), none, none]) (st' := [.int ((nI N) - (nI 3)), .int (nI (3 * j))]) rfl ?_
      refine zz_if C (i := .if_icmp .gt 764) (by decide +kernel) (Pt := ((nI N) - (nI 3)) < (nI (3 * j))) (Pf := ¬ ((nI N) - (nI 3)) < (nI (3 * j))) (off := 764) (r := []) (tgt := 793) rfl (by decide) (fun cA => ?_) (fun cA => ?_)
      · refine zz_go C [(793, .iconst 1)] (by decide +kernel) (pc' := 794) (lv' := [some (.ref sc), some (.ref t), some (.ref o), some (.ref oa), some (.int (nI (3 * j))), none, none]) (st' := [.int (nI 1)]) rfl ?_
        exact hend _ _ _ _ (by omega) (by omega)
      · have hle : 3 * j + 3 ≤ N := lw_le hN (by omega) cA
        exact absurd hle (by omega)
    | succ g ih =>
      intro j t o oa hc ht hm f th hjg L J
      refine zz_go C [(23, .iload 4), (25, .aload_n 0)] (by decide +kernel) (pc' := 26) (lv' := [some (.ref sc), some (.ref t), some (.ref o), some (.ref oa), some (.int (nI (3 * j))), none, none]) (st' := [.ref sc, .int (nI (3 * j))]) rfl ?_
      refine zz_slen C X (by decide +kernel) ?_
      show zz_Z _ _ _ _ _ _ _ _ [.int (nI N), .int (nI (3 * j))]
      refine zz_go C [(27, .iconst 3), (28, .isub)] (by decide +kernel) (pc' := 29) (lv' := [some (.ref sc), some (.ref t), some (.ref o), some (.ref oa), some (.int (nI (3 * j))), none, none]) (st' := [.int ((nI N) - (nI 3)), .int (nI (3 * j))]) rfl ?_
      refine zz_if C (i := .if_icmp .gt 764) (by decide +kernel) (Pt := ((nI N) - (nI 3)) < (nI (3 * j))) (Pf := ¬ ((nI N) - (nI 3)) < (nI (3 * j))) (off := 764) (r := []) (tgt := 793) rfl (by decide) (fun cA => ?_) (fun cA => ?_)
      · refine zz_go C [(793, .iconst 1)] (by decide +kernel) (pc' := 794) (lv' := [some (.ref sc), some (.ref t), some (.ref o), some (.ref oa), some (.int (nI (3 * j))), none, none]) (st' := [.int (nI 1)]) rfl ?_
        exact hend _ _ _ _ (by omega) (by omega)
      · have hle : 3 * j + 3 ≤ N := lw_le hN (by omega) cA
        refine zz_go C [(32, .aload_n 0), (33, .iload 4)] (by decide +kernel) (pc' := 35) (lv' := [some (.ref sc), some (.ref t), some (.ref o), some (.ref oa), some (.int (nI (3 * j))), none, none]) (st' := [.int (nI (3 * j)), .ref sc]) rfl ?_
        refine zz_sld C X (by omega) (by omega) (by decide +kernel) ?_
        refine zz_go C [(36, .bipush 15), (38, .iand)] (by decide +kernel) (pc' := 39) (lv' := [some (.ref sc), some (.ref t), some (.ref o), some (.ref oa), some (.int (nI (3 * j))), none, none]) (st' := [.int ((S (3 * j)) &&& (nI 15))]) rfl ?_
        have next : ∀ (hc' ht' hm' : zz_Hp) (f' : Nat → Int64) (th' : Int32), lawW hc' (zz_ac K) ht' hm' oa f' → jS (zz_ac K) t o ht' hm' th' → zz_Z K Q h0 hc' (38 + 820 * (j + 1)) (207600 + 8206 * (j + 1)) 787 [some (.ref sc), some (.ref t), some (.ref o), some (.ref oa), some (.int (nI (3 * j))), none, none] [] := by
          intro hc' ht' hm' f' th' L' J'
          refine zz_go C [(787, .iinc 4 3), (790, .goto (-767))] (by decide +kernel) (pc' := 23) (lv' := [some (.ref sc), some (.ref t), some (.ref o), some (.ref oa), some (.int ((nI (3 * j)) + (nI 3))), none, none]) (st' := []) rfl ?_
          rw [show nI (3 * j) + nI 3 = nI (3 * (j + 1)) from nI_add _ 3]
          exact ih (j + 1) t o oa hc' ht' hm' f' th' (by omega) L' J'
        obtain ⟨c, hc16, e⟩ := sw_and (S (3 * j))
        rw [e]
        rcases (show c = 0 ∨ c = 1 ∨ c = 2 ∨ c = 3 ∨ c = 4 ∨ c = 5 ∨ c = 6 ∨ c = 7 ∨ c = 8 ∨ c = 9 ∨ c = 10 ∨ c = 11 ∨ 12 ≤ c by omega) with rfl | rfl | rfl | rfl | rfl | rfl | rfl | rfl | rfl | rfl | rfl | rfl | hc12
        · exact zz_swI C (show decode b_L_law 39 = .ok (.tableswitch 748 0 11 #[61, 136, 172, 228, 276, 320, 376, 420, 488, 556, 624, 692], 61) by decide +kernel) (by decide) (by decide) (off := 61) (tgt := 100) (by decide) (by decide) (law_write hst C E X hN hle L J next)
        · exact zz_swI C (show decode b_L_law 39 = .ok (.tableswitch 748 0 11 #[61, 136, 172, 228, 276, 320, 376, 420, 488, 556, 624, 692], 61) by decide +kernel) (by decide) (by decide) (off := 136) (tgt := 175) (by decide) (by decide) (law_make hst C E X hN hle L J next)
        · exact zz_swI C (show decode b_L_law 39 = .ok (.tableswitch 748 0 11 #[61, 136, 172, 228, 276, 320, 376, 420, 488, 556, 624, 692], 61) by decide +kernel) (by decide) (by decide) (off := 172) (tgt := 211) (by decide) (by decide) (law_remove hst C E X hN hle L J next)
        · exact zz_swI C (show decode b_L_law 39 = .ok (.tableswitch 748 0 11 #[61, 136, 172, 228, 276, 320, 376, 420, 488, 556, 624, 692], 61) by decide +kernel) (by decide) (by decide) (off := 228) (tgt := 267) (by decide) (by decide) (law_move hst C E X hN hle L J next)
        · exact zz_swI C (show decode b_L_law 39 = .ok (.tableswitch 748 0 11 #[61, 136, 172, 228, 276, 320, 376, 420, 488, 556, 624, 692], 61) by decide +kernel) (by decide) (by decide) (off := 276) (tgt := 315) (by decide) (by decide) (law_layer hst C E X hN hle L J next)
        · exact zz_swI C (show decode b_L_law 39 = .ok (.tableswitch 748 0 11 #[61, 136, 172, 228, 276, 320, 376, 420, 488, 556, 624, 692], 61) by decide +kernel) (by decide) (by decide) (off := 320) (tgt := 359) (by decide) (by decide) (law_squash hst C E X hN hle L J next)
        · exact zz_swI C (show decode b_L_law 39 = .ok (.tableswitch 748 0 11 #[61, 136, 172, 228, 276, 320, 376, 420, 488, 556, 624, 692], 61) by decide +kernel) (by decide) (by decide) (off := 376) (tgt := 415) (by decide) (by decide) (law_drop hst C E X hN hle L J next)
        · exact zz_swI C (show decode b_L_law 39 = .ok (.tableswitch 748 0 11 #[61, 136, 172, 228, 276, 320, 376, 420, 488, 556, 624, 692], 61) by decide +kernel) (by decide) (by decide) (off := 420) (tgt := 459) (by decide) (by decide) (law_kind hst C E X hN hle L J next)
        · exact zz_swI C (show decode b_L_law 39 = .ok (.tableswitch 748 0 11 #[61, 136, 172, 228, 276, 320, 376, 420, 488, 556, 624, 692], 61) by decide +kernel) (by decide) (by decide) (off := 488) (tgt := 527) (by decide) (by decide) (law_value hst C E X hN hle L J next)
        · exact zz_swI C (show decode b_L_law 39 = .ok (.tableswitch 748 0 11 #[61, 136, 172, 228, 276, 320, 376, 420, 488, 556, 624, 692], 61) by decide +kernel) (by decide) (by decide) (off := 556) (tgt := 595) (by decide) (by decide) (law_names hst C E X hN hle L J next)
        · exact zz_swI C (show decode b_L_law 39 = .ok (.tableswitch 748 0 11 #[61, 136, 172, 228, 276, 320, 376, 420, 488, 556, 624, 692], 61) by decide +kernel) (by decide) (by decide) (off := 624) (tgt := 663) (by decide) (by decide) (law_mark hst C E X hN hle L J next)
        · exact zz_swI C (show decode b_L_law 39 = .ok (.tableswitch 748 0 11 #[61, 136, 172, 228, 276, 320, 376, 420, 488, 556, 624, 692], 61) by decide +kernel) (by decide) (by decide) (off := 692) (tgt := 731) (by decide) (by decide) (law_marks hst C E X hN hle L J next)
        · exact zz_swO C (show decode b_L_law 39 = .ok (.tableswitch 748 0 11 #[61, 136, 172, 228, 276, 320, 376, 420, 488, 556, 624, 692], 61) by decide +kernel) (Or.inr (by rw [nI_toInt (by omega)]; omega)) (tgt := 787) (by decide) (zz_widen (k' := 38 + 820 * (j + 1)) (n' := 207600 + 8206 * (j + 1)) (by omega) (by omega) (next hc ht hm f th L J))
  refine zr_new C E nd_L_8 (Nat.le_of_ble_eq_true rfl) (Nat.le_of_ble_eq_true rfl) (by decide +kernel) (fun t ht0 _ => ?_)
  refine zz_go C [(3, .dup)] (by decide +kernel) (pc' := 4) (lv' := [some (.ref sc), none, none, none, none, none, none]) (st' := [.ref t, .ref t]) rfl ?_
  refine zz_cI C E (As := []) (rest := [.ref t]) (hc := (oneW t (.inr (2, [.null, .int 0, .null])))) md_T_init (c_T_init l D (zz_ac K) (oneW t (.inr (2, [.null, .int 0, .null]))) t (oneW_s _ _)) cw_T_init ml_L_61 im_T_init rfl oneW_sub rfl rfl (Nat.le_of_ble_eq_true rfl) ⟨by decide, by decide⟩ ⟨(Nat.le_of_ble_eq_true rfl), (Nat.le_of_ble_eq_true rfl)⟩ (by decide +kernel) (fun v0 ht1 hp hn hd => ?_) (fun v0 ht1 hp hn hd => ?_)
  · obtain ⟨hv, la, sa, a, A, W⟩ := hp
    cases hv
    have F1 : ∀ a e, ht1 a = some e → zz_mix (oneW t (.inr (2, [.null, .int 0, .null]))) ht1 (va_up h0 t (some (.inr (2, [.null, .int 0, .null])))) a = some e := fun a e ha => mix_s ha
    generalize zz_mix (oneW t (.inr (2, [.null, .int 0, .null]))) ht1 (va_up h0 t (some (.inr (2, [.null, .int 0, .null])))) = h2 at F1 ⊢
    show zz_Z _ _ _ _ _ _ _ _ [.ref t]
    refine zz_go C [(7, .astore_n 1)] (by decide +kernel) (pc' := 8) (lv' := [some (.ref sc), some (.ref t), none, none, none, none, none]) (st' := []) rfl ?_
    refine zr_new C E nd_L_62 (Nat.le_of_ble_eq_true rfl) (Nat.le_of_ble_eq_true rfl) (by decide +kernel) (fun o ho0 _ => ?_)
    refine zz_go C [(11, .dup)] (by decide +kernel) (pc' := 12) (lv' := [some (.ref sc), some (.ref t), none, none, none, none, none]) (st' := [.ref o, .ref o]) rfl ?_
    have nto : ∀ a e, ht1 a = some e → a ≠ o := fun a e ha q => by
      have := F1 a e ha
      rw [q, ho0] at this; cases this
    have F2 : ∀ a e, ht1 a = some e → va_up h2 o (some (.inr (3, [.int 0, .int 0, .null, .null, .null, .null, .null, .int 0, .null, .null]))) a = some e := fun a e ha => by rw [va_up_ne _ _ (nto a e ha)]; exact F1 a e ha
    refine zz_cI C E (As := []) (rest := [.ref o]) (hc := (oneW o (.inr (3, [.int 0, .int 0, .null, .null, .null, .null, .null, .int 0, .null, .null])))) md_O_init (c_O_init l D (zz_ac K) (oneW o (.inr (3, [.int 0, .int 0, .null, .null, .null, .null, .null, .int 0, .null, .null]))) o (oneW_s _ _)) cw_O_init ml_L_64 im_O_init rfl oneW_sub rfl rfl (Nat.le_of_ble_eq_true rfl) ⟨by decide, by decide⟩ ⟨(Nat.le_of_ble_eq_true rfl), (Nat.le_of_ble_eq_true rfl)⟩ (by decide +kernel) (fun v1 hm1 hp2 hn2 hd2 => ?_) (fun v1 hm1 hp2 hn2 hd2 => ?_)
    · obtain ⟨hv, ad, Wm⟩ := hp2
      cases hv
      have F3 : ∀ a e, ht1 a = some e → zz_mix (oneW o (.inr (3, [.int 0, .int 0, .null, .null, .null, .null, .null, .int 0, .null, .null]))) hm1 (va_up h2 o (some (.inr (3, [.int 0, .int 0, .null, .null, .null, .null, .null, .int 0, .null, .null])))) a = some e ∧ hm1 a = none := fun a e ha => mix_k hn2 (F2 a e ha) (oneW_n _ (nto a e ha))
      have G3 : ∀ a e, hm1 a = some e → zz_mix (oneW o (.inr (3, [.int 0, .int 0, .null, .null, .null, .null, .null, .int 0, .null, .null]))) hm1 (va_up h2 o (some (.inr (3, [.int 0, .int 0, .null, .null, .null, .null, .null, .int 0, .null, .null])))) a = some e := fun a e ha => mix_s ha
      generalize zz_mix (oneW o (.inr (3, [.int 0, .int 0, .null, .null, .null, .null, .null, .int 0, .null, .null]))) hm1 (va_up h2 o (some (.inr (3, [.int 0, .int 0, .null, .null, .null, .null, .null, .int 0, .null, .null])))) = h4 at F3 G3 ⊢
      show zz_Z _ _ _ _ _ _ _ _ [.ref o]
      refine zz_go C [(15, .astore_n 2), (16, .iconst 1)] (by decide +kernel) (pc' := 17) (lv' := [some (.ref sc), some (.ref t), some (.ref o), none, none, none, none]) (st' := [.int (nI 1)]) rfl ?_
      refine zr_newL C E (by decide) (N := 1) (by decide) (by decide) (Nat.le_of_ble_eq_true rfl) (Nat.le_of_ble_eq_true rfl) (by decide +kernel) (fun oa hoa _ => ?_)
      have nt : ∀ a e, ht1 a = some e → a ≠ oa := fun a e ha q => by
        have := (F3 a e ha).1
        rw [q, hoa] at this; cases this
      have nm : ∀ a e, hm1 a = some e → a ≠ oa := fun a e ha q => by
        have := G3 a e ha
        rw [q, hoa] at this; cases this
      have none_of : ∀ (g : zz_Hp) (b : Nat), (∀ a e, g a = some e → a ≠ b) → g b = none := fun g b hg => by
        cases hh : g b with
        | none => rfl
        | some e => exact absurd rfl (hg b e hh)
      have L : lawW (va_up h4 oa (some (loE (zz_ac K) (fun _ => 0)))) (zz_ac K) ht1 hm1 oa (fun _ => 0) := by
        refine ⟨fun a e ha => by rw [va_up_ne _ _ (nt a e ha)]; exact (F3 a e ha).1, fun a e ha => ⟨by rw [va_up_ne _ _ (nm a e ha)]; exact G3 a e ha, ?_⟩, va_up_self _ _ _, none_of ht1 oa nt, none_of hm1 oa nm⟩
        cases hh : ht1 a with
        | none => rfl
        | some x =>
          have := (F3 a x hh).2
          rw [ha] at this; cases this
      refine zz_go C [(19, .astore_n 3), (20, .iconst 0), (21, .istore 4)] (by decide +kernel) (pc' := 23) (lv' := [some (.ref sc), some (.ref t), some (.ref o), some (.ref oa), some (.int (nI 0)), none, none]) (st' := []) rfl ?_
      refine zz_widen (k' := 38 + 820 * 0) (n' := 207600 + 8206 * 0) (Nat.le_of_ble_eq_true rfl) (Nat.le_of_ble_eq_true rfl) ?_
      exact loop 512 0 t o oa _ ht1 hm1 _ _ rfl L ⟨la, sa, A, ad, 1, _, _, _, _, _, _, W, Wm, rel_new a⟩
    · cases hp2.1
  · cases hp.1
