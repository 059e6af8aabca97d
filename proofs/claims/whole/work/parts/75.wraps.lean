/-! ===== the wrappers of the law ===== -/
def loE (aC : Nat → ClassId) (f : Nat → Int64) : va_E := .inl (aC 2, 1, .inr (.inl f))
/-- a call on the tree: h is all, ht the tree's; what stays -/
def twF (h ht h' ht' : zz_Hp) (oa : Nat) : Prop := (∀ a e, ht' a = some e → h' a = some e) ∧ ∀ a e, h a = some e → ht a = none → a ≠ oa → h' a = some e ∧ ht' a = none
theorem mix_k {ht h1 h : zz_Hp} (hn : ∀ (a : Nat) (e : va_E), h1 a = some e → ht a = none → h a = none) {a : Nat} {e : va_E} (ha : h a = some e) (hta : ht a = none) : zz_mix ht h1 h a = some e ∧ h1 a = none := by
  have hx : h1 a = none := by
    cases hh : h1 a with
    | none => rfl
    | some e' =>
      have := hn a e' hh hta
      rw [ha] at this; cases this
  exact ⟨by simp only [zz_mix, hx, hta, ha], hx⟩
theorem mix_s {ht h1 h : zz_Hp} {a : Nat} {e : va_E} (ha : h1 a = some e) : zz_mix ht h1 h a = some e := by simp only [zz_mix, ha]
theorem twF_mix {ht h1 h : zz_Hp} {oa : Nat} (hn : ∀ (a : Nat) (e : va_E), h1 a = some e → ht a = none → h a = none) : twF h ht (zz_mix ht h1 h) h1 oa := ⟨fun _ _ ha => mix_s ha, fun _ _ ha hta _ => mix_k hn ha hta⟩
/-- .. one that leaves all else -/
def twA (h ht h' ht' : zz_Hp) : Prop := (∀ a e, ht' a = some e → h' a = some e) ∧ ∀ a e, h a = some e → ht a = none → h' a = some e ∧ ht' a = none
theorem twA_mix {ht h1 h : zz_Hp} (hn : ∀ (a : Nat) (e : va_E), h1 a = some e → ht a = none → h a = none) : twA h ht (zz_mix ht h1 h) h1 := ⟨fun _ _ ha => mix_s ha, fun _ _ ha hta => mix_k hn ha hta⟩
theorem twF_up {h ht h' ht' : zz_Hp} {oa : Nat} {e : va_E} (F : twF h ht h' ht' oa) (ho : ht' oa = none) : twF h ht (va_up h' oa (some e)) ht' oa := by
  refine ⟨fun a x ha => ?_, fun a x ha hta hne => ?_⟩
  · rw [va_up_ne _ _ (fun q => by rw [q, ho] at ha; cases ha)]; exact F.1 a x ha
  · rw [va_up_ne _ _ hne]; exact F.2 a x ha hta hne
/-- what a wrapper answers -/
def cd2 (X1 X2 : String) : zz_R → Int32
  | .inl _ => nI 0
  | .inr X => if X = X1 then nI 1 else if X = X2 then nI 2 else nI 3
theorem lo_upd (f : Nat → Int64) (x : Int64) : vp_updL f (nI 0).toNatClampNeg x 0 = x := if_pos (by decide)
theorem vp_in0 : vp_in (nI 0) 1 := vp_in_nI (by decide) (by decide)
set_option maxHeartbeats 4000000 in
theorem c_L_write (l : Launch) (D : va_G) (aC : Nat → ClassId) (h ht : zz_Hp) (t oa : Nat) (f : Nat → Int64) (x y : Int32) {post : zz_R → zz_Hp → Prop} {fs : List Value} (Mt : zz_Ct l D aC y_T_write (zrm 8 12 80 200) [.ref t, .int x, .int y] ht post) (htt : ht t = some (.inr (2, fs))) (sub : ∀ (a : Nat) (e : va_E), ht a = some e → h a = some e) (ho : h oa = some (loE aC f)) (hto : ht oa = none) (hX : ∀ X h', post (.inr X) h' → X = "java/lang/IllegalArgumentException" ∨ X = "java/lang/IllegalStateException") (hV : ∀ v h', post (.inl v) h' → ∃ b : Bool, v = some (.int (bI b))) :
    zz_Ct l D aC y_L_write (zrm 9 12 80 260) [.ref t, .int x, .int y, .ref oa] h (fun r h' => ∃ (r' : zz_R) (ht' : zz_Hp) (f' : Nat → Int64), post r' ht' ∧ twF h ht h' ht' oa ∧ ht' oa = none ∧ h' oa = some (loE aC f') ∧ r = .inl (some (.int (cd2 "java/lang/IllegalArgumentException" "java/lang/IllegalStateException" r'))) ∧ ∀ b : Bool, r' = .inl (some (.int (bI b))) → f' 0 = Int64.ofNat (if b then 1 else 0)) := by
  refine zz_ct md_L_write rfl (by simp [Value.category]) (Nat.le_of_ble_eq_true rfl) fun K C E hI => ?_
  obtain rfl := E.ac
  refine zz_go C [(0, .aload_n 3), (1, .iconst 0), (2, .aload_n 0), (3, .iload_n 1), (4, .iload_n 2)] (by decide +kernel) (pc' := 5) (lv' := [some (.ref t), some (.int x), some (.int y), some (.ref oa), none]) (st' := [.int y, .int x, .ref t, .int (nI 0), .ref oa]) rfl ?_
  refine zz_cV C E (ci := 2) (As := [.int x, .int y]) (rest := [.int (nI 0), .ref oa]) (hc := ht) md_T_write (Mt) ml_L_7 im_T_write se_T_write rfl htt sub rfl rfl (Nat.le_of_ble_eq_true rfl) ⟨by decide, by decide⟩ ⟨(Nat.le_of_ble_eq_true rfl), (Nat.le_of_ble_eq_true rfl)⟩ (by decide +kernel) (fun v0 h1 hp hn hd => ?_) (fun v0 h1 hp hn hd => ?_)
  · have F := twF_mix (oa := oa) hn
    obtain ⟨o1, o2⟩ := mix_k hn ho hto
    obtain ⟨b, rfl⟩ := hV v0 h1 hp
    show zz_Z _ _ _ _ _ _ _ _ [.int (bI b), .int (nI 0), .ref oa]
    refine zz_if C (i := .ifCond .eq 7) (by decide +kernel) (Pt := (bI b) = 0) (Pf := ¬ (bI b) = 0) (off := 7) (r := [.int (nI 0), .ref oa]) (tgt := 15) rfl (by decide) (fun cB => ?_) (fun cB => ?_)
    · have hb : b = false := (bI_0 b).mp cB
      refine zz_go C [(15, .lconst 0)] (by decide +kernel) (pc' := 16) (lv' := [some (.ref t), some (.int x), some (.int y), some (.ref oa), none]) (st' := [.long (Int64.ofNat 0), .int (nI 0), .ref oa]) rfl ?_
      refine zz_last C 2 (fun _ => rfl) o1 vp_in0 (by decide +kernel) ?_
      refine zz_go C [(17, .goto 11), (28, .iconst 0)] (by decide +kernel) (pc' := 29) (lv' := [some (.ref t), some (.int x), some (.int y), some (.ref oa), none]) (st' := [.int (nI 0)]) rfl ?_
      exact zr_i C E (Nat.le_of_ble_eq_true rfl) (Nat.le_of_ble_eq_true rfl) (by decide +kernel) (⟨_, h1, _, hp, twF_up F o2, o2, va_up_self _ _ _, rfl, fun b' hb' => by rw [lo_upd]; cases b' <;> first | rfl | (exact absurd hb' (by rw [hb]; intro z; exact absurd (Value.int.inj (Option.some.inj (Sum.inl.inj z))) (by decide)))⟩)
    · have hb : b = true := bI_1 cB
      refine zz_go C [(11, .lconst 1), (12, .goto 4)] (by decide +kernel) (pc' := 16) (lv' := [some (.ref t), some (.int x), some (.int y), some (.ref oa), none]) (st' := [.long (Int64.ofNat 1), .int (nI 0), .ref oa]) rfl ?_
      refine zz_last C 2 (fun _ => rfl) o1 vp_in0 (by decide +kernel) ?_
      refine zz_go C [(17, .goto 11), (28, .iconst 0)] (by decide +kernel) (pc' := 29) (lv' := [some (.ref t), some (.int x), some (.int y), some (.ref oa), none]) (st' := [.int (nI 0)]) rfl ?_
      exact zr_i C E (Nat.le_of_ble_eq_true rfl) (Nat.le_of_ble_eq_true rfl) (by decide +kernel) (⟨_, h1, _, hp, twF_up F o2, o2, va_up_self _ _ _, rfl, fun b' hb' => by rw [lo_upd]; cases b' <;> first | rfl | (exact absurd hb' (by rw [hb]; intro z; exact absurd (Value.int.inj (Option.some.inj (Sum.inl.inj z))) (by decide)))⟩)
  · have F := twF_mix (oa := oa) hn
    obtain ⟨o1, o2⟩ := mix_k hn ho hto
    rcases hX v0 h1 hp with rfl | rfl
    · refine zz_catch C E [] (⟨0, 17, 20, 13⟩ : ExceptionTableEntry) [(⟨0, 17, 24, 15⟩ : ExceptionTableEntry)] rfl (fun z hz => absurd hz List.not_mem_nil) rfl (by decide) cl_L_13 (by decide +kernel) (fun q => ?_)
      refine zz_go C [(20, .astore 4), (22, .iconst 1)] (by decide +kernel) (pc' := 23) (lv' := [some (.ref t), some (.int x), some (.int y), some (.ref oa), some (.ref q)]) (st' := [.int (nI 1)]) rfl ?_
      exact zr_i C E (Nat.le_of_ble_eq_true rfl) (Nat.le_of_ble_eq_true rfl) (by decide +kernel) (⟨_, h1, f, hp, F, o2, o1, rfl, fun b' hb' => by cases hb'⟩)
    · refine zz_catch C E [(⟨0, 17, 20, 13⟩ : ExceptionTableEntry)] (⟨0, 17, 24, 15⟩ : ExceptionTableEntry) [] rfl (fun z hz => by rw [List.mem_singleton.mp hz]; exact ⟨by decide, _, cl_L_13, by decide +kernel⟩) rfl (by decide) cl_L_15 (by decide +kernel) (fun q => ?_)
      refine zz_go C [(24, .astore 4), (26, .iconst 2)] (by decide +kernel) (pc' := 27) (lv' := [some (.ref t), some (.int x), some (.int y), some (.ref oa), some (.ref q)]) (st' := [.int (nI 2)]) rfl ?_
      exact zr_i C E (Nat.le_of_ble_eq_true rfl) (Nat.le_of_ble_eq_true rfl) (by decide +kernel) (⟨_, h1, f, hp, F, o2, o1, rfl, fun b' hb' => by cases hb'⟩)
set_option maxHeartbeats 4000000 in
theorem c_L_make (l : Launch) (D : va_G) (aC : Nat → ClassId) (h ht : zz_Hp) (t oa : Nat) (f : Nat → Int64) (x : Int32) {post : zz_R → zz_Hp → Prop} {fs : List Value} (Mt : zz_Ct l D aC y_T_make (zrm 8 12 80 200) [.ref t, .int x] ht post) (htt : ht t = some (.inr (2, fs))) (sub : ∀ (a : Nat) (e : va_E), ht a = some e → h a = some e) (ho : h oa = some (loE aC f)) (hto : ht oa = none) (hX : ∀ X h', post (.inr X) h' → X = "java/lang/IllegalArgumentException" ∨ X = "java/lang/IllegalStateException") (hV : ∀ v h', post (.inl v) h' → v = none) :
    zz_Ct l D aC y_L_make (zrm 9 12 80 260) [.ref t, .int x] h (fun r h' => ∃ (r' : zz_R) (ht' : zz_Hp), post r' ht' ∧ twA h ht h' ht' ∧ r = .inl (some (.int (cd2 "java/lang/IllegalArgumentException" "java/lang/IllegalStateException" r')))) := by
  refine zz_ct md_L_make rfl (by simp [Value.category]) (Nat.le_of_ble_eq_true rfl) fun K C E hI => ?_
  obtain rfl := E.ac
  refine zz_go C [(0, .aload_n 0), (1, .iload_n 1)] (by decide +kernel) (pc' := 2) (lv' := [some (.ref t), some (.int x), none]) (st' := [.int x, .ref t]) rfl ?_
  refine zz_cV C E (ci := 2) (As := [.int x]) (rest := []) (hc := ht) md_T_make (Mt) ml_L_17 im_T_make se_T_make rfl htt sub rfl rfl (Nat.le_of_ble_eq_true rfl) ⟨by decide, by decide⟩ ⟨(Nat.le_of_ble_eq_true rfl), (Nat.le_of_ble_eq_true rfl)⟩ (by decide +kernel) (fun v0 h1 hp hn hd => ?_) (fun v0 h1 hp hn hd => ?_)
  · have F := twA_mix hn
    obtain rfl := hV v0 h1 hp
    show zz_Z _ _ _ _ _ _ _ _ []
    refine zz_go C [(5, .goto 9), (14, .iconst 0)] (by decide +kernel) (pc' := 15) (lv' := [some (.ref t), some (.int x), none]) (st' := [.int (nI 0)]) rfl ?_
    exact zr_i C E (Nat.le_of_ble_eq_true rfl) (Nat.le_of_ble_eq_true rfl) (by decide +kernel) (⟨_, h1, hp, F, rfl⟩)
  · have F := twA_mix hn
    rcases hX v0 h1 hp with rfl | rfl
    · refine zz_catch C E [] (⟨0, 5, 8, 13⟩ : ExceptionTableEntry) [(⟨0, 5, 11, 15⟩ : ExceptionTableEntry)] rfl (fun z hz => absurd hz List.not_mem_nil) rfl (by decide) cl_L_13 (by decide +kernel) (fun q => ?_)
      refine zz_go C [(8, .astore_n 2), (9, .iconst 1)] (by decide +kernel) (pc' := 10) (lv' := [some (.ref t), some (.int x), some (.ref q)]) (st' := [.int (nI 1)]) rfl ?_
      exact zr_i C E (Nat.le_of_ble_eq_true rfl) (Nat.le_of_ble_eq_true rfl) (by decide +kernel) (⟨_, h1, hp, F, rfl⟩)
    · refine zz_catch C E [(⟨0, 5, 8, 13⟩ : ExceptionTableEntry)] (⟨0, 5, 11, 15⟩ : ExceptionTableEntry) [] rfl (fun z hz => by rw [List.mem_singleton.mp hz]; exact ⟨by decide, _, cl_L_13, by decide +kernel⟩) rfl (by decide) cl_L_15 (by decide +kernel) (fun q => ?_)
      refine zz_go C [(11, .astore_n 2), (12, .iconst 2)] (by decide +kernel) (pc' := 13) (lv' := [some (.ref t), some (.int x), some (.ref q)]) (st' := [.int (nI 2)]) rfl ?_
      exact zr_i C E (Nat.le_of_ble_eq_true rfl) (Nat.le_of_ble_eq_true rfl) (by decide +kernel) (⟨_, h1, hp, F, rfl⟩)
set_option maxHeartbeats 4000000 in
theorem c_L_remove (l : Launch) (D : va_G) (aC : Nat → ClassId) (h ht : zz_Hp) (t oa : Nat) (f : Nat → Int64) (x : Int32) {post : zz_R → zz_Hp → Prop} {fs : List Value} (Mt : zz_Ct l D aC y_T_remove (zrm 8 12 80 260) [.ref t, .int x] ht post) (htt : ht t = some (.inr (2, fs))) (sub : ∀ (a : Nat) (e : va_E), ht a = some e → h a = some e) (ho : h oa = some (loE aC f)) (hto : ht oa = none) (hX : ∀ X h', post (.inr X) h' → X = "java/lang/IllegalArgumentException" ∨ X = "java/util/NoSuchElementException") (hV : ∀ v h', post (.inl v) h' → ∃ x : Int32, v = some (.int x)) :
    zz_Ct l D aC y_L_remove (zrm 9 12 80 320) [.ref t, .int x, .ref oa] h (fun r h' => ∃ (r' : zz_R) (ht' : zz_Hp) (f' : Nat → Int64), post r' ht' ∧ twF h ht h' ht' oa ∧ ht' oa = none ∧ h' oa = some (loE aC f') ∧ r = .inl (some (.int (cd2 "java/lang/IllegalArgumentException" "java/util/NoSuchElementException" r'))) ∧ ∀ x : Int32, r' = .inl (some (.int x)) → f' 0 = x.toInt64) := by
  refine zz_ct md_L_remove rfl (by simp [Value.category]) (Nat.le_of_ble_eq_true rfl) fun K C E hI => ?_
  obtain rfl := E.ac
  refine zz_go C [(0, .aload_n 2), (1, .iconst 0), (2, .aload_n 0), (3, .iload_n 1)] (by decide +kernel) (pc' := 4) (lv' := [some (.ref t), some (.int x), some (.ref oa), none]) (st' := [.int x, .ref t, .int (nI 0), .ref oa]) rfl ?_
  refine zz_cV C E (ci := 2) (As := [.int x]) (rest := [.int (nI 0), .ref oa]) (hc := ht) md_T_remove (Mt) ml_L_21 im_T_remove se_T_remove rfl htt sub rfl rfl (Nat.le_of_ble_eq_true rfl) ⟨by decide, by decide⟩ ⟨(Nat.le_of_ble_eq_true rfl), (Nat.le_of_ble_eq_true rfl)⟩ (by decide +kernel) (fun v0 h1 hp hn hd => ?_) (fun v0 h1 hp hn hd => ?_)
  · have F := twF_mix (oa := oa) hn
    obtain ⟨o1, o2⟩ := mix_k hn ho hto
    obtain ⟨x0, rfl⟩ := hV v0 h1 hp
    show zz_Z _ _ _ _ _ _ _ _ [.int x0, .int (nI 0), .ref oa]
    refine zz_go C [(7, .i2l)] (by decide +kernel) (pc' := 8) (lv' := [some (.ref t), some (.int x), some (.ref oa), none]) (st' := [.long (Int32.toInt64 x0), .int (nI 0), .ref oa]) rfl ?_
    refine zz_last C 2 (fun _ => rfl) o1 vp_in0 (by decide +kernel) ?_
    refine zz_go C [(9, .goto 9), (18, .iconst 0)] (by decide +kernel) (pc' := 19) (lv' := [some (.ref t), some (.int x), some (.ref oa), none]) (st' := [.int (nI 0)]) rfl ?_
    exact zr_i C E (Nat.le_of_ble_eq_true rfl) (Nat.le_of_ble_eq_true rfl) (by decide +kernel) (⟨_, h1, _, hp, twF_up F o2, o2, va_up_self _ _ _, rfl, fun x1 h1' => by rw [lo_upd, Value.int.inj (Option.some.inj (Sum.inl.inj h1'))]⟩)
  · have F := twF_mix (oa := oa) hn
    obtain ⟨o1, o2⟩ := mix_k hn ho hto
    rcases hX v0 h1 hp with rfl | rfl
    · refine zz_catch C E [] (⟨0, 9, 12, 13⟩ : ExceptionTableEntry) [(⟨0, 9, 15, 25⟩ : ExceptionTableEntry)] rfl (fun z hz => absurd hz List.not_mem_nil) rfl (by decide) cl_L_13 (by decide +kernel) (fun q => ?_)
      refine zz_go C [(12, .astore_n 3), (13, .iconst 1)] (by decide +kernel) (pc' := 14) (lv' := [some (.ref t), some (.int x), some (.ref oa), some (.ref q)]) (st' := [.int (nI 1)]) rfl ?_
      exact zr_i C E (Nat.le_of_ble_eq_true rfl) (Nat.le_of_ble_eq_true rfl) (by decide +kernel) (⟨_, h1, f, hp, F, o2, o1, rfl, fun b' hb' => by cases hb'⟩)
    · refine zz_catch C E [(⟨0, 9, 12, 13⟩ : ExceptionTableEntry)] (⟨0, 9, 15, 25⟩ : ExceptionTableEntry) [] rfl (fun z hz => by rw [List.mem_singleton.mp hz]; exact ⟨by decide, _, cl_L_13, by decide +kernel⟩) rfl (by decide) cl_L_25 (by decide +kernel) (fun q => ?_)
      refine zz_go C [(15, .astore_n 3), (16, .iconst 2)] (by decide +kernel) (pc' := 17) (lv' := [some (.ref t), some (.int x), some (.ref oa), some (.ref q)]) (st' := [.int (nI 2)]) rfl ?_
      exact zr_i C E (Nat.le_of_ble_eq_true rfl) (Nat.le_of_ble_eq_true rfl) (by decide +kernel) (⟨_, h1, f, hp, F, o2, o1, rfl, fun b' hb' => by cases hb'⟩)
set_option maxHeartbeats 4000000 in
theorem c_L_move (l : Launch) (D : va_G) (aC : Nat → ClassId) (h ht : zz_Hp) (t oa : Nat) (f : Nat → Int64) (x y : Int32) {post : zz_R → zz_Hp → Prop} {fs : List Value} (Mt : zz_Ct l D aC y_T_move (zrm 8 24 160 200) [.ref t, .int x, .int y] ht post) (htt : ht t = some (.inr (2, fs))) (sub : ∀ (a : Nat) (e : va_E), ht a = some e → h a = some e) (ho : h oa = some (loE aC f)) (hto : ht oa = none) (hX : ∀ X h', post (.inr X) h' → X = "java/lang/IllegalArgumentException" ∨ X = "java/util/NoSuchElementException" ∨ X = "java/lang/IllegalStateException") (hV : ∀ v h', post (.inl v) h' → v = none) :
    zz_Ct l D aC y_L_move (zrm 9 24 160 260) [.ref t, .int x, .int y] h (fun r h' => ∃ (r' : zz_R) (ht' : zz_Hp), post r' ht' ∧ twA h ht h' ht' ∧ r = .inl (some (.int (cd2 "java/lang/IllegalArgumentException" "java/util/NoSuchElementException" r')))) := by
  refine zz_ct md_L_move rfl (by simp [Value.category]) (Nat.le_of_ble_eq_true rfl) fun K C E hI => ?_
  obtain rfl := E.ac
  refine zz_go C [(0, .aload_n 0), (1, .iload_n 1), (2, .iload_n 2)] (by decide +kernel) (pc' := 3) (lv' := [some (.ref t), some (.int x), some (.int y), none]) (st' := [.int y, .int x, .ref t]) rfl ?_
  refine zz_cV C E (ci := 2) (As := [.int x, .int y]) (rest := []) (hc := ht) md_T_move (Mt) ml_L_27 im_T_move se_T_move rfl htt sub rfl rfl (Nat.le_of_ble_eq_true rfl) ⟨by decide, by decide⟩ ⟨(Nat.le_of_ble_eq_true rfl), (Nat.le_of_ble_eq_true rfl)⟩ (by decide +kernel) (fun v0 h1 hp hn hd => ?_) (fun v0 h1 hp hn hd => ?_)
  · have F := twA_mix hn
    obtain rfl := hV v0 h1 hp
    show zz_Z _ _ _ _ _ _ _ _ []
    refine zz_go C [(6, .goto 12), (18, .iconst 0)] (by decide +kernel) (pc' := 19) (lv' := [some (.ref t), some (.int x), some (.int y), none]) (st' := [.int (nI 0)]) rfl ?_
    exact zr_i C E (Nat.le_of_ble_eq_true rfl) (Nat.le_of_ble_eq_true rfl) (by decide +kernel) (⟨_, h1, hp, F, rfl⟩)
  · have F := twA_mix hn
    rcases hX v0 h1 hp with rfl | rfl | rfl
    · refine zz_catch C E [] (⟨0, 6, 9, 13⟩ : ExceptionTableEntry) [(⟨0, 6, 12, 25⟩ : ExceptionTableEntry), (⟨0, 6, 15, 15⟩ : ExceptionTableEntry)] rfl (fun z hz => absurd hz List.not_mem_nil) rfl (by decide) cl_L_13 (by decide +kernel) (fun q => ?_)
      refine zz_go C [(9, .astore_n 3), (10, .iconst 1)] (by decide +kernel) (pc' := 11) (lv' := [some (.ref t), some (.int x), some (.int y), some (.ref q)]) (st' := [.int (nI 1)]) rfl ?_
      exact zr_i C E (Nat.le_of_ble_eq_true rfl) (Nat.le_of_ble_eq_true rfl) (by decide +kernel) (⟨_, h1, hp, F, rfl⟩)
    · refine zz_catch C E [(⟨0, 6, 9, 13⟩ : ExceptionTableEntry)] (⟨0, 6, 12, 25⟩ : ExceptionTableEntry) [(⟨0, 6, 15, 15⟩ : ExceptionTableEntry)] rfl (fun z hz => by rw [List.mem_singleton.mp hz]; exact ⟨by decide, _, cl_L_13, by decide +kernel⟩) rfl (by decide) cl_L_25 (by decide +kernel) (fun q => ?_)
      refine zz_go C [(12, .astore_n 3), (13, .iconst 2)] (by decide +kernel) (pc' := 14) (lv' := [some (.ref t), some (.int x), some (.int y), some (.ref q)]) (st' := [.int (nI 2)]) rfl ?_
      exact zr_i C E (Nat.le_of_ble_eq_true rfl) (Nat.le_of_ble_eq_true rfl) (by decide +kernel) (⟨_, h1, hp, F, rfl⟩)
    · refine zz_catch C E [(⟨0, 6, 9, 13⟩ : ExceptionTableEntry), (⟨0, 6, 12, 25⟩ : ExceptionTableEntry)] (⟨0, 6, 15, 15⟩ : ExceptionTableEntry) [] rfl (fun z hz => by simp only [List.mem_cons, List.not_mem_nil, or_false] at hz; rcases hz with rfl | rfl <;> first | exact ⟨by decide, _, cl_L_13, by decide +kernel⟩ | exact ⟨by decide, _, cl_L_25, by decide +kernel⟩) rfl (by decide) cl_L_15 (by decide +kernel) (fun q => ?_)
      refine zz_go C [(15, .astore_n 3), (16, .iconst 3)] (by decide +kernel) (pc' := 17) (lv' := [some (.ref t), some (.int x), some (.int y), some (.ref q)]) (st' := [.int (nI 3)]) rfl ?_
      exact zr_i C E (Nat.le_of_ble_eq_true rfl) (Nat.le_of_ble_eq_true rfl) (by decide +kernel) (⟨_, h1, hp, F, rfl⟩)
set_option maxHeartbeats 4000000 in
theorem c_L_layer (l : Launch) (D : va_G) (aC : Nat → ClassId) (h ht : zz_Hp) (t oa : Nat) (f : Nat → Int64) {post : zz_R → zz_Hp → Prop} {fs : List Value} (Mt : zz_Ct l D aC y_T_layer (zrm 6 2 9 90) [.ref t] ht post) (htt : ht t = some (.inr (2, fs))) (sub : ∀ (a : Nat) (e : va_E), ht a = some e → h a = some e) (ho : h oa = some (loE aC f)) (hto : ht oa = none) (hX : ∀ X h', post (.inr X) h' → X = "java/lang/UnsupportedOperationException") (hV : ∀ v h', post (.inl v) h' → ∃ x : Int32, v = some (.int x)) :
    zz_Ct l D aC y_L_layer (zrm 7 2 9 150) [.ref t, .ref oa] h (fun r h' => ∃ (r' : zz_R) (ht' : zz_Hp) (f' : Nat → Int64), post r' ht' ∧ twF h ht h' ht' oa ∧ ht' oa = none ∧ h' oa = some (loE aC f') ∧ r = .inl (some (.int (cd2 "java/lang/UnsupportedOperationException" "" r'))) ∧ ∀ x : Int32, r' = .inl (some (.int x)) → f' 0 = x.toInt64) := by
  refine zz_ct md_L_layer rfl (by simp [Value.category]) (Nat.le_of_ble_eq_true rfl) fun K C E hI => ?_
  obtain rfl := E.ac
  refine zz_go C [(0, .aload_n 1), (1, .iconst 0), (2, .aload_n 0)] (by decide +kernel) (pc' := 3) (lv' := [some (.ref t), some (.ref oa), none]) (st' := [.ref t, .int (nI 0), .ref oa]) rfl ?_
  refine zz_cV C E (ci := 2) (As := []) (rest := [.int (nI 0), .ref oa]) (hc := ht) md_T_layer (Mt) ml_L_31 im_T_layer se_T_layer rfl htt sub rfl rfl (Nat.le_of_ble_eq_true rfl) ⟨by decide, by decide⟩ ⟨(Nat.le_of_ble_eq_true rfl), (Nat.le_of_ble_eq_true rfl)⟩ (by decide +kernel) (fun v0 h1 hp hn hd => ?_) (fun v0 h1 hp hn hd => ?_)
  · have F := twF_mix (oa := oa) hn
    obtain ⟨o1, o2⟩ := mix_k hn ho hto
    obtain ⟨x0, rfl⟩ := hV v0 h1 hp
    show zz_Z _ _ _ _ _ _ _ _ [.int x0, .int (nI 0), .ref oa]
    refine zz_go C [(6, .i2l)] (by decide +kernel) (pc' := 7) (lv' := [some (.ref t), some (.ref oa), none]) (st' := [.long (Int32.toInt64 x0), .int (nI 0), .ref oa]) rfl ?_
    refine zz_last C 2 (fun _ => rfl) o1 vp_in0 (by decide +kernel) ?_
    refine zz_go C [(8, .goto 6), (14, .iconst 0)] (by decide +kernel) (pc' := 15) (lv' := [some (.ref t), some (.ref oa), none]) (st' := [.int (nI 0)]) rfl ?_
    exact zr_i C E (Nat.le_of_ble_eq_true rfl) (Nat.le_of_ble_eq_true rfl) (by decide +kernel) (⟨_, h1, _, hp, twF_up F o2, o2, va_up_self _ _ _, rfl, fun x1 h1' => by rw [lo_upd, Value.int.inj (Option.some.inj (Sum.inl.inj h1'))]⟩)
  · have F := twF_mix (oa := oa) hn
    obtain ⟨o1, o2⟩ := mix_k hn ho hto
    obtain rfl := hX v0 h1 hp
    refine zz_catch C E [] (⟨0, 8, 11, 35⟩ : ExceptionTableEntry) [] rfl (fun z hz => absurd hz List.not_mem_nil) rfl (by decide) cl_L_35 (by decide +kernel) (fun q => ?_)
    refine zz_go C [(11, .astore_n 2), (12, .iconst 1)] (by decide +kernel) (pc' := 13) (lv' := [some (.ref t), some (.ref oa), some (.ref q)]) (st' := [.int (nI 1)]) rfl ?_
    exact zr_i C E (Nat.le_of_ble_eq_true rfl) (Nat.le_of_ble_eq_true rfl) (by decide +kernel) (⟨_, h1, f, hp, F, o2, o1, rfl, fun b' hb' => by cases hb'⟩)
set_option maxHeartbeats 4000000 in
theorem c_L_squash (l : Launch) (D : va_G) (aC : Nat → ClassId) (h ht : zz_Hp) (t oa : Nat) (f : Nat → Int64) (x : Int32) {post : zz_R → zz_Hp → Prop} {fs : List Value} (Mt : zz_Ct l D aC y_T_squash (zrm 6 820 8206 260) [.ref t, .int x] ht post) (htt : ht t = some (.inr (2, fs))) (sub : ∀ (a : Nat) (e : va_E), ht a = some e → h a = some e) (ho : h oa = some (loE aC f)) (hto : ht oa = none) (hX : ∀ X h', post (.inr X) h' → X = "java/lang/IndexOutOfBoundsException") (hV : ∀ v h', post (.inl v) h' → ∃ x : Int32, v = some (.int x)) :
    zz_Ct l D aC y_L_squash (zrm 7 820 8206 320) [.ref t, .int x, .ref oa] h (fun r h' => ∃ (r' : zz_R) (ht' : zz_Hp) (f' : Nat → Int64), post r' ht' ∧ twF h ht h' ht' oa ∧ ht' oa = none ∧ h' oa = some (loE aC f') ∧ r = .inl (some (.int (cd2 "java/lang/IndexOutOfBoundsException" "" r'))) ∧ ∀ x : Int32, r' = .inl (some (.int x)) → f' 0 = x.toInt64) := by
  refine zz_ct md_L_squash rfl (by simp [Value.category]) (Nat.le_of_ble_eq_true rfl) fun K C E hI => ?_
  obtain rfl := E.ac
  refine zz_go C [(0, .aload_n 2), (1, .iconst 0), (2, .aload_n 0), (3, .iload_n 1)] (by decide +kernel) (pc' := 4) (lv' := [some (.ref t), some (.int x), some (.ref oa), none]) (st' := [.int x, .ref t, .int (nI 0), .ref oa]) rfl ?_
  refine zz_cV C E (ci := 2) (As := [.int x]) (rest := [.int (nI 0), .ref oa]) (hc := ht) md_T_squash (Mt) ml_L_37 im_T_squash se_T_squash rfl htt sub rfl rfl (Nat.le_of_ble_eq_true rfl) ⟨by decide, by decide⟩ ⟨(Nat.le_of_ble_eq_true rfl), (Nat.le_of_ble_eq_true rfl)⟩ (by decide +kernel) (fun v0 h1 hp hn hd => ?_) (fun v0 h1 hp hn hd => ?_)
  · have F := twF_mix (oa := oa) hn
    obtain ⟨o1, o2⟩ := mix_k hn ho hto
    obtain ⟨x0, rfl⟩ := hV v0 h1 hp
    show zz_Z _ _ _ _ _ _ _ _ [.int x0, .int (nI 0), .ref oa]
    refine zz_go C [(7, .i2l)] (by decide +kernel) (pc' := 8) (lv' := [some (.ref t), some (.int x), some (.ref oa), none]) (st' := [.long (Int32.toInt64 x0), .int (nI 0), .ref oa]) rfl ?_
    refine zz_last C 2 (fun _ => rfl) o1 vp_in0 (by decide +kernel) ?_
    refine zz_go C [(9, .goto 6), (15, .iconst 0)] (by decide +kernel) (pc' := 16) (lv' := [some (.ref t), some (.int x), some (.ref oa), none]) (st' := [.int (nI 0)]) rfl ?_
    exact zr_i C E (Nat.le_of_ble_eq_true rfl) (Nat.le_of_ble_eq_true rfl) (by decide +kernel) (⟨_, h1, _, hp, twF_up F o2, o2, va_up_self _ _ _, rfl, fun x1 h1' => by rw [lo_upd, Value.int.inj (Option.some.inj (Sum.inl.inj h1'))]⟩)
  · have F := twF_mix (oa := oa) hn
    obtain ⟨o1, o2⟩ := mix_k hn ho hto
    obtain rfl := hX v0 h1 hp
    refine zz_catch C E [] (⟨0, 9, 12, 40⟩ : ExceptionTableEntry) [] rfl (fun z hz => absurd hz List.not_mem_nil) rfl (by decide) cl_L_40 (by decide +kernel) (fun q => ?_)
    refine zz_go C [(12, .astore_n 3), (13, .iconst 1)] (by decide +kernel) (pc' := 14) (lv' := [some (.ref t), some (.int x), some (.ref oa), some (.ref q)]) (st' := [.int (nI 1)]) rfl ?_
    exact zr_i C E (Nat.le_of_ble_eq_true rfl) (Nat.le_of_ble_eq_true rfl) (by decide +kernel) (⟨_, h1, f, hp, F, o2, o1, rfl, fun b' hb' => by cases hb'⟩)
set_option maxHeartbeats 4000000 in
theorem c_L_drop (l : Launch) (D : va_G) (aC : Nat → ClassId) (h ht : zz_Hp) (t oa : Nat) (f : Nat → Int64) {post : zz_R → zz_Hp → Prop} {fs : List Value} (Mt : zz_Ct l D aC y_T_drop (zrm 6 1 6 90) [.ref t] ht post) (htt : ht t = some (.inr (2, fs))) (sub : ∀ (a : Nat) (e : va_E), ht a = some e → h a = some e) (ho : h oa = some (loE aC f)) (hto : ht oa = none) (hX : ∀ X h', post (.inr X) h' → X = "java/lang/UnsupportedOperationException") (hV : ∀ v h', post (.inl v) h' → ∃ x : Int32, v = some (.int x)) :
    zz_Ct l D aC y_L_drop (zrm 7 1 6 150) [.ref t, .ref oa] h (fun r h' => ∃ (r' : zz_R) (ht' : zz_Hp) (f' : Nat → Int64), post r' ht' ∧ twF h ht h' ht' oa ∧ ht' oa = none ∧ h' oa = some (loE aC f') ∧ r = .inl (some (.int (cd2 "java/lang/UnsupportedOperationException" "" r'))) ∧ ∀ x : Int32, r' = .inl (some (.int x)) → f' 0 = x.toInt64) := by
  refine zz_ct md_L_drop rfl (by simp [Value.category]) (Nat.le_of_ble_eq_true rfl) fun K C E hI => ?_
  obtain rfl := E.ac
  refine zz_go C [(0, .aload_n 1), (1, .iconst 0), (2, .aload_n 0)] (by decide +kernel) (pc' := 3) (lv' := [some (.ref t), some (.ref oa), none]) (st' := [.ref t, .int (nI 0), .ref oa]) rfl ?_
  refine zz_cV C E (ci := 2) (As := []) (rest := [.int (nI 0), .ref oa]) (hc := ht) md_T_drop (Mt) ml_L_42 im_T_drop se_T_drop rfl htt sub rfl rfl (Nat.le_of_ble_eq_true rfl) ⟨by decide, by decide⟩ ⟨(Nat.le_of_ble_eq_true rfl), (Nat.le_of_ble_eq_true rfl)⟩ (by decide +kernel) (fun v0 h1 hp hn hd => ?_) (fun v0 h1 hp hn hd => ?_)
  · have F := twF_mix (oa := oa) hn
    obtain ⟨o1, o2⟩ := mix_k hn ho hto
    obtain ⟨x0, rfl⟩ := hV v0 h1 hp
    show zz_Z _ _ _ _ _ _ _ _ [.int x0, .int (nI 0), .ref oa]
    refine zz_go C [(6, .i2l)] (by decide +kernel) (pc' := 7) (lv' := [some (.ref t), some (.ref oa), none]) (st' := [.long (Int32.toInt64 x0), .int (nI 0), .ref oa]) rfl ?_
    refine zz_last C 2 (fun _ => rfl) o1 vp_in0 (by decide +kernel) ?_
    refine zz_go C [(8, .goto 6), (14, .iconst 0)] (by decide +kernel) (pc' := 15) (lv' := [some (.ref t), some (.ref oa), none]) (st' := [.int (nI 0)]) rfl ?_
    exact zr_i C E (Nat.le_of_ble_eq_true rfl) (Nat.le_of_ble_eq_true rfl) (by decide +kernel) (⟨_, h1, _, hp, twF_up F o2, o2, va_up_self _ _ _, rfl, fun x1 h1' => by rw [lo_upd, Value.int.inj (Option.some.inj (Sum.inl.inj h1'))]⟩)
  · have F := twF_mix (oa := oa) hn
    obtain ⟨o1, o2⟩ := mix_k hn ho hto
    obtain rfl := hX v0 h1 hp
    refine zz_catch C E [] (⟨0, 8, 11, 35⟩ : ExceptionTableEntry) [] rfl (fun z hz => absurd hz List.not_mem_nil) rfl (by decide) cl_L_35 (by decide +kernel) (fun q => ?_)
    refine zz_go C [(11, .astore_n 2), (12, .iconst 1)] (by decide +kernel) (pc' := 13) (lv' := [some (.ref t), some (.ref oa), some (.ref q)]) (st' := [.int (nI 1)]) rfl ?_
    exact zr_i C E (Nat.le_of_ble_eq_true rfl) (Nat.le_of_ble_eq_true rfl) (by decide +kernel) (⟨_, h1, f, hp, F, o2, o1, rfl, fun b' hb' => by cases hb'⟩)
set_option maxHeartbeats 4000000 in
theorem c_L_kind (l : Launch) (D : va_G) (aC : Nat → ClassId) (h ht : zz_Hp) (t oa : Nat) (f : Nat → Int64) (x y : Int32) {post : zz_R → zz_Hp → Prop} {fs : List Value} (Mt : zz_Ct l D aC y_T_kind (zrm 7 2 12 150) [.ref t, .int x, .int y] ht post) (htt : ht t = some (.inr (2, fs))) (sub : ∀ (a : Nat) (e : va_E), ht a = some e → h a = some e) (ho : h oa = some (loE aC f)) (hto : ht oa = none) (hX : ∀ X h', post (.inr X) h' → X = "java/lang/IllegalArgumentException") (hV : ∀ v h', post (.inl v) h' → ∃ x : Int32, v = some (.int x)) :
    zz_Ct l D aC y_L_kind (zrm 8 2 12 210) [.ref t, .int x, .int y, .ref oa] h (fun r h' => ∃ (r' : zz_R) (ht' : zz_Hp) (f' : Nat → Int64), post r' ht' ∧ twF h ht h' ht' oa ∧ ht' oa = none ∧ h' oa = some (loE aC f') ∧ r = .inl (some (.int (cd2 "java/lang/IllegalArgumentException" "" r'))) ∧ ∀ x : Int32, r' = .inl (some (.int x)) → f' 0 = x.toInt64) := by
  refine zz_ct md_L_kind rfl (by simp [Value.category]) (Nat.le_of_ble_eq_true rfl) fun K C E hI => ?_
  obtain rfl := E.ac
  refine zz_go C [(0, .aload_n 3), (1, .iconst 0), (2, .aload_n 0), (3, .iload_n 1), (4, .iload_n 2)] (by decide +kernel) (pc' := 5) (lv' := [some (.ref t), some (.int x), some (.int y), some (.ref oa), none]) (st' := [.int y, .int x, .ref t, .int (nI 0), .ref oa]) rfl ?_
  refine zz_cV C E (ci := 2) (As := [.int x, .int y]) (rest := [.int (nI 0), .ref oa]) (hc := ht) md_T_kind (Mt) ml_L_45 im_T_kind se_T_kind rfl htt sub rfl rfl (Nat.le_of_ble_eq_true rfl) ⟨by decide, by decide⟩ ⟨(Nat.le_of_ble_eq_true rfl), (Nat.le_of_ble_eq_true rfl)⟩ (by decide +kernel) (fun v0 h1 hp hn hd => ?_) (fun v0 h1 hp hn hd => ?_)
  · have F := twF_mix (oa := oa) hn
    obtain ⟨o1, o2⟩ := mix_k hn ho hto
    obtain ⟨x0, rfl⟩ := hV v0 h1 hp
    show zz_Z _ _ _ _ _ _ _ _ [.int x0, .int (nI 0), .ref oa]
    refine zz_go C [(8, .i2l)] (by decide +kernel) (pc' := 9) (lv' := [some (.ref t), some (.int x), some (.int y), some (.ref oa), none]) (st' := [.long (Int32.toInt64 x0), .int (nI 0), .ref oa]) rfl ?_
    refine zz_last C 2 (fun _ => rfl) o1 vp_in0 (by decide +kernel) ?_
    refine zz_go C [(10, .goto 7), (17, .iconst 0)] (by decide +kernel) (pc' := 18) (lv' := [some (.ref t), some (.int x), some (.int y), some (.ref oa), none]) (st' := [.int (nI 0)]) rfl ?_
    exact zr_i C E (Nat.le_of_ble_eq_true rfl) (Nat.le_of_ble_eq_true rfl) (by decide +kernel) (⟨_, h1, _, hp, twF_up F o2, o2, va_up_self _ _ _, rfl, fun x1 h1' => by rw [lo_upd, Value.int.inj (Option.some.inj (Sum.inl.inj h1'))]⟩)
  · have F := twF_mix (oa := oa) hn
    obtain ⟨o1, o2⟩ := mix_k hn ho hto
    obtain rfl := hX v0 h1 hp
    refine zz_catch C E [] (⟨0, 10, 13, 13⟩ : ExceptionTableEntry) [] rfl (fun z hz => absurd hz List.not_mem_nil) rfl (by decide) cl_L_13 (by decide +kernel) (fun q => ?_)
    refine zz_go C [(13, .astore 4), (15, .iconst 1)] (by decide +kernel) (pc' := 16) (lv' := [some (.ref t), some (.int x), some (.int y), some (.ref oa), some (.ref q)]) (st' := [.int (nI 1)]) rfl ?_
    exact zr_i C E (Nat.le_of_ble_eq_true rfl) (Nat.le_of_ble_eq_true rfl) (by decide +kernel) (⟨_, h1, f, hp, F, o2, o1, rfl, fun b' hb' => by cases hb'⟩)
set_option maxHeartbeats 4000000 in
theorem c_L_value (l : Launch) (D : va_G) (aC : Nat → ClassId) (h ht : zz_Hp) (t oa : Nat) (f : Nat → Int64) (x y : Int32) {post : zz_R → zz_Hp → Prop} {fs : List Value} (Mt : zz_Ct l D aC y_T_value (zrm 7 2 12 150) [.ref t, .int x, .int y] ht post) (htt : ht t = some (.inr (2, fs))) (sub : ∀ (a : Nat) (e : va_E), ht a = some e → h a = some e) (ho : h oa = some (loE aC f)) (hto : ht oa = none) (hX : ∀ X h', post (.inr X) h' → X = "java/lang/IllegalArgumentException" ∨ X = "java/util/NoSuchElementException") (hV : ∀ v h', post (.inl v) h' → ∃ x : Int32, v = some (.int x)) :
    zz_Ct l D aC y_L_value (zrm 8 2 12 210) [.ref t, .int x, .int y, .ref oa] h (fun r h' => ∃ (r' : zz_R) (ht' : zz_Hp) (f' : Nat → Int64), post r' ht' ∧ twF h ht h' ht' oa ∧ ht' oa = none ∧ h' oa = some (loE aC f') ∧ r = .inl (some (.int (cd2 "java/lang/IllegalArgumentException" "java/util/NoSuchElementException" r'))) ∧ ∀ x : Int32, r' = .inl (some (.int x)) → f' 0 = x.toInt64) := by
  refine zz_ct md_L_value rfl (by simp [Value.category]) (Nat.le_of_ble_eq_true rfl) fun K C E hI => ?_
  obtain rfl := E.ac
  refine zz_go C [(0, .aload_n 3), (1, .iconst 0), (2, .aload_n 0), (3, .iload_n 1), (4, .iload_n 2)] (by decide +kernel) (pc' := 5) (lv' := [some (.ref t), some (.int x), some (.int y), some (.ref oa), none]) (st' := [.int y, .int x, .ref t, .int (nI 0), .ref oa]) rfl ?_
  refine zz_cV C E (ci := 2) (As := [.int x, .int y]) (rest := [.int (nI 0), .ref oa]) (hc := ht) md_T_value (Mt) ml_L_49 im_T_value se_T_value rfl htt sub rfl rfl (Nat.le_of_ble_eq_true rfl) ⟨by decide, by decide⟩ ⟨(Nat.le_of_ble_eq_true rfl), (Nat.le_of_ble_eq_true rfl)⟩ (by decide +kernel) (fun v0 h1 hp hn hd => ?_) (fun v0 h1 hp hn hd => ?_)
  · have F := twF_mix (oa := oa) hn
    obtain ⟨o1, o2⟩ := mix_k hn ho hto
    obtain ⟨x0, rfl⟩ := hV v0 h1 hp
    show zz_Z _ _ _ _ _ _ _ _ [.int x0, .int (nI 0), .ref oa]
    refine zz_go C [(8, .i2l)] (by decide +kernel) (pc' := 9) (lv' := [some (.ref t), some (.int x), some (.int y), some (.ref oa), none]) (st' := [.long (Int32.toInt64 x0), .int (nI 0), .ref oa]) rfl ?_
    refine zz_last C 2 (fun _ => rfl) o1 vp_in0 (by decide +kernel) ?_
    refine zz_go C [(10, .goto 11), (21, .iconst 0)] (by decide +kernel) (pc' := 22) (lv' := [some (.ref t), some (.int x), some (.int y), some (.ref oa), none]) (st' := [.int (nI 0)]) rfl ?_
    exact zr_i C E (Nat.le_of_ble_eq_true rfl) (Nat.le_of_ble_eq_true rfl) (by decide +kernel) (⟨_, h1, _, hp, twF_up F o2, o2, va_up_self _ _ _, rfl, fun x1 h1' => by rw [lo_upd, Value.int.inj (Option.some.inj (Sum.inl.inj h1'))]⟩)
  · have F := twF_mix (oa := oa) hn
    obtain ⟨o1, o2⟩ := mix_k hn ho hto
    rcases hX v0 h1 hp with rfl | rfl
    · refine zz_catch C E [] (⟨0, 10, 13, 13⟩ : ExceptionTableEntry) [(⟨0, 10, 17, 25⟩ : ExceptionTableEntry)] rfl (fun z hz => absurd hz List.not_mem_nil) rfl (by decide) cl_L_13 (by decide +kernel) (fun q => ?_)
      refine zz_go C [(13, .astore 4), (15, .iconst 1)] (by decide +kernel) (pc' := 16) (lv' := [some (.ref t), some (.int x), some (.int y), some (.ref oa), some (.ref q)]) (st' := [.int (nI 1)]) rfl ?_
      exact zr_i C E (Nat.le_of_ble_eq_true rfl) (Nat.le_of_ble_eq_true rfl) (by decide +kernel) (⟨_, h1, f, hp, F, o2, o1, rfl, fun b' hb' => by cases hb'⟩)
    · refine zz_catch C E [(⟨0, 10, 13, 13⟩ : ExceptionTableEntry)] (⟨0, 10, 17, 25⟩ : ExceptionTableEntry) [] rfl (fun z hz => by rw [List.mem_singleton.mp hz]; exact ⟨by decide, _, cl_L_13, by decide +kernel⟩) rfl (by decide) cl_L_25 (by decide +kernel) (fun q => ?_)
      refine zz_go C [(17, .astore 4), (19, .iconst 2)] (by decide +kernel) (pc' := 20) (lv' := [some (.ref t), some (.int x), some (.int y), some (.ref oa), some (.ref q)]) (st' := [.int (nI 2)]) rfl ?_
      exact zr_i C E (Nat.le_of_ble_eq_true rfl) (Nat.le_of_ble_eq_true rfl) (by decide +kernel) (⟨_, h1, f, hp, F, o2, o1, rfl, fun b' hb' => by cases hb'⟩)
set_option maxHeartbeats 4000000 in
theorem c_L_names (l : Launch) (D : va_G) (aC : Nat → ClassId) (h ht : zz_Hp) (t oa : Nat) (f : Nat → Int64) (x y : Int32) {post : zz_R → zz_Hp → Prop} {fs : List Value} (Mt : zz_Ct l D aC y_T_names (zrm 7 2 12 150) [.ref t, .int x, .int y] ht post) (htt : ht t = some (.inr (2, fs))) (sub : ∀ (a : Nat) (e : va_E), ht a = some e → h a = some e) (ho : h oa = some (loE aC f)) (hto : ht oa = none) (hX : ∀ X h', post (.inr X) h' → X = "java/lang/IllegalArgumentException" ∨ X = "java/util/NoSuchElementException") (hV : ∀ v h', post (.inl v) h' → ∃ x : Int32, v = some (.int x)) :
    zz_Ct l D aC y_L_names (zrm 8 2 12 210) [.ref t, .int x, .int y, .ref oa] h (fun r h' => ∃ (r' : zz_R) (ht' : zz_Hp) (f' : Nat → Int64), post r' ht' ∧ twF h ht h' ht' oa ∧ ht' oa = none ∧ h' oa = some (loE aC f') ∧ r = .inl (some (.int (cd2 "java/lang/IllegalArgumentException" "java/util/NoSuchElementException" r'))) ∧ ∀ x : Int32, r' = .inl (some (.int x)) → f' 0 = x.toInt64) := by
  refine zz_ct md_L_names rfl (by simp [Value.category]) (Nat.le_of_ble_eq_true rfl) fun K C E hI => ?_
  obtain rfl := E.ac
  refine zz_go C [(0, .aload_n 3), (1, .iconst 0), (2, .aload_n 0), (3, .iload_n 1), (4, .iload_n 2)] (by decide +kernel) (pc' := 5) (lv' := [some (.ref t), some (.int x), some (.int y), some (.ref oa), none]) (st' := [.int y, .int x, .ref t, .int (nI 0), .ref oa]) rfl ?_
  refine zz_cV C E (ci := 2) (As := [.int x, .int y]) (rest := [.int (nI 0), .ref oa]) (hc := ht) md_T_names (Mt) ml_L_52 im_T_names se_T_names rfl htt sub rfl rfl (Nat.le_of_ble_eq_true rfl) ⟨by decide, by decide⟩ ⟨(Nat.le_of_ble_eq_true rfl), (Nat.le_of_ble_eq_true rfl)⟩ (by decide +kernel) (fun v0 h1 hp hn hd => ?_) (fun v0 h1 hp hn hd => ?_)
  · have F := twF_mix (oa := oa) hn
    obtain ⟨o1, o2⟩ := mix_k hn ho hto
    obtain ⟨x0, rfl⟩ := hV v0 h1 hp
    show zz_Z _ _ _ _ _ _ _ _ [.int x0, .int (nI 0), .ref oa]
    refine zz_go C [(8, .i2l)] (by decide +kernel) (pc' := 9) (lv' := [some (.ref t), some (.int x), some (.int y), some (.ref oa), none]) (st' := [.long (Int32.toInt64 x0), .int (nI 0), .ref oa]) rfl ?_
    refine zz_last C 2 (fun _ => rfl) o1 vp_in0 (by decide +kernel) ?_
    refine zz_go C [(10, .goto 11), (21, .iconst 0)] (by decide +kernel) (pc' := 22) (lv' := [some (.ref t), some (.int x), some (.int y), some (.ref oa), none]) (st' := [.int (nI 0)]) rfl ?_
    exact zr_i C E (Nat.le_of_ble_eq_true rfl) (Nat.le_of_ble_eq_true rfl) (by decide +kernel) (⟨_, h1, _, hp, twF_up F o2, o2, va_up_self _ _ _, rfl, fun x1 h1' => by rw [lo_upd, Value.int.inj (Option.some.inj (Sum.inl.inj h1'))]⟩)
  · have F := twF_mix (oa := oa) hn
    obtain ⟨o1, o2⟩ := mix_k hn ho hto
    rcases hX v0 h1 hp with rfl | rfl
    · refine zz_catch C E [] (⟨0, 10, 13, 13⟩ : ExceptionTableEntry) [(⟨0, 10, 17, 25⟩ : ExceptionTableEntry)] rfl (fun z hz => absurd hz List.not_mem_nil) rfl (by decide) cl_L_13 (by decide +kernel) (fun q => ?_)
      refine zz_go C [(13, .astore 4), (15, .iconst 1)] (by decide +kernel) (pc' := 16) (lv' := [some (.ref t), some (.int x), some (.int y), some (.ref oa), some (.ref q)]) (st' := [.int (nI 1)]) rfl ?_
      exact zr_i C E (Nat.le_of_ble_eq_true rfl) (Nat.le_of_ble_eq_true rfl) (by decide +kernel) (⟨_, h1, f, hp, F, o2, o1, rfl, fun b' hb' => by cases hb'⟩)
    · refine zz_catch C E [(⟨0, 10, 13, 13⟩ : ExceptionTableEntry)] (⟨0, 10, 17, 25⟩ : ExceptionTableEntry) [] rfl (fun z hz => by rw [List.mem_singleton.mp hz]; exact ⟨by decide, _, cl_L_13, by decide +kernel⟩) rfl (by decide) cl_L_25 (by decide +kernel) (fun q => ?_)
      refine zz_go C [(17, .astore 4), (19, .iconst 2)] (by decide +kernel) (pc' := 20) (lv' := [some (.ref t), some (.int x), some (.int y), some (.ref oa), some (.ref q)]) (st' := [.int (nI 2)]) rfl ?_
      exact zr_i C E (Nat.le_of_ble_eq_true rfl) (Nat.le_of_ble_eq_true rfl) (by decide +kernel) (⟨_, h1, f, hp, F, o2, o1, rfl, fun b' hb' => by cases hb'⟩)
set_option maxHeartbeats 4000000 in
theorem c_L_mark (l : Launch) (D : va_G) (aC : Nat → ClassId) (h ht : zz_Hp) (t oa : Nat) (f : Nat → Int64) (x y : Int32) {post : zz_R → zz_Hp → Prop} {fs : List Value} (Mt : zz_Ct l D aC y_T_mark (zrm 7 2 12 150) [.ref t, .int x, .int y] ht post) (htt : ht t = some (.inr (2, fs))) (sub : ∀ (a : Nat) (e : va_E), ht a = some e → h a = some e) (ho : h oa = some (loE aC f)) (hto : ht oa = none) (hX : ∀ X h', post (.inr X) h' → X = "java/lang/IndexOutOfBoundsException" ∨ X = "java/lang/IllegalArgumentException") (hV : ∀ v h', post (.inl v) h' → ∃ x : Int32, v = some (.int x)) :
    zz_Ct l D aC y_L_mark (zrm 8 2 12 210) [.ref t, .int x, .int y, .ref oa] h (fun r h' => ∃ (r' : zz_R) (ht' : zz_Hp) (f' : Nat → Int64), post r' ht' ∧ twF h ht h' ht' oa ∧ ht' oa = none ∧ h' oa = some (loE aC f') ∧ r = .inl (some (.int (cd2 "java/lang/IndexOutOfBoundsException" "java/lang/IllegalArgumentException" r'))) ∧ ∀ x : Int32, r' = .inl (some (.int x)) → f' 0 = x.toInt64) := by
  refine zz_ct md_L_mark rfl (by simp [Value.category]) (Nat.le_of_ble_eq_true rfl) fun K C E hI => ?_
  obtain rfl := E.ac
  refine zz_go C [(0, .aload_n 3), (1, .iconst 0), (2, .aload_n 0), (3, .iload_n 1), (4, .iload_n 2)] (by decide +kernel) (pc' := 5) (lv' := [some (.ref t), some (.int x), some (.int y), some (.ref oa), none]) (st' := [.int y, .int x, .ref t, .int (nI 0), .ref oa]) rfl ?_
  refine zz_cV C E (ci := 2) (As := [.int x, .int y]) (rest := [.int (nI 0), .ref oa]) (hc := ht) md_T_mark (Mt) ml_L_55 im_T_mark se_T_mark rfl htt sub rfl rfl (Nat.le_of_ble_eq_true rfl) ⟨by decide, by decide⟩ ⟨(Nat.le_of_ble_eq_true rfl), (Nat.le_of_ble_eq_true rfl)⟩ (by decide +kernel) (fun v0 h1 hp hn hd => ?_) (fun v0 h1 hp hn hd => ?_)
  · have F := twF_mix (oa := oa) hn
    obtain ⟨o1, o2⟩ := mix_k hn ho hto
    obtain ⟨x0, rfl⟩ := hV v0 h1 hp
    show zz_Z _ _ _ _ _ _ _ _ [.int x0, .int (nI 0), .ref oa]
    refine zz_go C [(8, .i2l)] (by decide +kernel) (pc' := 9) (lv' := [some (.ref t), some (.int x), some (.int y), some (.ref oa), none]) (st' := [.long (Int32.toInt64 x0), .int (nI 0), .ref oa]) rfl ?_
    refine zz_last C 2 (fun _ => rfl) o1 vp_in0 (by decide +kernel) ?_
    refine zz_go C [(10, .goto 11), (21, .iconst 0)] (by decide +kernel) (pc' := 22) (lv' := [some (.ref t), some (.int x), some (.int y), some (.ref oa), none]) (st' := [.int (nI 0)]) rfl ?_
    exact zr_i C E (Nat.le_of_ble_eq_true rfl) (Nat.le_of_ble_eq_true rfl) (by decide +kernel) (⟨_, h1, _, hp, twF_up F o2, o2, va_up_self _ _ _, rfl, fun x1 h1' => by rw [lo_upd, Value.int.inj (Option.some.inj (Sum.inl.inj h1'))]⟩)
  · have F := twF_mix (oa := oa) hn
    obtain ⟨o1, o2⟩ := mix_k hn ho hto
    rcases hX v0 h1 hp with rfl | rfl
    · refine zz_catch C E [] (⟨0, 10, 13, 40⟩ : ExceptionTableEntry) [(⟨0, 10, 17, 13⟩ : ExceptionTableEntry)] rfl (fun z hz => absurd hz List.not_mem_nil) rfl (by decide) cl_L_40 (by decide +kernel) (fun q => ?_)
      refine zz_go C [(13, .astore 4), (15, .iconst 1)] (by decide +kernel) (pc' := 16) (lv' := [some (.ref t), some (.int x), some (.int y), some (.ref oa), some (.ref q)]) (st' := [.int (nI 1)]) rfl ?_
      exact zr_i C E (Nat.le_of_ble_eq_true rfl) (Nat.le_of_ble_eq_true rfl) (by decide +kernel) (⟨_, h1, f, hp, F, o2, o1, rfl, fun b' hb' => by cases hb'⟩)
    · refine zz_catch C E [(⟨0, 10, 13, 40⟩ : ExceptionTableEntry)] (⟨0, 10, 17, 13⟩ : ExceptionTableEntry) [] rfl (fun z hz => by rw [List.mem_singleton.mp hz]; exact ⟨by decide, _, cl_L_40, by decide +kernel⟩) rfl (by decide) cl_L_13 (by decide +kernel) (fun q => ?_)
      refine zz_go C [(17, .astore 4), (19, .iconst 2)] (by decide +kernel) (pc' := 20) (lv' := [some (.ref t), some (.int x), some (.int y), some (.ref oa), some (.ref q)]) (st' := [.int (nI 2)]) rfl ?_
      exact zr_i C E (Nat.le_of_ble_eq_true rfl) (Nat.le_of_ble_eq_true rfl) (by decide +kernel) (⟨_, h1, f, hp, F, o2, o1, rfl, fun b' hb' => by cases hb'⟩)
set_option maxHeartbeats 4000000 in
theorem c_L_marks (l : Launch) (D : va_G) (aC : Nat → ClassId) (h ht : zz_Hp) (t oa : Nat) (f : Nat → Int64) (x : Int32) {post : zz_R → zz_Hp → Prop} {fs : List Value} (Mt : zz_Ct l D aC y_T_marks (zrm 7 1 6 200) [.ref t, .int x] ht post) (htt : ht t = some (.inr (2, fs))) (sub : ∀ (a : Nat) (e : va_E), ht a = some e → h a = some e) (ho : h oa = some (loE aC f)) (hto : ht oa = none) (hX : ∀ X h', post (.inr X) h' → X = "java/lang/IndexOutOfBoundsException") (hV : ∀ v h', post (.inl v) h' → ∃ x : Int32, v = some (.int x)) :
    zz_Ct l D aC y_L_marks (zrm 8 1 6 260) [.ref t, .int x, .ref oa] h (fun r h' => ∃ (r' : zz_R) (ht' : zz_Hp) (f' : Nat → Int64), post r' ht' ∧ twF h ht h' ht' oa ∧ ht' oa = none ∧ h' oa = some (loE aC f') ∧ r = .inl (some (.int (cd2 "java/lang/IndexOutOfBoundsException" "" r'))) ∧ ∀ x : Int32, r' = .inl (some (.int x)) → f' 0 = x.toInt64) := by
  refine zz_ct md_L_marks rfl (by simp [Value.category]) (Nat.le_of_ble_eq_true rfl) fun K C E hI => ?_
  obtain rfl := E.ac
  refine zz_go C [(0, .aload_n 2), (1, .iconst 0), (2, .aload_n 0), (3, .iload_n 1)] (by decide +kernel) (pc' := 4) (lv' := [some (.ref t), some (.int x), some (.ref oa), none]) (st' := [.int x, .ref t, .int (nI 0), .ref oa]) rfl ?_
  refine zz_cV C E (ci := 2) (As := [.int x]) (rest := [.int (nI 0), .ref oa]) (hc := ht) md_T_marks (Mt) ml_L_58 im_T_marks se_T_marks rfl htt sub rfl rfl (Nat.le_of_ble_eq_true rfl) ⟨by decide, by decide⟩ ⟨(Nat.le_of_ble_eq_true rfl), (Nat.le_of_ble_eq_true rfl)⟩ (by decide +kernel) (fun v0 h1 hp hn hd => ?_) (fun v0 h1 hp hn hd => ?_)
  · have F := twF_mix (oa := oa) hn
    obtain ⟨o1, o2⟩ := mix_k hn ho hto
    obtain ⟨x0, rfl⟩ := hV v0 h1 hp
    show zz_Z _ _ _ _ _ _ _ _ [.int x0, .int (nI 0), .ref oa]
    refine zz_go C [(7, .i2l)] (by decide +kernel) (pc' := 8) (lv' := [some (.ref t), some (.int x), some (.ref oa), none]) (st' := [.long (Int32.toInt64 x0), .int (nI 0), .ref oa]) rfl ?_
    refine zz_last C 2 (fun _ => rfl) o1 vp_in0 (by decide +kernel) ?_
    refine zz_go C [(9, .goto 6), (15, .iconst 0)] (by decide +kernel) (pc' := 16) (lv' := [some (.ref t), some (.int x), some (.ref oa), none]) (st' := [.int (nI 0)]) rfl ?_
    exact zr_i C E (Nat.le_of_ble_eq_true rfl) (Nat.le_of_ble_eq_true rfl) (by decide +kernel) (⟨_, h1, _, hp, twF_up F o2, o2, va_up_self _ _ _, rfl, fun x1 h1' => by rw [lo_upd, Value.int.inj (Option.some.inj (Sum.inl.inj h1'))]⟩)
  · have F := twF_mix (oa := oa) hn
    obtain ⟨o1, o2⟩ := mix_k hn ho hto
    obtain rfl := hX v0 h1 hp
    refine zz_catch C E [] (⟨0, 9, 12, 40⟩ : ExceptionTableEntry) [] rfl (fun z hz => absurd hz List.not_mem_nil) rfl (by decide) cl_L_40 (by decide +kernel) (fun q => ?_)
    refine zz_go C [(12, .astore_n 3), (13, .iconst 1)] (by decide +kernel) (pc' := 14) (lv' := [some (.ref t), some (.int x), some (.ref oa), some (.ref q)]) (st' := [.int (nI 1)]) rfl ?_
    exact zr_i C E (Nat.le_of_ble_eq_true rfl) (Nat.le_of_ble_eq_true rfl) (by decide +kernel) (⟨_, h1, f, hp, F, o2, o1, rfl, fun b' hb' => by cases hb'⟩)
