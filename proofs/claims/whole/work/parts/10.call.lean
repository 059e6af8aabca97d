/-! ===== calls over function worlds; throws; handlers ===== -/
section ZD
variable {K : zz_K} {Q : State → Prop} {h0 h : zz_Hp} {k n pc : Nat} {lv : List (Option Value)} {st : List Value} {cc : ByteArray} {own : String} {post : zz_R → zz_Hp → Prop}
variable {l : Launch} {D : va_G} {aC : Nat → ClassId} {rm rm' : Room} {ret ret' : Option FieldType} {hs hs' : List (Nat × Nat × Nat × Nat)}
theorem zz_T_to {s U : State} {h0 hc h : zz_Hp} {H : Heap} {locs : List Loc} (hT : zz_T h0 s s.heap) (hS : va_S (zz_A h0 s.heap.size) s.heap H locs) (hN : zz_N h0 s.heap.size h) (hsub : ∀ (a : Nat) (e : va_E), hc a = some e → h a = some e) (hU : U.heap = H) (hW : s.WarmedH U.vm) : zz_T hc U U.heap := by
  have hcA : ∀ q : Nat, zz_A hc H.size q → zz_A h0 s.heap.size q := fun q hq => by
    rcases hq with ⟨e', q1⟩ | q1
    · exact hN.1 q e' (hsub q e' q1)
    · exact Or.inr (Nat.le_trans hS.1 q1)
  rw [hU]
  obtain ⟨⟨h1, h2⟩, h3, h4, h5, h6, h7⟩ := hT
  refine ⟨⟨?_, ?_⟩, fun w hw => ?_, fun q hq => ?_, fun q hq => ?_, va_AO.moved hW.alike h6, va_AO.moved hW.alike h7⟩
  · exact ((vx_Zq.moved hW.alike h1).kept hS.2.1).narrow hcA
  · exact ((vx_Zq.moved hW.alike h2).kept hS.2.1).narrow hcA
  · exact zz_b_warm hW w hw (h3 w hw)
  · obtain ⟨a, ha⟩ := h4 q hq
    exact ⟨a, vk_R.warm hW ha⟩
  · exact va_Nc.moved hW.alike (h5 q hq)
theorem zz_pre {s : State} {h0 h hc : zz_Hp} {H : Heap} {locs : List Loc} {av : List Value} (hK : va_K D zz_cl (zz_tys aC) s) (hT : zz_T h0 s s.heap) (hP : zz_H D h H) (hS : va_S (zz_A h0 s.heap.size) s.heap H locs) (hN : zz_N h0 s.heap.size h) (hsub : ∀ (a : Nat) (e : va_E), hc a = some e → h a = some e) :
    ∀ U : State, U.heap = H → s.WarmedH U.vm → zz_Pc D aC H.size av hc av.toArray U := fun U hU hW =>
  ⟨rfl, by rw [hU], by rw [hU]; exact fun a e he => hP a e (hsub a e he), va_K.moved hW.alike hK, zz_T_to hT hS hN hsub hU hW⟩
theorem zz_cV (C : zz_C K cc own) (E : zz_En l D aC rm ret hs h0 K) {y : MethodName} {As rest : List Value} {hc : zz_Hp} {bytes : ByteArray} {maxL nn b ci index N : Nat} {T : u_T} {Cn : String} {fs : List Value} {post' : zz_R → zz_Hp → Prop} (hm : zz_md y bytes maxL ret' hs' nn) (M : zz_Ct l D aC y rm' (.ref b :: As) hc post')
    (hl : Cond.methodLink own index y ∈ zz_g) (hin : Cond.instanceMethod y ∈ zz_g) (hse : Cond.selects Cn y y ∈ zz_g) (hcl : zz_cl[ci]? = some (Cn, T, N)) (hb : hc b = some (.inr (ci, fs))) (hsub : ∀ (a : Nat) (e : va_E), hc a = some e → h a = some e)
    (hn : As.length = nn) (hst : st = As.reverse ++ .ref b :: rest) (hW : (rest.map fun v => v.category).sum ≤ 8) (hR : rm'.frames + 1 ≤ rm.frames ∧ 8 + (maxL + 11) + rm'.locals ≤ rm.locals) (hf : k + rm'.cells ≤ rm.cells ∧ n + rm'.slots ≤ rm.slots) (hd : decode cc pc = .ok (.invokevirtual index, 3))
    (kr : ∀ (v : Option Value) (h' : zz_Hp), post' (.inl v) h' → (∀ (a : Nat) (e : va_E), h' a = some e → hc a = none → h a = none) → (∀ (a : Nat) (e : va_E), hc a = some e → ∃ e', h' a = some e') → zz_Z K Q h0 (zz_mix hc h' h) (k + rm'.cells) (n + rm'.slots) (pc + 3) lv (v.toList ++ rest))
    (kx : ∀ (X : String) (h' : zz_Hp), post' (.inr X) h' → (∀ (a : Nat) (e : va_E), h' a = some e → hc a = none → h a = none) → (∀ (a : Nat) (e : va_E), hc a = some e → ∃ e', h' a = some e') → zz_V K Q h0 (zz_mix hc h' h) (k + rm'.cells) (n + rm'.slots) pc lv rest X) : zz_Z K Q h0 h k n pc lv st := by
  obtain ⟨p, l', e, R, s, m, args, below, meth, c, D', aC'⟩ := K
  obtain ⟨rfl, rfl, rfl, rfl, -, -, hT, -⟩ := E
  obtain ⟨hexec, hcb, hown, hts, hK, hlk⟩ := C
  refine zz_call (mc := rm'.cells) (ms := rm'.slots) (hc := hc) (rest := rest) (a := (Value.ref b :: As).toArray) hsub ?_ kr kx
  intro H locs ls hP hS hN hls
  have hrecv := va_recv (q0 := 0) hK (hP.one (hsub b _ hb)) hcl rfl
  exact zz_runV (Cn := Cn) hexec hcb hown hts (M H.size) hm hl hin hse rfl rfl hR ⟨zz_Pc_blind, hrecv, zz_pre hK hT hP hS hN hsub⟩ rfl hn hls hst (lv_room hW) hd hf
theorem zz_cS (C : zz_C K cc own) (E : zz_En l D aC rm ret hs h0 K) {y : MethodName} {As rest : List Value} {hc : zz_Hp} {bytes : ByteArray} {maxL nn index : Nat} {post' : zz_R → zz_Hp → Prop} (hm : zz_md y bytes maxL ret' hs' nn) (M : zz_Ct l D aC y rm' As hc post')
    (hl : Cond.methodLink own index y ∈ zz_g) (hin : Cond.static y ∈ zz_g) (hsub : ∀ (a : Nat) (e : va_E), hc a = some e → h a = some e)
    (hn : As.length = nn) (hst : st = As.reverse ++ rest) (hW : (rest.map fun v => v.category).sum ≤ 8) (hR : rm'.frames + 1 ≤ rm.frames ∧ 8 + (maxL + 11) + rm'.locals ≤ rm.locals) (hf : k + rm'.cells ≤ rm.cells ∧ n + rm'.slots ≤ rm.slots) (hd : decode cc pc = .ok (.invokestatic index, 3))
    (kr : ∀ (v : Option Value) (h' : zz_Hp), post' (.inl v) h' → (∀ (a : Nat) (e : va_E), h' a = some e → hc a = none → h a = none) → (∀ (a : Nat) (e : va_E), hc a = some e → ∃ e', h' a = some e') → zz_Z K Q h0 (zz_mix hc h' h) (k + rm'.cells) (n + rm'.slots) (pc + 3) lv (v.toList ++ rest))
    (kx : ∀ (X : String) (h' : zz_Hp), post' (.inr X) h' → (∀ (a : Nat) (e : va_E), h' a = some e → hc a = none → h a = none) → (∀ (a : Nat) (e : va_E), hc a = some e → ∃ e', h' a = some e') → zz_V K Q h0 (zz_mix hc h' h) (k + rm'.cells) (n + rm'.slots) pc lv rest X) : zz_Z K Q h0 h k n pc lv st := by
  obtain ⟨p, l', e, R, s, m, args, below, meth, c, D', aC'⟩ := K
  obtain ⟨rfl, rfl, rfl, rfl, -, -, hT, -⟩ := E
  obtain ⟨hexec, hcb, hown, hts, hK, hlk⟩ := C
  refine zz_call (mc := rm'.cells) (ms := rm'.slots) (hc := hc) (rest := rest) (a := As.toArray) hsub ?_ kr kx
  intro H locs ls hP hS hN hls
  exact zz_runS hexec hcb hown hts (M H.size) hm hl hin rfl rfl hR ⟨zz_Pc_blind, zz_pre hK hT hP hS hN hsub⟩ rfl hn hls hst (lv_room hW) hd hf
theorem zz_cI (C : zz_C K cc own) (E : zz_En l D aC rm ret hs h0 K) {y : MethodName} {As rest : List Value} {hc : zz_Hp} {bytes : ByteArray} {maxL nn b index : Nat} {post' : zz_R → zz_Hp → Prop} (hm : zz_md y bytes maxL none [] nn) (M : zz_Ct l D aC y rm' (.ref b :: As) hc post')
    (hcw : Cond.code y bytes maxL none ∈ zz_g) (hl : Cond.methodLink own index y ∈ zz_g) (hin : Cond.instanceMethod y ∈ zz_g) (hy1 : y.name = "<init>") (hsub : ∀ (a : Nat) (e : va_E), hc a = some e → h a = some e)
    (hn : As.length = nn) (hst : st = As.reverse ++ .ref b :: rest) (hW : (rest.map fun v => v.category).sum ≤ 8) (hR : rm'.frames + 1 ≤ rm.frames ∧ 8 + (maxL + 11) + rm'.locals ≤ rm.locals) (hf : k + rm'.cells ≤ rm.cells ∧ n + rm'.slots ≤ rm.slots) (hd : decode cc pc = .ok (.invokespecial index, 3))
    (kr : ∀ (v : Option Value) (h' : zz_Hp), post' (.inl v) h' → (∀ (a : Nat) (e : va_E), h' a = some e → hc a = none → h a = none) → (∀ (a : Nat) (e : va_E), hc a = some e → ∃ e', h' a = some e') → zz_Z K Q h0 (zz_mix hc h' h) (k + rm'.cells) (n + rm'.slots) (pc + 3) lv (v.toList ++ rest))
    (kx : ∀ (X : String) (h' : zz_Hp), post' (.inr X) h' → (∀ (a : Nat) (e : va_E), h' a = some e → hc a = none → h a = none) → (∀ (a : Nat) (e : va_E), hc a = some e → ∃ e', h' a = some e') → zz_V K Q h0 (zz_mix hc h' h) (k + rm'.cells) (n + rm'.slots) pc lv rest X) : zz_Z K Q h0 h k n pc lv st := by
  obtain ⟨p, l', e, R, s, m, args, below, meth, c, D', aC'⟩ := K
  obtain ⟨rfl, rfl, rfl, rfl, -, -, hT, -⟩ := E
  obtain ⟨hexec, hcb, hown, hts, hK, hlk⟩ := C
  refine zz_call (mc := rm'.cells) (ms := rm'.slots) (hc := hc) (rest := rest) (a := (Value.ref b :: As).toArray) hsub ?_ kr kx
  intro H locs ls hP hS hN hls
  exact zz_runI hexec hcb hown hts (M H.size) hm hcw hl hin hy1 rfl rfl hR ⟨zz_Pc_blind, zz_pre hK hT hP hS hN hsub⟩ rfl hn hls hst (lv_room hW) hd hf
theorem zz_mix_self {h' : zz_Hp} (hd : ∀ (a : Nat) (e : va_E), h a = some e → ∃ e', h' a = some e') : zz_mix h h' h = h' := by
  funext a
  unfold zz_mix
  cases h1 : h' a with
  | some e => rfl
  | none =>
    cases h2 : h a with
    | some e =>
      obtain ⟨e', h3⟩ := hd a e h2
      rw [h1] at h3
    | none => rfl
theorem zz_obj (C : zz_C K cc own) {index a : Nat} (hl : Cond.methodLink own index Lib.objectInit ∈ zz_g) (hfr : 1 ≤ K.2.2.2.1.frames) (hlo : (st.map fun v => v.category).sum + 12 ≤ K.2.2.2.1.locals) (hd : decode cc pc = .ok (.invokespecial index, 3)) (kk : zz_Z K Q h0 h k n (pc + 3) lv st) : zz_Z K Q h0 h k n pc lv (.ref a :: st) := by
  obtain ⟨p, l', e, R, s, m, args, below, meth, c, D', aC'⟩ := K
  obtain ⟨hexec, hcb, hown, hts, hK, hlk⟩ := C
  intro H locs ls hP hS hN hls hln
  exact W.objInit hexec hcb hown (hts _ hl) (hts _ zz_o1) (hts _ zz_o2) rfl hls.1 rfl hd hfr (by have h0 : (F0 m pc ls (.ref a :: st)).monitorRoom = 0 := rfl; rw [h0]; simpa using hlo) (kk H locs ls hP hS hN hls hln)
end ZD
