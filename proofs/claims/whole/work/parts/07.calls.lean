/-! ===== calls ===== -/
/-- what a word says of a method's code, with handlers or without -/
def zz_cd (y : MethodName) (cc : ByteArray) (maxL : Nat) (ret : Option FieldType) (hs : List (Nat × Nat × Nat × Nat)) (w : Cond) : Prop := ∀ (args : Array Value) (s : State), w.before args s = true → ∃ m meth c, s.methodNamed? y = some m ∧ s.vm.method? m = some meth ∧ meth.code = some c ∧ c.code = cc ∧ c.maxLocals = maxL ∧ c.exceptionTable.toList = tableOf hs ∧ meth.sig.returnType = ret ∧ meth.locks = false ∧ parseMethodDescriptor y.desc = some meth.sig
theorem zz_cd_code (y : MethodName) (cc : ByteArray) (maxL : Nat) (ret : Option FieldType) : zz_cd y cc maxL ret [] (.code y cc maxL ret) := fun args s h => by
  obtain ⟨m, hn⟩ := Cond.code_named h
  obtain ⟨meth, c, h1, h2, h3, h4, h5, h6, h7, h8⟩ := Cond.code_spec hn h
  refine ⟨m, meth, c, hn, h1, h2, h3, h4, ?_, h5, h6, h8⟩
  have : c.exceptionTable = #[] := Array.isEmpty_iff.mp h7
  rw [this]; rfl
theorem zz_cd_with (y : MethodName) (cc : ByteArray) (maxL : Nat) (ret : Option FieldType) (hs : List (Nat × Nat × Nat × Nat)) : zz_cd y cc maxL ret hs (.codeWith y cc maxL ret hs) := fun args s h => by
  obtain ⟨m, meth, c, hn, h1, h2, h3, h4, h5, h6, h7, h8⟩ := Cond.codeWith_spec h
  refine ⟨m, meth, c, hn, h1, h2, h3, h4, ?_, h6, h7, h8⟩
  rw [← h5, table_eq]
/-- a method of the system: its code's word stands in the tables -/
def zz_md (y : MethodName) (cc : ByteArray) (maxL : Nat) (ret : Option FieldType) (hs : List (Nat × Nat × Nat × Nat)) (n : Nat) : Prop := (∃ w ∈ zz_g, zz_cd y cc maxL ret hs w) ∧ Cond.initialized y.cls ∈ zz_g ∧ plainName y.cls = true ∧ (y.cls ≠ "java/lang/invoke/MethodHandle" ∧ y.cls ≠ "java/lang/invoke/VarHandle") ∧ (parseMethodDescriptor y.desc).map (fun d => d.parameters.length) = some n
section ZC
variable {p : Program} {l : Launch} {e : Env} {R : Room} {s : State} {m : MethodId} {args : Array Value} {below : List Frame} {meth : Method} {c : Code} {H : Heap} {locs : List Loc} {cells slots : Nat}
/-- a call's two ends -/
def zz_Run (p : Program) (l : Launch) (e : Env) (R : Room) (s : State) (m : MethodId) (args : Array Value) (below : List Frame) (meth : Method) (c : Code) (H : Heap) (locs : List Loc) (cells slots mc ms : Nat) (g : JFrame) (rest : List Value) (Qa : State → Outcome → State → Prop) (free : Addr → Prop) : Prop :=
  ∀ T : State, T.heap = H → Stand p l e R s m args below meth c T locs cells slots → ∃ (o : Outcome) (st₀ t T' : State) (L : List Loc), st₀.heap = H ∧ s.WarmedH st₀.vm ∧ Stand p l e R s m args below meth c T' (locs ++ L) (cells + mc) (slots + ms) ∧ (∀ q ∈ L, free q.base) ∧ T'.heap = t.heap ∧ T'.vm = t.vm ∧ Qa st₀ o t ∧
    (∀ v, o = .returned v → ∀ tg, Steps p.tables e below (T'.setTop { g with pc := g.pc + 3, stack := v.toList ++ rest }) tg → Steps p.tables e below (T.setTop g) tg) ∧
    (∀ x, o = .threw x → ∀ tg, Steps p.tables e below ((T'.setTop { g with stack := rest }).pushFrame (.throwing x)) tg → Steps p.tables e below (T.setTop g) tg)
variable {y : MethodName} {bytes cc : ByteArray} {maxL nL mc ms n index : Nat} {ret : Option FieldType} {hs : List (Nat × Nat × Nat × Nat)} {rm : Room} {Pc : Array Value → State → Prop} {Qc : Array Value → State → Outcome → State → Prop} {free : Addr → Prop} {own Cn : String} {b : Addr} {As rest : List Value} {g : JFrame}
/-- the words, behind warmer tables -/
theorem zz_warm (hts : ∀ w ∈ zz_g, w.before args s = true) {U : State} (hW : s.WarmedH U.vm) (a' : Array Value) : ∀ w ∈ zz_g, w.before a' U = true := fun w hw => word_at hW (zz_good w hw) (hts w hw)
theorem zz_run0 {T : State} {g0 : JFrame} {mk : MethodId} {a : Array Value} {ig : Instr} (hts : ∀ w ∈ zz_g, w.before args s = true) (hM : zz_M l y zz_g rm Pc Qc mc ms free) (hm : zz_md y bytes maxL ret hs n) (hrc : rm.cells = mc) (hrs : rm.slots = ms) (hR : rm.frames + 1 ≤ R.frames ∧ 8 + (maxL + 11) + rm.locals ≤ R.locals)
    (X : Stand p l e R s m args below meth c T locs cells slots) (hg : g0.method = m) (hsize : g0.locals.size = c.maxLocals) (hdg : decode c.code g0.pc = .ok (ig, 3)) (hW : 2 * g0.monitorRoom + (g0.stack.map fun v => v.category).sum ≤ 8) (hf : cells + mc ≤ R.cells ∧ slots + ms ≤ R.slots)
    (hbl : FrameBlind Pc) (hP : Pc a T) (hnm : T.methodNamed? y = some mk) :
    ∃ (o : Outcome) (t T' : State) (L : List Loc), Stand p l e R s m args below meth c T' (locs ++ L) (cells + mc) (slots + ms) ∧ (∀ q ∈ L, free q.base) ∧ T'.heap = t.heap ∧ T'.vm = t.vm ∧ Qc a (T.calling g0 mk a) o t ∧
      (∀ v, o = .returned v → Steps p.tables e below (doInvoke e (T.setTop g0) [] mk a).1 (T'.setTop { g0 with pc := g0.pc + 3, stack := v.toList ++ g0.stack })) ∧
      (∀ x, o = .threw x → Steps p.tables e below (doInvoke e (T.setTop g0) [] mk a).1 ((T'.setTop g0).pushFrame (.throwing x))) := by
  obtain ⟨⟨w, hw, hcd⟩, hini, -, -, -⟩ := hm
  have hwT := zz_warm hts X.warmed a
  obtain ⟨m', meth', c', hn', h1, h2, h3, h4, -⟩ := hcd a T (hwT w hw)
  cases hnm.symm.trans hn'
  exact zz_inv X hg hsize hdg hM hnm h1 h2 h4 (hwT _ hini) hwT hR.1 (by omega) (by rw [hrc]; exact hf.1) (by rw [hrs]; exact hf.2) (hbl _ _ _ _ hP)
theorem zz_runV (hexec : p.tables.exec = Jvm.exec) (hb : c.code = cc) (hown : s.vm.findClass own = some m.cls) (hts : ∀ w ∈ zz_g, w.before args s = true) (hM : zz_M l y zz_g rm Pc Qc mc ms free) (hm : zz_md y bytes maxL ret hs n)
    (hl : Cond.methodLink own index y ∈ zz_g) (hin : Cond.instanceMethod y ∈ zz_g) (hse : Cond.selects Cn y y ∈ zz_g) (hrc : rm.cells = mc) (hrs : rm.slots = ms) (hR : rm.frames + 1 ≤ R.frames ∧ 8 + (maxL + 11) + rm.locals ≤ R.locals) (hp : PreV s H Cn b Pc As)
    (hg : g.method = m) (hn : As.length = n) (hsize : g.locals.size = c.maxLocals) (hstack : g.stack = As.reverse ++ .ref b :: rest) (hW : 2 * g.monitorRoom + (rest.map fun v => v.category).sum ≤ 8) (hdg : decode cc g.pc = .ok (.invokevirtual index, 3)) (hf : cells + mc ≤ R.cells ∧ slots + ms ≤ R.slots) :
    zz_Run p l e R s m args below meth c H locs cells slots mc ms g rest (Qc (Value.ref b :: As).toArray) free := by
  subst hb
  obtain ⟨hbl, ⟨cellB, hcB, hoB, hclB⟩, hPc⟩ := hp
  obtain ⟨-, -, -, hy, hlen⟩ := id hm
  intro T hT X
  obtain ⟨mk, methM, hnamed, hmethM, hstM, habM⟩ := Cond.instanceMethod_spec (hts _ hin)
  obtain ⟨w, hw, hcd⟩ := hm.1
  obtain ⟨m', meth', c', hn', h1', h2', h3', h4', h5', h6', h7', h8'⟩ := hcd args s (hts w hw)
  cases hnamed.symm.trans hn'
  cases hmethM.symm.trans h1'
  obtain ⟨c2, r2, m2, q1, q2, q3, q4, kP, hkP, hkPi⟩ := Cond.selects_spec (hts _ hse)
  cases hclB.symm.trans q1
  cases (State.methodFound?_of_named hnamed hy).symm.trans q2
  cases hnamed.symm.trans q3
  have hselP : selectMethod e.platform s.vm cellB.cls mk = .method mk := by rw [Launch.admits_selectMethod X.admits]; exact q4
  have hlen' : As.length = methM.sig.parameters.length := by
    rw [h8'] at hlen
    rw [hn]
    exact (Option.some.inj hlen).symm
  obtain ⟨vm₁, X₁, hstep₁⟩ := X.invokevirtual hexec hown (hts _ hl) hnamed hmethM hstM hkP hkPi hy (a := b) (cell := cellB) (by rw [hT]; exact hcB)
    (fun z h => by rw [h] at hoB; cases hoB) hselP hmethM habM hkP hkPi (g := g) hg (argsL := As) (rest := rest) hlen' hstack hdg
  obtain ⟨o, t, T', L, X', hL, e1, e2, hq, hr, hx⟩ := zz_run0 (g0 := { g with stack := rest }) (a := (Value.ref b :: As).toArray) hts hM hm hrc hrs hR X₁ hg hsize hdg hW hf hbl (hPc (T.setVm vm₁) hT X₁.warmed) (X₁.named hnamed)
  refine ⟨o, (T.setVm vm₁).calling { g with stack := rest } mk (Value.ref b :: As).toArray, t, T', L, hT, X₁.warmed, X', hL, e1, e2, hq, fun v hv tg h => hstep₁ _ fun acts => ?_, fun x hv tg h => hstep₁ _ fun acts => ?_⟩
  · rw [doInvoke_state]; exact (hr v hv).trans h
  · rw [doInvoke_state]; exact (hx x hv).trans h
theorem zz_runS (hexec : p.tables.exec = Jvm.exec) (hb : c.code = cc) (hown : s.vm.findClass own = some m.cls) (hts : ∀ w ∈ zz_g, w.before args s = true) (hM : zz_M l y zz_g rm Pc Qc mc ms free) (hm : zz_md y bytes maxL ret hs n)
    (hl : Cond.methodLink own index y ∈ zz_g) (hsta : Cond.static y ∈ zz_g) (hrc : rm.cells = mc) (hrs : rm.slots = ms) (hR : rm.frames + 1 ≤ R.frames ∧ 8 + (maxL + 11) + rm.locals ≤ R.locals) (hp : PreS s H Pc As)
    (hg : g.method = m) (hn : As.length = n) (hsize : g.locals.size = c.maxLocals) (hstack : g.stack = As.reverse ++ rest) (hW : 2 * g.monitorRoom + (rest.map fun v => v.category).sum ≤ 8) (hdg : decode cc g.pc = .ok (.invokestatic index, 3)) (hf : cells + mc ≤ R.cells ∧ slots + ms ≤ R.slots) :
    zz_Run p l e R s m args below meth c H locs cells slots mc ms g rest (Qc As.toArray) free := by
  subst hb
  obtain ⟨hbl, hPc⟩ := hp
  obtain ⟨-, hini, -, hy, hlen⟩ := id hm
  intro T hT X
  obtain ⟨w, hw, hcd⟩ := hm.1
  obtain ⟨mk, methM, c', hnamed, hmethM, h2', h3', h4', h5', h6', h7', h8'⟩ := hcd args s (hts w hw)
  have hstatic : methM.isStatic = true := Cond.static_spec hnamed hmethM (hts _ hsta)
  obtain ⟨kP, hkP, -⟩ := className_of_methodNamed hnamed
  have hinitP : kP.init = .initialized := Cond.initialized_spec (findClass_of_methodNamed hnamed) hkP (hts _ hini)
  have hlen' : As.length = methM.sig.parameters.length := by
    rw [h8'] at hlen
    rw [hn]
    exact (Option.some.inj hlen).symm
  obtain ⟨vm₁, X₁, hstep₁⟩ := X.invokestatic hexec hown (hts _ hl) hnamed hmethM hstatic hkP hinitP hy (g := g) hg (argsL := As) (rest := rest) hlen' hstack hdg
  obtain ⟨o, t, T', L, X', hL, e1, e2, hq, hr, hx⟩ := zz_run0 (g0 := { g with stack := rest }) (a := As.toArray) hts hM hm hrc hrs hR X₁ hg hsize hdg hW hf hbl (hPc (T.setVm vm₁) hT X₁.warmed) (X₁.named hnamed)
  refine ⟨o, (T.setVm vm₁).calling { g with stack := rest } mk As.toArray, t, T', L, hT, X₁.warmed, X', hL, e1, e2, hq, fun v hv tg h => hstep₁ _ fun acts => ?_, fun x hv tg h => hstep₁ _ fun acts => ?_⟩
  · rw [doInvoke_state]; exact (hr v hv).trans h
  · rw [doInvoke_state]; exact (hx x hv).trans h
theorem zz_runI (hexec : p.tables.exec = Jvm.exec) (hb : c.code = cc) (hown : s.vm.findClass own = some m.cls) (hts : ∀ w ∈ zz_g, w.before args s = true) (hM : zz_M l y zz_g rm Pc Qc mc ms free) (hm : zz_md y bytes maxL none [] n) (hcw : Cond.code y bytes maxL none ∈ zz_g)
    (hl : Cond.methodLink own index y ∈ zz_g) (hin : Cond.instanceMethod y ∈ zz_g) (hy1 : y.name = "<init>") (hrc : rm.cells = mc) (hrs : rm.slots = ms) (hR : rm.frames + 1 ≤ R.frames ∧ 8 + (maxL + 11) + rm.locals ≤ R.locals) (hp : PreS s H Pc (.ref b :: As))
    (hg : g.method = m) (hn : As.length = n) (hsize : g.locals.size = c.maxLocals) (hstack : g.stack = As.reverse ++ .ref b :: rest) (hW : 2 * g.monitorRoom + (rest.map fun v => v.category).sum ≤ 8) (hdg : decode cc g.pc = .ok (.invokespecial index, 3)) (hf : cells + mc ≤ R.cells ∧ slots + ms ≤ R.slots) :
    zz_Run p l e R s m args below meth c H locs cells slots mc ms g rest (Qc (Value.ref b :: As).toArray) free := by
  subst hb
  obtain ⟨hbl, hPc⟩ := hp
  obtain ⟨-, hini, -, hy, hlen⟩ := id hm
  intro T hT X
  subst hg
  have hpl : e.platform.magicAccessors = ({} : Platform).magicAccessors := by rw [X.admits.platform]
  obtain ⟨mk, methM, cM, kP, vm₁, hnamed, hmethM, hcodeM, -, hlocalsM, -, hkP, -, hW₁, hstep₁⟩ := Steps.initColdArgs (e := e) X.here hexec X.warmed hpl hown hy1 hy (hts _ hl) (hts _ hin) (hts _ hcw) (f := g) rfl (argsL := As) (rest := rest) (a := b)
    (fun sig h => by rw [h] at hlen; rw [hn]; exact (Option.some.inj hlen).symm) hstack hdg
  have X₁ := X.noted hW₁
  obtain ⟨o, t, T', L, X', hL, e1, e2, hq, hr, hx⟩ := zz_run0 (g0 := { g with stack := rest }) (a := (Value.ref b :: As).toArray) hts hM hm hrc hrs hR X₁ rfl hsize hdg hW hf hbl (hPc (T.setVm vm₁) hT X₁.warmed) (X₁.named hnamed)
  refine ⟨o, (T.setVm vm₁).calling { g with stack := rest } mk (Value.ref b :: As).toArray, t, T', L, hT, X₁.warmed, X', hL, e1, e2, hq, fun v hv tg h => hstep₁ _ fun acts => ?_, fun x hv tg h => hstep₁ _ fun acts => ?_⟩
  · rw [doInvoke_state]; exact (hr v hv).trans h
  · rw [doInvoke_state]; exact (hx x hv).trans h
end ZC
