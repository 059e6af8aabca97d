section
-- ===== PART A: goes FIRST, ahead of the names: the tables' words, and 'selects' of the private methods out of them =====
/-- a private method of a class that the tables say can be made, by its rows of tables_1 -/
def lw_okq (q : MethodName × Nat) : Prop := (q.1.cls ≠ "java/lang/invoke/MethodHandle" ∧ q.1.cls ≠ "java/lang/invoke/VarHandle") ∧ Cond.instantiable q.1.cls q.2 ∈ tables_1 ∧ Cond.privateMethod q.1 ∈ tables_1 ∧ Cond.instanceMethod q.1 ∈ tables_1
theorem lw_p0 : lw_okq (⟨"java/lang/Throwable", "fillInStackTrace", "(I)Ljava/lang/Throwable;"⟩, 6) := ⟨⟨by decide +kernel, by decide +kernel⟩, List.mem_of_getElem? (i := 131) (by decide +kernel), List.mem_of_getElem? (i := 129) (by decide +kernel), List.mem_of_getElem? (i := 130) (by decide +kernel)⟩
theorem lw_p1 : lw_okq (⟨"OverlayTree", "checkWritable", "(I)V"⟩, 3) := ⟨⟨by decide +kernel, by decide +kernel⟩, List.mem_of_getElem? (i := 14) (by decide +kernel), List.mem_of_getElem? (i := 161) (by decide +kernel), List.mem_of_getElem? (i := 162) (by decide +kernel)⟩
theorem lw_p2 : lw_okq (⟨"OverlayTree", "checkParent", "(I)V"⟩, 3) := ⟨⟨by decide +kernel, by decide +kernel⟩, List.mem_of_getElem? (i := 14) (by decide +kernel), List.mem_of_getElem? (i := 165) (by decide +kernel), List.mem_of_getElem? (i := 166) (by decide +kernel)⟩
theorem lw_p3 : lw_okq (⟨"OverlayTree", "look", "(II)LOverlayTree$Sight;"⟩, 3) := ⟨⟨by decide +kernel, by decide +kernel⟩, List.mem_of_getElem? (i := 14) (by decide +kernel), List.mem_of_getElem? (i := 172) (by decide +kernel), List.mem_of_getElem? (i := 173) (by decide +kernel)⟩
theorem lw_p4 : lw_okq (⟨"OverlayTree$Sight", "addLayer", "(LOverlayTree$Sight;I)V"⟩, 4) := ⟨⟨by decide +kernel, by decide +kernel⟩, List.mem_of_getElem? (i := 44) (by decide +kernel), List.mem_of_getElem? (i := 188) (by decide +kernel), List.mem_of_getElem? (i := 189) (by decide +kernel)⟩
theorem lw_p5 : lw_okq (⟨"OverlayTree", "setMark", "(III)V"⟩, 3) := ⟨⟨by decide +kernel, by decide +kernel⟩, List.mem_of_getElem? (i := 14) (by decide +kernel), List.mem_of_getElem? (i := 213) (by decide +kernel), List.mem_of_getElem? (i := 214) (by decide +kernel)⟩
theorem lw_p6 : lw_okq (⟨"OverlayTree", "countSeen", "(I)I"⟩, 3) := ⟨⟨by decide +kernel, by decide +kernel⟩, List.mem_of_getElem? (i := 14) (by decide +kernel), List.mem_of_getElem? (i := 263) (by decide +kernel), List.mem_of_getElem? (i := 264) (by decide +kernel)⟩
theorem lw_p7 : lw_okq (⟨"OverlayTree", "takeAway", "(I)V"⟩, 3) := ⟨⟨by decide +kernel, by decide +kernel⟩, List.mem_of_getElem? (i := 14) (by decide +kernel), List.mem_of_getElem? (i := 267) (by decide +kernel), List.mem_of_getElem? (i := 268) (by decide +kernel)⟩
theorem lw_p8 : lw_okq (⟨"OverlayTree", "clearMarks", "(I)V"⟩, 3) := ⟨⟨by decide +kernel, by decide +kernel⟩, List.mem_of_getElem? (i := 14) (by decide +kernel), List.mem_of_getElem? (i := 271) (by decide +kernel), List.mem_of_getElem? (i := 272) (by decide +kernel)⟩
theorem lw_p9 : lw_okq (⟨"OverlayTree", "fileValue", "(II)I"⟩, 3) := ⟨⟨by decide +kernel, by decide +kernel⟩, List.mem_of_getElem? (i := 14) (by decide +kernel), List.mem_of_getElem? (i := 284) (by decide +kernel), List.mem_of_getElem? (i := 285) (by decide +kernel)⟩
theorem lw_p10 : lw_okq (⟨"OverlayTree", "loseTop", "()I"⟩, 3) := ⟨⟨by decide +kernel, by decide +kernel⟩, List.mem_of_getElem? (i := 14) (by decide +kernel), List.mem_of_getElem? (i := 344) (by decide +kernel), List.mem_of_getElem? (i := 345) (by decide +kernel)⟩
theorem lw_p11 : lw_okq (⟨"OverlayTree", "checkView", "(II)V"⟩, 3) := ⟨⟨by decide +kernel, by decide +kernel⟩, List.mem_of_getElem? (i := 14) (by decide +kernel), List.mem_of_getElem? (i := 363) (by decide +kernel), List.mem_of_getElem? (i := 364) (by decide +kernel)⟩
theorem lw_p12 : lw_okq (⟨"OverlayTree", "namesSeen", "(II)I"⟩, 3) := ⟨⟨by decide +kernel, by decide +kernel⟩, List.mem_of_getElem? (i := 14) (by decide +kernel), List.mem_of_getElem? (i := 383) (by decide +kernel), List.mem_of_getElem? (i := 384) (by decide +kernel)⟩
theorem lw_p13 : lw_okq (⟨"OverlayTree", "checkLayer", "(I)V"⟩, 3) := ⟨⟨by decide +kernel, by decide +kernel⟩, List.mem_of_getElem? (i := 14) (by decide +kernel), List.mem_of_getElem? (i := 394) (by decide +kernel), List.mem_of_getElem? (i := 395) (by decide +kernel)⟩
theorem lw_p14 : lw_okq (⟨"OverlayTreeModel", "look", "(I)V"⟩, 10) := ⟨⟨by decide +kernel, by decide +kernel⟩, List.mem_of_getElem? (i := 409) (by decide +kernel), List.mem_of_getElem? (i := 464) (by decide +kernel), List.mem_of_getElem? (i := 465) (by decide +kernel)⟩
theorem lw_p15 : lw_okq (⟨"OverlayTreeModel", "cover", "(I)V"⟩, 10) := ⟨⟨by decide +kernel, by decide +kernel⟩, List.mem_of_getElem? (i := 409) (by decide +kernel), List.mem_of_getElem? (i := 468) (by decide +kernel), List.mem_of_getElem? (i := 469) (by decide +kernel)⟩
def lw_privs_1 : List (MethodName × Nat) := [(⟨"java/lang/Throwable", "fillInStackTrace", "(I)Ljava/lang/Throwable;"⟩, 6), (⟨"OverlayTree", "checkWritable", "(I)V"⟩, 3), (⟨"OverlayTree", "checkParent", "(I)V"⟩, 3), (⟨"OverlayTree", "look", "(II)LOverlayTree$Sight;"⟩, 3), (⟨"OverlayTree$Sight", "addLayer", "(LOverlayTree$Sight;I)V"⟩, 4), (⟨"OverlayTree", "setMark", "(III)V"⟩, 3), (⟨"OverlayTree", "countSeen", "(I)I"⟩, 3), (⟨"OverlayTree", "takeAway", "(I)V"⟩, 3), (⟨"OverlayTree", "clearMarks", "(I)V"⟩, 3), (⟨"OverlayTree", "fileValue", "(II)I"⟩, 3), (⟨"OverlayTree", "loseTop", "()I"⟩, 3), (⟨"OverlayTree", "checkView", "(II)V"⟩, 3), (⟨"OverlayTree", "namesSeen", "(II)I"⟩, 3), (⟨"OverlayTree", "checkLayer", "(I)V"⟩, 3), (⟨"OverlayTreeModel", "look", "(I)V"⟩, 10), (⟨"OverlayTreeModel", "cover", "(I)V"⟩, 10)]
theorem lw_r1 : ∀ q ∈ lw_privs_1, lw_okq q := List.forall_mem_cons.mpr ⟨lw_p0, List.forall_mem_cons.mpr ⟨lw_p1, List.forall_mem_cons.mpr ⟨lw_p2, List.forall_mem_cons.mpr ⟨lw_p3, List.forall_mem_cons.mpr ⟨lw_p4, List.forall_mem_cons.mpr ⟨lw_p5, List.forall_mem_cons.mpr ⟨lw_p6, List.forall_mem_cons.mpr ⟨lw_p7, List.forall_mem_cons.mpr ⟨lw_p8, List.forall_mem_cons.mpr ⟨lw_p9, List.forall_mem_cons.mpr ⟨lw_p10, List.forall_mem_cons.mpr ⟨lw_p11, List.forall_mem_cons.mpr ⟨lw_p12, List.forall_mem_cons.mpr ⟨lw_p13, List.forall_mem_cons.mpr ⟨lw_p14, List.forall_mem_cons.mpr ⟨lw_p15, fun _ h => absurd h List.not_mem_nil⟩⟩⟩⟩⟩⟩⟩⟩⟩⟩⟩⟩⟩⟩⟩⟩
theorem lw_p16 : lw_okq (⟨"OverlayTreeModel", "refuse", "(ZZZ)Z"⟩, 10) := ⟨⟨by decide +kernel, by decide +kernel⟩, List.mem_of_getElem? (i := 409) (by decide +kernel), List.mem_of_getElem? (i := 472) (by decide +kernel), List.mem_of_getElem? (i := 473) (by decide +kernel)⟩
theorem lw_p17 : lw_okq (⟨"OverlayTreeModel", "put", "(III)V"⟩, 10) := ⟨⟨by decide +kernel, by decide +kernel⟩, List.mem_of_getElem? (i := 409) (by decide +kernel), List.mem_of_getElem? (i := 476) (by decide +kernel), List.mem_of_getElem? (i := 477) (by decide +kernel)⟩
theorem lw_p18 : lw_okq (⟨"OverlayTreeModel", "top", "()I"⟩, 10) := ⟨⟨by decide +kernel, by decide +kernel⟩, List.mem_of_getElem? (i := 409) (by decide +kernel), List.mem_of_getElem? (i := 480) (by decide +kernel), List.mem_of_getElem? (i := 481) (by decide +kernel)⟩
theorem lw_p19 : lw_okq (⟨"OverlayTreeModel", "takeAway", "(I)V"⟩, 10) := ⟨⟨by decide +kernel, by decide +kernel⟩, List.mem_of_getElem? (i := 409) (by decide +kernel), List.mem_of_getElem? (i := 495) (by decide +kernel), List.mem_of_getElem? (i := 496) (by decide +kernel)⟩
theorem lw_p20 : lw_okq (⟨"OverlayTreeModel", "isHidden", "(II)Z"⟩, 10) := ⟨⟨by decide +kernel, by decide +kernel⟩, List.mem_of_getElem? (i := 409) (by decide +kernel), List.mem_of_getElem? (i := 515) (by decide +kernel), List.mem_of_getElem? (i := 516) (by decide +kernel)⟩
theorem lw_p21 : lw_okq (⟨"OverlayTreeModel", "isAsked", "(II)Z"⟩, 10) := ⟨⟨by decide +kernel, by decide +kernel⟩, List.mem_of_getElem? (i := 409) (by decide +kernel), List.mem_of_getElem? (i := 523) (by decide +kernel), List.mem_of_getElem? (i := 524) (by decide +kernel)⟩
def lw_privs_2 : List (MethodName × Nat) := [(⟨"OverlayTreeModel", "refuse", "(ZZZ)Z"⟩, 10), (⟨"OverlayTreeModel", "put", "(III)V"⟩, 10), (⟨"OverlayTreeModel", "top", "()I"⟩, 10), (⟨"OverlayTreeModel", "takeAway", "(I)V"⟩, 10), (⟨"OverlayTreeModel", "isHidden", "(II)Z"⟩, 10), (⟨"OverlayTreeModel", "isAsked", "(II)Z"⟩, 10)]
theorem lw_r2 : ∀ q ∈ lw_privs_2, lw_okq q := List.forall_mem_cons.mpr ⟨lw_p16, List.forall_mem_cons.mpr ⟨lw_p17, List.forall_mem_cons.mpr ⟨lw_p18, List.forall_mem_cons.mpr ⟨lw_p19, List.forall_mem_cons.mpr ⟨lw_p20, List.forall_mem_cons.mpr ⟨lw_p21, fun _ h => absurd h List.not_mem_nil⟩⟩⟩⟩⟩⟩
def lw_privs : List (MethodName × Nat) := lw_privs_1 ++ (lw_privs_2)
def lw_tbl : List Cond := k2_sels lw_privs ++ tables_1
theorem lw_privs_ok : ∀ q ∈ lw_privs, lw_okq q := by
  show ∀ q ∈ lw_privs_1 ++ (lw_privs_2), lw_okq q
  exact List.forall_mem_append.mpr ⟨lw_r1, lw_r2⟩
end
section
/-! ===== BEGIN exceptions that leave a method, and their catching by the caller (launches without stack traces) ===== -/
section VXA
/-! The laws vx_back, vx_callV, vx_callS, vx_callSW, vx_throw0, vx_throwS follow proofs of the library, with one case more: JvmDerived/Free/Laws.lean (Back.of_free), Shelf42/LK1.lean (callV, callS), Shelf/KitTraced.lean (throwNew0V, throwNewS). -/
/-- where a method has thrown q: the class by its name, the cell, what was written, the world -/
def vx_T (XC : String → State → State → Prop) (st : State) (q : Addr) (t : State) (mc ms : Nat) (free : Addr → Prop) : Prop :=
  ∃ (E : String) (ce : Cell) (L : List Loc), XC E st t ∧ t.heap[q]? = some ce ∧ ce.vm = .none ∧ st.vm.findClass E = some ce.cls ∧ st.WarmedH t.vm ∧ st.sameButNew ({ t with vm := st.vm } : State) L mc ms ∧ ∀ z ∈ L, free z.base
def vx_Q (Qc : Array Value → State → Outcome → State → Prop) (XC : String → State → State → Prop) (mc ms : Nat) (free : Addr → Prop) : Array Value → State → Outcome → State → Prop := fun a st o t =>
  (Qc a st o t ∧ ∃ L, FrameEnd st o t L mc ms ∧ ∀ q ∈ L, free q.base) ∨ ∃ q, o = .threw q ∧ vx_T XC st q t mc ms free
/-- a callee that returns or throws -/
def vx_Met (l : Launch) (y : MethodName) (ws : List Cond) (rm : Room) (Pc : Array Value → State → Prop) (Qc : Array Value → State → Outcome → State → Prop) (XC : String → State → State → Prop) (mc ms : Nat) (free : Addr → Prop) : Prop :=
  MetFree l y (headSpec ws rm) Pc (fun _ _ _ _ _ => True) (vx_Q Qc XC mc ms free)
def vx_Post (XC : String → State → State → Prop) (mc ms : Nat) (free : Addr → Prop) : Pt → Array Value → Addr → Pt → Prop := fun A a q B =>
  ∃ (g : JFrame) (mk : MethodId) (t : State) (L : List Loc) (E : String) (ce : Cell), B.U.heap = t.heap ∧ B.U.vm = t.vm ∧ XC E (A.U.calling g mk a) t ∧ t.heap[q]? = some ce ∧ ce.vm = .none ∧ A.U.vm.findClass E = some ce.cls ∧ B.locs = A.locs ++ L ∧ (∀ z ∈ L, free z.base) ∧ B.cells = A.cells + mc ∧ B.slots = A.slots + ms
def vx_Back (l : Launch) (R : Room) (p : Program) (e : Env) (below : List Frame) (s : State) (sargs : Array Value) (y : MethodName) (len W9 : Nat)
    (Pre : Pt → Array Value → Prop) (Post : Pt → Array Value → Option Value → Pt → Prop) (PostX : Pt → Array Value → Addr → Pt → Prop) : Prop :=
  ∀ (m : MethodId) (meth : Method) (c : Code) (A : Pt) (g : JFrame) (ig : Instr) (mk : MethodId) (a : Array Value),
    Stand p l e R s m sargs below meth c A.U A.locs A.cells A.slots → g.method = m → g.locals.size = c.maxLocals → decode c.code g.pc = .ok (ig, len) →
    2 * g.monitorRoom + (g.stack.map fun v => v.category).sum ≤ W9 → A.U.methodNamed? y = some mk → Pre A a →
    (∃ (v : Option Value) (B : Pt), Stand p l e R s m sargs below meth c B.U B.locs B.cells B.slots ∧ Post A a v B ∧
      Steps p.tables e below (doInvoke e (A.U.setTop g) [] mk a).1 (B.U.setTop { g with pc := g.pc + len, stack := v.toList ++ g.stack })) ∨
    (∃ (q : Addr) (B : Pt), Stand p l e R s m sargs below meth c B.U B.locs B.cells B.slots ∧ PostX A a q B ∧
      Steps p.tables e below (doInvoke e (A.U.setTop g) [] mk a).1 ((B.U.setTop g).pushFrame (.throwing q)))
section Payer
variable {l : Launch} {R : Room} {p : Program} {e : Env} {below : List Frame} {s : State} {sargs : Array Value} {y : MethodName} {len W9 : Nat}
theorem vx_back {ws : List Cond} {rm : Room} {Pc : Array Value → State → Prop} {Qc : Array Value → State → Outcome → State → Prop} {XC : String → State → State → Prop} {mc ms : Nat} {free : Addr → Prop} {bytes : ByteArray} {maxL : Nat} {ret : Option FieldType}
    (hM : vx_Met l y ws rm Pc Qc XC mc ms free) (hblind : FrameBlind Pc) (hrc : rm.cells = mc) (hrs : rm.slots = ms)
    (hframes : rm.frames + 1 ≤ R.frames) (hlocals : W9 + (maxL + 11) + rm.locals ≤ R.locals)
    (hws : ∀ w ∈ ws, ∀ a' U, s.WarmedH U.vm → w.before a' U = true) (hcode : Cond.code y bytes maxL ret ∈ ws) (hinit : ∀ a' U, s.WarmedH U.vm → (Cond.initialized y.cls).before a' U = true) :
    vx_Back l R p e below s sargs y len W9 (PreOf R mc ms Pc) (PostOf Qc mc ms free) (vx_Post XC mc ms free) := by
  intro m meth c A g ig mk a X hg hsize hdg hW hn hp
  have h1 : (headSpec ws rm).pre.before a A.U = true := atoms_intro fun w hw => hws w hw _ _ X.warmed
  have h2 : (Cond.code y bytes maxL ret).before a A.U = true := hws _ hcode _ _ X.warmed
  have h3 : (Cond.initialized y.cls).before a A.U = true := hinit _ _ X.warmed
  have h4 : A.cells + (headSpec ws rm).room.cells ≤ R.cells := by rw [show (headSpec ws rm).room.cells = mc from hrc]; exact hp.1
  have h5 : A.slots + (headSpec ws rm).room.slots ≤ R.slots := by rw [show (headSpec ws rm).room.slots = ms from hrs]; exact hp.2.1
  have hPc : Pc a (A.U.calling g mk a) := hblind _ _ _ _ hp.2.2
  obtain ⟨U, Ls, c0, s0⟩ := A
  dsimp only [Pt.U, Pt.locs, Pt.cells, Pt.slots] at h1 h2 h3 h4 h5 X hn hPc ⊢
  obtain ⟨methY, cY, hmY, hcY, -, hlY, -, -, -, -⟩ := Cond.code_spec hn h2
  obtain ⟨kY, hkY, -⟩ := className_of_methodNamed hn
  have hinitY : kY.init = .initialized := Cond.initialized_spec (findClass_of_methodNamed hn) hkY h3
  have h : At U g.method c below := by rw [hg]; exact X.here
  have hlocals9 : W9 + (maxL + 11) + (headSpec ws rm).room.locals ≤ R.locals := hlocals
  have happ : (headSpec ws rm).appliesLoose y e.platform (U.calling g mk a) = true :=
    Spec.appliesLoose_calling (g := g) h hdg hn hkY hinitY
      (X.room_calling (g := g) (R' := (headSpec ws rm).room) hsize hmY hcY hframes (by rw [hlY]; omega) h4 h5) h1
  obtain ⟨mid, hmid⟩ := h.above
  have hfr : (U.setTop g).frames = (.java g :: mid) ++ below := by rw [State.frames_setTop' g h.top, hmid]; rfl
  obtain ⟨o, s₂, hsteps, -, hend, hq⟩ := Steps.callFree hM p X.admits X.cas X.clock (acts := []) hfr happ hPc trivial
  have hq' : vx_Q Qc XC mc ms free a (U.calling g mk a) o s₂ := hq
  rw [State.frames_setTop' g h.top] at hend
  obtain ⟨g₀, hg0⟩ := Option.isSome_iff_exists.mp h.top
  obtain ⟨r, hr⟩ := State.topJava?_eq_some.mp hg0
  have hr' : (({ U with heap := s₂.heap, slotsUsed := s₂.slotsUsed } : State).setVm s₂.vm).frames = .java g₀ :: r := hr
  rcases hq' with ⟨hqc, L, hfe, hL⟩ | ⟨q, rfl, E, ce, L, hx, hce, hcv, hcl, hW₂, hsm, hL⟩
  · obtain ⟨⟨v, rfl⟩, hW₂, e2, q2, q3, q4, q5, q6⟩ := id hfe
    have e3 : s₂ = ({ (U.calling g mk a).setFrames s₂.frames with heap := s₂.heap, slotsUsed := s₂.slotsUsed } : State).setVm s₂.vm := by
      have : s₂ = ({ s₂ with vm := (U.calling g mk a).vm } : State).setVm s₂.vm := rfl
      rw [e2] at this
      exact this
    obtain ⟨c₂, i₂, len₂, hc₂, hd₂, hf₂⟩ := hend
    have hW' : U.WarmedH s₂.vm := hW₂
    have hcc : c₂ = c := by
      have h1 : s₂.code? g.method = U.code? g.method := by
        rw [State.code?_eq, State.code?_eq, hW'.alike.method?]
      exact Option.some.inj (hc₂.symm.trans (h1.trans h.code))
    subst hcc
    have hlen : len₂ = len := by rw [hdg] at hd₂; cases hd₂; rfl
    subst hlen
    have hs₂ : s₂ = (({ U with heap := s₂.heap, slotsUsed := s₂.slotsUsed } : State).setVm s₂.vm).setTop { g with pc := g.pc + len₂, stack := v.toList ++ g.stack } := by
      refine e3.trans ?_
      rw [hf₂, State.calling_eq h.top, State.setFrames_setFrames, State.setTop_of_frames _ hr', hr]
      rfl
    have hsame : U.sameButNew ({ U with heap := s₂.heap, slotsUsed := s₂.slotsUsed } : State) L mc ms := by
      refine ⟨?_, q2, q3, q4, q5, q6⟩
      obtain ⟨t, ht, -⟩ := State.frames_cons hr
      show ({ U with heap := s₂.heap, slotsUsed := s₂.slotsUsed } : State) = { U.setFrames U.frames with heap := s₂.heap, slotsUsed := s₂.slotsUsed }
      rw [State.setFrames_self ht]
    subst hg
    refine Or.inl ⟨v, ⟨(({ U with heap := s₂.heap, slotsUsed := s₂.slotsUsed } : State).setVm s₂.vm), Ls ++ L, c0 + mc, s0 + ms⟩,
      ⟨X.admits, X.cas, X.clock, X.frames, X.room, X.hears, X.method, X.code, (X.here.setHeapUsed s₂.heap s₂.slotsUsed).setVm hW'.alike, X.tail, State.WarmedH.trans X.warmed hW', X.limits, X.bytes, X.same.trans (hsame.setVm s.vm)⟩,
      ⟨g, mk, s₂, L, rfl, rfl, hqc, rfl, hL, rfl, rfl⟩, ?_⟩
    show Steps p.tables e below _ ((({ U with heap := s₂.heap, slotsUsed := s₂.slotsUsed } : State).setVm s₂.vm).setTop { g with pc := g.pc + len₂, stack := v.toList ++ g.stack })
    rw [← hs₂]
    exact hsteps
  · obtain ⟨e2, q2, q3, q4, q5, q6⟩ := id hsm
    have e3 : s₂ = ({ (U.calling g mk a).setFrames s₂.frames with heap := s₂.heap, slotsUsed := s₂.slotsUsed } : State).setVm s₂.vm := by
      have : s₂ = ({ s₂ with vm := (U.calling g mk a).vm } : State).setVm s₂.vm := rfl
      rw [e2] at this
      exact this
    have hf₂ : s₂.frames = .throwing q :: .java g :: U.frames.tail := hend
    have hW' : U.WarmedH s₂.vm := hW₂
    have hs₂ : s₂ = ((({ U with heap := s₂.heap, slotsUsed := s₂.slotsUsed } : State).setVm s₂.vm).setTop g).pushFrame (.throwing q) := by
      refine e3.trans ?_
      rw [hf₂, State.calling_eq h.top, State.setFrames_setFrames, State.pushFrame, State.frames_setTop _ hr', State.setTop_of_frames _ hr', State.setFrames_setFrames, hr]
      rfl
    have hsame : U.sameButNew ({ U with heap := s₂.heap, slotsUsed := s₂.slotsUsed } : State) L mc ms := by
      refine ⟨?_, q2, q3, q4, q5, q6⟩
      obtain ⟨t, ht, -⟩ := State.frames_cons hr
      show ({ U with heap := s₂.heap, slotsUsed := s₂.slotsUsed } : State) = { U.setFrames U.frames with heap := s₂.heap, slotsUsed := s₂.slotsUsed }
      rw [State.setFrames_self ht]
    subst hg
    refine Or.inr ⟨q, ⟨(({ U with heap := s₂.heap, slotsUsed := s₂.slotsUsed } : State).setVm s₂.vm), Ls ++ L, c0 + mc, s0 + ms⟩,
      ⟨X.admits, X.cas, X.clock, X.frames, X.room, X.hears, X.method, X.code, (X.here.setHeapUsed s₂.heap s₂.slotsUsed).setVm hW'.alike, X.tail, State.WarmedH.trans X.warmed hW', X.limits, X.bytes, X.same.trans (hsame.setVm s.vm)⟩,
      ⟨g, mk, s₂, L, E, ce, rfl, rfl, hx, hce, hcv, hcl, rfl, hL, rfl, rfl⟩, ?_⟩
    show Steps p.tables e below _ (((({ U with heap := s₂.heap, slotsUsed := s₂.slotsUsed } : State).setVm s₂.vm).setTop g).pushFrame (.throwing q))
    rw [← hs₂]
    exact hsteps
end Payer
section Calls
variable {p : Program} {l : Launch} {e : Env} {R : Room} {s : State} {m : MethodId} {args : Array Value} {below : List Frame} {meth : Method} {c : Code} {T : State} {locs : List Loc} {cells slots : Nat}
theorem vx_callV (X : Stand p l e R s m args below meth c T locs cells slots) (hexec : p.tables.exec = Jvm.exec) {own C : String} {index : Nat} {y : MethodName} {bytes : ByteArray} {maxL : Nat} {ret : Option FieldType}
    (hown : s.vm.findClass own = some m.cls) (hlink : (Cond.methodLink own index y).before args s = true) (hinst : (Cond.instanceMethod y).before args s = true) (hsel : (Cond.selects C y y).before args s = true)
    (hcode : (Cond.code y bytes maxL ret).before args s = true) (hy : y.cls ≠ "java/lang/invoke/MethodHandle" ∧ y.cls ≠ "java/lang/invoke/VarHandle")
    {W9 : Nat} {Pre : Pt → Array Value → Prop} {Post : Pt → Array Value → Option Value → Pt → Prop} {PostX : Pt → Array Value → Addr → Pt → Prop} (hK : vx_Back l R p e below s args y 3 W9 Pre Post PostX)
    {b : Addr} {cellB : Cell} (hcell : T.heap[b]? = some cellB) (hobj : cellB.vm.isStatics = false) (hcls : s.vm.findClass C = some cellB.cls)
    {g : JFrame} (hg : g.method = m) (hsize : g.locals.size = c.maxLocals) {argsL rest : List Value} (hlen : ∀ sig, parseMethodDescriptor y.desc = some sig → argsL.length = sig.parameters.length)
    (hstack : g.stack = argsL.reverse ++ .ref b :: rest) (hW : 2 * g.monitorRoom + (rest.map fun v => v.category).sum ≤ W9) (hdg : decode c.code g.pc = .ok (.invokevirtual index, 3))
    (hpre : ∀ vm₁, s.WarmedH vm₁ → Pre ⟨T.setVm vm₁, locs, cells, slots⟩ (Value.ref b :: argsL).toArray) :
    (∃ (v : Option Value) (vm₁ : Vm) (B : Pt), s.WarmedH vm₁ ∧ Stand p l e R s m args below meth c B.U B.locs B.cells B.slots ∧ Post ⟨T.setVm vm₁, locs, cells, slots⟩ (Value.ref b :: argsL).toArray v B ∧
      ∀ target, Steps p.tables e below (B.U.setTop { g with pc := g.pc + 3, stack := v.toList ++ rest }) target → Steps p.tables e below (T.setTop g) target) ∨
    (∃ (q : Addr) (vm₁ : Vm) (B : Pt), s.WarmedH vm₁ ∧ Stand p l e R s m args below meth c B.U B.locs B.cells B.slots ∧ PostX ⟨T.setVm vm₁, locs, cells, slots⟩ (Value.ref b :: argsL).toArray q B ∧
      Steps p.tables e below (T.setTop g) ((B.U.setTop { g with stack := rest }).pushFrame (.throwing q))) := by
  obtain ⟨mk, methM, hnamed, hmethM, hstM, habM⟩ := Cond.instanceMethod_spec hinst
  obtain ⟨methM', cM, hmethM', -, -, -, -, -, -, hsigM⟩ := Cond.code_spec hnamed hcode
  cases hmethM.symm.trans hmethM'
  obtain ⟨c2, r2, m2, q1, q2, q3, q4, kP, hkP, hkPi⟩ := Cond.selects_spec hsel
  cases hcls.symm.trans q1
  cases (State.methodFound?_of_named hnamed hy).symm.trans q2
  cases hnamed.symm.trans q3
  have hselP : selectMethod e.platform s.vm cellB.cls mk = .method mk := by rw [Launch.admits_selectMethod X.admits]; exact q4
  obtain ⟨vm₁, X₁, hstep₁⟩ := X.invokevirtual hexec hown hlink hnamed hmethM hstM hkP hkPi hy (a := b) (cell := cellB) hcell
    (fun z h => by rw [h] at hobj; cases hobj) hselP hmethM habM hkP hkPi (g := g) hg (argsL := argsL) (rest := rest) (hlen _ hsigM) hstack hdg
  rcases hK m meth c ⟨T.setVm vm₁, locs, cells, slots⟩ { g with stack := rest } (.invokevirtual index) mk (Value.ref b :: argsL).toArray X₁ hg hsize hdg hW (X₁.named hnamed) (hpre vm₁ X₁.warmed) with ⟨v, B, X', hpost, hsteps⟩ | ⟨q, B, X', hpost, hsteps⟩
  · exact Or.inl ⟨v, vm₁, B, X₁.warmed, X', hpost, fun target h => hstep₁ _ fun acts => by rw [doInvoke_state]; exact hsteps.trans h⟩
  · exact Or.inr ⟨q, vm₁, B, X₁.warmed, X', hpost, hstep₁ _ fun acts => by rw [doInvoke_state]; exact hsteps⟩
theorem vx_callS (X : Stand p l e R s m args below meth c T locs cells slots) (hexec : p.tables.exec = Jvm.exec) {own : String} {index : Nat} {y : MethodName} {bytes : ByteArray} {maxL : Nat} {ret : Option FieldType}
    (hown : s.vm.findClass own = some m.cls) (hlink : (Cond.methodLink own index y).before args s = true) (hstat : (Cond.static y).before args s = true) (hinit : (Cond.initialized y.cls).before args s = true)
    (hcode : (Cond.code y bytes maxL ret).before args s = true) (hy : y.cls ≠ "java/lang/invoke/MethodHandle" ∧ y.cls ≠ "java/lang/invoke/VarHandle")
    {W9 : Nat} {Pre : Pt → Array Value → Prop} {Post : Pt → Array Value → Option Value → Pt → Prop} {PostX : Pt → Array Value → Addr → Pt → Prop} (hK : vx_Back l R p e below s args y 3 W9 Pre Post PostX)
    {g : JFrame} (hg : g.method = m) (hsize : g.locals.size = c.maxLocals) {argsL rest : List Value} (hlen : ∀ sig, parseMethodDescriptor y.desc = some sig → argsL.length = sig.parameters.length)
    (hstack : g.stack = argsL.reverse ++ rest) (hW : 2 * g.monitorRoom + (rest.map fun v => v.category).sum ≤ W9) (hdg : decode c.code g.pc = .ok (.invokestatic index, 3))
    (hpre : ∀ vm₁, s.WarmedH vm₁ → Pre ⟨T.setVm vm₁, locs, cells, slots⟩ argsL.toArray) :
    (∃ (v : Option Value) (vm₁ : Vm) (B : Pt), s.WarmedH vm₁ ∧ Stand p l e R s m args below meth c B.U B.locs B.cells B.slots ∧ Post ⟨T.setVm vm₁, locs, cells, slots⟩ argsL.toArray v B ∧
      ∀ target, Steps p.tables e below (B.U.setTop { g with pc := g.pc + 3, stack := v.toList ++ rest }) target → Steps p.tables e below (T.setTop g) target) ∨
    (∃ (q : Addr) (vm₁ : Vm) (B : Pt), s.WarmedH vm₁ ∧ Stand p l e R s m args below meth c B.U B.locs B.cells B.slots ∧ PostX ⟨T.setVm vm₁, locs, cells, slots⟩ argsL.toArray q B ∧
      Steps p.tables e below (T.setTop g) ((B.U.setTop { g with stack := rest }).pushFrame (.throwing q))) := by
  obtain ⟨mk, hnamed⟩ := Cond.code_named hcode
  obtain ⟨methM, cM, hmethM, -, -, -, -, -, -, hsigM⟩ := Cond.code_spec hnamed hcode
  have hstatic : methM.isStatic = true := Cond.static_spec hnamed hmethM hstat
  obtain ⟨kP, hkP, -⟩ := className_of_methodNamed hnamed
  have hinitP : kP.init = .initialized := Cond.initialized_spec (findClass_of_methodNamed hnamed) hkP hinit
  obtain ⟨vm₁, X₁, hstep₁⟩ := X.invokestatic hexec hown hlink hnamed hmethM hstatic hkP hinitP hy (g := g) hg (argsL := argsL) (rest := rest) (hlen _ hsigM) hstack hdg
  rcases hK m meth c ⟨T.setVm vm₁, locs, cells, slots⟩ { g with stack := rest } (.invokestatic index) mk argsL.toArray X₁ hg hsize hdg hW (X₁.named hnamed) (hpre vm₁ X₁.warmed) with ⟨v, B, X', hpost, hsteps⟩ | ⟨q, B, X', hpost, hsteps⟩
  · exact Or.inl ⟨v, vm₁, B, X₁.warmed, X', hpost, fun target h => hstep₁ _ fun acts => by rw [doInvoke_state]; exact hsteps.trans h⟩
  · exact Or.inr ⟨q, vm₁, B, X₁.warmed, X', hpost, hstep₁ _ fun acts => by rw [doInvoke_state]; exact hsteps⟩
end Calls
theorem vx_cls {s : State} {T : State} {vm₁ : Vm} {E : String} {k : ClassId} (hW : s.WarmedH vm₁) (h : (T.setVm vm₁).vm.findClass E = some k) : s.vm.findClass E = some k := by
  have h1 : vm₁.findClass E = some k := h
  rw [hW.alike.findClass] at h1
  exact h1
/-- the method's frame g, with q thrown over it -/
def vx_W (p : Program) (l : Launch) (e : Env) (R : Room) (s : State) (m : MethodId) (args : Array Value) (below : List Frame) (meth : Method) (c : Code) (H : Heap) (locs : List Loc) (cells slots : Nat) (Q : State → Prop) (g : JFrame) (q : Addr) : Prop :=
  ∀ T : State, T.heap = H → Stand p l e R s m args below meth c T locs cells slots → ∃ t, Steps p.tables e below ((T.setTop g).pushFrame (.throwing q)) t ∧ Q t
def vx_Run (p : Program) (l : Launch) (e : Env) (R : Room) (s : State) (m : MethodId) (args : Array Value) (below : List Frame) (meth : Method) (c : Code) (H : Heap) (locs : List Loc) (cells slots mc ms : Nat) (g : JFrame) (rest : List Value) (Qa : State → Outcome → State → Prop) (XC : String → State → State → Prop) (free : Addr → Prop) : Prop :=
  ∀ T : State, T.heap = H → Stand p l e R s m args below meth c T locs cells slots →
    (∃ (v : Option Value) (st₀ t T' : State) (L : List Loc), st₀.heap = H ∧ Stand p l e R s m args below meth c T' (locs ++ L) (cells + mc) (slots + ms) ∧ (∀ q ∈ L, free q.base) ∧ T'.heap = t.heap ∧ T'.vm = t.vm ∧ Qa st₀ (.returned v) t ∧
      Goes p e below T g T' { g with pc := g.pc + 3, stack := v.toList ++ rest }) ∨
    (∃ (q : Addr) (st₀ t T' : State) (L : List Loc) (E : String) (ce : Cell), st₀.heap = H ∧ Stand p l e R s m args below meth c T' (locs ++ L) (cells + mc) (slots + ms) ∧ (∀ z ∈ L, free z.base) ∧ T'.heap = t.heap ∧ T'.vm = t.vm ∧ XC E st₀ t ∧ t.heap[q]? = some ce ∧ ce.vm = .none ∧ s.vm.findClass E = some ce.cls ∧
      Steps p.tables e below (T.setTop g) ((T'.setTop { g with stack := rest }).pushFrame (.throwing q)))
def vx_X {S : Type} (px : S → Prop) (B : String → S → State → Prop) (A : Nat → Prop) : String → State → State → Prop := fun E st t => ∃ u : S, px u ∧ B E u t ∧ va_F A st t
section Runs
variable {p : Program} {l : Launch} {e : Env} {R : Room} {s : State} {m : MethodId} {args : Array Value} {below : List Frame} {meth : Method} {c : Code} {H : Heap} {locs : List Loc} {cells slots : Nat}
variable {y : MethodName} {bytes cc : ByteArray} {maxL nL mc ms n index : Nat} {ret : Option FieldType} {ws : List Cond} {rm : Room} {Pc : Array Value → State → Prop} {Qc : Array Value → State → Outcome → State → Prop} {XC : String → State → State → Prop} {free : Addr → Prop} {Ts : List Cond} {own C : String} {b : Addr} {As rest : List Value} {g : JFrame}
theorem vx_callBack (cb : CallB R s args own index y bytes maxL ret ws rm mc ms n) (hM : vx_Met l y ws rm Pc Qc XC mc ms free) (hbl : FrameBlind Pc) : vx_Back l R p e below s args y 3 8 (PreOf R mc ms Pc) (PostOf Qc mc ms free) (vx_Post XC mc ms free) := by
  obtain ⟨hrc, hrs, hfr, hlo, hws, hcw, -, hini, -⟩ := cb
  exact vx_back (bytes := bytes) (maxL := maxL) (ret := ret) hM hbl hrc hrs hfr hlo hws hcw (fun a' U hW => word_at hW (Or.inl (by first | rfl | simp [Cond.onTables, Cond.keeps, Cond.steady])) hini)
theorem vx_runV (S : CallFix p m c cc nL s args Ts own) (hM : vx_Met l y ws rm Pc Qc XC mc ms free) (cw : CallW R s args own C index y bytes maxL ret ws rm mc ms n) (hp : PreV s H C b Pc As)
    (hg : g.method = m) (hn : As.length = n) (hsize : g.locals.size = nL) (hstack : g.stack = As.reverse ++ .ref b :: rest) (hW : 2 * g.monitorRoom + (rest.map fun v => v.category).sum ≤ 8) (hdg : decode cc g.pc = .ok (.invokevirtual index, 3)) (hf : cells + mc ≤ R.cells ∧ slots + ms ≤ R.slots) :
    vx_Run p l e R s m args below meth c H locs cells slots mc ms g rest (Qc (Value.ref b :: As).toArray) XC free := by
  have hK : vx_Back l R p e below s args y 3 8 (PreOf R mc ms Pc) (PostOf Qc mc ms free) (vx_Post XC mc ms free) := vx_callBack cw.1 hM hp.1
  obtain ⟨⟨-, -, -, -, -, -, hcode, -, hy, hlen, hl⟩, hin, hse⟩ := cw
  obtain ⟨hx, hb, hml, ho, -⟩ := S
  obtain ⟨-, ⟨cellB, hcB, hoB, hclB⟩, hPc⟩ := hp
  intro T hT X
  rcases vx_callV X hx (C := C) (bytes := bytes) (maxL := maxL) (ret := ret) ho hl hin hse hcode hy hK (by rw [hT]; exact hcB) hoB hclB hg (hsize.trans hml.symm) (argsL := As) (rest := rest) (fun sig h => hn.trans (hlen sig h)) hstack hW (by rw [hb]; exact hdg)
    (fun vm₁ hW₁ => ⟨hf.1, hf.2, hPc (T.setVm vm₁) hT hW₁⟩) with ⟨v, vm₁, ⟨U', l2, c2, s2⟩, hW₁, X', ⟨g', mk, t, L, e1, e2, hq, h1, hL, h2, h3⟩, st⟩ | ⟨q, vm₁, ⟨U', l2, c2, s2⟩, hW₁, X', ⟨g', mk, t, L, E, ce, e1, e2, hq, hce, hcv, hcl, h1, hL, h2, h3⟩, st⟩
  · dsimp only [Pt.U, Pt.locs, Pt.cells, Pt.slots] at X' e1 e2 h1 h2 h3 st
    subst h1; subst h2; subst h3
    exact Or.inl ⟨v, (T.setVm vm₁).calling g' mk (Value.ref b :: As).toArray, t, U', L, hT, X', hL, e1, e2, hq, st⟩
  · dsimp only [Pt.U, Pt.locs, Pt.cells, Pt.slots] at X' e1 e2 h1 h2 h3 st hcl
    subst h1; subst h2; subst h3
    exact Or.inr ⟨q, (T.setVm vm₁).calling g' mk (Value.ref b :: As).toArray, t, U', L, E, ce, hT, X', hL, e1, e2, hq, hce, hcv, vx_cls hW₁ hcl, st⟩
theorem vx_runS (S : CallFix p m c cc nL s args Ts own) (hM : vx_Met l y ws rm Pc Qc XC mc ms free) (cw : CallB R s args own index y bytes maxL ret ws rm mc ms n ∧ (Cond.static y).before args s = true) (hp : PreS s H Pc As)
    (hg : g.method = m) (hn : As.length = n) (hsize : g.locals.size = nL) (hstack : g.stack = As.reverse ++ rest) (hW : 2 * g.monitorRoom + (rest.map fun v => v.category).sum ≤ 8) (hdg : decode cc g.pc = .ok (.invokestatic index, 3)) (hf : cells + mc ≤ R.cells ∧ slots + ms ≤ R.slots) :
    vx_Run p l e R s m args below meth c H locs cells slots mc ms g rest (Qc As.toArray) XC free := by
  have hK : vx_Back l R p e below s args y 3 8 (PreOf R mc ms Pc) (PostOf Qc mc ms free) (vx_Post XC mc ms free) := vx_callBack cw.1 hM hp.1
  obtain ⟨⟨-, -, -, -, -, -, hcode, hini, hy, hlen, hl⟩, hstt⟩ := cw
  obtain ⟨hx, hb, hml, ho, -⟩ := S
  intro T hT X
  rcases vx_callS X hx (bytes := bytes) (maxL := maxL) (ret := ret) ho hl hstt hini hcode hy hK hg (hsize.trans hml.symm) (argsL := As) (rest := rest) (fun sig h => hn.trans (hlen sig h)) hstack hW (by rw [hb]; exact hdg)
    (fun vm₁ hW₁ => ⟨hf.1, hf.2, hp.2 (T.setVm vm₁) hT hW₁⟩) with ⟨v, vm₁, ⟨U', l2, c2, s2⟩, hW₁, X', ⟨g', mk, t, L, e1, e2, hq, h1, hL, h2, h3⟩, st⟩ | ⟨q, vm₁, ⟨U', l2, c2, s2⟩, hW₁, X', ⟨g', mk, t, L, E, ce, e1, e2, hq, hce, hcv, hcl, h1, hL, h2, h3⟩, st⟩
  · dsimp only [Pt.U, Pt.locs, Pt.cells, Pt.slots] at X' e1 e2 h1 h2 h3 st
    subst h1; subst h2; subst h3
    exact Or.inl ⟨v, (T.setVm vm₁).calling g' mk As.toArray, t, U', L, hT, X', hL, e1, e2, hq, st⟩
  · dsimp only [Pt.U, Pt.locs, Pt.cells, Pt.slots] at X' e1 e2 h1 h2 h3 st hcl
    subst h1; subst h2; subst h3
    exact Or.inr ⟨q, (T.setVm vm₁).calling g' mk As.toArray, t, U', L, E, ce, hT, X', hL, e1, e2, hq, hce, hcv, vx_cls hW₁ hcl, st⟩
end Runs
section Rows
variable {p : Program} {l : Launch} {e : Env} {R : Room} {s : State} {m : MethodId} {args : Array Value} {below : List Frame} {meth : Method} {c : Code} {H : Heap} {locs : List Loc} {cells slots : Nat} {Q : State → Prop}
variable {mc ms : Nat} {free : Addr → Prop} {A0 A1 : Nat → Prop} {H0 : Heap} {a : Array Value} {pc : Nat} {ls : Array Slot} {st0 rest : List Value}
theorem vx_keep {st₀ t T' : State} {L : List Loc} (h0 : st₀.heap = H) (e1 : T'.heap = t.heap) (hS : va_S A0 H0 H locs) (hA : ∀ q, q < H.size → A1 q → A0 q) (hf : ∀ q, free q → A0 q) (hL : ∀ q ∈ L, free q.base) (hF : va_F A1 st₀ t) :
    H.size ≤ T'.heap.size ∧ (∀ q : Nat, q < H.size → ¬ A1 q → T'.heap[q]? = H[q]?) ∧ va_S A0 H0 T'.heap (locs ++ L) := by
  obtain ⟨hz, hk⟩ := hF
  rw [h0] at hz hk
  exact ⟨by rw [e1]; exact hz, fun q h1 h2 => by rw [e1]; exact hk q h1 h2,
    ⟨Nat.le_trans hS.1 (by rw [e1]; exact hz), fun q h1 h2 => by rw [e1, hk q (Nat.lt_of_lt_of_le h1 hS.1) (fun z => h2 (hA q (Nat.lt_of_lt_of_le h1 hS.1) z))]; exact hS.2.1 q h1 h2, fun q hq => by
      rcases List.mem_append.mp hq with h | h
      · exact hS.2.2 q h
      · exact hf _ (hL q h)⟩⟩
theorem vx_calli {S SX : Type} {post : Int32 → S → Prop} {px : SX → Prop} {B : S → State → Prop} {BX : String → SX → State → Prop} {AX : Nat → Prop} (hr : vx_Run p l e R s m args below meth c H locs cells slots mc ms (F0 m pc ls st0) rest (va_Qi post B A1 a) (vx_X px BX AX) free) (hS : va_S A0 H0 H locs) (hA : ∀ q, q < H.size → A1 q → A0 q) (hf : ∀ q, free q → A0 q) (hAX : ∀ q, q < H.size → AX q → A0 q)
    (kx : ∀ (E : String) (ce : Cell) (q9 : Addr) (u : SX) (t : State) (H1 : Heap) (locs1 : List Loc), t.heap = H1 → s.vm.Alike t.vm → px u → BX E u t → H.size ≤ H1.size → (∀ q : Nat, q < H.size → ¬ AX q → H1[q]? = H[q]?) → va_S A0 H0 H1 locs1 → H1[q9]? = some ce → ce.vm = .none → s.vm.findClass E = some ce.cls → vx_W p l e R s m args below meth c H1 locs1 (cells + mc) (slots + ms) Q (F0 m pc ls rest) q9)
    (kk : ∀ (r : Int32) (u : S) (t : State) (H1 : Heap) (locs1 : List Loc), t.heap = H1 → s.vm.Alike t.vm → post r u → B u t → H.size ≤ H1.size → (∀ q : Nat, q < H.size → ¬ A1 q → H1[q]? = H[q]?) → va_S A0 H0 H1 locs1 → W p l e R s m args below meth c H1 locs1 (cells + mc) (slots + ms) Q (F0 m (pc + 3) ls (.int r :: rest))) : W p l e R s m args below meth c H locs cells slots Q (F0 m pc ls st0) := by
  intro T hT X
  rcases hr T hT X with ⟨v, st₀, t, T', L, h0, X', hL, e1, e2, ⟨⟨r, u, hv, hp, hb⟩, hF⟩, st⟩ | ⟨q, st₀, t, T', L, E, ce, h0, X', hL, e1, e2, ⟨u, hp, hb, hF⟩, hce, hcv, hcl, st⟩
  · cases hv
    obtain ⟨k1, k2, k3⟩ := vx_keep h0 e1 hS hA hf hL hF
    obtain ⟨t2, a1, b1⟩ := kk r u t T'.heap (locs ++ L) e1.symm (by rw [← e2]; exact X'.warmed.alike) hp hb k1 k2 k3 T' rfl X'
    exact ⟨t2, st t2 a1, b1⟩
  · obtain ⟨k1, k2, k3⟩ := vx_keep h0 e1 hS hAX hf hL hF
    obtain ⟨t2, a1, b1⟩ := kx E ce q u t T'.heap (locs ++ L) e1.symm (by rw [← e2]; exact X'.warmed.alike) hp hb k1 k2 k3 (by rw [e1]; exact hce) hcv hcl T' rfl X'
    exact ⟨t2, st.trans a1, b1⟩
theorem vx_calll {S SX : Type} {post : Int64 → S → Prop} {px : SX → Prop} {B : S → State → Prop} {BX : String → SX → State → Prop} {AX : Nat → Prop} (hr : vx_Run p l e R s m args below meth c H locs cells slots mc ms (F0 m pc ls st0) rest (va_Ql post B A1 a) (vx_X px BX AX) free) (hS : va_S A0 H0 H locs) (hA : ∀ q, q < H.size → A1 q → A0 q) (hf : ∀ q, free q → A0 q) (hAX : ∀ q, q < H.size → AX q → A0 q)
    (kx : ∀ (E : String) (ce : Cell) (q9 : Addr) (u : SX) (t : State) (H1 : Heap) (locs1 : List Loc), t.heap = H1 → s.vm.Alike t.vm → px u → BX E u t → H.size ≤ H1.size → (∀ q : Nat, q < H.size → ¬ AX q → H1[q]? = H[q]?) → va_S A0 H0 H1 locs1 → H1[q9]? = some ce → ce.vm = .none → s.vm.findClass E = some ce.cls → vx_W p l e R s m args below meth c H1 locs1 (cells + mc) (slots + ms) Q (F0 m pc ls rest) q9)
    (kk : ∀ (r : Int64) (u : S) (t : State) (H1 : Heap) (locs1 : List Loc), t.heap = H1 → s.vm.Alike t.vm → post r u → B u t → H.size ≤ H1.size → (∀ q : Nat, q < H.size → ¬ A1 q → H1[q]? = H[q]?) → va_S A0 H0 H1 locs1 → W p l e R s m args below meth c H1 locs1 (cells + mc) (slots + ms) Q (F0 m (pc + 3) ls (.long r :: rest))) : W p l e R s m args below meth c H locs cells slots Q (F0 m pc ls st0) := by
  intro T hT X
  rcases hr T hT X with ⟨v, st₀, t, T', L, h0, X', hL, e1, e2, ⟨⟨r, u, hv, hp, hb⟩, hF⟩, st⟩ | ⟨q, st₀, t, T', L, E, ce, h0, X', hL, e1, e2, ⟨u, hp, hb, hF⟩, hce, hcv, hcl, st⟩
  · cases hv
    obtain ⟨k1, k2, k3⟩ := vx_keep h0 e1 hS hA hf hL hF
    obtain ⟨t2, a1, b1⟩ := kk r u t T'.heap (locs ++ L) e1.symm (by rw [← e2]; exact X'.warmed.alike) hp hb k1 k2 k3 T' rfl X'
    exact ⟨t2, st t2 a1, b1⟩
  · obtain ⟨k1, k2, k3⟩ := vx_keep h0 e1 hS hAX hf hL hF
    obtain ⟨t2, a1, b1⟩ := kx E ce q u t T'.heap (locs ++ L) e1.symm (by rw [← e2]; exact X'.warmed.alike) hp hb k1 k2 k3 (by rw [e1]; exact hce) hcv hcl T' rfl X'
    exact ⟨t2, st.trans a1, b1⟩
theorem vx_callf {S SX : Type} {post : UInt32 → S → Prop} {px : SX → Prop} {B : S → State → Prop} {BX : String → SX → State → Prop} {AX : Nat → Prop} (hr : vx_Run p l e R s m args below meth c H locs cells slots mc ms (F0 m pc ls st0) rest (va_Qf post B A1 a) (vx_X px BX AX) free) (hS : va_S A0 H0 H locs) (hA : ∀ q, q < H.size → A1 q → A0 q) (hf : ∀ q, free q → A0 q) (hAX : ∀ q, q < H.size → AX q → A0 q)
    (kx : ∀ (E : String) (ce : Cell) (q9 : Addr) (u : SX) (t : State) (H1 : Heap) (locs1 : List Loc), t.heap = H1 → s.vm.Alike t.vm → px u → BX E u t → H.size ≤ H1.size → (∀ q : Nat, q < H.size → ¬ AX q → H1[q]? = H[q]?) → va_S A0 H0 H1 locs1 → H1[q9]? = some ce → ce.vm = .none → s.vm.findClass E = some ce.cls → vx_W p l e R s m args below meth c H1 locs1 (cells + mc) (slots + ms) Q (F0 m pc ls rest) q9)
    (kk : ∀ (r : UInt32) (u : S) (t : State) (H1 : Heap) (locs1 : List Loc), t.heap = H1 → s.vm.Alike t.vm → post r u → B u t → H.size ≤ H1.size → (∀ q : Nat, q < H.size → ¬ A1 q → H1[q]? = H[q]?) → va_S A0 H0 H1 locs1 → W p l e R s m args below meth c H1 locs1 (cells + mc) (slots + ms) Q (F0 m (pc + 3) ls (.float r :: rest))) : W p l e R s m args below meth c H locs cells slots Q (F0 m pc ls st0) := by
  intro T hT X
  rcases hr T hT X with ⟨v, st₀, t, T', L, h0, X', hL, e1, e2, ⟨⟨r, u, hv, hp, hb⟩, hF⟩, st⟩ | ⟨q, st₀, t, T', L, E, ce, h0, X', hL, e1, e2, ⟨u, hp, hb, hF⟩, hce, hcv, hcl, st⟩
  · cases hv
    obtain ⟨k1, k2, k3⟩ := vx_keep h0 e1 hS hA hf hL hF
    obtain ⟨t2, a1, b1⟩ := kk r u t T'.heap (locs ++ L) e1.symm (by rw [← e2]; exact X'.warmed.alike) hp hb k1 k2 k3 T' rfl X'
    exact ⟨t2, st t2 a1, b1⟩
  · obtain ⟨k1, k2, k3⟩ := vx_keep h0 e1 hS hAX hf hL hF
    obtain ⟨t2, a1, b1⟩ := kx E ce q u t T'.heap (locs ++ L) e1.symm (by rw [← e2]; exact X'.warmed.alike) hp hb k1 k2 k3 (by rw [e1]; exact hce) hcv hcl T' rfl X'
    exact ⟨t2, st.trans a1, b1⟩
theorem vx_calld {S SX : Type} {post : UInt64 → S → Prop} {px : SX → Prop} {B : S → State → Prop} {BX : String → SX → State → Prop} {AX : Nat → Prop} (hr : vx_Run p l e R s m args below meth c H locs cells slots mc ms (F0 m pc ls st0) rest (va_Qd post B A1 a) (vx_X px BX AX) free) (hS : va_S A0 H0 H locs) (hA : ∀ q, q < H.size → A1 q → A0 q) (hf : ∀ q, free q → A0 q) (hAX : ∀ q, q < H.size → AX q → A0 q)
    (kx : ∀ (E : String) (ce : Cell) (q9 : Addr) (u : SX) (t : State) (H1 : Heap) (locs1 : List Loc), t.heap = H1 → s.vm.Alike t.vm → px u → BX E u t → H.size ≤ H1.size → (∀ q : Nat, q < H.size → ¬ AX q → H1[q]? = H[q]?) → va_S A0 H0 H1 locs1 → H1[q9]? = some ce → ce.vm = .none → s.vm.findClass E = some ce.cls → vx_W p l e R s m args below meth c H1 locs1 (cells + mc) (slots + ms) Q (F0 m pc ls rest) q9)
    (kk : ∀ (r : UInt64) (u : S) (t : State) (H1 : Heap) (locs1 : List Loc), t.heap = H1 → s.vm.Alike t.vm → post r u → B u t → H.size ≤ H1.size → (∀ q : Nat, q < H.size → ¬ A1 q → H1[q]? = H[q]?) → va_S A0 H0 H1 locs1 → W p l e R s m args below meth c H1 locs1 (cells + mc) (slots + ms) Q (F0 m (pc + 3) ls (.double r :: rest))) : W p l e R s m args below meth c H locs cells slots Q (F0 m pc ls st0) := by
  intro T hT X
  rcases hr T hT X with ⟨v, st₀, t, T', L, h0, X', hL, e1, e2, ⟨⟨r, u, hv, hp, hb⟩, hF⟩, st⟩ | ⟨q, st₀, t, T', L, E, ce, h0, X', hL, e1, e2, ⟨u, hp, hb, hF⟩, hce, hcv, hcl, st⟩
  · cases hv
    obtain ⟨k1, k2, k3⟩ := vx_keep h0 e1 hS hA hf hL hF
    obtain ⟨t2, a1, b1⟩ := kk r u t T'.heap (locs ++ L) e1.symm (by rw [← e2]; exact X'.warmed.alike) hp hb k1 k2 k3 T' rfl X'
    exact ⟨t2, st t2 a1, b1⟩
  · obtain ⟨k1, k2, k3⟩ := vx_keep h0 e1 hS hAX hf hL hF
    obtain ⟨t2, a1, b1⟩ := kx E ce q u t T'.heap (locs ++ L) e1.symm (by rw [← e2]; exact X'.warmed.alike) hp hb k1 k2 k3 (by rw [e1]; exact hce) hcv hcl T' rfl X'
    exact ⟨t2, st.trans a1, b1⟩
theorem vx_callv {S SX : Type} {post : S → Prop} {px : SX → Prop} {B : S → State → Prop} {BX : String → SX → State → Prop} {AX : Nat → Prop} (hr : vx_Run p l e R s m args below meth c H locs cells slots mc ms (F0 m pc ls st0) rest (va_Qv post B A1 a) (vx_X px BX AX) free) (hS : va_S A0 H0 H locs) (hA : ∀ q, q < H.size → A1 q → A0 q) (hf : ∀ q, free q → A0 q) (hAX : ∀ q, q < H.size → AX q → A0 q)
    (kx : ∀ (E : String) (ce : Cell) (q9 : Addr) (u : SX) (t : State) (H1 : Heap) (locs1 : List Loc), t.heap = H1 → s.vm.Alike t.vm → px u → BX E u t → H.size ≤ H1.size → (∀ q : Nat, q < H.size → ¬ AX q → H1[q]? = H[q]?) → va_S A0 H0 H1 locs1 → H1[q9]? = some ce → ce.vm = .none → s.vm.findClass E = some ce.cls → vx_W p l e R s m args below meth c H1 locs1 (cells + mc) (slots + ms) Q (F0 m pc ls rest) q9)
    (kk : ∀ (u : S) (t : State) (H1 : Heap) (locs1 : List Loc), t.heap = H1 → s.vm.Alike t.vm → post u → B u t → H.size ≤ H1.size → (∀ q : Nat, q < H.size → ¬ A1 q → H1[q]? = H[q]?) → va_S A0 H0 H1 locs1 → W p l e R s m args below meth c H1 locs1 (cells + mc) (slots + ms) Q (F0 m (pc + 3) ls (rest))) : W p l e R s m args below meth c H locs cells slots Q (F0 m pc ls st0) := by
  intro T hT X
  rcases hr T hT X with ⟨v, st₀, t, T', L, h0, X', hL, e1, e2, ⟨⟨u, hv, hp, hb⟩, hF⟩, st⟩ | ⟨q, st₀, t, T', L, E, ce, h0, X', hL, e1, e2, ⟨u, hp, hb, hF⟩, hce, hcv, hcl, st⟩
  · cases hv
    obtain ⟨k1, k2, k3⟩ := vx_keep h0 e1 hS hA hf hL hF
    obtain ⟨t2, a1, b1⟩ := kk u t T'.heap (locs ++ L) e1.symm (by rw [← e2]; exact X'.warmed.alike) hp hb k1 k2 k3 T' rfl X'
    exact ⟨t2, st t2 a1, b1⟩
  · obtain ⟨k1, k2, k3⟩ := vx_keep h0 e1 hS hAX hf hL hF
    obtain ⟨t2, a1, b1⟩ := kx E ce q u t T'.heap (locs ++ L) e1.symm (by rw [← e2]; exact X'.warmed.alike) hp hb k1 k2 k3 (by rw [e1]; exact hce) hcv hcl T' rfl X'
    exact ⟨t2, st.trans a1, b1⟩
/-- caught by the row x of this method's table; the rows ahead don't take it -/
theorem vx_catch {own name : String} {E : String} {ce : Cell} {q : Addr} (hown : s.vm.findClass own = some m.cls) (pre : List ExceptionTableEntry) (x : ExceptionTableEntry) (suf : List ExceptionTableEntry) (hsplit : c.exceptionTable.toList = pre ++ x :: suf)
    (hpass : ∀ z ∈ pre, covers z pc = false ∨ (z.catchType ≠ 0 ∧ ∃ nm : String, (Cond.classLink own z.catchType nm).before args s = true ∧ va_Nc E nm s)) (hx : covers x pc = true) (h0 : x.catchType ≠ 0)
    (hlink : (Cond.classLink own x.catchType name).before args s = true) (hcast : (Cond.castable E name).before args s = true) (hcell : H[q]? = some ce) (hv : ce.vm = .none) (hcl : s.vm.findClass E = some ce.cls)
    (kk : W p l e R s m args below meth c H locs cells slots Q (F0 m x.handlerPc ls [.ref q])) : vx_W p l e R s m args below meth c H locs cells slots Q (F0 m pc ls rest) q := by
  intro T hT X
  have hpl : e.platform.magicAccessors = ({} : Platform).magicAccessors := by rw [X.admits.platform]
  obtain ⟨c3, c4, hc3, hc4, hasg⟩ := Cond.castable_spec hcast
  cases Option.some.inj (hc3.symm.trans hcl)
  obtain ⟨c5, hc5, hcl5⟩ := Cond.classLink_spec hown hlink e.platform hpl
  cases Option.some.inj (hc4.symm.trans hc5)
  obtain ⟨vm', X', st⟩ := X.thenCaughtThrough q (g := F0 m pc ls rest) rfl (Steps.refl _) (by rw [hT]; exact hcell) (by rw [hv]; rfl) (by obtain ⟨k9, h9, -⟩ := Vm.findClass_spec hcl; exact ⟨k9, h9⟩) pre x suf hsplit
    (fun z hz => by
      rcases hpass z hz with h | ⟨hz0, nm, hl1, hn1⟩
      · exact Or.inl h
      · obtain ⟨c6, hc6, hcl6⟩ := Cond.classLink_spec hown hl1 e.platform hpl
        obtain ⟨a8, b8, h1, h2, h3⟩ := hn1
        cases Option.some.inj (h1.symm.trans hcl)
        cases Option.some.inj (h2.symm.trans hc6)
        exact Or.inr ⟨hz0, _, hcl6, h3⟩) hx (Or.inr ⟨h0, c4, hcl5, hasg⟩)
  obtain ⟨t, a1, b1⟩ := kk (T.setVm vm') hT X'
  exact ⟨t, st.trans a1, b1⟩
end Rows
section Ends
variable {p : Program} {l : Launch} {e : Env} {R : Room} {s : State} {m : MethodId} {args : Array Value} {below : List Frame} {meth : Method} {c : Code} {H : Heap} {locs : List Loc} {cells slots : Nat} {Q : State → Prop}
variable {mc ms : Nat} {free : Addr → Prop} {A0 A1 : Nat → Prop} {H0 : Heap} {a : Array Value} {ls : Array Slot} {st0 rest : List Value}
variable {Qc : Array Value → State → Outcome → State → Prop} {XC : String → State → State → Prop}
/-- what a body that may throw owes at its end -/
def vx_MQ (below : List Frame) (Qc : Array Value → State → Outcome → State → Prop) (XC : String → State → State → Prop) (a : Array Value) (s : State) (mc ms : Nat) (free : Addr → Prop) : State → Prop := fun t =>
  ∃ o, t.status = .running ∧ Ended t below o ∧ vx_Q Qc XC mc ms free a s o t
theorem vx_ret {g : JFrame} {mc ms : Nat} (k : W p l e R s m args below meth c H locs cells slots (MQ below Qc args s mc ms free) g) : W p l e R s m args below meth c H locs cells slots (vx_MQ below Qc XC args s mc ms free) g := by
  intro T hT X
  obtain ⟨t, a1, o, b1, b2, b3, b4⟩ := k T hT X
  exact ⟨t, a1, o, b1, b2, Or.inl ⟨b3, b4⟩⟩
/-- not caught here: it goes on to the caller -/
theorem vx_widen {g : JFrame} {q : Addr} {k n : Nat} (h1 : cells ≤ k) (h2 : slots ≤ n) (kk : vx_W p l e R s m args below meth c H locs k n Q g q) : vx_W p l e R s m args below meth c H locs cells slots Q g q := fun T hT X => kk T hT (stand_widen X h1 h2)
theorem vx_out {pc : Nat} {E : String} {ce : Cell} {q : Addr} {mc ms : Nat} (hout : ∀ x ∈ c.exceptionTable.toList, covers x pc = false) (hlocks : meth.locks = false) (hcell : H[q]? = some ce) (hv : ce.vm = .none) (hcl : s.vm.findClass E = some ce.cls)
    (hx : ∀ t : State, t.heap = H → s.vm.Alike t.vm → XC E s t) (hf : ∀ z ∈ locs, free z.base) (hc : cells ≤ mc) (hs : slots ≤ ms) :
    vx_W p l e R s m args below meth c H locs cells slots (vx_MQ below Qc XC args s mc ms free) (F0 m pc ls rest) q := by
  intro T hT X
  obtain ⟨st1, hrun, hend, hW, hsm⟩ := X.leaveThrown q (g := F0 m pc ls rest) rfl rfl rfl hout hlocks
  have hcell9 : (T.setFrames (.throwing q :: below)).heap[q]? = some ce := by
    show T.heap[q]? = some ce
    rw [hT]; exact hcell
  exact ⟨_, st1, .threw q, hrun, hend, Or.inr ⟨q, rfl, E, ce, locs, hx _ hT hW.alike, hcell9, hv, hcl, hW, hsm.mono hc hs, hf⟩⟩
theorem vx_frame {U : State} {k n : Nat} (h : s.sameButNew ({ U with vm := s.vm } : State) locs k n) : s.heap.size ≤ U.heap.size ∧ ∀ q : Nat, q < s.heap.size → (∀ z ∈ locs, z.base ≠ q) → U.heap[q]? = s.heap[q]? := by
  obtain ⟨-, h2, -, -, -, h6⟩ := h
  refine ⟨h2, fun q hq hz => ?_⟩
  obtain ⟨c9, e1, e2, e3, e4⟩ := h6 q _ (Array.getElem?_eq_getElem hq)
  have hs : c9.slots = (s.heap[q]).slots := Array.ext_getElem? fun i => e4 i fun hm => hz _ hm rfl
  have h9 : c9 = s.heap[q] := by
    rw [hs] at e2
    exact e2
  have e5 : U.heap[q]? = some c9 := e1
  rw [e5, h9, Array.getElem?_eq_getElem hq]
/-- the words of a throw but the four that speak of the heap -/
def vx_no (w : Cond) : Bool := decide (w ≠ .isRef (.static Bundle.tN "UNASSIGNED_STACK" Bundle.steD)) && decide (w ≠ .isRef (.static Bundle.tN "SUPPRESSED_SENTINEL" Bundle.listD)) && decide (w ≠ .laysStatic Bundle.tN "UNASSIGNED_STACK" Bundle.steD) && decide (w ≠ .laysStatic Bundle.tN "SUPPRESSED_SENTINEL" Bundle.listD)
def vx_at0 (own : String) (ic : Nat) (X : String) (names : List String) : List Cond := (Bundle.ownAtoms0 own ic X names).filter vx_no
def vx_atS (own : String) (ic : Nat) (X : String) (names : List String) : List Cond := (Bundle.ownAtoms own ic X names).filter vx_no
/-- a word that the tables alone decide, or a good one -/
def vx_ot (w : Cond) : Bool := w.onTables || goodWord w
theorem vx_ot_at {args a' : Array Value} {s U : State} {w : Cond} (hW : s.WarmedH U.vm) (hvm : s.vm = U.vm) (hg : vx_ot w = true) (h : w.before args s = true) : w.before a' U = true := by
  simp only [vx_ot, Bool.or_eq_true] at hg
  rcases hg with hg | hg
  · exact va_tabs hg hvm h
  · exact word_at hW (good_of_word hg) h
/-- a list's words: the good ones out of the method's own list, the others by premises of their own -/
theorem vx_hat {args : Array Value} {s : State} {L B : List Cond} (h1 : ∀ w ∈ L.filter goodWord, w.before args s = true) (h2 : ∀ w ∈ L.filter (fun w => !goodWord w), w ∈ B) (h3 : ∀ w ∈ B, w.before args s = true) : ∀ w ∈ L, w.before args s = true := by
  intro w hw
  by_cases g : goodWord w = true
  · exact h1 w (List.mem_filter.mpr ⟨hw, g⟩)
  · refine h3 w (h2 w (List.mem_filter.mpr ⟨hw, ?_⟩))
    show (!goodWord w) = true
    cases hgw : goodWord w
    · rfl
    · exact absurd hgw g
theorem vx_c {args : Array Value} {s : State} {w : Cond} {B : List Cond} (h : w.before args s = true) (t : ∀ w ∈ B, w.before args s = true) : ∀ w' ∈ w :: B, w'.before args s = true := fun w' h' => (List.mem_cons.mp h').elim (fun e => by rw [e]; exact h) (t w')
theorem vx_n {args : Array Value} {s : State} : ∀ w ∈ ([] : List Cond), w.before args s = true := fun _ h => nomatch h
theorem vx_own {args : Array Value} {s : State} {L : List Cond} (h1 : ∀ w ∈ L.filter vx_no, w.before args s = true)
    (hU : (Cond.isRef (.static Bundle.tN "UNASSIGNED_STACK" Bundle.steD)).before args s = true) (hN : (Cond.isRef (.static Bundle.tN "SUPPRESSED_SENTINEL" Bundle.listD)).before args s = true)
    (lU : (Cond.laysStatic Bundle.tN "UNASSIGNED_STACK" Bundle.steD).before args s = true) (lN : (Cond.laysStatic Bundle.tN "SUPPRESSED_SENTINEL" Bundle.listD).before args s = true) : ∀ w ∈ L, w.before args s = true := by
  intro w hw
  by_cases e1 : w = .isRef (.static Bundle.tN "UNASSIGNED_STACK" Bundle.steD)
  · rw [e1]; exact hU
  · by_cases e2 : w = .isRef (.static Bundle.tN "SUPPRESSED_SENTINEL" Bundle.listD)
    · rw [e2]; exact hN
    · by_cases e3 : w = .laysStatic Bundle.tN "UNASSIGNED_STACK" Bundle.steD
      · rw [e3]; exact lU
      · by_cases e4 : w = .laysStatic Bundle.tN "SUPPRESSED_SENTINEL" Bundle.listD
        · rw [e4]; exact lN
        · exact h1 w (List.mem_filter.mpr ⟨hw, by unfold vx_no; rw [decide_eq_true e1, decide_eq_true e2, decide_eq_true e3, decide_eq_true e4]; rfl⟩)
/-- where a static field lies, its class's statics cell in H -/
def vx_L (C n d : String) (A : Nat → Prop) (U : State) (H : Heap) : Prop := ∃ (c : ClassId) (k : Class) (i : Nat) (f : Field) (a : Nat) (cell : Cell), U.vm.findClass C = some c ∧ U.fieldFound? C n d = some (c, k, i, f) ∧ f.isStatic = true ∧ k.statics = some a ∧ H[a]? = some cell ∧ cell.vm.isStatics = true ∧ cell.cls = c ∧ f.slot < cell.slots.size ∧ k.staticTypes[f.slot]? = some f.type ∧ ¬ A a
theorem vx_L.moved {C n d : String} {A : Nat → Prop} {u U : State} {H : Heap} (hvm : u.vm.Alike U.vm) (h : vx_L C n d A u H) : vx_L C n d A U H := by
  obtain ⟨c, k, i, f, a, cell, h1, h2, h3, h4, h5, h6, h7, h8, h9, h10⟩ := h
  obtain ⟨k', hi', he⟩ := State.fieldFound?_setVm hvm h2
  exact ⟨c, k', i, f, a, cell, by rw [hvm.findClass]; exact h1, hi', h3, by rw [he]; exact h4, h5, h6, h7, h8, by rw [he]; exact h9, h10⟩
theorem vx_L.kept {C n d : String} {A : Nat → Prop} {U : State} {H H1 : Heap} (h : vx_L C n d A U H) (hq : ∀ a : Nat, a < H.size → ¬ A a → H1[a]? = H[a]?) : vx_L C n d A U H1 := by
  obtain ⟨c, k, i, f, a, cell, h1, h2, h3, h4, h5, h6, h7, h8, h9, h10⟩ := h
  exact ⟨c, k, i, f, a, cell, h1, h2, h3, h4, by rw [hq a (Array.getElem?_eq_some_iff.mp h5).1 h10]; exact h5, h6, h7, h8, h9, h10⟩
theorem vx_L.narrow {C n d : String} {A B : Nat → Prop} {U : State} {H : Heap} (h : vx_L C n d A U H) (hAB : ∀ q, B q → A q) : vx_L C n d B U H := by
  obtain ⟨c, k, i, f, a, cell, h1, h2, h3, h4, h5, h6, h7, h8, h9, h10⟩ := h
  exact ⟨c, k, i, f, a, cell, h1, h2, h3, h4, h5, h6, h7, h8, h9, fun z => h10 (hAB _ z)⟩
theorem vx_L.word {C n d : String} {A : Nat → Prop} {s : State} {args : Array Value} (h : vx_L C n d A s s.heap) : (Cond.laysStatic C n d).before args s = true := by
  obtain ⟨c, k, i, f, a, cell, h1, h2, h3, h4, h5, h6, h7, h8, h9, -⟩ := h
  show (Cond.laysStatic C n d).holds args s none s [] = true
  exact Cond.laysStatic_of h1 h2 h3 h4 h5 h6 h7 h8 h9
/-- .. and what it holds: null or some reference -/
def vx_Zq (C n d : String) (A : Nat → Prop) (U : State) (H : Heap) : Prop := va_Zq C n d A U H ∧ vx_L C n d A U H
theorem vx_Zq.moved {C n d : String} {A : Nat → Prop} {u U : State} {H : Heap} (hvm : u.vm.Alike U.vm) (h : vx_Zq C n d A u H) : vx_Zq C n d A U H := ⟨va_Zq.moved hvm h.1, vx_L.moved hvm h.2⟩
theorem vx_Zq.kept {C n d : String} {A : Nat → Prop} {U : State} {H H1 : Heap} (h : vx_Zq C n d A U H) (hq : ∀ a : Nat, a < H.size → ¬ A a → H1[a]? = H[a]?) : vx_Zq C n d A U H1 := ⟨va_Zq.kept h.1 hq, vx_L.kept h.2 hq⟩
theorem vx_Zq.narrow {C n d : String} {A B : Nat → Prop} {U : State} {H : Heap} (h : vx_Zq C n d A U H) (hAB : ∀ q, B q → A q) : vx_Zq C n d B U H := ⟨va_Zq.narrow h.1 hAB, vx_L.narrow h.2 hAB⟩
theorem vx_Zqof {args : Array Value} {s : State} {C n d : String} {A : Nat → Prop} (hl : (Cond.laysStatic C n d).before args s = true) (hini : (Cond.initialized C).before args s = true) (h : (Cond.isRef (.static C n d)).before args s = true) (hA : ∀ a : Nat, a < s.heap.size → ¬ A a) : vx_Zq C n d A s s.heap := by
  refine ⟨va_Zqof hl hini h hA, ?_⟩
  obtain ⟨c, k, i, f, a, cell, h1, h2, h3, h4, h5, h6, h7, h8, h9⟩ := Cond.laysStatic_spec hl
  exact ⟨c, k, i, f, a, cell, h1, h2, h3, h4, h5, h6, h7, h8, h9, hA a (Array.getElem?_eq_some_iff.mp h5).1⟩
theorem vx_isRef {C n d : String} {v : Value} {A : Nat → Prop} {s : State} {args : Array Value} (h : va_Z C n d v A s s.heap) (hv : v.isRef = true) : (Cond.isRef (.static C n d)).before args s = true := by
  obtain ⟨cf, kf, fi, f, a, cell, h1, h2, h3, h4, h5, h6, h7, -⟩ := h
  have he : (Term.static C n d).eval args s none [] s = some v := by
    simp [Term.eval, State.fieldNamed?, h1, h2, h4, h5, h6, h7]
  simp only [Cond.before, Cond.holds, Cond.value, he]
  cases v <;> simp_all [Value.isRef]
theorem vx_isRefq {C n d : String} {A : Nat → Prop} {s : State} {args : Array Value} (h : va_Zq C n d A s s.heap) : (Cond.isRef (.static C n d)).before args s = true := by
  rcases h with h | ⟨t, h⟩
  · exact vx_isRef h rfl
  · exact vx_isRef h rfl
/-- the same frame, seen from here: as if the method were called anew in this heap -/
theorem vx_rebase {T : State} (X : Stand p l e R s m args below meth c T locs cells slots) {R' : Room} (hf : R'.frames ≤ R.frames) (hl : R'.locals ≤ R.locals) (hc : cells + R'.cells ≤ R.cells) (hs : slots + R'.slots ≤ R.slots) :
    Stand p l e R' ((T.setVm s.vm).setFrames (.invoking m args :: below)) m args below meth c T [] 0 0 := by
  have htop : (T.setVm s.vm).topJava?.isSome := X.here.top
  have hF : ((T.setVm s.vm).setFrames (.invoking m args :: below)).frames = .invoking m args :: below := State.frames_setFrames _ (State.cur_lt_of_top htop)
  obtain ⟨g₀, hg0⟩ := Option.isSome_iff_exists.mp htop
  obtain ⟨r, hr⟩ := State.topJava?_eq_some.mp hg0
  have hl9 : e.platform.stackLimits (T.setVm s.vm).me = e.platform.stackLimits s.me := X.limits
  have hb9 : (T.setVm s.vm).me.stackBytes = s.me.stackBytes := X.bytes
  refine ⟨X.admits, X.cas, X.clock, hF, ?_, X.hears, X.method, X.code, X.here, X.tail, X.warmed, ?_, ?_, ?_⟩
  · have h := X.room
    have hU : ((T.setVm s.vm).setFrames (.invoking m args :: below)).localsInUse = s.localsInUse := by
      rw [State.localsInUse_invoking hF (meth := meth) (c := c) X.method X.code, State.localsInUse_invoking X.frames X.method X.code]
    simp only [State.hasRoom, Bool.and_eq_true, decide_eq_true_eq] at h ⊢
    obtain ⟨⟨⟨⟨h1, h2, h3, h4, h5, h6⟩, h7⟩, h8⟩, h9⟩ := h
    rw [X.frames, List.length_cons] at h2 h3
    have q1 := X.heapSize
    have q2 := X.used
    simp only [hF, hU, List.length_cons, State.stackLimits_setFrames, State.stackBytes_setFrames, hl9, hb9]
    refine ⟨⟨⟨⟨by omega, by omega, by omega, by omega, by omega, h6⟩, ?_⟩, ?_⟩, X.book⟩
    · show T.heap.size + R'.cells ≤ e.platform.maxCells
      omega
    · show T.slotsUsed + R'.slots ≤ e.platform.maxSlots
      omega
  · rw [State.stackLimits_setFrames]; rfl
  · rw [State.stackBytes_setFrames]; rfl
  · refine ⟨?_, Nat.le_refl _, Nat.le_refl _, ?_, ?_, fun a c9 h9 => ⟨c9, h9, rfl, rfl, fun _ _ => rfl⟩⟩
    · obtain ⟨t, ht, -⟩ := State.frames_cons hr
      show T.setVm s.vm = { ((T.setVm s.vm).setFrames (.invoking m args :: below)).setFrames (T.setVm s.vm).frames with heap := T.heap, slotsUsed := T.slotsUsed }
      rw [State.setFrames_setFrames, State.setFrames_self ht]
      rfl
    · show T.slotsUsed = T.slotsUsed + ((T.heap.toList.drop T.heap.size).map (·.slots.size)).sum
      rw [List.drop_eq_nil_of_le (Nat.le_of_eq Array.length_toList)]
      rfl
    · show ((T.heap.toList.drop T.heap.size).map (·.slots.size)).sum ≤ 0
      rw [List.drop_eq_nil_of_le (Nat.le_of_eq Array.length_toList)]
      exact Nat.le_refl _
/-- 'throw new E()': new; dup; invokespecial; athrow -/
theorem vx_throw0 {cc : ByteArray} {pc : Nat} (hexec : p.tables.exec = Jvm.exec) (hb : c.code = cc) (hl : l.stackTraces = false) {own cls : String} {names : List String} {ik ic mc ms : Nat} {A : Nat → Prop}
    (hown : s.vm.findClass own = some m.cls) (hcls : Bundle.fit cls = true) (hnames : ∀ n ∈ names, Bundle.fit n = true)
    (hk : (Cond.classLink own ik cls).before args s = true) (hini : (Cond.initialized cls).before args s = true) (hat : ∀ w ∈ vx_at0 own ic cls names, w.before args s = true)
    (hgood : ∀ w ∈ Cond.classLink own ik cls :: Cond.initialized cls :: vx_at0 own ic cls names, vx_ot w = true)
    (hU : vx_Zq Bundle.tN "UNASSIGNED_STACK" Bundle.steD A s s.heap) (hN : vx_Zq Bundle.tN "SUPPRESSED_SENTINEL" Bundle.listD A s s.heap) (hS : va_S A s.heap H locs) (hsize : ls.size = c.maxLocals)
    (d0 : decode cc pc = .ok (.new ik, 3)) (d3 : decode cc (pc + 3) = .ok (.dup, 1)) (d4 : decode cc (pc + 4) = .ok (.invokespecial ic, 3)) (d7 : decode cc (pc + 7) = .ok (.athrow, 1))
    (hout : ∀ x ∈ c.exceptionTable.toList, covers x (pc + 7) = false)
    (hRframes : names.length + 3 < R.frames) (hRlocals : (rest.map fun v => v.category).sum + (13 * (names.length + 1) + 42) ≤ R.locals) (hRcells : cells + 1 ≤ R.cells) (hRslots : slots + 6 ≤ R.slots) (hlocks : meth.locks = false)
    (hx : ∀ t : State, s.vm.Alike t.vm → H.size ≤ t.heap.size → (∀ q : Nat, q < H.size → t.heap[q]? = H[q]?) → XC cls s t)
    (hf : ∀ z ∈ locs, free z.base) (hc : cells + 1 ≤ mc) (hs : slots + 6 ≤ ms) :
    W p l e R s m args below meth c H locs cells slots (vx_MQ below Qc XC args s mc ms free) (F0 m pc ls rest) := by
  intro T hT X
  have htr : e.platform.stackTraces = false := (show e.platform.stackTraces = l.stackTraces by rw [X.admits.platform]).trans hl
  have Y := vx_rebase X (R' := { frames := R.frames, locals := R.locals, cells := 1, slots := 6 }) (Nat.le_refl _) (Nat.le_refl _) hRcells hRslots
  obtain ⟨s', hA⟩ : ∃ z, z = (T.setVm s.vm).setFrames (.invoking m args :: below) := ⟨_, rfl⟩
  rw [← hA] at Y
  have hvm : s'.vm = s.vm := by rw [hA]; rfl
  have hhp : s'.heap = H := by rw [hA]; exact hT
  have hW0 : s.WarmedH s'.vm := by rw [hvm]; exact State.WarmedH.refl s
  have hat' : ∀ w ∈ vx_at0 own ic cls names, w.before args s' = true := fun w hw => vx_ot_at hW0 hvm.symm (hgood w (List.mem_cons_of_mem _ (List.mem_cons_of_mem _ hw))) (hat w hw)
  have hk' : (Cond.classLink own ik cls).before args s' = true := vx_ot_at hW0 hvm.symm (hgood _ List.mem_cons_self) hk
  have hini' : (Cond.initialized cls).before args s' = true := vx_ot_at hW0 hvm.symm (hgood _ (List.mem_cons_of_mem _ List.mem_cons_self)) hini
  have hU' : vx_Zq Bundle.tN "UNASSIGNED_STACK" Bundle.steD A s' s'.heap := by rw [hhp]; exact vx_Zq.moved hW0.alike (hU.kept hS.2.1)
  have hN' : vx_Zq Bundle.tN "SUPPRESSED_SENTINEL" Bundle.listD A s' s'.heap := by rw [hhp]; exact vx_Zq.moved hW0.alike (hN.kept hS.2.1)
  have h : ∀ w ∈ Bundle.ownAtoms0 own ic cls names, w.before args s' = true := vx_own hat' (vx_isRefq hU'.1) (vx_isRefq hN'.1) hU'.2.word hN'.2.word
  have hown' : s'.vm.findClass own = some m.cls := by rw [hvm]; exact hown
  have hins : (Cond.instantiable cls 6).before args s' = true := h _ (by simp [Bundle.ownAtoms0])
  obtain ⟨vm₁, cX, kX, hfX, hkX, -, -, X₁, st1⟩ := Y.newCold hexec (own := own) (C := cls) (index := ik) (n := 6) hown' hk' hins hini'
    (g := F0 m pc ls rest) rfl (by rw [hb]; exact d0) (Nat.le_refl _) (Nat.le_refl _)
  generalize hT1 : (T.setVm vm₁).pushCell { cls := cX, slots := kX.instanceTypes.map defaultValue, vm := .none } = T1 at X₁ st1
  have hcat : (Value.ref T.heap.size).category = 1 := rfl
  have hcellA : T1.heap[T.heap.size]? = some (freshCell cX kX) := by rw [← hT1]; exact State.heap_pushCell_size _ _
  have d3' : decode c.code (pc + 3) = .ok (.dup, 1) := by rw [hb]; exact d3
  obtain ⟨U, hsteps, hrun, hend, hW, hsame, ce, hce, hO⟩ := X₁.ctorThrow0 hexec htr (own := own) (cls := cls) (names := names) (ic := ic) hown' hcls hnames h (fun x hx => nomatch hx) hfX hkX hcellA (by rw [hhp, hT]; exact Nat.le_refl _)
    (g := { method := m, pc := pc + 4, locals := ls, stack := .ref T.heap.size :: .ref T.heap.size :: rest, locked := none }) rfl hsize rfl rfl (rest := rest) rfl
    (by rw [hb]; exact d4) (by rw [hb]; exact d7) hout hRframes (by simp only [List.map_cons, List.sum_cons, hcat]; omega) hlocks
  obtain ⟨f1, f2⟩ := vx_frame hsame
  rw [hhp] at f1 f2
  have hWs : s.WarmedH U.vm := State.WarmedH.trans hW0 hW
  have hcl : s.vm.findClass cls = some ce.cls := by
    have h9 := hO.cls
    rw [hvm] at h9
    exact h9
  have hall : s.sameButNew ({ U with vm := s.vm } : State) locs mc ms := by
    subst hA
    obtain ⟨e1, e2⟩ := hsame
    rw [State.setFrames_setFrames] at e1
    have h2 : (T.setVm s.vm).sameButNew ({ U with vm := s.vm } : State) [] (0 + 1) (0 + 6) := ⟨e1, e2⟩
    have h3 := X.same.trans h2
    rw [List.append_nil] at h3
    exact h3.mono hc hs
  refine ⟨U, ?_, .threw T.heap.size, hrun, hend, Or.inr ⟨T.heap.size, rfl, cls, ce, locs, hx U hWs.alike f1 (fun q hq => f2 q hq (fun z hz => nomatch hz)), hce, hO.vm, hcl, hWs, hall, hf⟩⟩
  refine st1 _ ?_
  show Steps p.tables e below (T1.setTop { method := m, pc := pc + 3, locals := ls, stack := .ref T.heap.size :: rest, locked := none }) _
  jvm_step X₁.here [X₁.here.top, hexec, d3', Value.category]
  exact hsteps
/-- 'throw new E("text")': new; dup; ldc; invokespecial; athrow -/
theorem vx_throwS {cc : ByteArray} {pc : Nat} (hexec : p.tables.exec = Jvm.exec) (hb : c.code = cc) (hl : l.stackTraces = false) {own cls text : String} {names : List String} {ik is ic mc ms sa : Nat} {A : Nat → Prop}
    (hown : s.vm.findClass own = some m.cls) (hcls : Bundle.fit cls = true) (hnames : ∀ n ∈ names, Bundle.fit n = true)
    (hk : (Cond.classLink own ik cls).before args s = true) (hini : (Cond.initialized cls).before args s = true) (hstr : vk_R own is text sa s) (hat : ∀ w ∈ vx_atS own ic cls names, w.before args s = true)
    (hgood : ∀ w ∈ Cond.classLink own ik cls :: Cond.initialized cls :: vx_atS own ic cls names, vx_ot w = true)
    (hU : vx_Zq Bundle.tN "UNASSIGNED_STACK" Bundle.steD A s s.heap) (hN : vx_Zq Bundle.tN "SUPPRESSED_SENTINEL" Bundle.listD A s s.heap) (hS : va_S A s.heap H locs) (hsize : ls.size = c.maxLocals)
    (d0 : decode cc pc = .ok (.new ik, 3)) (d3 : decode cc (pc + 3) = .ok (.dup, 1)) (d4 : decode cc (pc + 4) = .ok (.ldc is, 2)) (d6 : decode cc (pc + 6) = .ok (.invokespecial ic, 3)) (d9 : decode cc (pc + 9) = .ok (.athrow, 1))
    (hout : ∀ x ∈ c.exceptionTable.toList, covers x (pc + 9) = false)
    (hRframes : names.length + 3 < R.frames) (hRlocals : (rest.map fun v => v.category).sum + (13 * (names.length + 1) + 43) ≤ R.locals) (hRcells : cells + 1 ≤ R.cells) (hRslots : slots + 6 ≤ R.slots) (hlocks : meth.locks = false)
    (hx : ∀ t : State, s.vm.Alike t.vm → H.size ≤ t.heap.size → (∀ q : Nat, q < H.size → t.heap[q]? = H[q]?) → XC cls s t)
    (hf : ∀ z ∈ locs, free z.base) (hc : cells + 1 ≤ mc) (hs : slots + 6 ≤ ms) :
    W p l e R s m args below meth c H locs cells slots (vx_MQ below Qc XC args s mc ms free) (F0 m pc ls rest) := by
  intro T hT X
  have htr : e.platform.stackTraces = false := (show e.platform.stackTraces = l.stackTraces by rw [X.admits.platform]).trans hl
  have Y := vx_rebase X (R' := { frames := R.frames, locals := R.locals, cells := 1, slots := 6 }) (Nat.le_refl _) (Nat.le_refl _) hRcells hRslots
  obtain ⟨s', hA⟩ : ∃ z, z = (T.setVm s.vm).setFrames (.invoking m args :: below) := ⟨_, rfl⟩
  rw [← hA] at Y
  have hvm : s'.vm = s.vm := by rw [hA]; rfl
  have hhp : s'.heap = H := by rw [hA]; exact hT
  have hW0 : s.WarmedH s'.vm := by rw [hvm]; exact State.WarmedH.refl s
  have hat' : ∀ w ∈ vx_atS own ic cls names, w.before args s' = true := fun w hw => vx_ot_at hW0 hvm.symm (hgood w (List.mem_cons_of_mem _ (List.mem_cons_of_mem _ hw))) (hat w hw)
  have hk' : (Cond.classLink own ik cls).before args s' = true := vx_ot_at hW0 hvm.symm (hgood _ List.mem_cons_self) hk
  have hini' : (Cond.initialized cls).before args s' = true := vx_ot_at hW0 hvm.symm (hgood _ (List.mem_cons_of_mem _ List.mem_cons_self)) hini
  have hU' : vx_Zq Bundle.tN "UNASSIGNED_STACK" Bundle.steD A s' s'.heap := by rw [hhp]; exact vx_Zq.moved hW0.alike (hU.kept hS.2.1)
  have hN' : vx_Zq Bundle.tN "SUPPRESSED_SENTINEL" Bundle.listD A s' s'.heap := by rw [hhp]; exact vx_Zq.moved hW0.alike (hN.kept hS.2.1)
  have h : ∀ w ∈ Bundle.ownAtoms own ic cls names, w.before args s' = true := vx_own hat' (vx_isRefq hU'.1) (vx_isRefq hN'.1) hU'.2.word hN'.2.word
  have hown' : s'.vm.findClass own = some m.cls := by rw [hvm]; exact hown
  have hins : (Cond.instantiable cls 6).before args s' = true := h _ (by simp [Bundle.ownAtoms])
  obtain ⟨vm₁, cX, kX, hfX, hkX, -, -, X₁, st1⟩ := Y.newCold hexec (own := own) (C := cls) (index := ik) (n := 6) hown' hk' hins hini'
    (g := F0 m pc ls rest) rfl (by rw [hb]; exact d0) (Nat.le_refl _) (Nat.le_refl _)
  generalize hT1 : (T.setVm vm₁).pushCell { cls := cX, slots := kX.instanceTypes.map defaultValue, vm := .none } = T1 at X₁ st1
  have hcat : (Value.ref T.heap.size).category = 1 := rfl
  have hcellA : T1.heap[T.heap.size]? = some (freshCell cX kX) := by rw [← hT1]; exact State.heap_pushCell_size _ _
  have d3' : decode c.code (pc + 3) = .ok (.dup, 1) := by rw [hb]; exact d3
  have d4' : decode c.code (pc + 4) = .ok (.ldc is, 2) := by rw [hb]; exact d4
  have hstr' : vk_R own is text sa s' := vk_R.warm hW0 hstr
  obtain ⟨U, hsteps, hrun, hend, hW, hsame, ce, hce, hO⟩ := X₁.ctorThrowS hexec htr (own := own) (cls := cls) (names := names) (ic := ic) hown' hcls hnames h (fun x hx => nomatch hx) hfX hkX hcellA (by rw [hhp, hT]; exact Nat.le_refl _) (msg := .ref sa) rfl
    (g := { method := m, pc := pc + 6, locals := ls, stack := .ref sa :: .ref T.heap.size :: .ref T.heap.size :: rest, locked := none }) rfl hsize rfl rfl (rest := rest) rfl
    (by rw [hb]; exact d6) (by rw [hb]; exact d9) hout hRframes (by simp only [List.map_cons, List.sum_cons, hcat]; omega) hlocks
  obtain ⟨f1, f2⟩ := vx_frame hsame
  rw [hhp] at f1 f2
  have hWs : s.WarmedH U.vm := State.WarmedH.trans hW0 hW
  have hcl : s.vm.findClass cls = some ce.cls := by
    have h9 := hO.cls
    rw [hvm] at h9
    exact h9
  have hall : s.sameButNew ({ U with vm := s.vm } : State) locs mc ms := by
    subst hA
    obtain ⟨e1, e2⟩ := hsame
    rw [State.setFrames_setFrames] at e1
    have h2 : (T.setVm s.vm).sameButNew ({ U with vm := s.vm } : State) [] (0 + 1) (0 + 6) := ⟨e1, e2⟩
    have h3 := X.same.trans h2
    rw [List.append_nil] at h3
    exact h3.mono hc hs
  refine ⟨U, ?_, .threw T.heap.size, hrun, hend, Or.inr ⟨T.heap.size, rfl, cls, ce, locs, hx U hWs.alike f1 (fun q hq => f2 q hq (fun z hz => nomatch hz)), hce, hO.vm, hcl, hWs, hall, hf⟩⟩
  refine st1 _ ?_
  show Steps p.tables e below (T1.setTop { method := m, pc := pc + 3, locals := ls, stack := .ref T.heap.size :: rest, locked := none }) _
  jvm_step X₁.here [X₁.here.top, hexec, d3', Value.category]
  exact X₁.ldcString hexec (own := own) (text := text) (index := is) (a := sa) hown' hstr'.1 hstr'.2
    (g := { method := m, pc := pc + 4, locals := ls, stack := .ref T.heap.size :: .ref T.heap.size :: rest, locked := none }) rfl d4' _ hsteps
/-- 'throw new E("text")', the text by a wide index -/
theorem vx_throwSW {cc : ByteArray} {pc : Nat} (hexec : p.tables.exec = Jvm.exec) (hb : c.code = cc) (hl : l.stackTraces = false) {own cls text : String} {names : List String} {ik is ic mc ms sa : Nat} {A : Nat → Prop}
    (hown : s.vm.findClass own = some m.cls) (hcls : Bundle.fit cls = true) (hnames : ∀ n ∈ names, Bundle.fit n = true)
    (hk : (Cond.classLink own ik cls).before args s = true) (hini : (Cond.initialized cls).before args s = true) (hstr : vk_R own is text sa s) (hat : ∀ w ∈ vx_atS own ic cls names, w.before args s = true)
    (hgood : ∀ w ∈ Cond.classLink own ik cls :: Cond.initialized cls :: vx_atS own ic cls names, vx_ot w = true)
    (hU : vx_Zq Bundle.tN "UNASSIGNED_STACK" Bundle.steD A s s.heap) (hN : vx_Zq Bundle.tN "SUPPRESSED_SENTINEL" Bundle.listD A s s.heap) (hS : va_S A s.heap H locs) (hsize : ls.size = c.maxLocals)
    (d0 : decode cc pc = .ok (.new ik, 3)) (d3 : decode cc (pc + 3) = .ok (.dup, 1)) (d4 : decode cc (pc + 4) = .ok (.ldc_w is, 3)) (d7 : decode cc (pc + 7) = .ok (.invokespecial ic, 3)) (d10 : decode cc (pc + 10) = .ok (.athrow, 1))
    (hout : ∀ x ∈ c.exceptionTable.toList, covers x (pc + 10) = false)
    (hRframes : names.length + 3 < R.frames) (hRlocals : (rest.map fun v => v.category).sum + (13 * (names.length + 1) + 43) ≤ R.locals) (hRcells : cells + 1 ≤ R.cells) (hRslots : slots + 6 ≤ R.slots) (hlocks : meth.locks = false)
    (hx : ∀ t : State, s.vm.Alike t.vm → H.size ≤ t.heap.size → (∀ q : Nat, q < H.size → t.heap[q]? = H[q]?) → XC cls s t)
    (hf : ∀ z ∈ locs, free z.base) (hc : cells + 1 ≤ mc) (hs : slots + 6 ≤ ms) :
    W p l e R s m args below meth c H locs cells slots (vx_MQ below Qc XC args s mc ms free) (F0 m pc ls rest) := by
  intro T hT X
  have htr : e.platform.stackTraces = false := (show e.platform.stackTraces = l.stackTraces by rw [X.admits.platform]).trans hl
  have Y := vx_rebase X (R' := { frames := R.frames, locals := R.locals, cells := 1, slots := 6 }) (Nat.le_refl _) (Nat.le_refl _) hRcells hRslots
  obtain ⟨s', hA⟩ : ∃ z, z = (T.setVm s.vm).setFrames (.invoking m args :: below) := ⟨_, rfl⟩
  rw [← hA] at Y
  have hvm : s'.vm = s.vm := by rw [hA]; rfl
  have hhp : s'.heap = H := by rw [hA]; exact hT
  have hW0 : s.WarmedH s'.vm := by rw [hvm]; exact State.WarmedH.refl s
  have hat' : ∀ w ∈ vx_atS own ic cls names, w.before args s' = true := fun w hw => vx_ot_at hW0 hvm.symm (hgood w (List.mem_cons_of_mem _ (List.mem_cons_of_mem _ hw))) (hat w hw)
  have hk' : (Cond.classLink own ik cls).before args s' = true := vx_ot_at hW0 hvm.symm (hgood _ List.mem_cons_self) hk
  have hini' : (Cond.initialized cls).before args s' = true := vx_ot_at hW0 hvm.symm (hgood _ (List.mem_cons_of_mem _ List.mem_cons_self)) hini
  have hU' : vx_Zq Bundle.tN "UNASSIGNED_STACK" Bundle.steD A s' s'.heap := by rw [hhp]; exact vx_Zq.moved hW0.alike (hU.kept hS.2.1)
  have hN' : vx_Zq Bundle.tN "SUPPRESSED_SENTINEL" Bundle.listD A s' s'.heap := by rw [hhp]; exact vx_Zq.moved hW0.alike (hN.kept hS.2.1)
  have h : ∀ w ∈ Bundle.ownAtoms own ic cls names, w.before args s' = true := vx_own hat' (vx_isRefq hU'.1) (vx_isRefq hN'.1) hU'.2.word hN'.2.word
  have hown' : s'.vm.findClass own = some m.cls := by rw [hvm]; exact hown
  have hins : (Cond.instantiable cls 6).before args s' = true := h _ (by simp [Bundle.ownAtoms])
  obtain ⟨vm₁, cX, kX, hfX, hkX, -, -, X₁, st1⟩ := Y.newCold hexec (own := own) (C := cls) (index := ik) (n := 6) hown' hk' hins hini'
    (g := F0 m pc ls rest) rfl (by rw [hb]; exact d0) (Nat.le_refl _) (Nat.le_refl _)
  generalize hT1 : (T.setVm vm₁).pushCell { cls := cX, slots := kX.instanceTypes.map defaultValue, vm := .none } = T1 at X₁ st1
  have hcat : (Value.ref T.heap.size).category = 1 := rfl
  have hcellA : T1.heap[T.heap.size]? = some (freshCell cX kX) := by rw [← hT1]; exact State.heap_pushCell_size _ _
  have d3' : decode c.code (pc + 3) = .ok (.dup, 1) := by rw [hb]; exact d3
  have d4' : decode c.code (pc + 4) = .ok (.ldc_w is, 3) := by rw [hb]; exact d4
  have hstr' : vk_R own is text sa s' := vk_R.warm hW0 hstr
  obtain ⟨U, hsteps, hrun, hend, hW, hsame, ce, hce, hO⟩ := X₁.ctorThrowS hexec htr (own := own) (cls := cls) (names := names) (ic := ic) hown' hcls hnames h (fun x hx => nomatch hx) hfX hkX hcellA (by rw [hhp, hT]; exact Nat.le_refl _) (msg := .ref sa) rfl
    (g := { method := m, pc := pc + 7, locals := ls, stack := .ref sa :: .ref T.heap.size :: .ref T.heap.size :: rest, locked := none }) rfl hsize rfl rfl (rest := rest) rfl
    (by rw [hb]; exact d7) (by rw [hb]; exact d10) hout hRframes (by simp only [List.map_cons, List.sum_cons, hcat]; omega) hlocks
  obtain ⟨f1, f2⟩ := vx_frame hsame
  rw [hhp] at f1 f2
  have hWs : s.WarmedH U.vm := State.WarmedH.trans hW0 hW
  have hcl : s.vm.findClass cls = some ce.cls := by
    have h9 := hO.cls
    rw [hvm] at h9
    exact h9
  have hall : s.sameButNew ({ U with vm := s.vm } : State) locs mc ms := by
    subst hA
    obtain ⟨e1, e2⟩ := hsame
    rw [State.setFrames_setFrames] at e1
    have h2 : (T.setVm s.vm).sameButNew ({ U with vm := s.vm } : State) [] (0 + 1) (0 + 6) := ⟨e1, e2⟩
    have h3 := X.same.trans h2
    rw [List.append_nil] at h3
    exact h3.mono hc hs
  refine ⟨U, ?_, .threw T.heap.size, hrun, hend, Or.inr ⟨T.heap.size, rfl, cls, ce, locs, hx U hWs.alike f1 (fun q hq => f2 q hq (fun z hz => nomatch hz)), hce, hO.vm, hcl, hWs, hall, hf⟩⟩
  refine st1 _ ?_
  show Steps p.tables e below (T1.setTop { method := m, pc := pc + 3, locals := ls, stack := .ref T.heap.size :: rest, locked := none }) _
  jvm_step X₁.here [X₁.here.top, hexec, d3', Value.category]
  exact X₁.ldcStringW hexec (own := own) (text := text) (index := is) (a := sa) hown' hstr'.1 hstr'.2
    (g := { method := m, pc := pc + 4, locals := ls, stack := .ref T.heap.size :: .ref T.heap.size :: rest, locked := none }) rfl d4' _ hsteps
end Ends
section Bodies
variable {l : Launch}
theorem vx_ofW {y : MethodName} {ws ws' : List Cond} {rm : Room} {Pc : Array Value → State → Prop} {Qc : Array Value → State → Outcome → State → Prop} {XC : String → State → State → Prop} {mc ms : Nat} {free : Addr → Prop} {cc : ByteArray} {maxL : Nat} {ret : Option FieldType}
    (hy : plainName y.cls = true) (hw : ws = Cond.code y cc maxL ret :: ws')
    (body : ∀ p e s m args below meth c s₁, BodyLoose p l y (headSpec ws rm) cc maxL ret e s m args below meth c s₁ → c.maxLocals = maxL → (∀ x ∈ c.exceptionTable.toList, False) → Pc args s →
      W p l e (headSpec ws rm).room s m args below meth c s.heap [] 0 0 (vx_MQ below Qc XC args s mc ms free) (entryFrame m args maxL)) : vx_Met l y ws rm Pc Qc XC mc ms free := by
  refine MetFree.of_bodyS (code := cc) (maxLocals := maxL) (ret := ret) hy ?_ ?_
  · intro args s m h hn
    obtain ⟨meth, c, h1, h2, h3, h4, h5, h6, -, -⟩ := Cond.code_spec hn (atoms_spec (ws := ws) h _ (by rw [hw]; exact List.mem_cons_self))
    exact ⟨meth, c, h1, h2, h3, h4, h5, h6⟩
  · intro p e s m args below meth c s₁ B hml hP _
    have hh0 : s₁.heap = s.heap := by rw [B.state]; rfl
    have ht : ∀ x ∈ c.exceptionTable.toList, False := by
      obtain ⟨meth9, c9, h1, h2, -, -, -, -, h7, -⟩ := Cond.code_spec B.named (atoms_spec (ws := ws) B.pre _ (by rw [hw]; exact List.mem_cons_self))
      cases Option.some.inj (h1.symm.trans B.method)
      cases Option.some.inj (h2.symm.trans (Stand.of_body B).code)
      intro x hx
      rw [Array.isEmpty_iff.mp h7] at hx
      cases hx
    obtain ⟨t, a1, o, b1, b2, b3⟩ := body p e s m args below meth c s₁ B hml ht hP s₁ hh0 (Stand.of_body B)
    exact ⟨t, o, a1, b1, b2, b3⟩
/-- the table of a body with handlers -/
theorem vx_table {p : Program} {x y : MethodName} {S : Spec} {cc bytes : ByteArray} {maxL maxL' : Nat} {ret ret' : Option FieldType} {e : Env} {s s₁ : State} {m : MethodId} {args : Array Value} {below : List Frame} {meth : Method} {c : Code} {hh : List (Nat × Nat × Nat × Nat)}
    (B : BodyLoose p l y S cc maxL ret e s m args below meth c s₁) (h : (Cond.codeWith y bytes maxL' ret' hh).before args s = true) : c.exceptionTable.toList = tableOf hh := by
  obtain ⟨m9, meth9, c9, hn9, h1, h2, -, -, h6, -⟩ := Cond.codeWith_spec h
  cases Option.some.inj (hn9.symm.trans B.named)
  cases Option.some.inj (h1.symm.trans B.method)
  cases Option.some.inj (h2.symm.trans (Stand.of_body B).code)
  rw [← h6, table_eq]
end Bodies
end VXA
/-! ===== END ===== -/
/-! ===== BEGIN a static call of a method with an exception table ===== -/
section VXS
variable {p : Program} {l : Launch} {e : Env} {R : Room} {s : State} {m : MethodId} {args : Array Value} {below : List Frame} {meth : Method} {c : Code} {T : State} {H : Heap} {locs : List Loc} {cells slots : Nat}
abbrev vx_CSW (R : Room) (s : State) (args : Array Value) (own : String) (index : Nat) (y : MethodName) (bytes : ByteArray) (maxL : Nat) (ret : Option FieldType) (hh : List (Nat × Nat × Nat × Nat)) (ws : List Cond) (rm : Room) (mc ms n : Nat) : Prop :=
  (rm.cells = mc ∧ rm.slots = ms ∧ rm.frames + 1 ≤ R.frames ∧ 8 + (maxL + 11) + rm.locals ≤ R.locals ∧ (∀ w ∈ ws, ∀ (a' : Array Value) (U : State), s.WarmedH U.vm → w.before a' U = true) ∧ Cond.codeWith y bytes maxL ret hh ∈ ws) ∧
  (Cond.codeWith y bytes maxL ret hh).before args s = true ∧ (Cond.initialized y.cls).before args s = true ∧ (y.cls ≠ "java/lang/invoke/MethodHandle" ∧ y.cls ≠ "java/lang/invoke/VarHandle") ∧
  (∀ sig, parseMethodDescriptor y.desc = some sig → n = sig.parameters.length) ∧ (Cond.methodLink own index y).before args s = true ∧ (Cond.static y).before args s = true
theorem vx_cwSW {own : String} {index maxL mc ms : Nat} {y : MethodName} {bytes : ByteArray} {ret : Option FieldType} {hh : List (Nat × Nat × Nat × Nat)} {Ts ws ws' : List Cond} {rm : Room} (n : Nat) (ht : ∀ w ∈ Ts, w.before args s = true) (hT : GoodIn Ts (va_wsS own index y ws)) (hw : ws = Cond.codeWith y bytes maxL ret hh :: ws') (hrc : rm.cells = mc) (hrs : rm.slots = ms)
    (hd : y.cls ≠ "java/lang/invoke/MethodHandle" ∧ y.cls ≠ "java/lang/invoke/VarHandle" ∧ (parseMethodDescriptor y.desc).map (fun d => d.parameters.length) = some n) (hR : rm.frames + 1 ≤ R.frames ∧ 8 + (maxL + 11) + rm.locals ≤ R.locals) :
    vx_CSW R s args own index y bytes maxL ret hh ws rm mc ms n := by
  have ok : ∀ w ∈ va_wsS own index y ws, w.before args s = true := fun w h => ht w (hT w h).1
  have hG : GoodIn Ts ws := fun w h => hT w (by unfold va_wsS; exact List.mem_append_right _ h)
  have hc : Cond.codeWith y bytes maxL ret hh ∈ ws := by rw [hw]; exact List.mem_cons_self
  refine ⟨⟨hrc, hrs, hR.1, hR.2, pay_in ht hG, hc⟩, ht _ (hG _ hc).1, ok _ (by simp [va_wsS]), ⟨hd.1, hd.2.1⟩, fun sig h => ?_, ok _ (by simp [va_wsS]), ok _ (by simp [va_wsS])⟩
  have h2 := hd.2.2
  rw [h] at h2
  exact (Option.some.inj h2).symm
theorem vx_callSW (X : Stand p l e R s m args below meth c T locs cells slots) (hexec : p.tables.exec = Jvm.exec) {own : String} {index : Nat} {y : MethodName} {bytes : ByteArray} {maxL : Nat} {ret : Option FieldType} {hh : List (Nat × Nat × Nat × Nat)}
    (hown : s.vm.findClass own = some m.cls) (hlink : (Cond.methodLink own index y).before args s = true) (hstat : (Cond.static y).before args s = true) (hinit : (Cond.initialized y.cls).before args s = true)
    (hcode : (Cond.codeWith y bytes maxL ret hh).before args s = true) (hy : y.cls ≠ "java/lang/invoke/MethodHandle" ∧ y.cls ≠ "java/lang/invoke/VarHandle")
    {W9 : Nat} {Pre : Pt → Array Value → Prop} {Post : Pt → Array Value → Option Value → Pt → Prop} (hK : Back l R p e below s args y 3 W9 Pre Post)
    {g : JFrame} (hg : g.method = m) (hsize : g.locals.size = c.maxLocals) {argsL rest : List Value} (hlen : ∀ sig, parseMethodDescriptor y.desc = some sig → argsL.length = sig.parameters.length)
    (hstack : g.stack = argsL.reverse ++ rest) (hW : 2 * g.monitorRoom + (rest.map fun v => v.category).sum ≤ W9) (hdg : decode c.code g.pc = .ok (.invokestatic index, 3))
    (hpre : ∀ vm₁, s.WarmedH vm₁ → Pre ⟨T.setVm vm₁, locs, cells, slots⟩ argsL.toArray) :
    ∃ (v : Option Value) (vm₁ : Vm) (B : Pt), s.WarmedH vm₁ ∧ Stand p l e R s m args below meth c B.U B.locs B.cells B.slots ∧ Post ⟨T.setVm vm₁, locs, cells, slots⟩ argsL.toArray v B ∧
      ∀ target, Steps p.tables e below (B.U.setTop { g with pc := g.pc + 3, stack := v.toList ++ rest }) target → Steps p.tables e below (T.setTop g) target := by
  obtain ⟨mk, methM, cM, hnamed, hmethM, -, -, -, -, -, -, hsigM⟩ := Cond.codeWith_spec hcode
  have hstatic : methM.isStatic = true := Cond.static_spec hnamed hmethM hstat
  obtain ⟨kP, hkP, -⟩ := className_of_methodNamed hnamed
  have hinitP : kP.init = .initialized := Cond.initialized_spec (findClass_of_methodNamed hnamed) hkP hinit
  obtain ⟨vm₁, X₁, hstep₁⟩ := X.invokestatic hexec hown hlink hnamed hmethM hstatic hkP hinitP hy (g := g) hg (argsL := argsL) (rest := rest) (hlen _ hsigM) hstack hdg
  obtain ⟨v, B, X', hpost, hsteps⟩ := hK m meth c ⟨T.setVm vm₁, locs, cells, slots⟩ { g with stack := rest } (.invokestatic index) mk argsL.toArray X₁ hg hsize hdg hW (X₁.named hnamed) (hpre vm₁ X₁.warmed)
  exact ⟨v, vm₁, B, X₁.warmed, X', hpost, fun target h => hstep₁ _ fun acts => by rw [doInvoke_state]; exact hsteps.trans h⟩
theorem vx_runSW {y : MethodName} {bytes cc : ByteArray} {maxL nL mc ms n index : Nat} {ret : Option FieldType} {hh : List (Nat × Nat × Nat × Nat)} {ws : List Cond} {rm : Room} {Pc : Array Value → State → Prop} {Qc : Array Value → State → Outcome → State → Prop} {free : Addr → Prop} {Ts : List Cond} {own : String} {As rest : List Value} {g : JFrame}
    (S : CallFix p m c cc nL s args Ts own) (hM : Met l y ws rm Pc Qc mc ms free) (cw : vx_CSW R s args own index y bytes maxL ret hh ws rm mc ms n) (hp : PreS s H Pc As)
    (hg : g.method = m) (hn : As.length = n) (hsize : g.locals.size = nL) (hstack : g.stack = As.reverse ++ rest) (hW : 2 * g.monitorRoom + (rest.map fun v => v.category).sum ≤ 8) (hdg : decode cc g.pc = .ok (.invokestatic index, 3)) (hf : cells + mc ≤ R.cells ∧ slots + ms ≤ R.slots) :
    va_Run p l e R s m args below meth c H locs cells slots mc ms g rest (Qc As.toArray) (free) := by
  obtain ⟨⟨hrc, hrs, hfr, hlo, hws, hcw⟩, hcode, hini, hy, hlen, hl, hstt⟩ := cw
  have hK : Back l R p e below s args y 3 8 (PreOf R mc ms Pc) (PostOf Qc mc ms free) := va_backW (hh := hh) (bytes := bytes) (maxL := maxL) (ret := ret) hM hp.1 hrc hrs hfr hlo hws hcw (fun a' U hW => word_at hW (Or.inl (by first | rfl | simp [Cond.onTables, Cond.keeps, Cond.steady])) hini)
  obtain ⟨hx, hb, hml, ho, -⟩ := S
  intro T hT X
  obtain ⟨v, vm₁, ⟨U', l2, c2, s2⟩, hW₁, X', ⟨g', mk, t, L, e1, e2, hq, h1, hL, h2, h3⟩, st⟩ := vx_callSW X hx (hh := hh) (bytes := bytes) (maxL := maxL) (ret := ret) ho hl hstt hini hcode hy hK hg (hsize.trans hml.symm) (argsL := As) (rest := rest) (fun sig h => hn.trans (hlen sig h)) hstack hW (by rw [hb]; exact hdg)
    (fun vm₁ hW₁ => ⟨hf.1, hf.2, hp.2 (T.setVm vm₁) hT hW₁⟩)
  dsimp only [Pt.U, Pt.locs, Pt.cells, Pt.slots] at X' e1 e2 h1 h2 h3 st
  subst h1; subst h2; subst h3
  exact ⟨v, (T.setVm vm₁).calling g' mk As.toArray, t, U', L, hT, X', hL, e1, e2, hq, st⟩
/-- not caught here, past rows that name other classes: it goes on to the caller -/
theorem vx_outP {p : Program} {l : Launch} {e : Env} {R : Room} {s : State} {m : MethodId} {args : Array Value} {below : List Frame} {meth : Method} {c : Code} {H : Heap} {locs : List Loc} {cells slots : Nat} {free : Addr → Prop} {ls : Array Slot} {rest : List Value} {Qc : Array Value → State → Outcome → State → Prop} {XC : String → State → State → Prop}
    {pc : Nat} {own E : String} {ce : Cell} {q : Addr} {mc ms : Nat} (hown : s.vm.findClass own = some m.cls) (hlocks : meth.locks = false)
    (hpass : ∀ z ∈ c.exceptionTable.toList, covers z pc = false ∨ (z.catchType ≠ 0 ∧ ∃ nm : String, (Cond.classLink own z.catchType nm).before args s = true ∧ va_Nc E nm s)) (hcell : H[q]? = some ce) (hv : ce.vm = .none) (hcl : s.vm.findClass E = some ce.cls)
    (hx : ∀ t : State, t.heap = H → s.vm.Alike t.vm → XC E s t) (hf : ∀ z ∈ locs, free z.base) (hc : cells ≤ mc) (hs : slots ≤ ms) :
    vx_W p l e R s m args below meth c H locs cells slots (vx_MQ below Qc XC args s mc ms free) (F0 m pc ls rest) q := by
  intro T hT X
  have hpl : e.platform.magicAccessors = ({} : Platform).magicAccessors := by rw [X.admits.platform]
  obtain ⟨vm', hW', X', st⟩ := X.outThrough hlocks q (g := F0 m pc ls rest) rfl rfl rfl (cell := ce) (by rw [hT]; exact hcell) (by rw [hv]; rfl)
    (by obtain ⟨k9, h9, -⟩ := Vm.findClass_spec hcl; exact ⟨k9, h9⟩) (fun z hz => by
      rcases hpass z hz with h | ⟨hz0, nm, hl1, hn1⟩
      · exact Or.inl h
      · obtain ⟨c6, hc6, hcl6⟩ := Cond.classLink_spec hown hl1 e.platform hpl
        obtain ⟨a8, b8, h1, h2, h3⟩ := hn1
        cases Option.some.inj (h1.symm.trans hcl)
        cases Option.some.inj (h2.symm.trans hc6)
        exact Or.inr ⟨hz0, _, hcl6, h3⟩)
  obtain ⟨g₀, hfr⟩ := X'.frames_eq
  have hcell9 : ((T.setVm vm').setFrames (.throwing q :: below)).heap[q]? = some ce := by
    show T.heap[q]? = some ce
    rw [hT]; exact hcell
  have hend : Ended ((T.setVm vm').setFrames (.throwing q :: below)) below (.threw q) := State.frames_setFrames _ (State.cur_lt_of_frames hfr)
  refine ⟨(T.setVm vm').setFrames (.throwing q :: below), ?_, .threw q, X'.here.running, hend, Or.inr ⟨q, rfl, E, ce, locs, hx _ hT (X'.ends _).1.alike, hcell9, hv, hcl, (X'.ends _).1, (X'.ends _).2.mono hc hs, hf⟩⟩
  rw [X.pushThrowing_eq]
  exact st
/-- a thing of a world lies in the heap -/
theorem vx_lt {D : va_G} {cl : List vw_C} {ws : va_W} {H1 : Heap} (h : va_P D cl ws H1) {k : Nat} {q : Nat × va_E} (hk : ws[k]? = some q) : q.1 < H1.size := (h k q hk).lt
end VXS
/-! ===== END ===== -/
end
section
/-! names; by a program of mine (tool/gen_names.py) -/
def R_M : String := "OverlayTree$Mark"
def F_M : u_T := fun k => match k with
  | 0 => ("OverlayTree$Mark", "sort", "I", false)
  | 1 => ("OverlayTree$Mark", "value", "I", false)
  | _ => ("OverlayTree$Mark", "below", "[LOverlayTree$Mark;", false)
def ft_M : Nat → FieldType := fun k => match k with
  | 0 => .int
  | 1 => .int
  | _ => .array (.object "OverlayTree$Mark")
def R_S : String := "OverlayTree$Sight"
def F_S : u_T := fun k => match k with
  | 0 => ("OverlayTree$Sight", "kinds", "[I", true)
  | 1 => ("OverlayTree$Sight", "values", "[I", true)
  | 2 => ("OverlayTree$Sight", "found", "[LOverlayTree$Mark;", true)
  | _ => ("OverlayTree$Sight", "shines", "[Z", true)
def ft_S : Nat → FieldType := fun k => match k with
  | 0 => .array (.int)
  | 1 => .array (.int)
  | 2 => .array (.object "OverlayTree$Mark")
  | _ => .array (.boolean)
def R_T : String := "OverlayTree"
def F_T : u_T := fun k => match k with
  | 0 => ("OverlayTree", "layers", "[LOverlayTree$Mark;", true)
  | 1 => ("OverlayTree", "count", "I", false)
  | _ => ("OverlayTree", "sights", "[LOverlayTree$Sight;", true)
def ft_T : Nat → FieldType := fun k => match k with
  | 0 => .array (.object "OverlayTree$Mark")
  | 1 => .int
  | _ => .array (.object "OverlayTree$Sight")
def R_O : String := "OverlayTreeModel"
def F_O : u_T := fun k => match k with
  | 0 => ("OverlayTreeModel", "thrown", "I", false)
  | 1 => ("OverlayTreeModel", "layers", "I", false)
  | 2 => ("OverlayTreeModel", "marks", "[I", true)
  | 3 => ("OverlayTreeModel", "values", "[I", true)
  | 4 => ("OverlayTreeModel", "view", "[I", true)
  | 5 => ("OverlayTreeModel", "seen", "[I", true)
  | 6 => ("OverlayTreeModel", "shines", "[Z", true)
  | 7 => ("OverlayTreeModel", "paths", "I", false)
  | 8 => ("OverlayTreeModel", "path", "[I", true)
  | _ => ("OverlayTreeModel", "parents", "[I", true)
def ft_O : Nat → FieldType := fun k => match k with
  | 0 => .int
  | 1 => .int
  | 2 => .array (.int)
  | 3 => .array (.int)
  | 4 => .array (.int)
  | 5 => .array (.int)
  | 6 => .array (.boolean)
  | 7 => .int
  | 8 => .array (.int)
  | _ => .array (.int)
def R_L : String := "OverlayTreeLaw"
abbrev zz_cl : List vw_C := [(R_M, F_M, 3), (R_S, F_S, 4), (R_T, F_T, 3), (R_O, F_O, 10)]
abbrev zz_tys (aC : Nat → ClassId) : List (ClassId × FieldType) := [(aC 0, .int), (aC 1, .boolean), (aC 2, .long), (aC 3, .object "OverlayTree$Mark"), (aC 4, .object "OverlayTree$Sight")]
def zz_g : List Cond := lw_tbl.filter goodWord
theorem zz_good (w : Cond) (h : w ∈ zz_g) : (w.onTables && w.keeps) = true ∨ ∃ ty, w = .arrayClass ty := good_of_word (List.mem_filter.mp h).2
theorem zz_in {w : Cond} (i : Nat) (h : tables_1[i]? = some w) (hg : goodWord w = true) : w ∈ zz_g := List.mem_filter.mpr ⟨List.mem_append_right _ (List.mem_of_getElem? h), hg⟩
theorem zz_inp {w : Cond} (i : Nat) (h : (k2_sels lw_privs)[i]? = some w) (hg : goodWord w = true) : w ∈ zz_g := List.mem_filter.mpr ⟨List.mem_append_left _ (List.mem_of_getElem? h), hg⟩
def y_T_init : MethodName := ⟨"OverlayTree", "<init>", "()V"⟩
abbrev b_T_init : ByteArray := prog_1_method_1_code
def y_M_init : MethodName := ⟨"OverlayTree$Mark", "<init>", "(II)V"⟩
abbrev b_M_init : ByteArray := prog_2_method_1_code
def y_S_init : MethodName := ⟨"OverlayTree$Sight", "<init>", "()V"⟩
abbrev b_S_init : ByteArray := prog_3_method_1_code
def y_L_write : MethodName := ⟨"OverlayTreeLaw", "write", "(LOverlayTree;II[J)I"⟩
abbrev b_L_write : ByteArray := method_3_code
def y_T_write : MethodName := ⟨"OverlayTree", "write", "(II)Z"⟩
abbrev b_T_write : ByteArray := prog_1_method_2_code
def y_T_checkBelowRoot : MethodName := ⟨"OverlayTree", "checkBelowRoot", "(I)V"⟩
abbrev b_T_checkBelowRoot : ByteArray := prog_1_method_17_code
def y_T_isPath : MethodName := ⟨"OverlayTree", "isPath", "(I)Z"⟩
abbrev b_T_isPath : ByteArray := prog_1_method_14_code
def y_T_checkWritable : MethodName := ⟨"OverlayTree", "checkWritable", "(I)V"⟩
abbrev b_T_checkWritable : ByteArray := prog_1_method_21_code
def y_T_checkParent : MethodName := ⟨"OverlayTree", "checkParent", "(I)V"⟩
abbrev b_T_checkParent : ByteArray := prog_1_method_20_code
def y_T_parentOf : MethodName := ⟨"OverlayTree", "parentOf", "(I)I"⟩
abbrev b_T_parentOf : ByteArray := prog_1_method_16_code
def y_T_look : MethodName := ⟨"OverlayTree", "look", "(II)LOverlayTree$Sight;"⟩
abbrev b_T_look : ByteArray := prog_1_method_22_code
def y_S_seeRoot : MethodName := ⟨"OverlayTree$Sight", "seeRoot", "([LOverlayTree$Mark;I)V"⟩
abbrev b_S_seeRoot : ByteArray := prog_3_method_4_code
def y_S_see : MethodName := ⟨"OverlayTree$Sight", "see", "(LOverlayTree$Sight;II)V"⟩
abbrev b_S_see : ByteArray := prog_3_method_5_code
def y_M_at : MethodName := ⟨"OverlayTree$Mark", "at", "(I)LOverlayTree$Mark;"⟩
abbrev b_M_at : ByteArray := prog_2_method_2_code
def y_S_addLayer : MethodName := ⟨"OverlayTree$Sight", "addLayer", "(LOverlayTree$Sight;I)V"⟩
abbrev b_S_addLayer : ByteArray := prog_3_method_6_code
def y_S_kindIn : MethodName := ⟨"OverlayTree$Sight", "kindIn", "(I)I"⟩
abbrev b_S_kindIn : ByteArray := prog_3_method_2_code
def y_T_setMark : MethodName := ⟨"OverlayTree", "setMark", "(III)V"⟩
abbrev b_T_setMark : ByteArray := prog_1_method_26_code
def y_M_atOrNew : MethodName := ⟨"OverlayTree$Mark", "atOrNew", "(I)LOverlayTree$Mark;"⟩
abbrev b_M_atOrNew : ByteArray := prog_2_method_3_code
def y_M_hang : MethodName := ⟨"OverlayTree$Mark", "hang", "(ILOverlayTree$Mark;)V"⟩
abbrev b_M_hang : ByteArray := prog_2_method_4_code
def y_L_make : MethodName := ⟨"OverlayTreeLaw", "make", "(LOverlayTree;I)I"⟩
abbrev b_L_make : ByteArray := method_4_code
def y_T_make : MethodName := ⟨"OverlayTree", "make", "(I)V"⟩
abbrev b_T_make : ByteArray := prog_1_method_3_code
def y_L_remove : MethodName := ⟨"OverlayTreeLaw", "remove", "(LOverlayTree;I[J)I"⟩
abbrev b_L_remove : ByteArray := method_5_code
def y_T_remove : MethodName := ⟨"OverlayTree", "remove", "(I)I"⟩
abbrev b_T_remove : ByteArray := prog_1_method_4_code
def y_T_depthOf : MethodName := ⟨"OverlayTree", "depthOf", "(I)I"⟩
abbrev b_T_depthOf : ByteArray := prog_1_method_15_code
def y_T_countSeen : MethodName := ⟨"OverlayTree", "countSeen", "(I)I"⟩
abbrev b_T_countSeen : ByteArray := prog_1_method_25_code
def y_T_takeAway : MethodName := ⟨"OverlayTree", "takeAway", "(I)V"⟩
abbrev b_T_takeAway : ByteArray := prog_1_method_27_code
def y_T_clearMarks : MethodName := ⟨"OverlayTree", "clearMarks", "(I)V"⟩
abbrev b_T_clearMarks : ByteArray := prog_1_method_28_code
def y_L_move : MethodName := ⟨"OverlayTreeLaw", "move", "(LOverlayTree;II)I"⟩
abbrev b_L_move : ByteArray := method_6_code
def y_T_move : MethodName := ⟨"OverlayTree", "move", "(II)V"⟩
abbrev b_T_move : ByteArray := prog_1_method_5_code
def y_T_fileValue : MethodName := ⟨"OverlayTree", "fileValue", "(II)I"⟩
abbrev b_T_fileValue : ByteArray := prog_1_method_23_code
def y_S_valueIn : MethodName := ⟨"OverlayTree$Sight", "valueIn", "(I)I"⟩
abbrev b_S_valueIn : ByteArray := prog_3_method_3_code
def y_L_layer : MethodName := ⟨"OverlayTreeLaw", "layer", "(LOverlayTree;[J)I"⟩
abbrev b_L_layer : ByteArray := method_7_code
def y_T_layer : MethodName := ⟨"OverlayTree", "layer", "()I"⟩
abbrev b_T_layer : ByteArray := prog_1_method_6_code
def y_L_squash : MethodName := ⟨"OverlayTreeLaw", "squash", "(LOverlayTree;I[J)I"⟩
abbrev b_L_squash : ByteArray := method_8_code
def y_T_squash : MethodName := ⟨"OverlayTree", "squash", "(I)I"⟩
abbrev b_T_squash : ByteArray := prog_1_method_7_code
def y_T_layOver : MethodName := ⟨"OverlayTree", "layOver", "(LOverlayTree$Mark;LOverlayTree$Mark;ZI)V"⟩
abbrev b_T_layOver : ByteArray := prog_1_method_30_code
def y_T_loseTop : MethodName := ⟨"OverlayTree", "loseTop", "()I"⟩
abbrev b_T_loseTop : ByteArray := prog_1_method_29_code
def y_L_drop : MethodName := ⟨"OverlayTreeLaw", "drop", "(LOverlayTree;[J)I"⟩
abbrev b_L_drop : ByteArray := method_9_code
def y_T_drop : MethodName := ⟨"OverlayTree", "drop", "()I"⟩
abbrev b_T_drop : ByteArray := prog_1_method_8_code
def y_L_kind : MethodName := ⟨"OverlayTreeLaw", "kind", "(LOverlayTree;II[J)I"⟩
abbrev b_L_kind : ByteArray := method_10_code
def y_T_kind : MethodName := ⟨"OverlayTree", "kind", "(II)I"⟩
abbrev b_T_kind : ByteArray := prog_1_method_9_code
def y_T_checkView : MethodName := ⟨"OverlayTree", "checkView", "(II)V"⟩
abbrev b_T_checkView : ByteArray := prog_1_method_18_code
def y_L_value : MethodName := ⟨"OverlayTreeLaw", "value", "(LOverlayTree;II[J)I"⟩
abbrev b_L_value : ByteArray := method_11_code
def y_T_value : MethodName := ⟨"OverlayTree", "value", "(II)I"⟩
abbrev b_T_value : ByteArray := prog_1_method_10_code
def y_L_names : MethodName := ⟨"OverlayTreeLaw", "names", "(LOverlayTree;II[J)I"⟩
abbrev b_L_names : ByteArray := method_12_code
def y_T_names : MethodName := ⟨"OverlayTree", "names", "(II)I"⟩
abbrev b_T_names : ByteArray := prog_1_method_11_code
def y_T_namesSeen : MethodName := ⟨"OverlayTree", "namesSeen", "(II)I"⟩
abbrev b_T_namesSeen : ByteArray := prog_1_method_24_code
def y_L_mark : MethodName := ⟨"OverlayTreeLaw", "mark", "(LOverlayTree;II[J)I"⟩
abbrev b_L_mark : ByteArray := method_13_code
def y_T_mark : MethodName := ⟨"OverlayTree", "mark", "(II)I"⟩
abbrev b_T_mark : ByteArray := prog_1_method_12_code
def y_T_checkLayer : MethodName := ⟨"OverlayTree", "checkLayer", "(I)V"⟩
abbrev b_T_checkLayer : ByteArray := prog_1_method_19_code
def y_L_marks : MethodName := ⟨"OverlayTreeLaw", "marks", "(LOverlayTree;I[J)I"⟩
abbrev b_L_marks : ByteArray := method_14_code
def y_T_marks : MethodName := ⟨"OverlayTree", "marks", "(I)I"⟩
abbrev b_T_marks : ByteArray := prog_1_method_13_code
def y_T_countMarks : MethodName := ⟨"OverlayTree", "countMarks", "(LOverlayTree$Mark;I)I"⟩
abbrev b_T_countMarks : ByteArray := prog_1_method_31_code
def y_O_init : MethodName := ⟨"OverlayTreeModel", "<init>", "()V"⟩
abbrev b_O_init : ByteArray := prog_5_method_1_code
def y_O_isPath : MethodName := ⟨"OverlayTreeModel", "isPath", "(I)Z"⟩
abbrev b_O_isPath : ByteArray := prog_5_method_5_code
def y_O_in : MethodName := ⟨"OverlayTreeModel", "in", "(III)Z"⟩
abbrev b_O_in : ByteArray := prog_5_method_4_code
def y_O_parentOf : MethodName := ⟨"OverlayTreeModel", "parentOf", "(I)I"⟩
abbrev b_O_parentOf : ByteArray := prog_5_method_6_code
def y_O_thrown : MethodName := ⟨"OverlayTreeModel", "thrown", "()I"⟩
abbrev b_O_thrown : ByteArray := prog_5_method_2_code
def y_O_write : MethodName := ⟨"OverlayTreeModel", "write", "(II)Z"⟩
abbrev b_O_write : ByteArray := prog_5_method_12_code
def y_O_look : MethodName := ⟨"OverlayTreeModel", "look", "(I)V"⟩
abbrev b_O_look : ByteArray := prog_5_method_9_code
def y_O_cover : MethodName := ⟨"OverlayTreeModel", "cover", "(I)V"⟩
abbrev b_O_cover : ByteArray := prog_5_method_8_code
def y_O_refuse : MethodName := ⟨"OverlayTreeModel", "refuse", "(ZZZ)Z"⟩
abbrev b_O_refuse : ByteArray := prog_5_method_3_code
def y_O_put : MethodName := ⟨"OverlayTreeModel", "put", "(III)V"⟩
abbrev b_O_put : ByteArray := prog_5_method_11_code
def y_O_top : MethodName := ⟨"OverlayTreeModel", "top", "()I"⟩
abbrev b_O_top : ByteArray := prog_5_method_10_code
def y_O_make : MethodName := ⟨"OverlayTreeModel", "make", "(I)V"⟩
abbrev b_O_make : ByteArray := prog_5_method_13_code
def y_O_remove : MethodName := ⟨"OverlayTreeModel", "remove", "(I)I"⟩
abbrev b_O_remove : ByteArray := prog_5_method_15_code
def y_O_isBelow : MethodName := ⟨"OverlayTreeModel", "isBelow", "(II)Z"⟩
abbrev b_O_isBelow : ByteArray := prog_5_method_7_code
def y_O_takeAway : MethodName := ⟨"OverlayTreeModel", "takeAway", "(I)V"⟩
abbrev b_O_takeAway : ByteArray := prog_5_method_14_code
def y_O_move : MethodName := ⟨"OverlayTreeModel", "move", "(II)V"⟩
abbrev b_O_move : ByteArray := prog_5_method_16_code
def y_O_layer : MethodName := ⟨"OverlayTreeModel", "layer", "()I"⟩
abbrev b_O_layer : ByteArray := prog_5_method_17_code
def y_O_drop : MethodName := ⟨"OverlayTreeModel", "drop", "()I"⟩
abbrev b_O_drop : ByteArray := prog_5_method_18_code
def y_O_squash : MethodName := ⟨"OverlayTreeModel", "squash", "(I)I"⟩
abbrev b_O_squash : ByteArray := prog_5_method_20_code
def y_O_isHidden : MethodName := ⟨"OverlayTreeModel", "isHidden", "(II)Z"⟩
abbrev b_O_isHidden : ByteArray := prog_5_method_19_code
def y_O_kind : MethodName := ⟨"OverlayTreeModel", "kind", "(II)I"⟩
abbrev b_O_kind : ByteArray := prog_5_method_22_code
def y_O_isAsked : MethodName := ⟨"OverlayTreeModel", "isAsked", "(II)Z"⟩
abbrev b_O_isAsked : ByteArray := prog_5_method_21_code
def y_O_value : MethodName := ⟨"OverlayTreeModel", "value", "(II)I"⟩
abbrev b_O_value : ByteArray := prog_5_method_23_code
def y_O_names : MethodName := ⟨"OverlayTreeModel", "names", "(II)I"⟩
abbrev b_O_names : ByteArray := prog_5_method_24_code
def y_O_mark : MethodName := ⟨"OverlayTreeModel", "mark", "(II)I"⟩
abbrev b_O_mark : ByteArray := prog_5_method_25_code
def y_O_marks : MethodName := ⟨"OverlayTreeModel", "marks", "(I)I"⟩
abbrev b_O_marks : ByteArray := prog_5_method_26_code
end
section
/-! ===== contracts that may throw, over the machine ===== -/
def zz_E (st t : State) (L : List Loc) (k n : Nat) : Prop := st.WarmedH t.vm ∧ st.sameButNew ({ t with vm := st.vm } : State) L k n
def zz_M (l : Launch) (y : MethodName) (ws : List Cond) (rm : Room) (Pc : Array Value → State → Prop) (Qc : Array Value → State → Outcome → State → Prop) (mc ms : Nat) (free : Addr → Prop) : Prop :=
  MetFree l y (headSpec ws rm) Pc (fun _ _ _ _ _ => True) (fun a st o t => Qc a st o t ∧ ∃ L, zz_E st t L mc ms ∧ ∀ q ∈ L, free q.base)
def zz_Q (below : List Frame) (Qc : Array Value → State → Outcome → State → Prop) (a : Array Value) (s : State) (mc ms : Nat) (free : Addr → Prop) : State → Prop := fun t =>
  ∃ o, t.status = .running ∧ Ended t below o ∧ Qc a s o t ∧ ∃ L, zz_E s t L mc ms ∧ ∀ q ∈ L, free q.base
section ZA
variable {p : Program} {l : Launch} {e : Env} {R : Room} {s : State} {m : MethodId} {args : Array Value} {below : List Frame} {meth : Method} {c : Code} {H : Heap} {locs : List Loc} {cells slots : Nat} {Q : State → Prop}
theorem zz_mono {Q' : State → Prop} {g : JFrame} (hq : ∀ t, Q t → Q' t) (k : W p l e R s m args below meth c H locs cells slots Q g) : W p l e R s m args below meth c H locs cells slots Q' g := fun T hT X => by
  obtain ⟨t, a, b⟩ := k T hT X
  exact ⟨t, a, hq t b⟩
theorem zz_Q_of {Qc : Array Value → State → Outcome → State → Prop} {a : Array Value} {mc ms : Nat} {free : Addr → Prop} : ∀ t, MQ below Qc a s mc ms free t → zz_Q below Qc a s mc ms free t := fun t h => by
  obtain ⟨o, h1, h2, h3, L, ⟨-, h4, h5⟩, h6⟩ := h
  exact ⟨o, h1, h2, h3, L, ⟨h4, h5⟩, h6⟩
theorem zz_ofW {y : MethodName} {ws : List Cond} {rm : Room} {Pc : Array Value → State → Prop} {Qc : Array Value → State → Outcome → State → Prop} {mc ms : Nat} {free : Addr → Prop} {cc : ByteArray} {maxL : Nat} {ret : Option FieldType}
    (hy : plainName y.cls = true)
    (hc : ∀ (args : Array Value) (s : State) (m : MethodId), (∀ w ∈ ws, w.before args s = true) → s.methodNamed? y = some m → ∃ meth c, s.vm.method? m = some meth ∧ meth.code = some c ∧ c.code = cc ∧ c.maxLocals = maxL ∧ meth.sig.returnType = ret ∧ meth.locks = false)
    (body : ∀ p e s m args below meth c s₁, BodyLoose p l y (headSpec ws rm) cc maxL ret e s m args below meth c s₁ → c.maxLocals = maxL → Pc args s →
      W p l e rm s m args below meth c s.heap [] 0 0 (zz_Q below Qc args s mc ms free) (entryFrame m args maxL)) : zz_M l y ws rm Pc Qc mc ms free := by
  refine MetFree.of_bodyS (code := cc) (maxLocals := maxL) (ret := ret) hy ?_ ?_
  · intro args s m h hn
    exact hc args s m (atoms_spec (ws := ws) h) hn
  · intro p e s m args below meth c s₁ B hml hP _
    have hh0 : s₁.heap = s.heap := by rw [B.state]; rfl
    obtain ⟨t, a1, o, b1, b2, b3⟩ := body p e s m args below meth c s₁ B hml hP s₁ hh0 (Stand.of_body B)
    exact ⟨t, o, a1, b1, b2, b3⟩
end ZA
section ZB
variable {p : Program} {l : Launch} {e : Env} {R : Room} {s : State} {m : MethodId} {args : Array Value} {below : List Frame} {meth : Method} {c : Code} {T : State} {locs : List Loc} {cells slots : Nat}
/-- the call of a method by its contract, from the point where it is invoked: it comes back, or throws -/
theorem zz_inv (X : Stand p l e R s m args below meth c T locs cells slots) {g : JFrame} (hg : g.method = m) (hsize : g.locals.size = c.maxLocals) {ig : Instr} {len : Nat} (hdg : decode c.code g.pc = .ok (ig, len))
    {y : MethodName} {ws : List Cond} {rm : Room} {Pc : Array Value → State → Prop} {Qc : Array Value → State → Outcome → State → Prop} {mc ms maxL : Nat} {free : Addr → Prop} {a : Array Value} (hM : zz_M l y ws rm Pc Qc mc ms free)
    {mk : MethodId} (hn : T.methodNamed? y = some mk) {methY : Method} {cY : Code} (hmY : T.vm.method? mk = some methY) (hcY : methY.code = some cY) (hlY : cY.maxLocals = maxL)
    (hini : (Cond.initialized y.cls).before a T = true) (hws : ∀ w ∈ ws, w.before a T = true) (hfr : rm.frames + 1 ≤ R.frames)
    (hlo : 2 * g.monitorRoom + (g.stack.map fun v => v.category).sum + (maxL + 11) + rm.locals ≤ R.locals) (hce : cells + rm.cells ≤ R.cells) (hsl : slots + rm.slots ≤ R.slots) (hP : Pc a (T.calling g mk a)) :
    ∃ (o : Outcome) (t T' : State) (L : List Loc), Stand p l e R s m args below meth c T' (locs ++ L) (cells + mc) (slots + ms) ∧ (∀ q ∈ L, free q.base) ∧ T'.heap = t.heap ∧ T'.vm = t.vm ∧ Qc a (T.calling g mk a) o t ∧
      (∀ v, o = .returned v → Steps p.tables e below (doInvoke e (T.setTop g) [] mk a).1 (T'.setTop { g with pc := g.pc + len, stack := v.toList ++ g.stack })) ∧
      (∀ x, o = .threw x → Steps p.tables e below (doInvoke e (T.setTop g) [] mk a).1 ((T'.setTop g).pushFrame (.throwing x))) := by
  obtain ⟨kY, hkY, -⟩ := className_of_methodNamed hn
  have hinitY : kY.init = .initialized := Cond.initialized_spec (findClass_of_methodNamed hn) hkY hini
  have h : At T g.method c below := by rw [hg]; exact X.here
  have happ : (headSpec ws rm).appliesLoose y e.platform (T.calling g mk a) = true :=
    Spec.appliesLoose_calling (g := g) h hdg hn hkY hinitY (X.room_calling (g := g) (R' := rm) hsize hmY hcY hfr (by rw [hlY]; exact hlo) hce hsl) (atoms_intro hws)
  obtain ⟨mid, hmid⟩ := h.above
  have hfrm : (T.setTop g).frames = (.java g :: mid) ++ below := by rw [State.frames_setTop' g h.top, hmid]; rfl
  obtain ⟨o, t, hsteps, -, hend, hq, L, ⟨hW, hsame⟩, hL⟩ := Steps.callFree hM p X.admits X.cas X.clock (acts := []) hfrm happ hP trivial
  rw [State.frames_setTop' g h.top, X.tail] at hend
  cases o with
  | returned v =>
    obtain ⟨T', X', hW', hs', ht⟩ := X.outOf hg hdg (mk := mk) (a := a) hend hW hsame
    refine ⟨.returned v, t, T', L, X', hL, by rw [ht]; rfl, by rw [ht]; rfl, hq, fun v' hv => ?_, fun x hx => by cases hx⟩
    cases hv
    rw [← ht]; exact hsteps
  | threw x =>
    obtain ⟨T', X', hW', hs', ht⟩ := X.outOfThrown hg (mk := mk) (a := a) hend hW hsame
    refine ⟨.threw x, t, T', L, X', hL, by rw [ht]; exact (Stand.throwing_heap T' g x).symm, by rw [ht]; exact (Stand.throwing_vm T' g x).symm, hq, (fun v' hv => by cases hv), fun x' hx => ?_⟩
    cases hx
    rw [← ht]; exact hsteps
end ZB
end
section
/-! ===== the straight steps: locals, stack, numbers; by computation ===== -/
def zz_l : Nat → List (Option Value) → List (Nat × Value)
  | _, [] => []
  | i, none :: r => zz_l (i + 1) r
  | i, some v :: r => (i, v) :: zz_l (i + 1) r
theorem zz_l_mem : ∀ (lv : List (Option Value)) (i j : Nat) (w : Value), (j, w) ∈ zz_l i lv ↔ ∃ k, j = i + k ∧ lv[k]? = some (some w)
  | [], i, j, w => by simp [zz_l]
  | none :: r, i, j, w => by
    rw [zz_l, zz_l_mem r (i + 1) j w]
    constructor
    · rintro ⟨k, h1, h2⟩
      exact ⟨k + 1, by omega, by simpa using h2⟩
    · rintro ⟨k, h1, h2⟩
      cases k with
      | zero => simp at h2
      | succ k => exact ⟨k, by omega, by simpa using h2⟩
  | some v :: r, i, j, w => by
    rw [zz_l, List.mem_cons, zz_l_mem r (i + 1) j w]
    constructor
    · rintro (h | ⟨k, h1, h2⟩)
      · cases h
        exact ⟨0, by omega, by simp⟩
      · exact ⟨k + 1, by omega, by simpa using h2⟩
    · rintro ⟨k, h1, h2⟩
      cases k with
      | zero =>
        simp at h2
        exact Or.inl (by rw [h1, h2]; rfl)
      | succ k => exact Or.inr ⟨k, by omega, by simpa using h2⟩
theorem zz_l_at {ls : Array Slot} {nL : Nat} {lv : List (Option Value)} (h : lv_has ls nL (zz_l 0 lv)) {i : Nat} {v : Value} (hi : lv[i]? = some (some v)) : ls[i]? = some (.val v) :=
  h.2.2 (i, v) ((zz_l_mem lv 0 i v).mpr ⟨i, by omega, hi⟩)
/-- the slot below i is no long's first half -/
def zz_one (lv : List (Option Value)) (i : Nat) : Bool := match i with
  | 0 => true
  | j + 1 => match lv[j]? with
    | some (some v) => v.category == 1
    | _ => true
theorem zz_l_set {ls : Array Slot} {nL : Nat} {lv : List (Option Value)} {i : Nat} {v : Value} (ho : zz_one lv i = true)
    (h : lv_has ls nL ((i, v) :: (zz_l 0 lv).filter (fun q => !(q.1 == i) && !(q.1 + 1 == i && q.2.category == 2)))) : lv_has ls nL (zz_l 0 (lv.set i (some v))) := by
  refine ⟨h.1, h.2.1, fun q hq => ?_⟩
  obtain ⟨j, w⟩ := q
  obtain ⟨k, hk, hw⟩ := (zz_l_mem _ 0 j w).mp hq
  have hjk : j = k := by omega
  subst hjk
  by_cases hji : j = i
  · subst hji
    have hlt : j < (lv.set j (some v)).length := (List.getElem?_eq_some_iff.mp hw).1
    rw [List.length_set] at hlt
    rw [List.getElem?_set_self hlt] at hw
    cases hw
    exact h.2.2 _ List.mem_cons_self
  · rw [List.getElem?_set_ne (Ne.symm hji)] at hw
    refine h.2.2 _ (List.mem_cons_of_mem _ (List.mem_filter.mpr ⟨(zz_l_mem _ 0 j w).mpr ⟨j, by omega, hw⟩, ?_⟩))
    have h1 : (j == i) = false := by simpa using hji
    by_cases h2 : j + 1 = i
    · subst h2
      simp only [zz_one, hw] at ho
      have : w.category = 1 := by simpa using ho
      simp [h1, this]
    · have h3 : (j + 1 == i) = false := by simpa using h2
      simp [h1, h3]
def zz_ic (n : Int) : Int32 := match n with
  | .ofNat k => nI k
  | .negSucc 0 => -1
  | .negSucc k => Int32.ofInt (.negSucc k)
theorem zz_ic_eq (n : Int) : Int32.ofInt n = zz_ic n := by
  unfold zz_ic
  split
  · rfl
  · rfl
  · rfl
/-- the next pc of a jump -/
def zz_j (pc : Nat) (off : Int) : Nat := ((pc : Int) + off).toNat
def zz_ld (lv : List (Option Value)) (i : Nat) : Option Value := match lv[i]? with
  | some (some v) => some v
  | _ => none
theorem zz_ld_spec {lv : List (Option Value)} {i : Nat} {v : Value} (h : zz_ld lv i = some v) : lv[i]? = some (some v) := by
  unfold zz_ld at h
  split at h
  · rename_i w hw
    rw [hw, h]
  · cases h
abbrev zz_X : Type := Nat × List (Option Value) × List Value
/-- the int instructions on two ints -/
def zz_ii (i : Instr) (x y : Int32) : Option Int32 := match i with
  | .iadd => some (x + y)
  | .isub => some (x - y)
  | .imul => some (x * y)
  | .iand => some (x &&& y)
  | .ior => some (x ||| y)
  | .ixor => some (x ^^^ y)
  | .ishl => some (x <<< (y &&& 31))
  | .ishr => some (x >>> (y &&& 31))
  | _ => none
def zz_put (lv : List (Option Value)) (i : Nat) (v : Value) : Option (List (Option Value)) := if zz_one lv i && decide (i < lv.length) then some (lv.set i (some v)) else none
def zz_dup (i : Instr) (st : List Value) : Option (List Value) := match i, st with
  | .dup, v :: r => if v.category == 1 then some (v :: v :: r) else none
  | .pop, v :: r => if v.category == 1 then some r else none
  | .dup_x1, v :: w :: r => if v.category == 1 && w.category == 1 then some (v :: w :: v :: r) else none
  | .dup_x2, v :: w :: z :: r => if v.category == 1 && (w.category == 1 && z.category == 1) then some (v :: w :: z :: v :: r) else none
  | .dup2, v :: w :: r => if v.category == 1 && w.category == 1 then some (v :: w :: v :: w :: r) else none
  | _, _ => none
def zz_step (i : Instr) (pc : Nat) (lv : List (Option Value)) (st : List Value) : Option zz_X :=
  match i with
  | .aconst_null => some (pc + 1, lv, .null :: st)
  | .iconst n => some (pc + 1, lv, .int (zz_ic n) :: st)
  | .bipush n => if decide (-128 ≤ n) && decide (n ≤ 127) then some (pc + 2, lv, .int (zz_ic n) :: st) else none
  | .sipush n => if decide (-32768 ≤ n) && decide (n ≤ 32767) then some (pc + 3, lv, .int (zz_ic n) :: st) else none
  | .lconst n => some (pc + 1, lv, .long (Int64.ofNat n.val) :: st)
  | .iload_n k => match zz_ld lv k.val with
    | some (.int x) => some (pc + 1, lv, .int x :: st)
    | _ => none
  | .iload k => match zz_ld lv k with
    | some (.int x) => some (pc + 2, lv, .int x :: st)
    | _ => none
  | .aload_n k => match zz_ld lv k.val with
    | some (.ref x) => some (pc + 1, lv, .ref x :: st)
    | some .null => some (pc + 1, lv, .null :: st)
    | _ => none
  | .aload k => match zz_ld lv k with
    | some (.ref x) => some (pc + 2, lv, .ref x :: st)
    | some .null => some (pc + 2, lv, .null :: st)
    | _ => none
  | .istore_n k => match st with
    | .int x :: r => (zz_put lv k.val (.int x)).map fun lv' => (pc + 1, lv', r)
    | _ => none
  | .istore k => match st with
    | .int x :: r => (zz_put lv k (.int x)).map fun lv' => (pc + 2, lv', r)
    | _ => none
  | .astore_n k => match st with
    | .ref x :: r => (zz_put lv k.val (.ref x)).map fun lv' => (pc + 1, lv', r)
    | .null :: r => (zz_put lv k.val .null).map fun lv' => (pc + 1, lv', r)
    | _ => none
  | .astore k => match st with
    | .ref x :: r => (zz_put lv k (.ref x)).map fun lv' => (pc + 2, lv', r)
    | .null :: r => (zz_put lv k .null).map fun lv' => (pc + 2, lv', r)
    | _ => none
  | .iinc k n => match zz_ld lv k with
    | some (.int x) => (zz_put lv k (.int (x + zz_ic n))).map fun lv' => (pc + 3, lv', st)
    | _ => none
  | .i2l => match st with
    | .int x :: r => some (pc + 1, lv, .long x.toInt64 :: r)
    | _ => none
  | .lcmp => match st with
    | .long y :: .long x :: r => some (pc + 1, lv, .int (lg_cmp x y) :: r)
    | _ => none
  | .idiv => match st with
    | .int y :: .int x :: r => if decide (y = 0) then none else some (pc + 1, lv, .int (x / y) :: r)
    | _ => none
  | .irem => match st with
    | .int y :: .int x :: r => if decide (y = 0) then none else some (pc + 1, lv, .int (x - x / y * y) :: r)
    | _ => none
  | .goto off => if decide (0 ≤ (pc : Int) + off) then some (zz_j pc off, lv, st) else none
  | .ifnull off => match st with
    | .ref _ :: r => some (pc + 3, lv, r)
    | .null :: r => if decide (0 ≤ (pc : Int) + off) then some (zz_j pc off, lv, r) else none
    | _ => none
  | .ifnonnull off => match st with
    | .null :: r => some (pc + 3, lv, r)
    | .ref _ :: r => if decide (0 ≤ (pc : Int) + off) then some (zz_j pc off, lv, r) else none
    | _ => none
  | i => match zz_dup i st with
    | some st' => some (pc + 1, lv, st')
    | none => match st with
      | .int y :: .int x :: r => (zz_ii i x y).map fun z => (pc + 1, lv, .int z :: r)
      | _ => none
def zz_len : Instr → Nat
  | .bipush _ => 2
  | .sipush _ => 3
  | .iload _ => 2
  | .aload _ => 2
  | .istore _ => 2
  | .astore _ => 2
  | .iinc _ _ => 3
  | .goto _ => 3
  | .ifnull _ => 3
  | .ifnonnull _ => 3
  | _ => 1
theorem zz_ic8 {n : Int} (h1 : -128 ≤ n) (h2 : n ≤ 127) : (Int8.ofInt n).toInt32 = zz_ic n := by
  rw [← zz_ic_eq]
  apply Int32.toInt_inj.mp
  rw [Int8.toInt_toInt32, Int8.toInt_ofInt, Int32.toInt_ofInt]
  rw [Int.bmod_eq_of_le (by show -((256 : Int) / 2) ≤ n; omega) (by show n < ((256 : Int) + 1) / 2; omega)]
  rw [Int.bmod_eq_of_le (by show -((4294967296 : Int) / 2) ≤ n; omega) (by show n < ((4294967296 : Int) + 1) / 2; omega)]
theorem zz_ic16 {n : Int} (h1 : -32768 ≤ n) (h2 : n ≤ 32767) : (Int16.ofInt n).toInt32 = zz_ic n := by
  rw [← zz_ic_eq]
  apply Int32.toInt_inj.mp
  rw [Int16.toInt_toInt32, Int16.toInt_ofInt, Int32.toInt_ofInt]
  rw [Int.bmod_eq_of_le (by show -((65536 : Int) / 2) ≤ n; omega) (by show n < ((65536 : Int) + 1) / 2; omega)]
  rw [Int.bmod_eq_of_le (by show -((4294967296 : Int) / 2) ≤ n; omega) (by show n < ((4294967296 : Int) + 1) / 2; omega)]
section ZP
variable {p : Program} {l : Launch} {e : Env} {R : Room} {s : State} {m : MethodId} {args : Array Value} {below : List Frame} {meth : Method} {c : Code} {H : Heap} {locs : List Loc} {cells slots : Nat} {Q : State → Prop}
theorem zz_put_spec {lv lv' : List (Option Value)} {i : Nat} {v : Value} (h : zz_put lv i v = some lv') : zz_one lv i = true ∧ i < lv.length ∧ lv' = lv.set i (some v) := by
  unfold zz_put at h
  split at h
  · rename_i hc
    simp only [Bool.and_eq_true, decide_eq_true_eq] at hc
    cases h
    exact ⟨hc.1, hc.2, rfl⟩
  · cases h
theorem zz_tgt {pc : Nat} {off : Int} (h : 0 ≤ (pc : Int) + off) : (pc : Int) + off = (zz_j pc off : Nat) := by
  unfold zz_j
  omega
theorem zz_dup_ok {cc : ByteArray} (hexec : p.tables.exec = Jvm.exec) (hb : c.code = cc) {i : Instr} {pc : Nat} {ls : Array Slot} {st st' : List Value} (hdg : decode cc pc = .ok (i, 1)) (hs : zz_dup i st = some st')
    (kk : W p l e R s m args below meth c H locs cells slots Q (F0 m (pc + 1) ls st')) : W p l e R s m args below meth c H locs cells slots Q (F0 m pc ls st) := by
  unfold zz_dup at hs
  split at hs
  · split at hs
    · rename_i hc
      cases hs
      exact lv_dup hexec hb hdg (by simpa using hc) kk
    · cases hs
  · split at hs
    · rename_i hc
      cases hs
      exact lv_pop hexec hb hdg (by simpa using hc) kk
    · cases hs
  · split at hs
    · rename_i hc
      simp only [Bool.and_eq_true, beq_iff_eq] at hc
      cases hs
      exact lv_dup_x1 hexec hb hdg hc.1 hc.2 kk
    · cases hs
  · split at hs
    · rename_i hc
      simp only [Bool.and_eq_true, beq_iff_eq] at hc
      cases hs
      exact lv_dup_x2 hexec hb hdg hc.1 hc.2.1 hc.2.2 kk
    · cases hs
  · split at hs
    · rename_i hc
      simp only [Bool.and_eq_true, beq_iff_eq] at hc
      cases hs
      exact lv_dup2_11 hexec hb hdg hc.1 hc.2 kk
    · cases hs
  · cases hs
theorem zz_ii_ok {cc : ByteArray} (hexec : p.tables.exec = Jvm.exec) (hb : c.code = cc) {i : Instr} {pc : Nat} {ls : Array Slot} {x y z : Int32} {r : List Value} (hdg : decode cc pc = .ok (i, 1)) (hs : zz_ii i x y = some z)
    (kk : W p l e R s m args below meth c H locs cells slots Q (F0 m (pc + 1) ls (.int z :: r))) : W p l e R s m args below meth c H locs cells slots Q (F0 m pc ls (.int y :: .int x :: r)) := by
  unfold zz_ii at hs
  split at hs
  · cases hs; exact lv_iadd hexec hb hdg kk
  · cases hs; exact lv_isub hexec hb hdg kk
  · cases hs; exact lv_imul hexec hb hdg kk
  · cases hs; exact lv_iand hexec hb hdg kk
  · cases hs; exact lv_ior hexec hb hdg kk
  · cases hs; exact lv_ixor hexec hb hdg kk
  · cases hs; exact lv_ishl hexec hb hdg kk
  · cases hs; exact lv_ishr hexec hb hdg kk
  · cases hs
set_option maxHeartbeats 4000000 in
theorem zz_step_ok {cc : ByteArray} (hexec : p.tables.exec = Jvm.exec) (hb : c.code = cc) {i : Instr} {pc pc' nL : Nat} {ls : Array Slot} {lv lv' : List (Option Value)} {st st' : List Value} (hdg : decode cc pc = .ok (i, zz_len i)) (hs : zz_step i pc lv st = some (pc', lv', st'))
    (hl : lv_has ls nL (zz_l 0 lv)) (hn : lv.length ≤ nL) (kk : ∀ ls', lv_has ls' nL (zz_l 0 lv') → lv'.length ≤ nL → W p l e R s m args below meth c H locs cells slots Q (F0 m pc' ls' st')) : W p l e R s m args below meth c H locs cells slots Q (F0 m pc ls st) := by
  unfold zz_step at hs
  split at hs
  · cases hs; exact lv_null hexec hb hdg (kk ls hl hn)
  · cases hs; exact lv_iconst hexec hb hdg (zz_ic_eq _) (kk ls hl hn)
  · split at hs
    · rename_i hc
      simp only [Bool.and_eq_true, decide_eq_true_eq] at hc
      cases hs
      exact lv_bipush hexec hb hdg (zz_ic8 hc.1 hc.2) (kk ls hl hn)
    · cases hs
  · split at hs
    · rename_i hc
      simp only [Bool.and_eq_true, decide_eq_true_eq] at hc
      cases hs
      exact lv_sipush hexec hb hdg (zz_ic16 hc.1 hc.2) (kk ls hl hn)
    · cases hs
  · cases hs; exact lv_lconst hexec hb hdg rfl (kk ls hl hn)
  · split at hs
    · rename_i hx
      cases hs; exact lv_iload_n hexec hb hdg rfl (zz_l_at hl (zz_ld_spec hx)) (kk ls hl hn)
    · cases hs
  · split at hs
    · rename_i hx
      cases hs; exact lv_iload hexec hb hdg (zz_l_at hl (zz_ld_spec hx)) (kk ls hl hn)
    · cases hs
  · split at hs
    · rename_i hx
      cases hs; exact lv_aload_n hexec hb hdg rfl (zz_l_at hl (zz_ld_spec hx)) (kk ls hl hn)
    · rename_i hx
      cases hs; exact lv_aload_nN hexec hb hdg rfl (zz_l_at hl (zz_ld_spec hx)) (kk ls hl hn)
    · cases hs
  · split at hs
    · rename_i hx
      cases hs; exact lv_aload hexec hb hdg (zz_l_at hl (zz_ld_spec hx)) (kk ls hl hn)
    · rename_i hx
      cases hs; exact lv_aloadN hexec hb hdg (zz_l_at hl (zz_ld_spec hx)) (kk ls hl hn)
    · cases hs
  · split at hs
    · obtain ⟨lw, h1, h2⟩ := Option.map_eq_some_iff.mp hs
      obtain ⟨g1, g2, rfl⟩ := zz_put_spec h1
      cases h2
      exact lv_istore_n hexec hb hdg rfl hl (Nat.lt_of_lt_of_le g2 hn) rfl (fun ls' hl' => kk ls' (zz_l_set g1 hl') (by rw [List.length_set]; exact hn))
    · cases hs
  · split at hs
    · obtain ⟨lw, h1, h2⟩ := Option.map_eq_some_iff.mp hs
      obtain ⟨g1, g2, rfl⟩ := zz_put_spec h1
      cases h2
      exact lv_istore hexec hb hdg hl (Nat.lt_of_lt_of_le g2 hn) rfl (fun ls' hl' => kk ls' (zz_l_set g1 hl') (by rw [List.length_set]; exact hn))
    · cases hs
  · split at hs
    · obtain ⟨lw, h1, h2⟩ := Option.map_eq_some_iff.mp hs
      obtain ⟨g1, g2, rfl⟩ := zz_put_spec h1
      cases h2
      exact lv_astore_n hexec hb hdg rfl hl (Nat.lt_of_lt_of_le g2 hn) rfl (fun ls' hl' => kk ls' (zz_l_set g1 hl') (by rw [List.length_set]; exact hn))
    · obtain ⟨lw, h1, h2⟩ := Option.map_eq_some_iff.mp hs
      obtain ⟨g1, g2, rfl⟩ := zz_put_spec h1
      cases h2
      exact lv_astore_nN hexec hb hdg rfl hl (Nat.lt_of_lt_of_le g2 hn) rfl (fun ls' hl' => kk ls' (zz_l_set g1 hl') (by rw [List.length_set]; exact hn))
    · cases hs
  · split at hs
    · obtain ⟨lw, h1, h2⟩ := Option.map_eq_some_iff.mp hs
      obtain ⟨g1, g2, rfl⟩ := zz_put_spec h1
      cases h2
      exact lv_astore hexec hb hdg hl (Nat.lt_of_lt_of_le g2 hn) rfl (fun ls' hl' => kk ls' (zz_l_set g1 hl') (by rw [List.length_set]; exact hn))
    · obtain ⟨lw, h1, h2⟩ := Option.map_eq_some_iff.mp hs
      obtain ⟨g1, g2, rfl⟩ := zz_put_spec h1
      cases h2
      exact lv_astoreN hexec hb hdg hl (Nat.lt_of_lt_of_le g2 hn) rfl (fun ls' hl' => kk ls' (zz_l_set g1 hl') (by rw [List.length_set]; exact hn))
    · cases hs
  · split at hs
    · rename_i hx
      obtain ⟨lw, h1, h2⟩ := Option.map_eq_some_iff.mp hs
      obtain ⟨g1, g2, rfl⟩ := zz_put_spec h1
      cases h2
      obtain ⟨kx, hkx⟩ := List.getElem?_of_mem ((zz_l_mem _ 0 _ _).mpr ⟨_, (Nat.zero_add _).symm, zz_ld_spec hx⟩)
      exact lv_iinc hexec hb hdg hl hkx (by rw [zz_ic_eq]) (Nat.lt_of_lt_of_le g2 hn) rfl (fun ls' hl' => kk ls' (zz_l_set g1 hl') (by rw [List.length_set]; exact hn))
    · cases hs
  · split at hs
    · cases hs; exact lv_i2l hexec hb hdg rfl (kk ls hl hn)
    · cases hs
  · split at hs
    · cases hs; exact W.lcmp hexec hb hdg (kk ls hl hn)
    · cases hs
  · split at hs
    · split at hs
      · cases hs
      · rename_i hc
        cases hs; exact lv_idiv hexec hb hdg (by simpa using hc) (kk ls hl hn)
    · cases hs
  · split at hs
    · split at hs
      · cases hs
      · rename_i hc
        cases hs; exact lv_irem hexec hb hdg (by simpa using hc) (kk ls hl hn)
    · cases hs
  · split at hs
    · rename_i hc
      cases hs; exact lv_goto hexec hb hdg (zz_tgt (by simpa using hc)) (kk ls hl hn)
    · cases hs
  · split at hs
    · cases hs; exact lv_ifnull hexec hb hdg (kk ls hl hn)
    · split at hs
      · rename_i hc
        cases hs; exact lv_ifnullN hexec hb hdg (zz_tgt (by simpa using hc)) (kk ls hl hn)
      · cases hs
    · cases hs
  · split at hs
    · cases hs; exact lv_ifnonnullN hexec hb hdg (kk ls hl hn)
    · split at hs
      · rename_i hc
        cases hs; exact lv_ifnonnull hexec hb hdg (zz_tgt (by simpa using hc)) (kk ls hl hn)
      · cases hs
    · cases hs
  · split at hs
    · rename_i hd
      have hd1 : zz_len i = 1 := by
        cases i <;> first | rfl | (simp [zz_dup] at hd)
      rw [hd1] at hdg
      cases hs
      exact zz_dup_ok hexec hb hdg hd (kk ls hl hn)
    · split at hs
      · obtain ⟨z, h1, h2⟩ := Option.map_eq_some_iff.mp hs
        have hd1 : zz_len i = 1 := by
          cases i <;> first | rfl | (simp [zz_ii] at h1)
        rw [hd1] at hdg
        cases h2
        exact zz_ii_ok hexec hb hdg h1 (kk ls hl hn)
      · cases hs
end ZP
end
section
/-! ===== worlds as functions from addresses; the judgement zz_Z; a row an instruction that touches the heap ===== -/
abbrev zz_Hp : Type := Nat → Option va_E
def zz_H (D : va_G) (h : zz_Hp) (H : Heap) : Prop := ∀ (a : Nat) (e : va_E), h a = some e → va_at D zz_cl (a, e) H
def zz_A (h0 : zz_Hp) (sz : Nat) : Nat → Prop := fun q => (∃ e, h0 q = some e) ∨ sz ≤ q
def zz_N (h0 : zz_Hp) (sz : Nat) (h : zz_Hp) : Prop := (∀ (a : Nat) (e : va_E), h a = some e → zz_A h0 sz a) ∧ ∀ (a : Nat) (e : va_E), h0 a = some e → ∃ e' : va_E, h a = some e'
theorem zz_H.one {D : va_G} {h : zz_Hp} {H : Heap} {a : Nat} {e : va_E} (hP : zz_H D h H) (ha : h a = some e) : va_P D zz_cl [(a, e)] H := fun k q hk => by
  cases k with
  | zero =>
    simp at hk
    subst hk
    exact hP a e ha
  | succ k => simp at hk
theorem zz_H.lt {D : va_G} {h : zz_Hp} {H : Heap} {a : Nat} {e : va_E} (hP : zz_H D h H) (ha : h a = some e) : a < H.size := (hP a e ha).lt
theorem zz_H.up {D : va_G} {h : zz_Hp} {H H1 : Heap} {a : Nat} {e : va_E} (hP : zz_H D h H) (h1 : va_at D zz_cl (a, e) H1) (ho : ∀ q, q ≠ a → H1[q]? = H[q]?) : zz_H D (va_up h a (some e)) H1 := fun b x hb => by
  by_cases hba : b = a
  · subst hba
    rw [va_up_self] at hb
    cases hb
    exact h1
  · rw [va_up_ne _ _ hba] at hb
    exact (hP b x hb).kept (ho b hba)
theorem zz_H.new {D : va_G} {h : zz_Hp} {H H1 : Heap} {e : va_E} (hP : zz_H D h H) (h1 : va_at D zz_cl (H.size, e) H1) (ho : ∀ q, q < H.size → H1[q]? = H[q]?) : zz_H D (va_up h H.size (some e)) H1 := fun b x hb => by
  by_cases hba : b = H.size
  · subst hba
    rw [va_up_self] at hb
    cases hb
    exact h1
  · rw [va_up_ne _ _ hba] at hb
    exact (hP b x hb).kept (ho b (hP.lt hb))
theorem zz_H.fresh {D : va_G} {h : zz_Hp} {H : Heap} (hP : zz_H D h H) {q : Nat} (hq : H.size ≤ q) : h q = none := by
  cases he : h q with
  | none => rfl
  | some e => exact absurd (hP.lt he) (Nat.not_lt.mpr hq)
theorem zz_N.up {h0 h : zz_Hp} {sz a : Nat} {e : va_E} (hN : zz_N h0 sz h) (ha : zz_A h0 sz a) : zz_N h0 sz (va_up h a (some e)) := by
  refine ⟨fun b x hb => ?_, fun b x hb => ?_⟩
  · by_cases hba : b = a
    · subst hba; exact ha
    · rw [va_up_ne _ _ hba] at hb
      exact hN.1 b x hb
  · by_cases hba : b = a
    · subst hba
      exact ⟨e, va_up_self _ _ _⟩
    · rw [va_up_ne _ _ hba]
      exact hN.2 b x hb
theorem zz_N.rf {h0 : zz_Hp} {sz : Nat} : zz_N h0 sz h0 := ⟨fun _ e h => Or.inl ⟨e, h⟩, fun _ e h => ⟨e, h⟩⟩
theorem zz_N.new {h0 h : zz_Hp} {sz q : Nat} (hN : zz_N h0 sz h) (hq : h q = none) (hA : zz_A h0 sz q) : sz ≤ q := by
  rcases hA with ⟨e, he⟩ | hA
  · obtain ⟨e', h'⟩ := hN.2 q e he
    rw [hq] at h'
    cases h'
  · exact hA
/-- what a method's walk stands in: program, launch, environment, room, the state at its start, the method, its arguments, what is below, its code; classes' numbers and slots; arrays' classes -/
abbrev zz_K : Type := Program × Launch × Env × Room × State × MethodId × Array Value × List Frame × Method × Code × va_G × (Nat → ClassId)
def zz_Z (K : zz_K) (Q : State → Prop) (h0 h : zz_Hp) (k n pc : Nat) (lv : List (Option Value)) (st : List Value) : Prop := match K with
  | (p, l, e, R, s, m, args, below, meth, c, D, _) => ∀ (H : Heap) (locs : List Loc) (ls : Array Slot), zz_H D h H → va_S (zz_A h0 s.heap.size) s.heap H locs → zz_N h0 s.heap.size h → lv_has ls c.maxLocals (zz_l 0 lv) → lv.length ≤ c.maxLocals → W p l e R s m args below meth c H locs k n Q (F0 m pc ls st)
def zz_C (K : zz_K) (cc : ByteArray) (own : String) : Prop := match K with
  | (p, _, _, _, s, m, args, _, meth, c, D, aC) => p.tables.exec = Jvm.exec ∧ c.code = cc ∧ s.vm.findClass own = some m.cls ∧ (∀ w ∈ zz_g, w.before args s = true) ∧ va_K D zz_cl (zz_tys aC) s ∧ meth.locks = false
def zz_runs : List (Nat × Instr) → Nat → List (Option Value) → List Value → Option zz_X
  | [], pc, lv, st => some (pc, lv, st)
  | (q, i) :: r, pc, lv, st => if q = pc then (match zz_step i pc lv st with
    | some x => zz_runs r x.1 x.2.1 x.2.2
    | none => none) else none
def zz_dec (cc : ByteArray) (L : List (Nat × Instr)) : Bool := L.all fun q => decide (decode cc q.1 = .ok (q.2, zz_len q.2))
section ZW
variable {K : zz_K} {Q : State → Prop} {h0 h : zz_Hp} {k n pc : Nat} {lv : List (Option Value)} {st : List Value} {cc : ByteArray} {own : String}
theorem zz_go (C : zz_C K cc own) : ∀ (L : List (Nat × Instr)) {pc : Nat} {lv : List (Option Value)} {st : List Value} (_ : zz_dec cc L = true) {pc' : Nat} {lv' : List (Option Value)} {st' : List Value} (_ : zz_runs L pc lv st = some (pc', lv', st')) (_ : zz_Z K Q h0 h k n pc' lv' st'), zz_Z K Q h0 h k n pc lv st
  | [], pc, lv, st, _, pc', lv', st', hr, kk => by
    cases hr
    exact kk
  | (q, i) :: L, pc, lv, st, hd, pc', lv', st', hr, kk => by
    have hd' : decide (decode cc q = .ok (i, zz_len i)) = true ∧ zz_dec cc L = true := by simpa [zz_dec] using hd
    have hdg : decode cc q = .ok (i, zz_len i) := of_decide_eq_true hd'.1
    unfold zz_runs at hr
    split at hr
    · rename_i hq
      subst hq
      split at hr
      · rename_i x hx
        obtain ⟨pc1, lv1, st1⟩ := x
        have ih := zz_go C L hd'.2 hr kk
        obtain ⟨p, l, e, R, s, m, args, below, meth, c, D, aC⟩ := K
        obtain ⟨hexec, hb, -⟩ := C
        intro H locs ls hP hS hN hl hn
        exact zz_step_ok hexec hb hdg hx hl hn fun ls' hl' hn' => ih H locs ls' hP hS hN hl' hn'
      · cases hr
    · cases hr
theorem zz_lv (lv' : List (Option Value)) (hl : ∀ (j : Nat) (v : Value), lv'[j]? = some (some v) → lv[j]? = some (some v)) (hn : lv'.length ≤ lv.length) (kk : zz_Z K Q h0 h k n pc lv' st) : zz_Z K Q h0 h k n pc lv st := by
  obtain ⟨p, l, e, R, s, m, args, below, meth, c, D, aC⟩ := K
  intro H locs ls hP hS hN hls hlen
  refine kk H locs ls hP hS hN ⟨hls.1, hls.2.1, fun q hq => ?_⟩ (Nat.le_trans hn hlen)
  obtain ⟨j, v⟩ := q
  obtain ⟨i, hi, hv⟩ := (zz_l_mem _ 0 j v).mp hq
  exact hls.2.2 _ ((zz_l_mem _ 0 j v).mpr ⟨i, hi, hl i v hv⟩)
def zz_cmp (cd : ClassFile.Cond) (x y : Int32) : Prop × Prop := match cd with
  | .eq => (x = y, ¬ x = y)
  | .ne => (¬ x = y, x = y)
  | .lt => (x < y, ¬ x < y)
  | .ge => (y ≤ x, ¬ y ≤ x)
  | .gt => (y < x, ¬ y < x)
  | .le => (x ≤ y, ¬ x ≤ y)
def zz_br (i : Instr) (st : List Value) : Option (Prop × Prop × Int × List Value) := match i, st with
  | .if_icmp cd off, .int y :: .int x :: r => some ((zz_cmp cd x y).1, (zz_cmp cd x y).2, off, r)
  | .ifCond cd off, .int x :: r => some ((zz_cmp cd x 0).1, (zz_cmp cd x 0).2, off, r)
  | _, _ => none
theorem zz_if (C : zz_C K cc own) {i : Instr} (hd : decode cc pc = .ok (i, 3)) {Pt Pf : Prop} {off : Int} {r : List Value} {tgt : Nat} (hb : zz_br i st = some (Pt, Pf, off, r)) (ht : (pc : Int) + off = (tgt : Int))
    (kt : Pt → zz_Z K Q h0 h k n tgt lv r) (kf : Pf → zz_Z K Q h0 h k n (pc + 3) lv r) : zz_Z K Q h0 h k n pc lv st := by
  obtain ⟨p, l, e, R, s, m, args, below, meth, c, D, aC⟩ := K
  obtain ⟨hexec, hcb, -⟩ := C
  intro H locs ls hP hS hN hl hn
  unfold zz_br at hb
  split at hb
  · rename_i cd off' y x r'
    cases hb
    cases cd
    · exact lv_icmp_eq hexec hcb hd ht (fun q => kt q H locs ls hP hS hN hl hn) (fun q => kf q H locs ls hP hS hN hl hn)
    · exact lv_icmp_ne hexec hcb hd ht (fun q => kt q H locs ls hP hS hN hl hn) (fun q => kf q H locs ls hP hS hN hl hn)
    · exact lv_icmp_lt hexec hcb hd ht (fun q => kt q H locs ls hP hS hN hl hn) (fun q => kf q H locs ls hP hS hN hl hn)
    · exact lv_icmp_ge hexec hcb hd ht (fun q => kt q H locs ls hP hS hN hl hn) (fun q => kf q H locs ls hP hS hN hl hn)
    · exact lv_icmp_gt hexec hcb hd ht (fun q => kt q H locs ls hP hS hN hl hn) (fun q => kf q H locs ls hP hS hN hl hn)
    · exact lv_icmp_le hexec hcb hd ht (fun q => kt q H locs ls hP hS hN hl hn) (fun q => kf q H locs ls hP hS hN hl hn)
  · rename_i cd off' x r'
    cases hb
    cases cd
    · exact lv_if_eq hexec hcb hd ht (fun q => kt q H locs ls hP hS hN hl hn) (fun q => kf q H locs ls hP hS hN hl hn)
    · exact lv_if_ne hexec hcb hd ht (fun q => kt q H locs ls hP hS hN hl hn) (fun q => kf q H locs ls hP hS hN hl hn)
    · exact lv_if_lt hexec hcb hd ht (fun q => kt q H locs ls hP hS hN hl hn) (fun q => kf q H locs ls hP hS hN hl hn)
    · exact lv_if_ge hexec hcb hd ht (fun q => kt q H locs ls hP hS hN hl hn) (fun q => kf q H locs ls hP hS hN hl hn)
    · exact lv_if_gt hexec hcb hd ht (fun q => kt q H locs ls hP hS hN hl hn) (fun q => kf q H locs ls hP hS hN hl hn)
    · exact lv_if_le hexec hcb hd ht (fun q => kt q H locs ls hP hS hN hl hn) (fun q => kf q H locs ls hP hS hN hl hn)
  · cases hb
end ZW
end
section
/-! ===== from the function world to the kit's lists, and the heap rows ===== -/
theorem zz_listN (h : zz_Hp) : ∀ n : Nat, ∃ ws : va_W, (∀ (k : Nat) (q : Nat × va_E), ws[k]? = some q → q.1 < n ∧ h q.1 = some q.2) ∧ (∀ (i j : Nat) (p q : Nat × va_E), ws[i]? = some p → ws[j]? = some q → p.1 = q.1 → i = j) ∧ ∀ (a : Nat) (e : va_E), a < n → h a = some e → ∃ q0 : Nat, ws[q0]? = some (a, e)
  | 0 => ⟨[], fun k q hk => by simp at hk, fun i j p q hi => by simp at hi, fun a e ha => absurd ha (Nat.not_lt_zero a)⟩
  | n + 1 => by
    obtain ⟨ws, h1, h2, h3⟩ := zz_listN h n
    cases he : h n with
    | none =>
      refine ⟨ws, fun k q hk => ⟨Nat.lt_succ_of_lt (h1 k q hk).1, (h1 k q hk).2⟩, h2, fun a e ha hae => ?_⟩
      by_cases han : a = n
      · subst han
        rw [he] at hae
        cases hae
      · exact h3 a e (by omega) hae
    | some x =>
      refine ⟨ws ++ [(n, x)], fun k q hk => ?_, fun i j p q hi hj hpq => ?_, fun a e ha hae => ?_⟩
      · rcases List.mem_append.mp (List.mem_of_getElem? hk) with hm | hm
        · obtain ⟨k', hk'⟩ := List.getElem?_of_mem hm
          exact ⟨Nat.lt_succ_of_lt (h1 k' q hk').1, (h1 k' q hk').2⟩
        · rw [List.mem_singleton.mp hm]
          exact ⟨Nat.lt_succ_self n, he⟩
      · have key : ∀ (i : Nat) (p : Nat × va_E), (ws ++ [(n, x)])[i]? = some p → (i < ws.length ∧ ws[i]? = some p ∧ p.1 < n) ∨ (i = ws.length ∧ p.1 = n) := by
          intro i p hi
          by_cases hlt : i < ws.length
          · rw [List.getElem?_append_left hlt] at hi
            exact Or.inl ⟨hlt, hi, (h1 i p hi).1⟩
          · rw [List.getElem?_append_right (by omega)] at hi
            have hz : i - ws.length < 1 := (List.getElem?_eq_some_iff.mp hi).1
            rw [show i - ws.length = 0 by omega] at hi
            simp at hi
            exact Or.inr ⟨by omega, by rw [← hi]⟩
        rcases key i p hi with ⟨a1, a2, a3⟩ | ⟨a1, a2⟩ <;> rcases key j q hj with ⟨b1, b2, b3⟩ | ⟨b1, b2⟩
        · exact h2 i j p q a2 b2 hpq
        · omega
        · omega
        · omega
      · by_cases han : a = n
        · subst han
          rw [he] at hae
          cases hae
          exact ⟨ws.length, by simp⟩
        · obtain ⟨q0, hq⟩ := h3 a e (by omega) hae
          exact ⟨q0, by rw [List.getElem?_append_left (List.getElem?_eq_some_iff.mp hq).1]; exact hq⟩
theorem zz_list {D : va_G} {h0 h : zz_Hp} {H : Heap} {sz : Nat} (hP : zz_H D h H) (hN : zz_N h0 sz h) : ∃ ws : va_W, va_P D zz_cl ws H ∧ va_D (zz_A h0 sz) ws ∧ ∀ (a : Nat) (e : va_E), h a = some e → ∃ q0 : Nat, ws[q0]? = some (a, e) := by
  obtain ⟨ws, h1, h2, h3⟩ := zz_listN h H.size
  exact ⟨ws, fun k q hk => hP q.1 q.2 (h1 k q hk).2, ⟨h2, fun k q hk => hN.1 q.1 q.2 (h1 k q hk).2⟩, fun a e ha => h3 a e (hP.lt ha) ha⟩
theorem zz_listSet {D : va_G} {h : zz_Hp} {H1 : Heap} {ws : va_W} {a q0 : Nat} {e e' : va_E} (hall : ∀ (a : Nat) (e : va_E), h a = some e → ∃ q0 : Nat, ws[q0]? = some (a, e)) (hq : ws[q0]? = some (a, e)) (hP : va_P D zz_cl (ws.set q0 (a, e')) H1) : zz_H D (va_up h a (some e')) H1 := fun b x hb => by
  have hlt : q0 < ws.length := (List.getElem?_eq_some_iff.mp hq).1
  by_cases hba : b = a
  · subst hba
    rw [va_up_self] at hb
    cases hb
    exact hP q0 _ (List.getElem?_set_self hlt)
  · rw [va_up_ne _ _ hba] at hb
    obtain ⟨q1, h1⟩ := hall b x hb
    refine hP q1 _ ?_
    rw [List.getElem?_set_ne ?_]
    · exact h1
    · intro hqq
      subst hqq
      rw [hq] at h1
      cases h1
      exact hba rfl
theorem zz_listPush {D : va_G} {h : zz_Hp} {H1 : Heap} {ws : va_W} {a : Nat} {e : va_E} (hall : ∀ (a : Nat) (e : va_E), h a = some e → ∃ q0 : Nat, ws[q0]? = some (a, e)) (hP : va_P D zz_cl (ws ++ [(a, e)]) H1) : zz_H D (va_up h a (some e)) H1 := fun b x hb => by
  by_cases hba : b = a
  · subst hba
    rw [va_up_self] at hb
    cases hb
    exact hP ws.length _ (by simp)
  · rw [va_up_ne _ _ hba] at hb
    obtain ⟨q1, h1⟩ := hall b x hb
    exact hP q1 _ (by rw [List.getElem?_append_left (List.getElem?_eq_some_iff.mp h1).1]; exact h1)
/-- a field, as the class 'own' speaks of it in its pool -/
def zz_Fd (own : String) (index ci k : Nat) (ty : FieldType) (fin : Bool) : Prop := ∃ (Cn : String) (T : u_T) (N : Nat) (ty0 : Nat → FieldType), zz_cl[ci]? = some (Cn, T, N) ∧ (∀ w ∈ u_ws Cn T N, w ∈ zz_g) ∧ k < N ∧ Cond.fieldLink own index (T k).1 (T k).2.1 (T k).2.2.1 ∈ zz_g ∧ (∀ j, j < N → parseFieldDescriptor (T j).2.2.1 = some (ty0 j)) ∧ (∀ a, a < N → ∀ b, b < N → a ≠ b → (T a).2.1 ≠ (T b).2.1) ∧ parseFieldDescriptor (T k).2.2.1 = some ty ∧ (T k).2.2.2 = fin ∧ (fin = true → (T k).1 = own)
/-- a class whose objects 'own' makes -/
def zz_Nd (own : String) (index ci N : Nat) (fs : List Value) : Prop := ∃ (Cn : String) (T : u_T) (ty : Nat → FieldType), zz_cl[ci]? = some (Cn, T, N) ∧ (∀ w ∈ u_ws Cn T N, w ∈ zz_g) ∧ (∀ j, j < N → parseFieldDescriptor (T j).2.2.1 = some (ty j)) ∧ Cond.classLink own index Cn ∈ zz_g ∧ Cond.instantiable Cn N ∈ zz_g ∧ Cond.initialized Cn ∈ zz_g ∧ ∀ j, j < N → defaultValue (ty j) = vp_V fs j
def zz_cells (K : zz_K) : Nat := K.2.2.2.1.cells
def zz_slots (K : zz_K) : Nat := K.2.2.2.1.slots
def zz_sz (K : zz_K) : Nat := K.2.2.2.2.1.heap.size
def zz_ac (K : zz_K) : Nat → ClassId := K.2.2.2.2.2.2.2.2.2.2.2
section ZR
variable {K : zz_K} {Q : State → Prop} {h0 h : zz_Hp} {k n pc : Nat} {lv : List (Option Value)} {st : List Value} {cc : ByteArray} {own : String}
theorem zz_get (C : zz_C K cc own) {index ci j a : Nat} {ty : FieldType} {fin : Bool} {fs : List Value} {v : Value} (F : zz_Fd own index ci j ty fin) (hh : h a = some (.inr (ci, fs))) (hv : fs[j]? = some v) (hd : decode cc pc = .ok (.getfield index, 3))
    (kk : zz_Z K Q h0 h k n (pc + 3) lv (v :: st)) : zz_Z K Q h0 h k n pc lv (.ref a :: st) := by
  obtain ⟨p, l, e, R, s, m, args, below, meth, c, D, aC⟩ := K
  obtain ⟨hexec, hb, hown, hts, hK, hlk⟩ := C
  obtain ⟨Cn, T, N, ty0, hc, hin, hk, hl, hty, hnm, hpt, hf, hf2⟩ := F
  intro H locs ls hP hS hN hls hn
  exact va_get hexec hb hts hin hown hK (hP.one hh) 0 rfl hc j hk (hts _ hl) (fun _ q => q) hv hd (kk H locs ls hP hS hN hls hn)
theorem zz_putf (C : zz_C K cc own) {index ci j a : Nat} {ty : FieldType} {fs : List Value} {v : Value} (F : zz_Fd own index ci j ty false) (hh : h a = some (.inr (ci, fs))) (hnw : narrow ty v = v) (hft : fits ty v = true) (hj : j < fs.length) (hd : decode cc pc = .ok (.putfield index, 3))
    (kk : zz_Z K Q h0 (va_up h a (some (.inr (ci, fs.set j v)))) k n (pc + 3) lv st) : zz_Z K Q h0 h k n pc lv (v :: .ref a :: st) := by
  obtain ⟨p, l, e, R, s, m, args, below, meth, c, D, aC⟩ := K
  obtain ⟨hexec, hb, hown, hts, hK, hlk⟩ := C
  obtain ⟨Cn, T, N, ty0, hc, hin, hk, hl, hty, hnm, hpt, hf, hf2⟩ := F
  intro H locs ls hP hS hN hls hn
  obtain ⟨ws, hPw, hDw, hall⟩ := zz_list hP hN
  obtain ⟨q0, hq⟩ := hall a _ hh
  exact va_put hexec hb hts hin ty0 hty hnm hown hK hPw hDw hS q0 hq hc j hk (hts _ hl) (fun _ q => q) hf hpt hnw hft hj hd (fun H1 locs1 hP1 hD1 hS1 => kk H1 locs1 ls (zz_listSet hall hq hP1) hS1 (hN.up (hN.1 a _ hh)) hls hn)
theorem zz_putF (C : zz_C K cc own) {index ci j a : Nat} {ty : FieldType} {fs : List Value} {v : Value} (F : zz_Fd own index ci j ty true) (hI : K.2.2.2.2.2.2.2.2.1.name = "<init>") (hh : h a = some (.inr (ci, fs))) (hnw : narrow ty v = v) (hft : fits ty v = true) (hj : j < fs.length) (hd : decode cc pc = .ok (.putfield index, 3))
    (kk : zz_Z K Q h0 (va_up h a (some (.inr (ci, fs.set j v)))) k n (pc + 3) lv st) : zz_Z K Q h0 h k n pc lv (v :: .ref a :: st) := by
  obtain ⟨p, l, e, R, s, m, args, below, meth, c, D, aC⟩ := K
  obtain ⟨hexec, hb, hown, hts, hK, hlk⟩ := C
  obtain ⟨Cn, T, N, ty0, hc, hin, hk, hl, hty, hnm, hpt, hf, hf2⟩ := F
  intro H locs ls hP hS hN hls hn
  obtain ⟨ws, hPw, hDw, hall⟩ := zz_list hP hN
  obtain ⟨q0, hq⟩ := hall a _ hh
  exact va_putF hexec hb hts hin ty0 hty hnm hown hK hPw hDw hS q0 hq hc j hk (hts _ hl) (fun _ q => q) hf hI (hf2 rfl) hpt hnw hft hj hd (fun H1 locs1 hP1 hD1 hS1 => kk H1 locs1 ls (zz_listSet hall hq hP1) hS1 (hN.up (hN.1 a _ hh)) hls hn)
theorem zz_listFresh {h : zz_Hp} {A : Nat → Prop} {ws : va_W} {q : Nat} {e : va_E} (hall : ∀ (a : Nat) (e : va_E), h a = some e → ∃ q0 : Nat, ws[q0]? = some (a, e)) (hD : va_D A (ws ++ [(q, e)])) : h q = none ∧ A q := by
  have hl : (ws ++ [(q, e)])[ws.length]? = some (q, e) := by simp
  refine ⟨?_, hD.2 _ _ hl⟩
  cases hq : h q with
  | none => rfl
  | some x =>
    obtain ⟨q1, h1⟩ := hall q x hq
    have hlt := (List.getElem?_eq_some_iff.mp h1).1
    have h2 : (ws ++ [(q, e)])[q1]? = some (q, x) := by rw [List.getElem?_append_left hlt]; exact h1
    have h3 := hD.1 _ _ _ _ h2 hl rfl
    omega
theorem zz_new (C : zz_C K cc own) {index ci N : Nat} {fs : List Value} (F : zz_Nd own index ci N fs) (hce : k + 1 ≤ zz_cells K) (hsl : n + N ≤ zz_slots K) (hd : decode cc pc = .ok (.new index, 3))
    (kk : ∀ q : Nat, h q = none → zz_sz K ≤ q → zz_Z K Q h0 (va_up h q (some (.inr (ci, fs)))) (k + 1) (n + N) (pc + 3) lv (.ref q :: st)) : zz_Z K Q h0 h k n pc lv st := by
  obtain ⟨p, l, e, R, s, m, args, below, meth, c, D, aC⟩ := K
  obtain ⟨hexec, hb, hown, hts, hK, hlk⟩ := C
  obtain ⟨Cn, T, ty, hc, hin, hty, hcl, hins, hini, hdv⟩ := F
  intro H locs ls hP hS hN hls hn
  obtain ⟨ws, hPw, hDw, hall⟩ := zz_list hP hN
  refine va_new (ci := ci) hexec hb hts hin ty hty hown (hts _ hcl) (hts _ hins) (hts _ hini) hK hPw hDw hS (fun q hq => Or.inr hq) hc hdv hce hsl hd (fun q H1 hP1 hD1 hS1 => ?_)
  obtain ⟨hq, hA⟩ := zz_listFresh hall hD1
  exact kk q hq (hN.new hq hA) H1 locs ls (zz_listPush hall hP1) hS1 (hN.up hA) hls hn
theorem zz_newa (C : zz_C K cc own) {atype : ArrayType} (t : Nat) {ty : FieldType} (hty : newarray.typeOf atype = ty) (htt : ∀ aC : Nat → ClassId, (zz_tys aC)[t]? = some (aC t, ty)) (hRA : ∀ C : String, ty ≠ .object C) (hw : Cond.arrayClass (newarray.typeOf atype) ∈ zz_g) {x : Int32} {N : Nat} {a0 : vp_A} (ha : ∀ cA : ClassId, vp_cell cA a0 = arrV cA N (fun _ => defaultValue ty)) (hx : ¬ x < 0) (hN' : x.toNatClampNeg = N) (hby : N * componentBytes ty ≤ 536870912) (hce : k + 1 ≤ zz_cells K) (hsl : n + N ≤ zz_slots K) (hd : decode cc pc = .ok (.newarray atype, 2))
    (kk : ∀ q : Nat, h q = none → zz_sz K ≤ q → zz_Z K Q h0 (va_up h q (some (.inl (zz_ac K t, a0)))) (k + 1) (n + N) (pc + 2) lv (.ref q :: st)) : zz_Z K Q h0 h k n pc lv (.int x :: st) := by
  obtain ⟨p, l, e, R, s, m, args, below, meth, c, D, aC⟩ := K
  obtain ⟨hexec, hb, hown, hts, hK, hlk⟩ := C
  intro H locs ls hP hS hN hls hn
  obtain ⟨ws, hPw, hDw, hall⟩ := zz_list hP hN
  refine va_newa hexec hb (hts _ hw) hty hK hPw hDw hS (fun q hq => Or.inr hq) ha hx hN' hby hce hsl hd (fun q cA H1 hK1 hP1 hD1 hS1 => ?_)
  obtain ⟨hq, hA⟩ := zz_listFresh hall hD1
  have h1 : va_RA s cA ty := (hK1.2 (zz_tys aC).length (cA, ty) (by simp)).2
  have h2 : va_RA s (aC t) ty := (hK.2 t (aC t, ty) (htt aC)).2
  have hc : cA = aC t := by
    cases ty with
    | object C => exact absurd rfl (hRA C)
    | _ => exact Option.some.inj (h1.symm.trans h2)
  subst hc
  exact kk q hq (hN.new hq hA) H1 locs ls (zz_listPush hall hP1) hS1 (hN.up hA) hls hn
theorem zz_anew (C : zz_C K cc own) {index : Nat} {Cn : String} (t : Nat) (htt : ∀ aC : Nat → ClassId, (zz_tys aC)[t]? = some (aC t, .object Cn)) (hw : Cond.classLink own index Cn ∈ zz_g) (hw2 : va_AO Cn K.2.2.2.2.1) {x : Int32} {N : Nat} (hx : ¬ x < 0) (hN' : x.toNatClampNeg = N) (hby : N * 4 ≤ 536870912) (hce : k + 1 ≤ zz_cells K) (hsl : n + N ≤ zz_slots K) (hd : decode cc pc = .ok (.anewarray index, 3))
    (kk : ∀ q : Nat, h q = none → zz_sz K ≤ q → zz_Z K Q h0 (va_up h q (some (.inl (zz_ac K t, N, .inr (.inr (.inr (.inr (fun _ => none)))))))) (k + 1) (n + N) (pc + 3) lv (.ref q :: st)) : zz_Z K Q h0 h k n pc lv (.int x :: st) := by
  obtain ⟨p, l, e, R, s, m, args, below, meth, c, D, aC⟩ := K
  obtain ⟨hexec, hb, hown, hts, hK, hlk⟩ := C
  intro H locs ls hP hS hN hls hn
  obtain ⟨ws, hPw, hDw, hall⟩ := zz_list hP hN
  refine va_newq hexec hb hown (hts _ hw) hw2 hK hPw hDw hS (fun q hq => Or.inr hq) hx hN' hby hce hsl hd (fun q cA H1 hK1 hP1 hD1 hS1 => ?_)
  obtain ⟨hq, hA⟩ := zz_listFresh hall hD1
  obtain ⟨kA, comp, -, -, -, e1⟩ := (hK1.2 (zz_tys aC).length (cA, .object Cn) (by simp)).2
  obtain ⟨kA', comp', -, -, -, e2⟩ := (hK.2 t (aC t, .object Cn) (htt aC)).2
  have hc : cA = aC t := Option.some.inj (e1.symm.trans e2)
  subst hc
  exact kk q hq (hN.new hq hA) H1 locs ls (zz_listPush hall hP1) hS1 (hN.up hA) hls hn
theorem zz_len_ (C : zz_C K cc own) {a : Nat} (t : Nat) {ty : FieldType} (htt : ∀ aC : Nat → ClassId, (zz_tys aC)[t]? = some (aC t, ty)) {x : vp_A} (hh : h a = some (.inl (zz_ac K t, x))) (hd : decode cc pc = .ok (.arraylength, 1))
    (kk : zz_Z K Q h0 h k n (pc + 1) lv (.int (nI x.1) :: st)) : zz_Z K Q h0 h k n pc lv (.ref a :: st) := by
  obtain ⟨p, l, e, R, s, m, args, below, meth, c, D, aC⟩ := K
  obtain ⟨hexec, hb, hown, hts, hK, hlk⟩ := C
  intro H locs ls hP hS hN hls hn
  exact va_alen hexec hb hK (hP.one hh) 0 t rfl (htt aC) rfl hd (kk H locs ls hP hS hN hls hn)
theorem zz_iald (C : zz_C K cc own) {a N : Nat} {f : Nat → Int32} {i : Int32} (t : Nat) (htt : ∀ aC : Nat → ClassId, (zz_tys aC)[t]? = some (aC t, .int)) (hh : h a = some (.inl (zz_ac K t, N, .inl f))) (hin : vp_in i N) (hd : decode cc pc = .ok (.iaload, 1))
    (kk : zz_Z K Q h0 h k n (pc + 1) lv (.int (f i.toNatClampNeg) :: st)) : zz_Z K Q h0 h k n pc lv (.int i :: .ref a :: st) := by
  obtain ⟨p, l, e, R, s, m, args, below, meth, c, D, aC⟩ := K
  obtain ⟨hexec, hb, hown, hts, hK, hlk⟩ := C
  intro H locs ls hP hS hN hls hn
  exact va_iald hexec hb hK (hP.one hh) 0 t rfl (htt aC) hin hd (kk H locs ls hP hS hN hls hn)
theorem zz_zald (C : zz_C K cc own) {a N : Nat} {f : Nat → Int32} {i : Int32} (t : Nat) (htt : ∀ aC : Nat → ClassId, (zz_tys aC)[t]? = some (aC t, .boolean)) (hh : h a = some (.inl (zz_ac K t, N, .inl f))) (hin : vp_in i N) (hd : decode cc pc = .ok (.baload, 1))
    (kk : zz_Z K Q h0 h k n (pc + 1) lv (.int (f i.toNatClampNeg) :: st)) : zz_Z K Q h0 h k n pc lv (.int i :: .ref a :: st) := by
  obtain ⟨p, l, e, R, s, m, args, below, meth, c, D, aC⟩ := K
  obtain ⟨hexec, hb, hown, hts, hK, hlk⟩ := C
  intro H locs ls hP hS hN hls hn
  exact va_zald hexec hb hK (hP.one hh) 0 t rfl (htt aC) hin hd (kk H locs ls hP hS hN hls hn)
theorem zz_lald (C : zz_C K cc own) {a N : Nat} {f : Nat → Int64} {i : Int32} (t : Nat) (htt : ∀ aC : Nat → ClassId, (zz_tys aC)[t]? = some (aC t, .long)) (hh : h a = some (.inl (zz_ac K t, N, .inr (.inl f)))) (hin : vp_in i N) (hd : decode cc pc = .ok (.laload, 1))
    (kk : zz_Z K Q h0 h k n (pc + 1) lv (.long (f i.toNatClampNeg) :: st)) : zz_Z K Q h0 h k n pc lv (.int i :: .ref a :: st) := by
  obtain ⟨p, l, e, R, s, m, args, below, meth, c, D, aC⟩ := K
  obtain ⟨hexec, hb, hown, hts, hK, hlk⟩ := C
  intro H locs ls hP hS hN hls hn
  exact va_lald hexec hb hK (hP.one hh) 0 t rfl (htt aC) hin hd (kk H locs ls hP hS hN hls hn)
theorem zz_qald (C : zz_C K cc own) {a N : Nat} {f : Nat → Option Nat} {i : Int32} (t : Nat) {Cn : String} (htt : ∀ aC : Nat → ClassId, (zz_tys aC)[t]? = some (aC t, .object Cn)) (hh : h a = some (.inl (zz_ac K t, N, .inr (.inr (.inr (.inr f)))))) (hin : vp_in i N) (hd : decode cc pc = .ok (.aaload, 1))
    (kk : zz_Z K Q h0 h k n (pc + 1) lv (va_rf (f i.toNatClampNeg) :: st)) : zz_Z K Q h0 h k n pc lv (.int i :: .ref a :: st) := by
  obtain ⟨p, l, e, R, s, m, args, below, meth, c, D, aC⟩ := K
  obtain ⟨hexec, hb, hown, hts, hK, hlk⟩ := C
  intro H locs ls hP hS hN hls hn
  exact va_aldq hexec hb hK (hP.one hh) 0 t rfl (htt aC) hin hd (kk H locs ls hP hS hN hls hn)
theorem zz_iast (C : zz_C K cc own) {a N : Nat} {f : Nat → Int32} {i x : Int32} (t : Nat) (htt : ∀ aC : Nat → ClassId, (zz_tys aC)[t]? = some (aC t, .int)) (hh : h a = some (.inl (zz_ac K t, N, .inl f))) (hin : vp_in i N) (hd : decode cc pc = .ok (.iastore, 1))
    (kk : zz_Z K Q h0 (va_up h a (some (.inl (zz_ac K t, N, .inl (upd f i.toNatClampNeg x))))) k n (pc + 1) lv st) : zz_Z K Q h0 h k n pc lv (.int x :: .int i :: .ref a :: st) := by
  obtain ⟨p, l, e, R, s, m, args, below, meth, c, D, aC⟩ := K
  obtain ⟨hexec, hb, hown, hts, hK, hlk⟩ := C
  intro H locs ls hP hS hN hls hn
  obtain ⟨ws, hPw, hDw, hall⟩ := zz_list hP hN
  obtain ⟨q0, hq⟩ := hall a _ hh
  exact va_iast hexec hb hK hPw hDw hS q0 t hq (htt aC) hin hd (fun H1 locs1 hP1 hD1 hS1 => kk H1 locs1 ls (zz_listSet hall hq hP1) hS1 (hN.up (hN.1 a _ hh)) hls hn)
theorem zz_zast (C : zz_C K cc own) {a N : Nat} {f : Nat → Int32} {i x : Int32} (t : Nat) (htt : ∀ aC : Nat → ClassId, (zz_tys aC)[t]? = some (aC t, .boolean)) (hh : h a = some (.inl (zz_ac K t, N, .inl f))) (hin : vp_in i N) (hd : decode cc pc = .ok (.bastore, 1))
    (kk : zz_Z K Q h0 (va_up h a (some (.inl (zz_ac K t, N, .inl (upd f i.toNatClampNeg (vp_nar .boolean x)))))) k n (pc + 1) lv st) : zz_Z K Q h0 h k n pc lv (.int x :: .int i :: .ref a :: st) := by
  obtain ⟨p, l, e, R, s, m, args, below, meth, c, D, aC⟩ := K
  obtain ⟨hexec, hb, hown, hts, hK, hlk⟩ := C
  intro H locs ls hP hS hN hls hn
  obtain ⟨ws, hPw, hDw, hall⟩ := zz_list hP hN
  obtain ⟨q0, hq⟩ := hall a _ hh
  exact va_zast hexec hb hK hPw hDw hS q0 t hq (htt aC) hin hd (fun H1 locs1 hP1 hD1 hS1 => kk H1 locs1 ls (zz_listSet hall hq hP1) hS1 (hN.up (hN.1 a _ hh)) hls hn)
theorem zz_last (C : zz_C K cc own) {a N : Nat} {f : Nat → Int64} {i : Int32} {x : Int64} (t : Nat) (htt : ∀ aC : Nat → ClassId, (zz_tys aC)[t]? = some (aC t, .long)) (hh : h a = some (.inl (zz_ac K t, N, .inr (.inl f)))) (hin : vp_in i N) (hd : decode cc pc = .ok (.lastore, 1))
    (kk : zz_Z K Q h0 (va_up h a (some (.inl (zz_ac K t, N, .inr (.inl (vp_updL f i.toNatClampNeg x)))))) k n (pc + 1) lv st) : zz_Z K Q h0 h k n pc lv (.long x :: .int i :: .ref a :: st) := by
  obtain ⟨p, l, e, R, s, m, args, below, meth, c, D, aC⟩ := K
  obtain ⟨hexec, hb, hown, hts, hK, hlk⟩ := C
  intro H locs ls hP hS hN hls hn
  obtain ⟨ws, hPw, hDw, hall⟩ := zz_list hP hN
  obtain ⟨q0, hq⟩ := hall a _ hh
  exact va_last hexec hb hK hPw hDw hS q0 t hq (htt aC) hin hd (fun H1 locs1 hP1 hD1 hS1 => kk H1 locs1 ls (zz_listSet hall hq hP1) hS1 (hN.up (hN.1 a _ hh)) hls hn)
theorem zz_qast (C : zz_C K cc own) {a N v ci : Nat} {vs : List Value} {r : vw_C} {f : Nat → Option Nat} {i : Int32} (t : Nat) (htt : ∀ aC : Nat → ClassId, (zz_tys aC)[t]? = some (aC t, .object r.1)) (hc : zz_cl[ci]? = some r) (hh : h a = some (.inl (zz_ac K t, N, .inr (.inr (.inr (.inr f)))))) (hv : h v = some (.inr (ci, vs))) (hin : vp_in i N) (hd : decode cc pc = .ok (.aastore, 1))
    (kk : zz_Z K Q h0 (va_up h a (some (.inl (zz_ac K t, N, .inr (.inr (.inr (.inr (va_up f i.toNatClampNeg (some v))))))))) k n (pc + 1) lv st) : zz_Z K Q h0 h k n pc lv (.ref v :: .int i :: .ref a :: st) := by
  obtain ⟨p, l, e, R, s, m, args, below, meth, c, D, aC⟩ := K
  obtain ⟨hexec, hb, hown, hts, hK, hlk⟩ := C
  intro H locs ls hP hS hN hls hn
  obtain ⟨ws, hPw, hDw, hall⟩ := zz_list hP hN
  obtain ⟨q0, hq⟩ := hall a _ hh
  obtain ⟨q1, hq1⟩ := hall v _ hv
  exact va_astq hexec hb hK hPw hDw hS q0 t q1 ci hq (htt aC) hq1 hc hin hd (fun H1 locs1 hP1 hD1 hS1 => kk H1 locs1 ls (zz_listSet hall hq hP1) hS1 (hN.up (hN.1 a _ hh)) hls hn)
theorem zz_qastN (C : zz_C K cc own) {a N : Nat} {Cn : String} {f : Nat → Option Nat} {i : Int32} (t : Nat) (htt : ∀ aC : Nat → ClassId, (zz_tys aC)[t]? = some (aC t, .object Cn)) (hh : h a = some (.inl (zz_ac K t, N, .inr (.inr (.inr (.inr f)))))) (hin : vp_in i N) (hd : decode cc pc = .ok (.aastore, 1))
    (kk : zz_Z K Q h0 (va_up h a (some (.inl (zz_ac K t, N, .inr (.inr (.inr (.inr (va_up f i.toNatClampNeg none)))))))) k n (pc + 1) lv st) : zz_Z K Q h0 h k n pc lv (.null :: .int i :: .ref a :: st) := by
  obtain ⟨p, l, e, R, s, m, args, below, meth, c, D, aC⟩ := K
  obtain ⟨hexec, hb, hown, hts, hK, hlk⟩ := C
  intro H locs ls hP hS hN hls hn
  obtain ⟨ws, hPw, hDw, hall⟩ := zz_list hP hN
  obtain ⟨q0, hq⟩ := hall a _ hh
  exact va_astqN hexec hb hK hPw hDw hS q0 t hq (htt aC) hin hd (fun H1 locs1 hP1 hD1 hS1 => kk H1 locs1 ls (zz_listSet hall hq hP1) hS1 (hN.up (hN.1 a _ hh)) hls hn)
end ZR
end
section
/-! ===== calls ===== -/
/-- what a word says of a method's code, with handlers or without -/
def zz_cd (y : MethodName) (cc : ByteArray) (maxL : Nat) (ret : Option FieldType) (hs : List (Nat × Nat × Nat × Nat)) (w : Cond) : Prop := ∀ (args : Array Value) (s : State), w.before args s = true → ∃ m meth c, s.methodNamed? y = some m ∧ s.vm.method? m = some meth ∧ meth.code = some c ∧ c.code = cc ∧ c.maxLocals = maxL ∧ c.exceptionTable.toList = tableOf hs ∧ meth.sig.returnType = ret ∧ meth.locks = false ∧ parseMethodDescriptor y.desc = some meth.sig
theorem zz_cd_code (y : MethodName) (cc : ByteArray) (maxL : Nat) (ret : Option FieldType) : zz_cd y cc maxL ret [] (.code y cc maxL ret) := fun args s h => by
  obtain ⟨m, hn⟩ := Cond.code_named h
  obtain ⟨meth, c, h1, h2, h3, h4, h5, h6, h7, h8⟩ := Cond.code_spec hn h
  refine ⟨m, meth, c, hn, h1, h2, h3, h4, ?_, h5, h6, h8⟩
  have : c.exceptionTable = #[] := Array.isEmpty_iff.mp h7
  rw [this]; rfl
theorem zz_cd_with (y : MethodName) (cc : ByteArray) (maxL : Nat) (ret : Option FieldType) (hs : List (Nat × Nat × Nat × Nat)) : zz_cd y cc maxL ret hs (.codeWith y cc maxL ret hs) := fun args s h => by
  obtain ⟨m, meth, c, hn, h1, h2, h3, h4, h5, h6, h7, h8⟩ := Cond.codeWith_spec h
  refine ⟨m, meth, c, hn, h1, h2, h3, h4, ?_, h6, h7, h8⟩
  rw [← h5, table_eq]
/-- a method of the system: its code's word stands in the tables -/
def zz_md (y : MethodName) (cc : ByteArray) (maxL : Nat) (ret : Option FieldType) (hs : List (Nat × Nat × Nat × Nat)) (n : Nat) : Prop := (∃ w ∈ zz_g, zz_cd y cc maxL ret hs w) ∧ Cond.initialized y.cls ∈ zz_g ∧ plainName y.cls = true ∧ (y.cls ≠ "java/lang/invoke/MethodHandle" ∧ y.cls ≠ "java/lang/invoke/VarHandle") ∧ (parseMethodDescriptor y.desc).map (fun d => d.parameters.length) = some n
section ZC
variable {p : Program} {l : Launch} {e : Env} {R : Room} {s : State} {m : MethodId} {args : Array Value} {below : List Frame} {meth : Method} {c : Code} {H : Heap} {locs : List Loc} {cells slots : Nat}
/-- a call's two ends -/
def zz_Run (p : Program) (l : Launch) (e : Env) (R : Room) (s : State) (m : MethodId) (args : Array Value) (below : List Frame) (meth : Method) (c : Code) (H : Heap) (locs : List Loc) (cells slots mc ms : Nat) (g : JFrame) (rest : List Value) (Qa : State → Outcome → State → Prop) (free : Addr → Prop) : Prop :=
  ∀ T : State, T.heap = H → Stand p l e R s m args below meth c T locs cells slots → ∃ (o : Outcome) (st₀ t T' : State) (L : List Loc), st₀.heap = H ∧ s.WarmedH st₀.vm ∧ Stand p l e R s m args below meth c T' (locs ++ L) (cells + mc) (slots + ms) ∧ (∀ q ∈ L, free q.base) ∧ T'.heap = t.heap ∧ T'.vm = t.vm ∧ Qa st₀ o t ∧
    (∀ v, o = .returned v → ∀ tg, Steps p.tables e below (T'.setTop { g with pc := g.pc + 3, stack := v.toList ++ rest }) tg → Steps p.tables e below (T.setTop g) tg) ∧
    (∀ x, o = .threw x → ∀ tg, Steps p.tables e below ((T'.setTop { g with stack := rest }).pushFrame (.throwing x)) tg → Steps p.tables e below (T.setTop g) tg)
variable {y : MethodName} {bytes cc : ByteArray} {maxL nL mc ms n index : Nat} {ret : Option FieldType} {hs : List (Nat × Nat × Nat × Nat)} {rm : Room} {Pc : Array Value → State → Prop} {Qc : Array Value → State → Outcome → State → Prop} {free : Addr → Prop} {own Cn : String} {b : Addr} {As rest : List Value} {g : JFrame}
/-- the words, behind warmer tables -/
theorem zz_warm (hts : ∀ w ∈ zz_g, w.before args s = true) {U : State} (hW : s.WarmedH U.vm) (a' : Array Value) : ∀ w ∈ zz_g, w.before a' U = true := fun w hw => word_at hW (zz_good w hw) (hts w hw)
theorem zz_run0 {T : State} {g0 : JFrame} {mk : MethodId} {a : Array Value} {ig : Instr} (hts : ∀ w ∈ zz_g, w.before args s = true) (hM : zz_M l y zz_g rm Pc Qc mc ms free) (hm : zz_md y bytes maxL ret hs n) (hrc : rm.cells = mc) (hrs : rm.slots = ms) (hR : rm.frames + 1 ≤ R.frames ∧ 8 + (maxL + 11) + rm.locals ≤ R.locals)
    (X : Stand p l e R s m args below meth c T locs cells slots) (hg : g0.method = m) (hsize : g0.locals.size = c.maxLocals) (hdg : decode c.code g0.pc = .ok (ig, 3)) (hW : 2 * g0.monitorRoom + (g0.stack.map fun v => v.category).sum ≤ 8) (hf : cells + mc ≤ R.cells ∧ slots + ms ≤ R.slots)
    (hbl : FrameBlind Pc) (hP : Pc a T) (hnm : T.methodNamed? y = some mk) :
    ∃ (o : Outcome) (t T' : State) (L : List Loc), Stand p l e R s m args below meth c T' (locs ++ L) (cells + mc) (slots + ms) ∧ (∀ q ∈ L, free q.base) ∧ T'.heap = t.heap ∧ T'.vm = t.vm ∧ Qc a (T.calling g0 mk a) o t ∧
      (∀ v, o = .returned v → Steps p.tables e below (doInvoke e (T.setTop g0) [] mk a).1 (T'.setTop { g0 with pc := g0.pc + 3, stack := v.toList ++ g0.stack })) ∧
      (∀ x, o = .threw x → Steps p.tables e below (doInvoke e (T.setTop g0) [] mk a).1 ((T'.setTop g0).pushFrame (.throwing x))) := by
  obtain ⟨⟨w, hw, hcd⟩, hini, -, -, -⟩ := hm
  have hwT := zz_warm hts X.warmed a
  obtain ⟨m', meth', c', hn', h1, h2, h3, h4, -⟩ := hcd a T (hwT w hw)
  cases hnm.symm.trans hn'
  exact zz_inv X hg hsize hdg hM hnm h1 h2 h4 (hwT _ hini) hwT hR.1 (by omega) (by rw [hrc]; exact hf.1) (by rw [hrs]; exact hf.2) (hbl _ _ _ _ hP)
theorem zz_runV (hexec : p.tables.exec = Jvm.exec) (hb : c.code = cc) (hown : s.vm.findClass own = some m.cls) (hts : ∀ w ∈ zz_g, w.before args s = true) (hM : zz_M l y zz_g rm Pc Qc mc ms free) (hm : zz_md y bytes maxL ret hs n)
    (hl : Cond.methodLink own index y ∈ zz_g) (hin : Cond.instanceMethod y ∈ zz_g) (hse : Cond.selects Cn y y ∈ zz_g) (hrc : rm.cells = mc) (hrs : rm.slots = ms) (hR : rm.frames + 1 ≤ R.frames ∧ 8 + (maxL + 11) + rm.locals ≤ R.locals) (hp : PreV s H Cn b Pc As)
    (hg : g.method = m) (hn : As.length = n) (hsize : g.locals.size = c.maxLocals) (hstack : g.stack = As.reverse ++ .ref b :: rest) (hW : 2 * g.monitorRoom + (rest.map fun v => v.category).sum ≤ 8) (hdg : decode cc g.pc = .ok (.invokevirtual index, 3)) (hf : cells + mc ≤ R.cells ∧ slots + ms ≤ R.slots) :
    zz_Run p l e R s m args below meth c H locs cells slots mc ms g rest (Qc (Value.ref b :: As).toArray) free := by
  subst hb
  obtain ⟨hbl, ⟨cellB, hcB, hoB, hclB⟩, hPc⟩ := hp
  obtain ⟨-, -, -, hy, hlen⟩ := id hm
  intro T hT X
  obtain ⟨mk, methM, hnamed, hmethM, hstM, habM⟩ := Cond.instanceMethod_spec (hts _ hin)
  obtain ⟨w, hw, hcd⟩ := hm.1
  obtain ⟨m', meth', c', hn', h1', h2', h3', h4', h5', h6', h7', h8'⟩ := hcd args s (hts w hw)
  cases hnamed.symm.trans hn'
  cases hmethM.symm.trans h1'
  obtain ⟨c2, r2, m2, q1, q2, q3, q4, kP, hkP, hkPi⟩ := Cond.selects_spec (hts _ hse)
  cases hclB.symm.trans q1
  cases (State.methodFound?_of_named hnamed hy).symm.trans q2
  cases hnamed.symm.trans q3
  have hselP : selectMethod e.platform s.vm cellB.cls mk = .method mk := by rw [Launch.admits_selectMethod X.admits]; exact q4
  have hlen' : As.length = methM.sig.parameters.length := by
    rw [h8'] at hlen
    rw [hn]
    exact (Option.some.inj hlen).symm
  obtain ⟨vm₁, X₁, hstep₁⟩ := X.invokevirtual hexec hown (hts _ hl) hnamed hmethM hstM hkP hkPi hy (a := b) (cell := cellB) (by rw [hT]; exact hcB)
    (fun z h => by rw [h] at hoB; cases hoB) hselP hmethM habM hkP hkPi (g := g) hg (argsL := As) (rest := rest) hlen' hstack hdg
  obtain ⟨o, t, T', L, X', hL, e1, e2, hq, hr, hx⟩ := zz_run0 (g0 := { g with stack := rest }) (a := (Value.ref b :: As).toArray) hts hM hm hrc hrs hR X₁ hg hsize hdg hW hf hbl (hPc (T.setVm vm₁) hT X₁.warmed) (X₁.named hnamed)
  refine ⟨o, (T.setVm vm₁).calling { g with stack := rest } mk (Value.ref b :: As).toArray, t, T', L, hT, X₁.warmed, X', hL, e1, e2, hq, fun v hv tg h => hstep₁ _ fun acts => ?_, fun x hv tg h => hstep₁ _ fun acts => ?_⟩
  · rw [doInvoke_state]; exact (hr v hv).trans h
  · rw [doInvoke_state]; exact (hx x hv).trans h
theorem zz_runS (hexec : p.tables.exec = Jvm.exec) (hb : c.code = cc) (hown : s.vm.findClass own = some m.cls) (hts : ∀ w ∈ zz_g, w.before args s = true) (hM : zz_M l y zz_g rm Pc Qc mc ms free) (hm : zz_md y bytes maxL ret hs n)
    (hl : Cond.methodLink own index y ∈ zz_g) (hsta : Cond.static y ∈ zz_g) (hrc : rm.cells = mc) (hrs : rm.slots = ms) (hR : rm.frames + 1 ≤ R.frames ∧ 8 + (maxL + 11) + rm.locals ≤ R.locals) (hp : PreS s H Pc As)
    (hg : g.method = m) (hn : As.length = n) (hsize : g.locals.size = c.maxLocals) (hstack : g.stack = As.reverse ++ rest) (hW : 2 * g.monitorRoom + (rest.map fun v => v.category).sum ≤ 8) (hdg : decode cc g.pc = .ok (.invokestatic index, 3)) (hf : cells + mc ≤ R.cells ∧ slots + ms ≤ R.slots) :
    zz_Run p l e R s m args below meth c H locs cells slots mc ms g rest (Qc As.toArray) free := by
  subst hb
  obtain ⟨hbl, hPc⟩ := hp
  obtain ⟨-, hini, -, hy, hlen⟩ := id hm
  intro T hT X
  obtain ⟨w, hw, hcd⟩ := hm.1
  obtain ⟨mk, methM, c', hnamed, hmethM, h2', h3', h4', h5', h6', h7', h8'⟩ := hcd args s (hts w hw)
  have hstatic : methM.isStatic = true := Cond.static_spec hnamed hmethM (hts _ hsta)
  obtain ⟨kP, hkP, -⟩ := className_of_methodNamed hnamed
  have hinitP : kP.init = .initialized := Cond.initialized_spec (findClass_of_methodNamed hnamed) hkP (hts _ hini)
  have hlen' : As.length = methM.sig.parameters.length := by
    rw [h8'] at hlen
    rw [hn]
    exact (Option.some.inj hlen).symm
  obtain ⟨vm₁, X₁, hstep₁⟩ := X.invokestatic hexec hown (hts _ hl) hnamed hmethM hstatic hkP hinitP hy (g := g) hg (argsL := As) (rest := rest) hlen' hstack hdg
  obtain ⟨o, t, T', L, X', hL, e1, e2, hq, hr, hx⟩ := zz_run0 (g0 := { g with stack := rest }) (a := As.toArray) hts hM hm hrc hrs hR X₁ hg hsize hdg hW hf hbl (hPc (T.setVm vm₁) hT X₁.warmed) (X₁.named hnamed)
  refine ⟨o, (T.setVm vm₁).calling { g with stack := rest } mk As.toArray, t, T', L, hT, X₁.warmed, X', hL, e1, e2, hq, fun v hv tg h => hstep₁ _ fun acts => ?_, fun x hv tg h => hstep₁ _ fun acts => ?_⟩
  · rw [doInvoke_state]; exact (hr v hv).trans h
  · rw [doInvoke_state]; exact (hx x hv).trans h
theorem zz_runI (hexec : p.tables.exec = Jvm.exec) (hb : c.code = cc) (hown : s.vm.findClass own = some m.cls) (hts : ∀ w ∈ zz_g, w.before args s = true) (hM : zz_M l y zz_g rm Pc Qc mc ms free) (hm : zz_md y bytes maxL none [] n) (hcw : Cond.code y bytes maxL none ∈ zz_g)
    (hl : Cond.methodLink own index y ∈ zz_g) (hin : Cond.instanceMethod y ∈ zz_g) (hy1 : y.name = "<init>") (hrc : rm.cells = mc) (hrs : rm.slots = ms) (hR : rm.frames + 1 ≤ R.frames ∧ 8 + (maxL + 11) + rm.locals ≤ R.locals) (hp : PreS s H Pc (.ref b :: As))
    (hg : g.method = m) (hn : As.length = n) (hsize : g.locals.size = c.maxLocals) (hstack : g.stack = As.reverse ++ .ref b :: rest) (hW : 2 * g.monitorRoom + (rest.map fun v => v.category).sum ≤ 8) (hdg : decode cc g.pc = .ok (.invokespecial index, 3)) (hf : cells + mc ≤ R.cells ∧ slots + ms ≤ R.slots) :
    zz_Run p l e R s m args below meth c H locs cells slots mc ms g rest (Qc (Value.ref b :: As).toArray) free := by
  subst hb
  obtain ⟨hbl, hPc⟩ := hp
  obtain ⟨-, hini, -, hy, hlen⟩ := id hm
  intro T hT X
  subst hg
  have hpl : e.platform.magicAccessors = ({} : Platform).magicAccessors := by rw [X.admits.platform]
  obtain ⟨mk, methM, cM, kP, vm₁, hnamed, hmethM, hcodeM, -, hlocalsM, -, hkP, -, hW₁, hstep₁⟩ := Steps.initColdArgs (e := e) X.here hexec X.warmed hpl hown hy1 hy (hts _ hl) (hts _ hin) (hts _ hcw) (f := g) rfl (argsL := As) (rest := rest) (a := b)
    (fun sig h => by rw [h] at hlen; rw [hn]; exact (Option.some.inj hlen).symm) hstack hdg
  have X₁ := X.noted hW₁
  obtain ⟨o, t, T', L, X', hL, e1, e2, hq, hr, hx⟩ := zz_run0 (g0 := { g with stack := rest }) (a := (Value.ref b :: As).toArray) hts hM hm hrc hrs hR X₁ rfl hsize hdg hW hf hbl (hPc (T.setVm vm₁) hT X₁.warmed) (X₁.named hnamed)
  refine ⟨o, (T.setVm vm₁).calling { g with stack := rest } mk (Value.ref b :: As).toArray, t, T', L, hT, X₁.warmed, X', hL, e1, e2, hq, fun v hv tg h => hstep₁ _ fun acts => ?_, fun x hv tg h => hstep₁ _ fun acts => ?_⟩
  · rw [doInvoke_state]; exact (hr v hv).trans h
  · rw [doInvoke_state]; exact (hx x hv).trans h
end ZC
end
section
/-! ===== what throws and handlers rest on, beside the tables' good words ===== -/
def zz_b : List Cond := lw_tbl.filter fun w => match w with
  | .castable .. => true
  | .declares .. => true
  | _ => false
theorem zz_b_warm {s U : State} (hW : s.WarmedH U.vm) (w : Cond) (hw : w ∈ zz_b) (h : va_Nw w s) : va_Nw w U := by
  have h2 := (List.mem_filter.mp hw).2
  cases w <;> first | exact va_Nw.warmC hW h | exact va_Nw.warmD hW h | simp at h2
theorem zz_b_same {s U : State} (hv : U.vm = s.vm) (w : Cond) (hw : w ∈ zz_b) (h : va_Nw w s) : va_Nw w U := by
  have h2 := (List.mem_filter.mp hw).2
  cases w <;> first | exact va_Nw.same rfl hv.symm h | simp at h2
/-- the texts of the throws: place in the pool, text -/
def zz_str : List (Nat × String) := [(124, "no path below the root"), (134, "the parent is no directory"), (136, "a directory is there"), (53, "something is there"), (60, "nothing is there"), (146, "no file"), (78, "no more layers"), (83, "no such two layers"), (94, "the only layer"), (127, "no path or no such view"), (99, "no directory"), (129, "no such layer")]
/-- pairs of which the first can't be cast to the second -/
def zz_nc : List (String × String) := [("java/lang/IllegalStateException", "java/lang/IllegalArgumentException"), ("java/util/NoSuchElementException", "java/lang/IllegalArgumentException"), ("java/lang/IllegalStateException", "java/util/NoSuchElementException"), ("java/lang/IllegalArgumentException", "java/lang/IndexOutOfBoundsException")]
theorem zz_o1 : Cond.instanceMethod Lib.objectInit ∈ zz_g := zz_in 19 (by decide +kernel) rfl
theorem zz_o2 : Cond.code Lib.objectInit ⟨#[0xb1]⟩ 1 none ∈ zz_g := zz_in 20 rfl rfl
end
section
/-! ===== contracts over function worlds ===== -/
abbrev zz_R : Type := Option Value ⊕ String
/-- how a method ends: with a value, or by a throw of an object of a class -/
def zz_O (r : zz_R) (o : Outcome) (t : State) : Prop := match r with
  | .inl v => o = .returned v
  | .inr X => ∃ (x : Addr) (cell : Cell), o = .threw x ∧ t.heap[x]? = some cell ∧ t.vm.findClass X = some cell.cls ∧ cell.vm = .none
/-- what throws and handlers rest on: the two statics of Throwable; what can be cast, what is declared; the texts; what can't be cast -/
def zz_T (h : zz_Hp) (U : State) (H : Heap) : Prop := (vx_Zq Bundle.tN "UNASSIGNED_STACK" Bundle.steD (zz_A h H.size) U H ∧ vx_Zq Bundle.tN "SUPPRESSED_SENTINEL" Bundle.listD (zz_A h H.size) U H) ∧ (∀ w ∈ zz_b, va_Nw w U) ∧ (∀ q ∈ zz_str, ∃ a, vk_R "OverlayTree" q.1 q.2 a U) ∧ (∀ q ∈ zz_nc, va_Nc q.1 q.2 U) ∧ va_AO "OverlayTree$Mark" U ∧ va_AO "OverlayTree$Sight" U
def zz_Pc (D : va_G) (aC : Nat → ClassId) (sz : Nat) (av : List Value) (h : zz_Hp) : Array Value → State → Prop := fun v U => v = av.toArray ∧ U.heap.size = sz ∧ zz_H D h U.heap ∧ va_K D zz_cl (zz_tys aC) U ∧ zz_T h U U.heap
def zz_Qc (D : va_G) (sz : Nat) (h : zz_Hp) (post : zz_R → zz_Hp → Prop) : Array Value → State → Outcome → State → Prop := fun _ st o t => ∃ (r : zz_R) (h' : zz_Hp), zz_O r o t ∧ post r h' ∧ zz_H D h' t.heap ∧ zz_N h sz h' ∧ sz ≤ t.heap.size ∧ ∀ q : Nat, q < sz → ¬ zz_A h sz q → t.heap[q]? = st.heap[q]?
def zz_Ct (l : Launch) (D : va_G) (aC : Nat → ClassId) (y : MethodName) (rm : Room) (av : List Value) (h : zz_Hp) (post : zz_R → zz_Hp → Prop) : Prop := ∀ sz : Nat, zz_M l y zz_g rm (zz_Pc D aC sz av h) (zz_Qc D sz h post) rm.cells rm.slots (zz_A h sz)
theorem zz_Pc_blind {D : va_G} {aC : Nat → ClassId} {sz : Nat} {av : List Value} {h : zz_Hp} : FrameBlind (zz_Pc D aC sz av h) := fun a U g mk q => by
  obtain ⟨q1, q2, q3, q4, ⟨q5, q6⟩, q7, q8, q9, q10, q11⟩ := q
  have hA : U.vm.Alike (U.calling g mk a).vm := Vm.Alike.refl U.vm
  exact ⟨q1, q2, q3, va_K.moved (u := U) (U := U.calling g mk a) hA q4, ⟨vx_Zq.moved (u := U) (U := U.calling g mk a) hA q5, vx_Zq.moved (u := U) (U := U.calling g mk a) hA q6⟩, fun w hw => zz_b_same (s := U) (U := U.calling g mk a) rfl w hw (q7 w hw), fun z hz => by
    obtain ⟨b, hb⟩ := q8 z hz
    exact ⟨b, vk_R.same (u := U) (U := U.calling g mk a) rfl hb⟩, fun z hz => va_Nc.moved (u := U) (U := U.calling g mk a) hA (q9 z hz), va_AO.moved (u := U) (U := U.calling g mk a) hA q10, va_AO.moved (u := U) (U := U.calling g mk a) hA q11⟩
/-- the method's own end -/
def zz_End (K : zz_K) (h0 : zz_Hp) (post : zz_R → zz_Hp → Prop) : State → Prop := match K with
  | (_, _, _, R, s, _, args, below, _, _, D, _) => zz_Q below (zz_Qc D s.heap.size h0 post) args s R.cells R.slots (zz_A h0 s.heap.size)
/-- what holds at a method's entry -/
def zz_En (l : Launch) (D : va_G) (aC : Nat → ClassId) (rm : Room) (ret : Option FieldType) (hs : List (Nat × Nat × Nat × Nat)) (h0 : zz_Hp) (K : zz_K) : Prop := match K with
  | (_, l', _, R, s, _, _, _, meth, c, D', aC') => l' = l ∧ D' = D ∧ aC' = aC ∧ R = rm ∧ meth.sig.returnType = ret ∧ c.exceptionTable.toList = tableOf hs ∧ zz_T h0 s s.heap ∧ zz_H D h0 s.heap
theorem zz_sl : ∀ {av : List Value}, (∀ v ∈ av, v.category = 1) → (lg_sl av).length = av.length
  | [], _ => rfl
  | v :: r, h => by
    have h1 : v.category = 1 := h v List.mem_cons_self
    have ih := zz_sl (av := r) (fun w hw => h w (List.mem_cons_of_mem _ hw))
    have e : lg_sl (v :: r) = Slot.val v :: lg_sl r := by simp [lg_sl, h1]
    rw [e, List.length_cons, List.length_cons, ih]
theorem zz_args0 : ∀ {av : List Value} {j i : Nat} {v : Value}, (∀ v ∈ av, v.category = 1) → av[i]? = some v → (j + i, v) ∈ lv_args j av
  | [], j, i, v, _, hi => by simp at hi
  | w :: r, j, i, v, h, hi => by
    have h1 : w.category = 1 := h w List.mem_cons_self
    rw [lv_args, h1]
    cases i with
    | zero =>
      simp at hi
      rw [hi]
      exact List.mem_cons_self
    | succ i =>
      have ih := zz_args0 (av := r) (j := j + 1) (i := i) (v := v) (fun x hx => h x (List.mem_cons_of_mem _ hx)) (by simpa using hi)
      refine List.mem_cons_of_mem _ ?_
      simpa [Nat.add_assoc, Nat.add_comm 1 i] using ih
theorem zz_args_mem {av : List Value} {i r : Nat} {v : Value} (hc : ∀ v ∈ av, v.category = 1) (h : (av.map some ++ List.replicate r none)[i]? = some (some v)) : (i, v) ∈ lv_args 0 av := by
  by_cases hi : i < av.length
  · rw [List.getElem?_append_left (by simpa using hi)] at h
    have h2 : av[i]? = some v := by simpa using h
    simpa using zz_args0 (j := 0) hc h2
  · rw [List.getElem?_append_right (by simpa using hi)] at h
    have := List.eq_of_mem_replicate (List.mem_of_getElem? h)
    cases this
theorem zz_ct {l : Launch} {D : va_G} {aC : Nat → ClassId} {y : MethodName} {rm : Room} {av : List Value} {h : zz_Hp} {post : zz_R → zz_Hp → Prop} {cc : ByteArray} {maxL n : Nat} {ret : Option FieldType} {hs : List (Nat × Nat × Nat × Nat)} (hm : zz_md y cc maxL ret hs n)
    {lv : List (Option Value)} (hav : av.map some ++ List.replicate (maxL - av.length) none = lv) (hcat : ∀ v ∈ av, v.category = 1) (hle : av.length ≤ maxL)
    (body : ∀ K : zz_K, zz_C K cc y.cls → zz_En l D aC rm ret hs h K → (y.name = "<init>" → K.2.2.2.2.2.2.2.2.1.name = "<init>") → zz_Z K (zz_End K h post) h h 0 0 0 lv []) : zz_Ct l D aC y rm av h post := by
  intro sz
  obtain ⟨⟨w, hw, hcd⟩, hini, hpl, hy, hlen⟩ := id hm
  refine zz_ofW (cc := cc) (maxL := maxL) (ret := ret) hpl ?_ ?_
  · intro args s m hws hn
    obtain ⟨m', meth, c, h1, h2, h3, h4, h5, h6, h7, h8, h9⟩ := hcd args s (hws w hw)
    cases hn.symm.trans h1
    exact ⟨meth, c, h2, h3, h4, h5, h7, h8⟩
  · intro p e s m args below meth c s₁ B hml hv
    obtain ⟨rfl, hsz, hP, hK, hT⟩ := hv
    subst hsz
    have hts : ∀ w ∈ zz_g, w.before av.toArray s = true := atoms_spec (ws := zz_g) B.pre
    obtain ⟨m', meth', c', h1, h2, h3, h4, h5, h6, h7, h8, h9⟩ := hcd av.toArray s (hts w hw)
    cases B.named.symm.trans h1
    cases B.method.symm.trans h2
    cases (Stand.of_body B).code.symm.trans h3
    have hl := lv_entry av (n := maxL) (by rw [zz_sl hcat]; simpa using hle)
    rw [lg_entry_eq]
    have key := body (p, l, e, rm, s, m, av.toArray, below, meth, c, D, aC) ⟨B.exec, B.bytes, findClass_of_methodNamed B.named, hts, hK, B.notSynchronized⟩ ⟨rfl, rfl, rfl, rfl, B.returns, h6, hT, hP⟩ (fun hi => by rw [(name_of_methodNamed B.named B.method).1]; exact hi)
    refine key s.heap [] _ hP va_S.rf zz_N.rf ?_ ?_
    · rw [hml]
      refine ⟨hl.1, hl.2.1, fun q hq => hl.2.2 q ?_⟩
      obtain ⟨j, v⟩ := q
      obtain ⟨i, hi, hv⟩ := (zz_l_mem _ 0 j v).mp hq
      rw [Nat.zero_add] at hi
      subst hi
      rw [← hav] at hv
      exact zz_args_mem hcat hv
    · rw [hml, ← hav]
      simp
      omega
section ZE
variable {K : zz_K} {Q : State → Prop} {h0 h : zz_Hp} {k n pc : Nat} {lv : List (Option Value)} {st : List Value} {cc : ByteArray} {own : String} {post : zz_R → zz_Hp → Prop}
def zz_ret (K : zz_K) : Option FieldType := K.2.2.2.2.2.2.2.2.1.sig.returnType
theorem zz_widen {k' n' : Nat} (h1 : k ≤ k') (h2 : n ≤ n') (kk : zz_Z K Q h0 h k' n' pc lv st) : zz_Z K Q h0 h k n pc lv st := by
  obtain ⟨p, l, e, R, s, m, args, below, meth, c, D, aC⟩ := K
  intro H locs ls hP hS hN hls hn
  exact W.widen h1 h2 (kk H locs ls hP hS hN hls hn)
theorem zz_iret (C : zz_C K cc own) {v : Int32} {ty : FieldType} (hr : zz_ret K = some ty) (hn1 : narrow ty (.int v) = .int v) (hp : post (.inl (some (.int v))) h) (hk : k ≤ zz_cells K) (hn : n ≤ zz_slots K) (hd : decode cc pc = .ok (.ireturn, 1)) : zz_Z K (zz_End K h0 post) h0 h k n pc lv [.int v] := by
  obtain ⟨p, l, e, R, s, m, args, below, meth, c, D, aC⟩ := K
  obtain ⟨hexec, hb, hown, hts, hK, hlk⟩ := C
  intro H locs ls hP hS hN hls hln
  exact W.widen hk hn (zz_mono zz_Q_of (W.zret hexec hb hr hn1 (fun t ht hw => ⟨.inl (some (.int v)), h, rfl, hp, by rw [ht]; exact hP, hN, by rw [ht]; exact hS.1, fun q h1 h2 => by rw [ht]; exact hS.2.1 q h1 h2⟩) (fun q hq => hS.2.2 q hq) hd hlk))
theorem zz_vret (C : zz_C K cc own) (hr : zz_ret K = none) (hp : post (.inl none) h) (hk : k ≤ zz_cells K) (hn : n ≤ zz_slots K) (hd : decode cc pc = .ok (.return_, 1)) : zz_Z K (zz_End K h0 post) h0 h k n pc lv [] := by
  obtain ⟨p, l, e, R, s, m, args, below, meth, c, D, aC⟩ := K
  obtain ⟨hexec, hb, hown, hts, hK, hlk⟩ := C
  intro H locs ls hP hS hN hls hln
  exact W.widen hk hn (zz_mono zz_Q_of (W.vret hexec hb hr (fun t ht hw => ⟨.inl none, h, rfl, hp, by rw [ht]; exact hP, hN, by rw [ht]; exact hS.1, fun q h1 h2 => by rw [ht]; exact hS.2.1 q h1 h2⟩) (fun q hq => hS.2.2 q hq) hd hlk))
theorem zz_aret (C : zz_C K cc own) {v : Value} {Cn : String} (hr : zz_ret K = some (.object Cn)) (hv : v = .null ∨ ∃ a, v = .ref a) (hp : post (.inl (some v)) h) (hk : k ≤ zz_cells K) (hn : n ≤ zz_slots K) (hd : decode cc pc = .ok (.areturn, 1)) : zz_Z K (zz_End K h0 post) h0 h k n pc lv [v] := by
  obtain ⟨p, l, e, R, s, m, args, below, meth, c, D, aC⟩ := K
  obtain ⟨hexec, hb, hown, hts, hK, hlk⟩ := C
  intro H locs ls hP hS hN hls hln
  exact W.widen hk hn (zz_mono zz_Q_of (W.aret hexec hb hr (Or.inl ⟨_, rfl⟩) hv (fun t ht hw => ⟨.inl (some v), h, rfl, hp, by rw [ht]; exact hP, hN, by rw [ht]; exact hS.1, fun q h1 h2 => by rw [ht]; exact hS.2.1 q h1 h2⟩) (fun q hq => hS.2.2 q hq) hd hlk))
/-- a throw has come to this frame: x is the object -/
def zz_V (K : zz_K) (Q : State → Prop) (h0 h : zz_Hp) (k n pc : Nat) (lv : List (Option Value)) (st : List Value) (X : String) : Prop := match K with
  | (p, l, e, R, s, m, args, below, meth, c, D, _) => ∀ (H : Heap) (locs : List Loc) (ls : Array Slot) (x : Addr) (cell : Cell) (T : State), zz_H D h H → va_S (zz_A h0 s.heap.size) s.heap H locs → zz_N h0 s.heap.size h → lv_has ls c.maxLocals (zz_l 0 lv) → lv.length ≤ c.maxLocals → H[x]? = some cell → s.vm.findClass X = some cell.cls → cell.vm = .none → T.heap = H → Stand p l e R s m args below meth c T locs k n → ∃ t, Steps p.tables e below ((T.setTop (F0 m pc ls st)).pushFrame (.throwing x)) t ∧ Q t
/-- .. and goes on to the caller -/
theorem zz_out (C : zz_C K cc own) (ht : K.2.2.2.2.2.2.2.2.2.1.exceptionTable.toList = []) {X : String} (hp : post (.inr X) h) (hk : k ≤ zz_cells K) (hn : n ≤ zz_slots K) : zz_V K (zz_End K h0 post) h0 h k n pc lv st X := by
  obtain ⟨p, l, e, R, s, m, args, below, meth, c, D, aC⟩ := K
  obtain ⟨hexec, hb, hown, hts, hK, hlk⟩ := C
  intro H locs ls x cell T hP hS hN hls hln hx hX hst hT X0
  have X1 := stand_widen X0 hk hn
  have hto : c.exceptionTable.toList = [] := ht
  obtain ⟨hsteps, hrun, hend, hW, hsame⟩ := X1.leaveThrown x (g := F0 m pc ls st) rfl rfl rfl (fun y hy => by rw [hto] at hy; cases hy) hlk
  refine ⟨_, hsteps, .threw x, hrun, hend, ⟨.inr X, h, ⟨x, cell, rfl, by show T.heap[x]? = _; rw [hT]; exact hx, ?_, hst⟩, hp, by show zz_H D h T.heap; rw [hT]; exact hP, hN, by show _ ≤ T.heap.size; rw [hT]; exact hS.1, fun q h1 h2 => by show T.heap[q]? = _; rw [hT]; exact hS.2.1 q h1 h2⟩, locs, ⟨hW, hsame⟩, fun q hq => hS.2.2 q hq⟩
  rw [hW.alike.findClass]
  exact hX
/-- the world behind a call: the callee's cells are as it left them, the rest as it was -/
def zz_mix (hc h' h : zz_Hp) : zz_Hp := fun a => match h' a with
  | some e => some e
  | none => match hc a with
    | some _ => none
    | none => h a
theorem zz_call {mc ms : Nat} {hc : zz_Hp} {st0 rest : List Value} {a : Array Value} {post' : zz_R → zz_Hp → Prop} (hsub : ∀ (a : Nat) (e : va_E), hc a = some e → h a = some e)
    (hr : match K with | (p, l, e, R, s, m, args, below, meth, c, D, _) => ∀ (H : Heap) (locs : List Loc) (ls : Array Slot), zz_H D h H → va_S (zz_A h0 s.heap.size) s.heap H locs → zz_N h0 s.heap.size h → ls.size = c.maxLocals → zz_Run p l e R s m args below meth c H locs k n mc ms (F0 m pc ls st0) rest (zz_Qc D H.size hc post' a) (zz_A hc H.size))
    (kr : ∀ (v : Option Value) (h' : zz_Hp), post' (.inl v) h' → (∀ (a : Nat) (e : va_E), h' a = some e → hc a = none → h a = none) → (∀ (a : Nat) (e : va_E), hc a = some e → ∃ e', h' a = some e') → zz_Z K Q h0 (zz_mix hc h' h) (k + mc) (n + ms) (pc + 3) lv (v.toList ++ rest))
    (kx : ∀ (X : String) (h' : zz_Hp), post' (.inr X) h' → (∀ (a : Nat) (e : va_E), h' a = some e → hc a = none → h a = none) → (∀ (a : Nat) (e : va_E), hc a = some e → ∃ e', h' a = some e') → zz_V K Q h0 (zz_mix hc h' h) (k + mc) (n + ms) pc lv rest X) : zz_Z K Q h0 h k n pc lv st0 := by
  obtain ⟨p, l, e, R, s, m, args, below, meth, c, D, aC⟩ := K
  intro H locs ls hP hS hN hls hln T hT X
  obtain ⟨o, st₀, t, T', L, g0, gw, X', hL, e1, e2, ⟨r, h', hO, hpost, hP', hN', hsz, hfr⟩, hret, hthr⟩ := hr H locs ls hP hS hN hls.1 T hT X
  have hz : s.heap.size ≤ H.size := hS.1
  have hnew : ∀ (a : Nat) (e : va_E), h' a = some e → hc a = none → h a = none := fun a e he hcn => by
    rcases hN'.1 a e he with ⟨e', q⟩ | q
    · rw [hcn] at q; cases q
    · exact hP.fresh q
  have hcA : ∀ q : Nat, zz_A hc H.size q → zz_A h0 s.heap.size q := fun q hq => by
    rcases hq with ⟨e', q1⟩ | q1
    · exact hN.1 q e' (hsub q e' q1)
    · exact Or.inr (Nat.le_trans hz q1)
  have hP1 : zz_H D (zz_mix hc h' h) t.heap := fun b x hb => by
    unfold zz_mix at hb
    split at hb
    · rename_i e' he'
      cases hb
      exact hP' b x he'
    · rename_i hn'
      split at hb
      · cases hb
      · rename_i hcn
        refine (hP b x hb).kept ?_
        rw [hfr b (hP.lt hb) (fun q => by
          rcases q with ⟨e', q1⟩ | q1
          · rw [hcn] at q1; cases q1
          · exact Nat.not_lt.mpr q1 (hP.lt hb)), g0]
  have hN1 : zz_N h0 s.heap.size (zz_mix hc h' h) := by
    refine ⟨fun b x hb => ?_, fun b x hb => ?_⟩
    · unfold zz_mix at hb
      split at hb
      · rename_i e' he'
        exact hcA b (hN'.1 b e' he')
      · split at hb
        · cases hb
        · exact hN.1 b x hb
    · obtain ⟨y, hy⟩ := hN.2 b x hb
      cases h1 : h' b with
      | some z => exact ⟨z, by simp [zz_mix, h1]⟩
      | none =>
        cases h2 : hc b with
        | some z =>
          obtain ⟨w, hw⟩ := hN'.2 b z h2
          rw [h1] at hw; cases hw
        | none => exact ⟨y, by simp [zz_mix, h1, h2, hy]⟩
  have hS1 : va_S (zz_A h0 s.heap.size) s.heap t.heap (locs ++ L) := by
    refine ⟨Nat.le_trans hz hsz, fun q h1 h2 => ?_, fun q hq => ?_⟩
    · rw [hfr q (Nat.lt_of_lt_of_le h1 hz) (fun z => h2 (hcA q z)), g0]
      exact hS.2.1 q h1 h2
    · rcases List.mem_append.mp hq with h1 | h1
      · exact hS.2.2 q h1
      · exact hcA _ (hL q h1)
  cases r with
  | inl v =>
    have ho : o = .returned v := hO
    obtain ⟨t2, a1, b1⟩ := kr v h' hpost hnew hN'.2 t.heap (locs ++ L) ls hP1 hS1 hN1 hls hln T' e1 X'
    exact ⟨t2, hret v ho t2 a1, b1⟩
  | inr Xn =>
    obtain ⟨x, cell, ho, hx, hX, hst⟩ := hO
    obtain ⟨t2, a1, b1⟩ := kx Xn h' hpost hnew hN'.2 t.heap (locs ++ L) ls x cell T' hP1 hS1 hN1 hls hln hx (by rw [← hX, ← e2, X'.warmed.alike.findClass]) hst e1 X'
    exact ⟨t2, hthr x ho t2 a1, b1⟩
end ZE
end
section
/-! facts of fields, classes made, methods, call sites; by the same program -/
theorem n_M : ∀ a, a < 3 → ∀ b, b < 3 → a ≠ b → (F_M a).2.1 ≠ (F_M b).2.1 := by decide +kernel
theorem ft_M_ok : ∀ k, k < 3 → parseFieldDescriptor (F_M k).2.2.1 = some (ft_M k) := by decide +kernel
theorem i_M : ∀ w ∈ u_ws R_M F_M 3, w ∈ zz_g := by decide +kernel
theorem n_S : ∀ a, a < 4 → ∀ b, b < 4 → a ≠ b → (F_S a).2.1 ≠ (F_S b).2.1 := by decide +kernel
theorem ft_S_ok : ∀ k, k < 4 → parseFieldDescriptor (F_S k).2.2.1 = some (ft_S k) := by decide +kernel
theorem i_S : ∀ w ∈ u_ws R_S F_S 4, w ∈ zz_g := by decide +kernel
theorem n_T : ∀ a, a < 3 → ∀ b, b < 3 → a ≠ b → (F_T a).2.1 ≠ (F_T b).2.1 := by decide +kernel
theorem ft_T_ok : ∀ k, k < 3 → parseFieldDescriptor (F_T k).2.2.1 = some (ft_T k) := by decide +kernel
theorem i_T : ∀ w ∈ u_ws R_T F_T 3, w ∈ zz_g := by decide +kernel
theorem n_O : ∀ a, a < 10 → ∀ b, b < 10 → a ≠ b → (F_O a).2.1 ≠ (F_O b).2.1 := by decide +kernel
theorem ft_O_ok : ∀ k, k < 10 → parseFieldDescriptor (F_O k).2.2.1 = some (ft_O k) := by decide +kernel
theorem i_O : ∀ w ∈ u_ws R_O F_O 10, w ∈ zz_g := by decide +kernel
theorem cl_L_8 : Cond.classLink "OverlayTreeLaw" 8 "OverlayTree" ∈ zz_g := zz_in 13 (by decide +kernel) rfl
theorem nd_L_8 : zz_Nd "OverlayTreeLaw" 8 2 3 [.null, .int 0, .null] := ⟨R_T, F_T, ft_T, rfl, i_T, ft_T_ok, cl_L_8, zz_in 14 (by decide +kernel) rfl, zz_in 1 (by decide +kernel) rfl, by decide +kernel⟩
theorem cl_T_9 : Cond.classLink "OverlayTree" 9 "OverlayTree$Mark" ∈ zz_g := zz_in 21 (by decide +kernel) rfl
theorem nd_T_9 : zz_Nd "OverlayTree" 9 0 3 [.int 0, .int 0, .null] := ⟨R_M, F_M, ft_M, rfl, i_M, ft_M_ok, cl_T_9, zz_in 23 (by decide +kernel) rfl, zz_in 2 (by decide +kernel) rfl, by decide +kernel⟩
theorem fd_M_9 : zz_Fd "OverlayTree$Mark" 9 0 0 (.int) false := ⟨R_M, F_M, 3, ft_M, rfl, i_M, by decide, zz_in 28 (by decide +kernel) rfl, ft_M_ok, n_M, by decide +kernel, rfl, fun _ => rfl⟩
theorem fd_S_36 : zz_Fd "OverlayTree$Sight" 36 0 0 (.int) false := ⟨R_M, F_M, 3, ft_M, rfl, i_M, by decide, zz_in 29 (by decide +kernel) rfl, ft_M_ok, n_M, by decide +kernel, rfl, fun h => by cases h⟩
theorem fd_T_111 : zz_Fd "OverlayTree" 111 0 0 (.int) false := ⟨R_M, F_M, 3, ft_M, rfl, i_M, by decide, zz_in 30 (by decide +kernel) rfl, ft_M_ok, n_M, by decide +kernel, rfl, fun h => by cases h⟩
theorem fd_M_15 : zz_Fd "OverlayTree$Mark" 15 0 1 (.int) false := ⟨R_M, F_M, 3, ft_M, rfl, i_M, by decide, zz_in 31 (by decide +kernel) rfl, ft_M_ok, n_M, by decide +kernel, rfl, fun _ => rfl⟩
theorem fd_S_40 : zz_Fd "OverlayTree$Sight" 40 0 1 (.int) false := ⟨R_M, F_M, 3, ft_M, rfl, i_M, by decide, zz_in 32 (by decide +kernel) rfl, ft_M_ok, n_M, by decide +kernel, rfl, fun h => by cases h⟩
theorem fd_T_154 : zz_Fd "OverlayTree" 154 0 1 (.int) false := ⟨R_M, F_M, 3, ft_M, rfl, i_M, by decide, zz_in 33 (by decide +kernel) rfl, ft_M_ok, n_M, by decide +kernel, rfl, fun h => by cases h⟩
theorem fd_M_18 : zz_Fd "OverlayTree$Mark" 18 0 2 (.array (.object "OverlayTree$Mark")) false := ⟨R_M, F_M, 3, ft_M, rfl, i_M, by decide, zz_in 34 (by decide +kernel) rfl, ft_M_ok, n_M, by decide +kernel, rfl, fun _ => rfl⟩
theorem cl_T_22 : Cond.classLink "OverlayTree" 22 "OverlayTree$Sight" ∈ zz_g := zz_in 42 (by decide +kernel) rfl
theorem nd_T_22 : zz_Nd "OverlayTree" 22 1 4 [.null, .null, .null, .null] := ⟨R_S, F_S, ft_S, rfl, i_S, ft_S_ok, cl_T_22, zz_in 44 (by decide +kernel) rfl, zz_in 3 (by decide +kernel) rfl, by decide +kernel⟩
theorem cl_S_18 : Cond.classLink "OverlayTree$Sight" 18 "OverlayTree$Mark" ∈ zz_g := zz_in 49 (by decide +kernel) rfl
theorem nd_S_18 : zz_Nd "OverlayTree$Sight" 18 0 3 [.int 0, .int 0, .null] := ⟨R_M, F_M, ft_M, rfl, i_M, ft_M_ok, cl_S_18, zz_in 23 (by decide +kernel) rfl, zz_in 2 (by decide +kernel) rfl, by decide +kernel⟩
theorem fd_S_9 : zz_Fd "OverlayTree$Sight" 9 1 0 (.array (.int)) true := ⟨R_S, F_S, 4, ft_S, rfl, i_S, by decide, zz_in 50 (by decide +kernel) rfl, ft_S_ok, n_S, by decide +kernel, rfl, fun _ => rfl⟩
theorem fd_S_15 : zz_Fd "OverlayTree$Sight" 15 1 1 (.array (.int)) true := ⟨R_S, F_S, 4, ft_S, rfl, i_S, by decide, zz_in 51 (by decide +kernel) rfl, ft_S_ok, n_S, by decide +kernel, rfl, fun _ => rfl⟩
theorem fd_S_20 : zz_Fd "OverlayTree$Sight" 20 1 2 (.array (.object "OverlayTree$Mark")) true := ⟨R_S, F_S, 4, ft_S, rfl, i_S, by decide, zz_in 52 (by decide +kernel) rfl, ft_S_ok, n_S, by decide +kernel, rfl, fun _ => rfl⟩
theorem fd_S_24 : zz_Fd "OverlayTree$Sight" 24 1 3 (.array (.boolean)) true := ⟨R_S, F_S, 4, ft_S, rfl, i_S, by decide, zz_in 53 (by decide +kernel) rfl, ft_S_ok, n_S, by decide +kernel, rfl, fun _ => rfl⟩
theorem fd_T_11 : zz_Fd "OverlayTree" 11 2 0 (.array (.object "OverlayTree$Mark")) true := ⟨R_T, F_T, 3, ft_T, rfl, i_T, by decide, zz_in 65 (by decide +kernel) rfl, ft_T_ok, n_T, by decide +kernel, rfl, fun _ => rfl⟩
theorem fd_T_18 : zz_Fd "OverlayTree" 18 2 1 (.int) false := ⟨R_T, F_T, 3, ft_T, rfl, i_T, by decide, zz_in 66 (by decide +kernel) rfl, ft_T_ok, n_T, by decide +kernel, rfl, fun _ => rfl⟩
theorem fd_T_24 : zz_Fd "OverlayTree" 24 2 2 (.array (.object "OverlayTree$Sight")) true := ⟨R_T, F_T, 3, ft_T, rfl, i_T, by decide, zz_in 67 (by decide +kernel) rfl, ft_T_ok, n_T, by decide +kernel, rfl, fun _ => rfl⟩
theorem cl_L_13 : Cond.classLink "OverlayTreeLaw" 13 "java/lang/IllegalArgumentException" ∈ zz_g := zz_in 78 (by decide +kernel) rfl
theorem cl_L_15 : Cond.classLink "OverlayTreeLaw" 15 "java/lang/IllegalStateException" ∈ zz_g := zz_in 79 (by decide +kernel) rfl
theorem cl_T_122 : Cond.classLink "OverlayTree" 122 "java/lang/IllegalArgumentException" ∈ zz_g := zz_in 90 (by decide +kernel) rfl
theorem cl_T_51 : Cond.classLink "OverlayTree" 51 "java/lang/IllegalStateException" ∈ zz_g := zz_in 195 (by decide +kernel) rfl
theorem cl_M_10 : Cond.classLink "OverlayTree$Mark" 10 "OverlayTree$Mark" ∈ zz_g := zz_in 221 (by decide +kernel) rfl
theorem nd_M_10 : zz_Nd "OverlayTree$Mark" 10 0 3 [.int 0, .int 0, .null] := ⟨R_M, F_M, ft_M, rfl, i_M, ft_M_ok, cl_M_10, zz_in 23 (by decide +kernel) rfl, zz_in 2 (by decide +kernel) rfl, by decide +kernel⟩
theorem cl_L_25 : Cond.classLink "OverlayTreeLaw" 25 "java/util/NoSuchElementException" ∈ zz_g := zz_in 238 (by decide +kernel) rfl
theorem cl_T_58 : Cond.classLink "OverlayTree" 58 "java/util/NoSuchElementException" ∈ zz_g := zz_in 243 (by decide +kernel) rfl
theorem cl_L_35 : Cond.classLink "OverlayTreeLaw" 35 "java/lang/UnsupportedOperationException" ∈ zz_g := zz_in 295 (by decide +kernel) rfl
theorem cl_T_76 : Cond.classLink "OverlayTree" 76 "java/lang/UnsupportedOperationException" ∈ zz_g := zz_in 300 (by decide +kernel) rfl
theorem cl_L_40 : Cond.classLink "OverlayTreeLaw" 40 "java/lang/IndexOutOfBoundsException" ∈ zz_g := zz_in 319 (by decide +kernel) rfl
theorem cl_T_81 : Cond.classLink "OverlayTree" 81 "java/lang/IndexOutOfBoundsException" ∈ zz_g := zz_in 324 (by decide +kernel) rfl
theorem cl_L_62 : Cond.classLink "OverlayTreeLaw" 62 "OverlayTreeModel" ∈ zz_g := zz_in 408 (by decide +kernel) rfl
theorem nd_L_62 : zz_Nd "OverlayTreeLaw" 62 3 10 [.int 0, .int 0, .null, .null, .null, .null, .null, .int 0, .null, .null] := ⟨R_O, F_O, ft_O, rfl, i_O, ft_O_ok, cl_L_62, zz_in 409 (by decide +kernel) rfl, zz_in 4 (by decide +kernel) rfl, by decide +kernel⟩
theorem fd_O_48 : zz_Fd "OverlayTreeModel" 48 3 0 (.int) false := ⟨R_O, F_O, 10, ft_O, rfl, i_O, by decide, zz_in 424 (by decide +kernel) rfl, ft_O_ok, n_O, by decide +kernel, rfl, fun _ => rfl⟩
theorem fd_O_7 : zz_Fd "OverlayTreeModel" 7 3 1 (.int) false := ⟨R_O, F_O, 10, ft_O, rfl, i_O, by decide, zz_in 425 (by decide +kernel) rfl, ft_O_ok, n_O, by decide +kernel, rfl, fun _ => rfl⟩
theorem fd_O_14 : zz_Fd "OverlayTreeModel" 14 3 2 (.array (.int)) true := ⟨R_O, F_O, 10, ft_O, rfl, i_O, by decide, zz_in 426 (by decide +kernel) rfl, ft_O_ok, n_O, by decide +kernel, rfl, fun _ => rfl⟩
theorem fd_O_18 : zz_Fd "OverlayTreeModel" 18 3 3 (.array (.int)) true := ⟨R_O, F_O, 10, ft_O, rfl, i_O, by decide, zz_in 427 (by decide +kernel) rfl, ft_O_ok, n_O, by decide +kernel, rfl, fun _ => rfl⟩
theorem fd_O_21 : zz_Fd "OverlayTreeModel" 21 3 4 (.array (.int)) true := ⟨R_O, F_O, 10, ft_O, rfl, i_O, by decide, zz_in 428 (by decide +kernel) rfl, ft_O_ok, n_O, by decide +kernel, rfl, fun _ => rfl⟩
theorem fd_O_24 : zz_Fd "OverlayTreeModel" 24 3 5 (.array (.int)) true := ⟨R_O, F_O, 10, ft_O, rfl, i_O, by decide, zz_in 429 (by decide +kernel) rfl, ft_O_ok, n_O, by decide +kernel, rfl, fun _ => rfl⟩
theorem fd_O_27 : zz_Fd "OverlayTreeModel" 27 3 6 (.array (.boolean)) true := ⟨R_O, F_O, 10, ft_O, rfl, i_O, by decide, zz_in 430 (by decide +kernel) rfl, ft_O_ok, n_O, by decide +kernel, rfl, fun _ => rfl⟩
theorem fd_O_41 : zz_Fd "OverlayTreeModel" 41 3 7 (.int) false := ⟨R_O, F_O, 10, ft_O, rfl, i_O, by decide, zz_in 431 (by decide +kernel) rfl, ft_O_ok, n_O, by decide +kernel, rfl, fun _ => rfl⟩
theorem fd_O_31 : zz_Fd "OverlayTreeModel" 31 3 8 (.array (.int)) true := ⟨R_O, F_O, 10, ft_O, rfl, i_O, by decide, zz_in 432 (by decide +kernel) rfl, ft_O_ok, n_O, by decide +kernel, rfl, fun _ => rfl⟩
theorem fd_O_34 : zz_Fd "OverlayTreeModel" 34 3 9 (.array (.int)) true := ⟨R_O, F_O, 10, ft_O, rfl, i_O, by decide, zz_in 433 (by decide +kernel) rfl, ft_O_ok, n_O, by decide +kernel, rfl, fun _ => rfl⟩
set_option maxRecDepth 20000 in
theorem md_T_init : zz_md y_T_init b_T_init 2 none [] 0 := ⟨⟨_, zz_in 17 rfl rfl, zz_cd_code _ _ _ _⟩, zz_in 1 (by decide +kernel) rfl, by decide +kernel, by decide +kernel, by decide +kernel⟩
set_option maxRecDepth 20000 in
theorem cw_T_init : Cond.code y_T_init b_T_init 2 none ∈ zz_g := zz_in 17 rfl rfl
set_option maxRecDepth 20000 in
theorem md_M_init : zz_md y_M_init b_M_init 3 none [] 2 := ⟨⟨_, zz_in 26 rfl rfl, zz_cd_code _ _ _ _⟩, zz_in 2 (by decide +kernel) rfl, by decide +kernel, by decide +kernel, by decide +kernel⟩
set_option maxRecDepth 20000 in
theorem cw_M_init : Cond.code y_M_init b_M_init 3 none ∈ zz_g := zz_in 26 rfl rfl
set_option maxRecDepth 20000 in
theorem md_S_init : zz_md y_S_init b_S_init 1 none [] 0 := ⟨⟨_, zz_in 47 rfl rfl, zz_cd_code _ _ _ _⟩, zz_in 3 (by decide +kernel) rfl, by decide +kernel, by decide +kernel, by decide +kernel⟩
set_option maxRecDepth 20000 in
theorem cw_S_init : Cond.code y_S_init b_S_init 1 none ∈ zz_g := zz_in 47 rfl rfl
set_option maxRecDepth 20000 in
theorem md_L_write : zz_md y_L_write b_L_write 5 (some (.int)) [(0, 17, 20, 13), (0, 17, 24, 15)] 4 := ⟨⟨_, zz_in 77 rfl rfl, zz_cd_with _ _ _ _ _⟩, zz_in 0 (by decide +kernel) rfl, by decide +kernel, by decide +kernel, by decide +kernel⟩
set_option maxRecDepth 20000 in
theorem md_T_write : zz_md y_T_write b_T_write 4 (some (.boolean)) [] 2 := ⟨⟨_, zz_in 83 rfl rfl, zz_cd_code _ _ _ _⟩, zz_in 1 (by decide +kernel) rfl, by decide +kernel, by decide +kernel, by decide +kernel⟩
set_option maxRecDepth 20000 in
theorem md_T_checkBelowRoot : zz_md y_T_checkBelowRoot b_T_checkBelowRoot 1 none [] 1 := ⟨⟨_, zz_in 86 rfl rfl, zz_cd_code _ _ _ _⟩, zz_in 1 (by decide +kernel) rfl, by decide +kernel, by decide +kernel, by decide +kernel⟩
set_option maxRecDepth 20000 in
theorem md_T_isPath : zz_md y_T_isPath b_T_isPath 2 (some (.boolean)) [] 1 := ⟨⟨_, zz_in 89 rfl rfl, zz_cd_code _ _ _ _⟩, zz_in 1 (by decide +kernel) rfl, by decide +kernel, by decide +kernel, by decide +kernel⟩
set_option maxRecDepth 20000 in
theorem md_T_checkWritable : zz_md y_T_checkWritable b_T_checkWritable 2 none [] 1 := ⟨⟨_, zz_in 163 rfl rfl, zz_cd_code _ _ _ _⟩, zz_in 1 (by decide +kernel) rfl, by decide +kernel, by decide +kernel, by decide +kernel⟩
set_option maxRecDepth 20000 in
theorem md_T_checkParent : zz_md y_T_checkParent b_T_checkParent 2 none [] 1 := ⟨⟨_, zz_in 167 rfl rfl, zz_cd_code _ _ _ _⟩, zz_in 1 (by decide +kernel) rfl, by decide +kernel, by decide +kernel, by decide +kernel⟩
set_option maxRecDepth 20000 in
theorem md_T_parentOf : zz_md y_T_parentOf b_T_parentOf 1 (some (.int)) [] 1 := ⟨⟨_, zz_in 170 rfl rfl, zz_cd_code _ _ _ _⟩, zz_in 1 (by decide +kernel) rfl, by decide +kernel, by decide +kernel, by decide +kernel⟩
set_option maxRecDepth 20000 in
theorem md_T_look : zz_md y_T_look b_T_look 6 (some (.object "OverlayTree$Sight")) [] 2 := ⟨⟨_, zz_in 174 rfl rfl, zz_cd_code _ _ _ _⟩, zz_in 1 (by decide +kernel) rfl, by decide +kernel, by decide +kernel, by decide +kernel⟩
set_option maxRecDepth 20000 in
theorem md_S_seeRoot : zz_md y_S_seeRoot b_S_seeRoot 4 none [] 2 := ⟨⟨_, zz_in 178 rfl rfl, zz_cd_code _ _ _ _⟩, zz_in 3 (by decide +kernel) rfl, by decide +kernel, by decide +kernel, by decide +kernel⟩
set_option maxRecDepth 20000 in
theorem md_S_see : zz_md y_S_see b_S_see 6 none [] 3 := ⟨⟨_, zz_in 182 rfl rfl, zz_cd_code _ _ _ _⟩, zz_in 3 (by decide +kernel) rfl, by decide +kernel, by decide +kernel, by decide +kernel⟩
set_option maxRecDepth 20000 in
theorem md_M_at : zz_md y_M_at b_M_at 2 (some (.object "OverlayTree$Mark")) [] 1 := ⟨⟨_, zz_in 186 rfl rfl, zz_cd_code _ _ _ _⟩, zz_in 2 (by decide +kernel) rfl, by decide +kernel, by decide +kernel, by decide +kernel⟩
set_option maxRecDepth 20000 in
theorem md_S_addLayer : zz_md y_S_addLayer b_S_addLayer 4 none [] 2 := ⟨⟨_, zz_in 190 rfl rfl, zz_cd_code _ _ _ _⟩, zz_in 3 (by decide +kernel) rfl, by decide +kernel, by decide +kernel, by decide +kernel⟩
set_option maxRecDepth 20000 in
theorem md_S_kindIn : zz_md y_S_kindIn b_S_kindIn 2 (some (.int)) [] 1 := ⟨⟨_, zz_in 194 rfl rfl, zz_cd_code _ _ _ _⟩, zz_in 3 (by decide +kernel) rfl, by decide +kernel, by decide +kernel, by decide +kernel⟩
set_option maxRecDepth 20000 in
theorem md_T_setMark : zz_md y_T_setMark b_T_setMark 7 none [] 3 := ⟨⟨_, zz_in 215 rfl rfl, zz_cd_code _ _ _ _⟩, zz_in 1 (by decide +kernel) rfl, by decide +kernel, by decide +kernel, by decide +kernel⟩
set_option maxRecDepth 20000 in
theorem md_M_atOrNew : zz_md y_M_atOrNew b_M_atOrNew 3 (some (.object "OverlayTree$Mark")) [] 1 := ⟨⟨_, zz_in 219 rfl rfl, zz_cd_code _ _ _ _⟩, zz_in 2 (by decide +kernel) rfl, by decide +kernel, by decide +kernel, by decide +kernel⟩
set_option maxRecDepth 20000 in
theorem md_M_hang : zz_md y_M_hang b_M_hang 3 none [] 2 := ⟨⟨_, zz_in 226 rfl rfl, zz_cd_code _ _ _ _⟩, zz_in 2 (by decide +kernel) rfl, by decide +kernel, by decide +kernel, by decide +kernel⟩
set_option maxRecDepth 20000 in
theorem md_L_make : zz_md y_L_make b_L_make 3 (some (.int)) [(0, 5, 8, 13), (0, 5, 11, 15)] 2 := ⟨⟨_, zz_in 229 rfl rfl, zz_cd_with _ _ _ _ _⟩, zz_in 0 (by decide +kernel) rfl, by decide +kernel, by decide +kernel, by decide +kernel⟩
set_option maxRecDepth 20000 in
theorem md_T_make : zz_md y_T_make b_T_make 3 none [] 1 := ⟨⟨_, zz_in 233 rfl rfl, zz_cd_code _ _ _ _⟩, zz_in 1 (by decide +kernel) rfl, by decide +kernel, by decide +kernel, by decide +kernel⟩
set_option maxRecDepth 20000 in
theorem md_L_remove : zz_md y_L_remove b_L_remove 4 (some (.int)) [(0, 9, 12, 13), (0, 9, 15, 25)] 3 := ⟨⟨_, zz_in 237 rfl rfl, zz_cd_with _ _ _ _ _⟩, zz_in 0 (by decide +kernel) rfl, by decide +kernel, by decide +kernel, by decide +kernel⟩
set_option maxRecDepth 20000 in
theorem md_T_remove : zz_md y_T_remove b_T_remove 3 (some (.int)) [] 1 := ⟨⟨_, zz_in 242 rfl rfl, zz_cd_code _ _ _ _⟩, zz_in 1 (by decide +kernel) rfl, by decide +kernel, by decide +kernel, by decide +kernel⟩
set_option maxRecDepth 20000 in
theorem md_T_depthOf : zz_md y_T_depthOf b_T_depthOf 3 (some (.int)) [] 1 := ⟨⟨_, zz_in 261 rfl rfl, zz_cd_code _ _ _ _⟩, zz_in 1 (by decide +kernel) rfl, by decide +kernel, by decide +kernel, by decide +kernel⟩
set_option maxRecDepth 20000 in
theorem md_T_countSeen : zz_md y_T_countSeen b_T_countSeen 4 (some (.int)) [] 1 := ⟨⟨_, zz_in 265 rfl rfl, zz_cd_code _ _ _ _⟩, zz_in 1 (by decide +kernel) rfl, by decide +kernel, by decide +kernel, by decide +kernel⟩
set_option maxRecDepth 20000 in
theorem md_T_takeAway : zz_md y_T_takeAway b_T_takeAway 2 none [] 1 := ⟨⟨_, zz_in 269 rfl rfl, zz_cd_code _ _ _ _⟩, zz_in 1 (by decide +kernel) rfl, by decide +kernel, by decide +kernel, by decide +kernel⟩
set_option maxRecDepth 20000 in
theorem md_T_clearMarks : zz_md y_T_clearMarks b_T_clearMarks 5 none [] 1 := ⟨⟨_, zz_in 273 rfl rfl, zz_cd_code _ _ _ _⟩, zz_in 1 (by decide +kernel) rfl, by decide +kernel, by decide +kernel, by decide +kernel⟩
set_option maxRecDepth 20000 in
theorem md_L_move : zz_md y_L_move b_L_move 4 (some (.int)) [(0, 6, 9, 13), (0, 6, 12, 25), (0, 6, 15, 15)] 3 := ⟨⟨_, zz_in 278 rfl rfl, zz_cd_with _ _ _ _ _⟩, zz_in 0 (by decide +kernel) rfl, by decide +kernel, by decide +kernel, by decide +kernel⟩
set_option maxRecDepth 20000 in
theorem md_T_move : zz_md y_T_move b_T_move 4 none [] 2 := ⟨⟨_, zz_in 282 rfl rfl, zz_cd_code _ _ _ _⟩, zz_in 1 (by decide +kernel) rfl, by decide +kernel, by decide +kernel, by decide +kernel⟩
set_option maxRecDepth 20000 in
theorem md_T_fileValue : zz_md y_T_fileValue b_T_fileValue 4 (some (.int)) [] 2 := ⟨⟨_, zz_in 286 rfl rfl, zz_cd_code _ _ _ _⟩, zz_in 1 (by decide +kernel) rfl, by decide +kernel, by decide +kernel, by decide +kernel⟩
set_option maxRecDepth 20000 in
theorem md_S_valueIn : zz_md y_S_valueIn b_S_valueIn 2 (some (.int)) [] 1 := ⟨⟨_, zz_in 291 rfl rfl, zz_cd_code _ _ _ _⟩, zz_in 3 (by decide +kernel) rfl, by decide +kernel, by decide +kernel, by decide +kernel⟩
set_option maxRecDepth 20000 in
theorem md_L_layer : zz_md y_L_layer b_L_layer 3 (some (.int)) [(0, 8, 11, 35)] 2 := ⟨⟨_, zz_in 294 rfl rfl, zz_cd_with _ _ _ _ _⟩, zz_in 0 (by decide +kernel) rfl, by decide +kernel, by decide +kernel, by decide +kernel⟩
set_option maxRecDepth 20000 in
theorem md_T_layer : zz_md y_T_layer b_T_layer 1 (some (.int)) [] 0 := ⟨⟨_, zz_in 299 rfl rfl, zz_cd_code _ _ _ _⟩, zz_in 1 (by decide +kernel) rfl, by decide +kernel, by decide +kernel, by decide +kernel⟩
set_option maxRecDepth 20000 in
theorem md_L_squash : zz_md y_L_squash b_L_squash 4 (some (.int)) [(0, 9, 12, 40)] 3 := ⟨⟨_, zz_in 318 rfl rfl, zz_cd_with _ _ _ _ _⟩, zz_in 0 (by decide +kernel) rfl, by decide +kernel, by decide +kernel, by decide +kernel⟩
set_option maxRecDepth 20000 in
theorem md_T_squash : zz_md y_T_squash b_T_squash 3 (some (.int)) [] 1 := ⟨⟨_, zz_in 323 rfl rfl, zz_cd_code _ _ _ _⟩, zz_in 1 (by decide +kernel) rfl, by decide +kernel, by decide +kernel, by decide +kernel⟩
set_option maxRecDepth 20000 in
theorem md_T_layOver : zz_md y_T_layOver b_T_layOver 8 none [] 4 := ⟨⟨_, zz_in 342 rfl rfl, zz_cd_code _ _ _ _⟩, zz_in 1 (by decide +kernel) rfl, by decide +kernel, by decide +kernel, by decide +kernel⟩
set_option maxRecDepth 20000 in
theorem md_T_loseTop : zz_md y_T_loseTop b_T_loseTop 1 (some (.int)) [] 0 := ⟨⟨_, zz_in 346 rfl rfl, zz_cd_code _ _ _ _⟩, zz_in 1 (by decide +kernel) rfl, by decide +kernel, by decide +kernel, by decide +kernel⟩
set_option maxRecDepth 20000 in
theorem md_L_drop : zz_md y_L_drop b_L_drop 3 (some (.int)) [(0, 8, 11, 35)] 2 := ⟨⟨_, zz_in 349 rfl rfl, zz_cd_with _ _ _ _ _⟩, zz_in 0 (by decide +kernel) rfl, by decide +kernel, by decide +kernel, by decide +kernel⟩
set_option maxRecDepth 20000 in
theorem md_T_drop : zz_md y_T_drop b_T_drop 1 (some (.int)) [] 0 := ⟨⟨_, zz_in 353 rfl rfl, zz_cd_code _ _ _ _⟩, zz_in 1 (by decide +kernel) rfl, by decide +kernel, by decide +kernel, by decide +kernel⟩
set_option maxRecDepth 20000 in
theorem md_L_kind : zz_md y_L_kind b_L_kind 5 (some (.int)) [(0, 10, 13, 13)] 4 := ⟨⟨_, zz_in 357 rfl rfl, zz_cd_with _ _ _ _ _⟩, zz_in 0 (by decide +kernel) rfl, by decide +kernel, by decide +kernel, by decide +kernel⟩
set_option maxRecDepth 20000 in
theorem md_T_kind : zz_md y_T_kind b_T_kind 3 (some (.int)) [] 2 := ⟨⟨_, zz_in 361 rfl rfl, zz_cd_code _ _ _ _⟩, zz_in 1 (by decide +kernel) rfl, by decide +kernel, by decide +kernel, by decide +kernel⟩
set_option maxRecDepth 20000 in
theorem md_T_checkView : zz_md y_T_checkView b_T_checkView 3 none [] 2 := ⟨⟨_, zz_in 365 rfl rfl, zz_cd_code _ _ _ _⟩, zz_in 1 (by decide +kernel) rfl, by decide +kernel, by decide +kernel, by decide +kernel⟩
set_option maxRecDepth 20000 in
theorem md_L_value : zz_md y_L_value b_L_value 5 (some (.int)) [(0, 10, 13, 13), (0, 10, 17, 25)] 4 := ⟨⟨_, zz_in 369 rfl rfl, zz_cd_with _ _ _ _ _⟩, zz_in 0 (by decide +kernel) rfl, by decide +kernel, by decide +kernel, by decide +kernel⟩
set_option maxRecDepth 20000 in
theorem md_T_value : zz_md y_T_value b_T_value 3 (some (.int)) [] 2 := ⟨⟨_, zz_in 373 rfl rfl, zz_cd_code _ _ _ _⟩, zz_in 1 (by decide +kernel) rfl, by decide +kernel, by decide +kernel, by decide +kernel⟩
set_option maxRecDepth 20000 in
theorem md_L_names : zz_md y_L_names b_L_names 5 (some (.int)) [(0, 10, 13, 13), (0, 10, 17, 25)] 4 := ⟨⟨_, zz_in 376 rfl rfl, zz_cd_with _ _ _ _ _⟩, zz_in 0 (by decide +kernel) rfl, by decide +kernel, by decide +kernel, by decide +kernel⟩
set_option maxRecDepth 20000 in
theorem md_T_names : zz_md y_T_names b_T_names 3 (some (.int)) [] 2 := ⟨⟨_, zz_in 380 rfl rfl, zz_cd_code _ _ _ _⟩, zz_in 1 (by decide +kernel) rfl, by decide +kernel, by decide +kernel, by decide +kernel⟩
set_option maxRecDepth 20000 in
theorem md_T_namesSeen : zz_md y_T_namesSeen b_T_namesSeen 5 (some (.int)) [] 2 := ⟨⟨_, zz_in 385 rfl rfl, zz_cd_code _ _ _ _⟩, zz_in 1 (by decide +kernel) rfl, by decide +kernel, by decide +kernel, by decide +kernel⟩
set_option maxRecDepth 20000 in
theorem md_L_mark : zz_md y_L_mark b_L_mark 5 (some (.int)) [(0, 10, 13, 40), (0, 10, 17, 13)] 4 := ⟨⟨_, zz_in 388 rfl rfl, zz_cd_with _ _ _ _ _⟩, zz_in 0 (by decide +kernel) rfl, by decide +kernel, by decide +kernel, by decide +kernel⟩
set_option maxRecDepth 20000 in
theorem md_T_mark : zz_md y_T_mark b_T_mark 5 (some (.int)) [] 2 := ⟨⟨_, zz_in 392 rfl rfl, zz_cd_code _ _ _ _⟩, zz_in 1 (by decide +kernel) rfl, by decide +kernel, by decide +kernel, by decide +kernel⟩
set_option maxRecDepth 20000 in
theorem md_T_checkLayer : zz_md y_T_checkLayer b_T_checkLayer 2 none [] 1 := ⟨⟨_, zz_in 396 rfl rfl, zz_cd_code _ _ _ _⟩, zz_in 1 (by decide +kernel) rfl, by decide +kernel, by decide +kernel, by decide +kernel⟩
set_option maxRecDepth 20000 in
theorem md_L_marks : zz_md y_L_marks b_L_marks 4 (some (.int)) [(0, 9, 12, 40)] 3 := ⟨⟨_, zz_in 400 rfl rfl, zz_cd_with _ _ _ _ _⟩, zz_in 0 (by decide +kernel) rfl, by decide +kernel, by decide +kernel, by decide +kernel⟩
set_option maxRecDepth 20000 in
theorem md_T_marks : zz_md y_T_marks b_T_marks 2 (some (.int)) [] 1 := ⟨⟨_, zz_in 404 rfl rfl, zz_cd_code _ _ _ _⟩, zz_in 1 (by decide +kernel) rfl, by decide +kernel, by decide +kernel, by decide +kernel⟩
set_option maxRecDepth 20000 in
theorem md_T_countMarks : zz_md y_T_countMarks b_T_countMarks 5 (some (.int)) [] 2 := ⟨⟨_, zz_in 407 rfl rfl, zz_cd_code _ _ _ _⟩, zz_in 1 (by decide +kernel) rfl, by decide +kernel, by decide +kernel, by decide +kernel⟩
set_option maxRecDepth 20000 in
theorem md_O_init : zz_md y_O_init b_O_init 2 none [] 0 := ⟨⟨_, zz_in 412 rfl rfl, zz_cd_code _ _ _ _⟩, zz_in 4 (by decide +kernel) rfl, by decide +kernel, by decide +kernel, by decide +kernel⟩
set_option maxRecDepth 20000 in
theorem cw_O_init : Cond.code y_O_init b_O_init 2 none ∈ zz_g := zz_in 412 rfl rfl
set_option maxRecDepth 20000 in
theorem md_O_isPath : zz_md y_O_isPath b_O_isPath 3 (some (.boolean)) [] 1 := ⟨⟨_, zz_in 417 rfl rfl, zz_cd_code _ _ _ _⟩, zz_in 4 (by decide +kernel) rfl, by decide +kernel, by decide +kernel, by decide +kernel⟩
set_option maxRecDepth 20000 in
theorem md_O_in : zz_md y_O_in b_O_in 3 (some (.boolean)) [] 3 := ⟨⟨_, zz_in 420 rfl rfl, zz_cd_code _ _ _ _⟩, zz_in 4 (by decide +kernel) rfl, by decide +kernel, by decide +kernel, by decide +kernel⟩
set_option maxRecDepth 20000 in
theorem md_O_parentOf : zz_md y_O_parentOf b_O_parentOf 2 (some (.int)) [] 1 := ⟨⟨_, zz_in 423 rfl rfl, zz_cd_code _ _ _ _⟩, zz_in 4 (by decide +kernel) rfl, by decide +kernel, by decide +kernel, by decide +kernel⟩
set_option maxRecDepth 20000 in
theorem md_O_thrown : zz_md y_O_thrown b_O_thrown 1 (some (.int)) [] 0 := ⟨⟨_, zz_in 458 rfl rfl, zz_cd_code _ _ _ _⟩, zz_in 4 (by decide +kernel) rfl, by decide +kernel, by decide +kernel, by decide +kernel⟩
set_option maxRecDepth 20000 in
theorem md_O_write : zz_md y_O_write b_O_write 6 (some (.boolean)) [] 2 := ⟨⟨_, zz_in 462 rfl rfl, zz_cd_code _ _ _ _⟩, zz_in 4 (by decide +kernel) rfl, by decide +kernel, by decide +kernel, by decide +kernel⟩
set_option maxRecDepth 20000 in
theorem md_O_look : zz_md y_O_look b_O_look 3 none [] 1 := ⟨⟨_, zz_in 466 rfl rfl, zz_cd_code _ _ _ _⟩, zz_in 4 (by decide +kernel) rfl, by decide +kernel, by decide +kernel, by decide +kernel⟩
set_option maxRecDepth 20000 in
theorem md_O_cover : zz_md y_O_cover b_O_cover 6 none [] 1 := ⟨⟨_, zz_in 470 rfl rfl, zz_cd_code _ _ _ _⟩, zz_in 4 (by decide +kernel) rfl, by decide +kernel, by decide +kernel, by decide +kernel⟩
set_option maxRecDepth 20000 in
theorem md_O_refuse : zz_md y_O_refuse b_O_refuse 4 (some (.boolean)) [] 3 := ⟨⟨_, zz_in 474 rfl rfl, zz_cd_code _ _ _ _⟩, zz_in 4 (by decide +kernel) rfl, by decide +kernel, by decide +kernel, by decide +kernel⟩
set_option maxRecDepth 20000 in
theorem md_O_put : zz_md y_O_put b_O_put 5 none [] 3 := ⟨⟨_, zz_in 478 rfl rfl, zz_cd_code _ _ _ _⟩, zz_in 4 (by decide +kernel) rfl, by decide +kernel, by decide +kernel, by decide +kernel⟩
set_option maxRecDepth 20000 in
theorem md_O_top : zz_md y_O_top b_O_top 1 (some (.int)) [] 0 := ⟨⟨_, zz_in 482 rfl rfl, zz_cd_code _ _ _ _⟩, zz_in 4 (by decide +kernel) rfl, by decide +kernel, by decide +kernel, by decide +kernel⟩
set_option maxRecDepth 20000 in
theorem md_O_make : zz_md y_O_make b_O_make 4 none [] 1 := ⟨⟨_, zz_in 486 rfl rfl, zz_cd_code _ _ _ _⟩, zz_in 4 (by decide +kernel) rfl, by decide +kernel, by decide +kernel, by decide +kernel⟩
set_option maxRecDepth 20000 in
theorem md_O_remove : zz_md y_O_remove b_O_remove 6 (some (.int)) [] 1 := ⟨⟨_, zz_in 490 rfl rfl, zz_cd_code _ _ _ _⟩, zz_in 4 (by decide +kernel) rfl, by decide +kernel, by decide +kernel, by decide +kernel⟩
set_option maxRecDepth 20000 in
theorem md_O_isBelow : zz_md y_O_isBelow b_O_isBelow 4 (some (.boolean)) [] 2 := ⟨⟨_, zz_in 493 rfl rfl, zz_cd_code _ _ _ _⟩, zz_in 4 (by decide +kernel) rfl, by decide +kernel, by decide +kernel, by decide +kernel⟩
set_option maxRecDepth 20000 in
theorem md_O_takeAway : zz_md y_O_takeAway b_O_takeAway 3 none [] 1 := ⟨⟨_, zz_in 497 rfl rfl, zz_cd_code _ _ _ _⟩, zz_in 4 (by decide +kernel) rfl, by decide +kernel, by decide +kernel, by decide +kernel⟩
set_option maxRecDepth 20000 in
theorem md_O_move : zz_md y_O_move b_O_move 7 none [] 2 := ⟨⟨_, zz_in 501 rfl rfl, zz_cd_code _ _ _ _⟩, zz_in 4 (by decide +kernel) rfl, by decide +kernel, by decide +kernel, by decide +kernel⟩
set_option maxRecDepth 20000 in
theorem md_O_layer : zz_md y_O_layer b_O_layer 2 (some (.int)) [] 0 := ⟨⟨_, zz_in 505 rfl rfl, zz_cd_code _ _ _ _⟩, zz_in 4 (by decide +kernel) rfl, by decide +kernel, by decide +kernel, by decide +kernel⟩
set_option maxRecDepth 20000 in
theorem md_O_drop : zz_md y_O_drop b_O_drop 1 (some (.int)) [] 0 := ⟨⟨_, zz_in 509 rfl rfl, zz_cd_code _ _ _ _⟩, zz_in 4 (by decide +kernel) rfl, by decide +kernel, by decide +kernel, by decide +kernel⟩
set_option maxRecDepth 20000 in
theorem md_O_squash : zz_md y_O_squash b_O_squash 6 (some (.int)) [] 1 := ⟨⟨_, zz_in 513 rfl rfl, zz_cd_code _ _ _ _⟩, zz_in 4 (by decide +kernel) rfl, by decide +kernel, by decide +kernel, by decide +kernel⟩
set_option maxRecDepth 20000 in
theorem md_O_isHidden : zz_md y_O_isHidden b_O_isHidden 6 (some (.boolean)) [] 2 := ⟨⟨_, zz_in 517 rfl rfl, zz_cd_code _ _ _ _⟩, zz_in 4 (by decide +kernel) rfl, by decide +kernel, by decide +kernel, by decide +kernel⟩
set_option maxRecDepth 20000 in
theorem md_O_kind : zz_md y_O_kind b_O_kind 3 (some (.int)) [] 2 := ⟨⟨_, zz_in 521 rfl rfl, zz_cd_code _ _ _ _⟩, zz_in 4 (by decide +kernel) rfl, by decide +kernel, by decide +kernel, by decide +kernel⟩
set_option maxRecDepth 20000 in
theorem md_O_isAsked : zz_md y_O_isAsked b_O_isAsked 3 (some (.boolean)) [] 2 := ⟨⟨_, zz_in 525 rfl rfl, zz_cd_code _ _ _ _⟩, zz_in 4 (by decide +kernel) rfl, by decide +kernel, by decide +kernel, by decide +kernel⟩
set_option maxRecDepth 20000 in
theorem md_O_value : zz_md y_O_value b_O_value 4 (some (.int)) [] 2 := ⟨⟨_, zz_in 529 rfl rfl, zz_cd_code _ _ _ _⟩, zz_in 4 (by decide +kernel) rfl, by decide +kernel, by decide +kernel, by decide +kernel⟩
set_option maxRecDepth 20000 in
theorem md_O_names : zz_md y_O_names b_O_names 7 (some (.int)) [] 2 := ⟨⟨_, zz_in 533 rfl rfl, zz_cd_code _ _ _ _⟩, zz_in 4 (by decide +kernel) rfl, by decide +kernel, by decide +kernel, by decide +kernel⟩
set_option maxRecDepth 20000 in
theorem md_O_mark : zz_md y_O_mark b_O_mark 4 (some (.int)) [] 2 := ⟨⟨_, zz_in 537 rfl rfl, zz_cd_code _ _ _ _⟩, zz_in 4 (by decide +kernel) rfl, by decide +kernel, by decide +kernel, by decide +kernel⟩
set_option maxRecDepth 20000 in
theorem md_O_marks : zz_md y_O_marks b_O_marks 4 (some (.int)) [] 1 := ⟨⟨_, zz_in 541 rfl rfl, zz_cd_code _ _ _ _⟩, zz_in 4 (by decide +kernel) rfl, by decide +kernel, by decide +kernel, by decide +kernel⟩
theorem ml_L_61 : Cond.methodLink "OverlayTreeLaw" 61 y_T_init ∈ zz_g := zz_in 15 (by decide +kernel) rfl
theorem im_T_init : Cond.instanceMethod y_T_init ∈ zz_g := zz_in 16 (by decide +kernel) rfl
theorem ml_T_1 : Cond.methodLink "OverlayTree" 1 Lib.objectInit ∈ zz_g := zz_in 18 (by decide +kernel) rfl
theorem ml_T_15 : Cond.methodLink "OverlayTree" 15 y_M_init ∈ zz_g := zz_in 24 (by decide +kernel) rfl
theorem im_M_init : Cond.instanceMethod y_M_init ∈ zz_g := zz_in 25 (by decide +kernel) rfl
theorem ml_M_3 : Cond.methodLink "OverlayTree$Mark" 3 Lib.objectInit ∈ zz_g := zz_in 27 (by decide +kernel) rfl
theorem ml_T_28 : Cond.methodLink "OverlayTree" 28 y_S_init ∈ zz_g := zz_in 45 (by decide +kernel) rfl
theorem im_S_init : Cond.instanceMethod y_S_init ∈ zz_g := zz_in 46 (by decide +kernel) rfl
theorem ml_S_3 : Cond.methodLink "OverlayTree$Sight" 3 Lib.objectInit ∈ zz_g := zz_in 48 (by decide +kernel) rfl
theorem ml_L_65 : Cond.methodLink "OverlayTreeLaw" 65 y_L_write ∈ zz_g := zz_in 75 (by decide +kernel) rfl
theorem sm_L_write : Cond.static y_L_write ∈ zz_g := zz_in 76 (by decide +kernel) rfl
theorem ml_L_7 : Cond.methodLink "OverlayTreeLaw" 7 y_T_write ∈ zz_g := zz_in 80 (by decide +kernel) rfl
theorem im_T_write : Cond.instanceMethod y_T_write ∈ zz_g := zz_in 81 (by decide +kernel) rfl
theorem se_T_write : Cond.selects "OverlayTree" y_T_write y_T_write ∈ zz_g := zz_in 82 (by decide +kernel) rfl
theorem ml_T_29 : Cond.methodLink "OverlayTree" 29 y_T_checkBelowRoot ∈ zz_g := zz_in 84 (by decide +kernel) rfl
theorem sm_T_checkBelowRoot : Cond.static y_T_checkBelowRoot ∈ zz_g := zz_in 85 (by decide +kernel) rfl
theorem ml_T_118 : Cond.methodLink "OverlayTree" 118 y_T_isPath ∈ zz_g := zz_in 87 (by decide +kernel) rfl
theorem sm_T_isPath : Cond.static y_T_isPath ∈ zz_g := zz_in 88 (by decide +kernel) rfl
theorem ml_T_33 : Cond.methodLink "OverlayTree" 33 y_T_checkWritable ∈ zz_g := zz_in 160 (by decide +kernel) rfl
theorem im_T_checkWritable : Cond.instanceMethod y_T_checkWritable ∈ zz_g := zz_in 162 (by decide +kernel) rfl
theorem ml_T_48 : Cond.methodLink "OverlayTree" 48 y_T_checkParent ∈ zz_g := zz_in 164 (by decide +kernel) rfl
theorem im_T_checkParent : Cond.instanceMethod y_T_checkParent ∈ zz_g := zz_in 166 (by decide +kernel) rfl
theorem ml_T_131 : Cond.methodLink "OverlayTree" 131 y_T_parentOf ∈ zz_g := zz_in 168 (by decide +kernel) rfl
theorem sm_T_parentOf : Cond.static y_T_parentOf ∈ zz_g := zz_in 169 (by decide +kernel) rfl
theorem ml_T_36 : Cond.methodLink "OverlayTree" 36 y_T_look ∈ zz_g := zz_in 171 (by decide +kernel) rfl
theorem im_T_look : Cond.instanceMethod y_T_look ∈ zz_g := zz_in 173 (by decide +kernel) rfl
theorem ml_T_138 : Cond.methodLink "OverlayTree" 138 y_S_seeRoot ∈ zz_g := zz_in 175 (by decide +kernel) rfl
theorem im_S_seeRoot : Cond.instanceMethod y_S_seeRoot ∈ zz_g := zz_in 176 (by decide +kernel) rfl
theorem se_S_seeRoot : Cond.selects "OverlayTree$Sight" y_S_seeRoot y_S_seeRoot ∈ zz_g := zz_in 177 (by decide +kernel) rfl
theorem ml_T_142 : Cond.methodLink "OverlayTree" 142 y_S_see ∈ zz_g := zz_in 179 (by decide +kernel) rfl
theorem im_S_see : Cond.instanceMethod y_S_see ∈ zz_g := zz_in 180 (by decide +kernel) rfl
theorem se_S_see : Cond.selects "OverlayTree$Sight" y_S_see y_S_see ∈ zz_g := zz_in 181 (by decide +kernel) rfl
theorem ml_S_28 : Cond.methodLink "OverlayTree$Sight" 28 y_M_at ∈ zz_g := zz_in 183 (by decide +kernel) rfl
theorem im_M_at : Cond.instanceMethod y_M_at ∈ zz_g := zz_in 184 (by decide +kernel) rfl
theorem se_M_at : Cond.selects "OverlayTree$Mark" y_M_at y_M_at ∈ zz_g := zz_in 185 (by decide +kernel) rfl
theorem ml_S_32 : Cond.methodLink "OverlayTree$Sight" 32 y_S_addLayer ∈ zz_g := zz_in 187 (by decide +kernel) rfl
theorem im_S_addLayer : Cond.instanceMethod y_S_addLayer ∈ zz_g := zz_in 189 (by decide +kernel) rfl
theorem ml_T_40 : Cond.methodLink "OverlayTree" 40 y_S_kindIn ∈ zz_g := zz_in 191 (by decide +kernel) rfl
theorem im_S_kindIn : Cond.instanceMethod y_S_kindIn ∈ zz_g := zz_in 192 (by decide +kernel) rfl
theorem se_S_kindIn : Cond.selects "OverlayTree$Sight" y_S_kindIn y_S_kindIn ∈ zz_g := zz_in 193 (by decide +kernel) rfl
theorem ml_T_44 : Cond.methodLink "OverlayTree" 44 y_T_setMark ∈ zz_g := zz_in 212 (by decide +kernel) rfl
theorem im_T_setMark : Cond.instanceMethod y_T_setMark ∈ zz_g := zz_in 214 (by decide +kernel) rfl
theorem ml_T_151 : Cond.methodLink "OverlayTree" 151 y_M_atOrNew ∈ zz_g := zz_in 216 (by decide +kernel) rfl
theorem im_M_atOrNew : Cond.instanceMethod y_M_atOrNew ∈ zz_g := zz_in 217 (by decide +kernel) rfl
theorem se_M_atOrNew : Cond.selects "OverlayTree$Mark" y_M_atOrNew y_M_atOrNew ∈ zz_g := zz_in 218 (by decide +kernel) rfl
theorem ml_M_22 : Cond.methodLink "OverlayTree$Mark" 22 y_M_at ∈ zz_g := zz_in 220 (by decide +kernel) rfl
theorem ml_M_26 : Cond.methodLink "OverlayTree$Mark" 26 y_M_init ∈ zz_g := zz_in 222 (by decide +kernel) rfl
theorem ml_M_29 : Cond.methodLink "OverlayTree$Mark" 29 y_M_hang ∈ zz_g := zz_in 223 (by decide +kernel) rfl
theorem im_M_hang : Cond.instanceMethod y_M_hang ∈ zz_g := zz_in 224 (by decide +kernel) rfl
theorem se_M_hang : Cond.selects "OverlayTree$Mark" y_M_hang y_M_hang ∈ zz_g := zz_in 225 (by decide +kernel) rfl
theorem ml_L_74 : Cond.methodLink "OverlayTreeLaw" 74 y_L_make ∈ zz_g := zz_in 227 (by decide +kernel) rfl
theorem sm_L_make : Cond.static y_L_make ∈ zz_g := zz_in 228 (by decide +kernel) rfl
theorem ml_L_17 : Cond.methodLink "OverlayTreeLaw" 17 y_T_make ∈ zz_g := zz_in 230 (by decide +kernel) rfl
theorem im_T_make : Cond.instanceMethod y_T_make ∈ zz_g := zz_in 231 (by decide +kernel) rfl
theorem se_T_make : Cond.selects "OverlayTree" y_T_make y_T_make ∈ zz_g := zz_in 232 (by decide +kernel) rfl
theorem ml_L_78 : Cond.methodLink "OverlayTreeLaw" 78 y_L_remove ∈ zz_g := zz_in 235 (by decide +kernel) rfl
theorem sm_L_remove : Cond.static y_L_remove ∈ zz_g := zz_in 236 (by decide +kernel) rfl
theorem ml_L_21 : Cond.methodLink "OverlayTreeLaw" 21 y_T_remove ∈ zz_g := zz_in 239 (by decide +kernel) rfl
theorem im_T_remove : Cond.instanceMethod y_T_remove ∈ zz_g := zz_in 240 (by decide +kernel) rfl
theorem se_T_remove : Cond.selects "OverlayTree" y_T_remove y_T_remove ∈ zz_g := zz_in 241 (by decide +kernel) rfl
theorem ml_T_63 : Cond.methodLink "OverlayTree" 63 y_T_depthOf ∈ zz_g := zz_in 259 (by decide +kernel) rfl
theorem sm_T_depthOf : Cond.static y_T_depthOf ∈ zz_g := zz_in 260 (by decide +kernel) rfl
theorem ml_T_66 : Cond.methodLink "OverlayTree" 66 y_T_countSeen ∈ zz_g := zz_in 262 (by decide +kernel) rfl
theorem im_T_countSeen : Cond.instanceMethod y_T_countSeen ∈ zz_g := zz_in 264 (by decide +kernel) rfl
theorem ml_T_69 : Cond.methodLink "OverlayTree" 69 y_T_takeAway ∈ zz_g := zz_in 266 (by decide +kernel) rfl
theorem im_T_takeAway : Cond.instanceMethod y_T_takeAway ∈ zz_g := zz_in 268 (by decide +kernel) rfl
theorem ml_T_157 : Cond.methodLink "OverlayTree" 157 y_T_clearMarks ∈ zz_g := zz_in 270 (by decide +kernel) rfl
theorem im_T_clearMarks : Cond.instanceMethod y_T_clearMarks ∈ zz_g := zz_in 272 (by decide +kernel) rfl
theorem ml_T_107 : Cond.methodLink "OverlayTree" 107 y_M_at ∈ zz_g := zz_in 274 (by decide +kernel) rfl
theorem ml_T_160 : Cond.methodLink "OverlayTree" 160 y_M_hang ∈ zz_g := zz_in 275 (by decide +kernel) rfl
theorem ml_L_82 : Cond.methodLink "OverlayTreeLaw" 82 y_L_move ∈ zz_g := zz_in 276 (by decide +kernel) rfl
theorem sm_L_move : Cond.static y_L_move ∈ zz_g := zz_in 277 (by decide +kernel) rfl
theorem ml_L_27 : Cond.methodLink "OverlayTreeLaw" 27 y_T_move ∈ zz_g := zz_in 279 (by decide +kernel) rfl
theorem im_T_move : Cond.instanceMethod y_T_move ∈ zz_g := zz_in 280 (by decide +kernel) rfl
theorem se_T_move : Cond.selects "OverlayTree" y_T_move y_T_move ∈ zz_g := zz_in 281 (by decide +kernel) rfl
theorem ml_T_72 : Cond.methodLink "OverlayTree" 72 y_T_fileValue ∈ zz_g := zz_in 283 (by decide +kernel) rfl
theorem im_T_fileValue : Cond.instanceMethod y_T_fileValue ∈ zz_g := zz_in 285 (by decide +kernel) rfl
theorem ml_T_148 : Cond.methodLink "OverlayTree" 148 y_S_valueIn ∈ zz_g := zz_in 288 (by decide +kernel) rfl
theorem im_S_valueIn : Cond.instanceMethod y_S_valueIn ∈ zz_g := zz_in 289 (by decide +kernel) rfl
theorem se_S_valueIn : Cond.selects "OverlayTree$Sight" y_S_valueIn y_S_valueIn ∈ zz_g := zz_in 290 (by decide +kernel) rfl
theorem ml_L_86 : Cond.methodLink "OverlayTreeLaw" 86 y_L_layer ∈ zz_g := zz_in 292 (by decide +kernel) rfl
theorem sm_L_layer : Cond.static y_L_layer ∈ zz_g := zz_in 293 (by decide +kernel) rfl
theorem ml_L_31 : Cond.methodLink "OverlayTreeLaw" 31 y_T_layer ∈ zz_g := zz_in 296 (by decide +kernel) rfl
theorem im_T_layer : Cond.instanceMethod y_T_layer ∈ zz_g := zz_in 297 (by decide +kernel) rfl
theorem se_T_layer : Cond.selects "OverlayTree" y_T_layer y_T_layer ∈ zz_g := zz_in 298 (by decide +kernel) rfl
theorem ml_L_90 : Cond.methodLink "OverlayTreeLaw" 90 y_L_squash ∈ zz_g := zz_in 316 (by decide +kernel) rfl
theorem sm_L_squash : Cond.static y_L_squash ∈ zz_g := zz_in 317 (by decide +kernel) rfl
theorem ml_L_37 : Cond.methodLink "OverlayTreeLaw" 37 y_T_squash ∈ zz_g := zz_in 320 (by decide +kernel) rfl
theorem im_T_squash : Cond.instanceMethod y_T_squash ∈ zz_g := zz_in 321 (by decide +kernel) rfl
theorem se_T_squash : Cond.selects "OverlayTree" y_T_squash y_T_squash ∈ zz_g := zz_in 322 (by decide +kernel) rfl
theorem ml_T_86 : Cond.methodLink "OverlayTree" 86 y_T_layOver ∈ zz_g := zz_in 340 (by decide +kernel) rfl
theorem sm_T_layOver : Cond.static y_T_layOver ∈ zz_g := zz_in 341 (by decide +kernel) rfl
theorem ml_T_90 : Cond.methodLink "OverlayTree" 90 y_T_loseTop ∈ zz_g := zz_in 343 (by decide +kernel) rfl
theorem im_T_loseTop : Cond.instanceMethod y_T_loseTop ∈ zz_g := zz_in 345 (by decide +kernel) rfl
theorem ml_L_93 : Cond.methodLink "OverlayTreeLaw" 93 y_L_drop ∈ zz_g := zz_in 347 (by decide +kernel) rfl
theorem sm_L_drop : Cond.static y_L_drop ∈ zz_g := zz_in 348 (by decide +kernel) rfl
theorem ml_L_42 : Cond.methodLink "OverlayTreeLaw" 42 y_T_drop ∈ zz_g := zz_in 350 (by decide +kernel) rfl
theorem im_T_drop : Cond.instanceMethod y_T_drop ∈ zz_g := zz_in 351 (by decide +kernel) rfl
theorem se_T_drop : Cond.selects "OverlayTree" y_T_drop y_T_drop ∈ zz_g := zz_in 352 (by decide +kernel) rfl
theorem ml_L_96 : Cond.methodLink "OverlayTreeLaw" 96 y_L_kind ∈ zz_g := zz_in 355 (by decide +kernel) rfl
theorem sm_L_kind : Cond.static y_L_kind ∈ zz_g := zz_in 356 (by decide +kernel) rfl
theorem ml_L_45 : Cond.methodLink "OverlayTreeLaw" 45 y_T_kind ∈ zz_g := zz_in 358 (by decide +kernel) rfl
theorem im_T_kind : Cond.instanceMethod y_T_kind ∈ zz_g := zz_in 359 (by decide +kernel) rfl
theorem se_T_kind : Cond.selects "OverlayTree" y_T_kind y_T_kind ∈ zz_g := zz_in 360 (by decide +kernel) rfl
theorem ml_T_96 : Cond.methodLink "OverlayTree" 96 y_T_checkView ∈ zz_g := zz_in 362 (by decide +kernel) rfl
theorem im_T_checkView : Cond.instanceMethod y_T_checkView ∈ zz_g := zz_in 364 (by decide +kernel) rfl
theorem ml_L_99 : Cond.methodLink "OverlayTreeLaw" 99 y_L_value ∈ zz_g := zz_in 367 (by decide +kernel) rfl
theorem sm_L_value : Cond.static y_L_value ∈ zz_g := zz_in 368 (by decide +kernel) rfl
theorem ml_L_49 : Cond.methodLink "OverlayTreeLaw" 49 y_T_value ∈ zz_g := zz_in 370 (by decide +kernel) rfl
theorem im_T_value : Cond.instanceMethod y_T_value ∈ zz_g := zz_in 371 (by decide +kernel) rfl
theorem se_T_value : Cond.selects "OverlayTree" y_T_value y_T_value ∈ zz_g := zz_in 372 (by decide +kernel) rfl
theorem ml_L_102 : Cond.methodLink "OverlayTreeLaw" 102 y_L_names ∈ zz_g := zz_in 374 (by decide +kernel) rfl
theorem sm_L_names : Cond.static y_L_names ∈ zz_g := zz_in 375 (by decide +kernel) rfl
theorem ml_L_52 : Cond.methodLink "OverlayTreeLaw" 52 y_T_names ∈ zz_g := zz_in 377 (by decide +kernel) rfl
theorem im_T_names : Cond.instanceMethod y_T_names ∈ zz_g := zz_in 378 (by decide +kernel) rfl
theorem se_T_names : Cond.selects "OverlayTree" y_T_names y_T_names ∈ zz_g := zz_in 379 (by decide +kernel) rfl
theorem ml_T_101 : Cond.methodLink "OverlayTree" 101 y_T_namesSeen ∈ zz_g := zz_in 382 (by decide +kernel) rfl
theorem im_T_namesSeen : Cond.instanceMethod y_T_namesSeen ∈ zz_g := zz_in 384 (by decide +kernel) rfl
theorem ml_L_105 : Cond.methodLink "OverlayTreeLaw" 105 y_L_mark ∈ zz_g := zz_in 386 (by decide +kernel) rfl
theorem sm_L_mark : Cond.static y_L_mark ∈ zz_g := zz_in 387 (by decide +kernel) rfl
theorem ml_L_55 : Cond.methodLink "OverlayTreeLaw" 55 y_T_mark ∈ zz_g := zz_in 389 (by decide +kernel) rfl
theorem im_T_mark : Cond.instanceMethod y_T_mark ∈ zz_g := zz_in 390 (by decide +kernel) rfl
theorem se_T_mark : Cond.selects "OverlayTree" y_T_mark y_T_mark ∈ zz_g := zz_in 391 (by decide +kernel) rfl
theorem ml_T_104 : Cond.methodLink "OverlayTree" 104 y_T_checkLayer ∈ zz_g := zz_in 393 (by decide +kernel) rfl
theorem im_T_checkLayer : Cond.instanceMethod y_T_checkLayer ∈ zz_g := zz_in 395 (by decide +kernel) rfl
theorem ml_L_108 : Cond.methodLink "OverlayTreeLaw" 108 y_L_marks ∈ zz_g := zz_in 398 (by decide +kernel) rfl
theorem sm_L_marks : Cond.static y_L_marks ∈ zz_g := zz_in 399 (by decide +kernel) rfl
theorem ml_L_58 : Cond.methodLink "OverlayTreeLaw" 58 y_T_marks ∈ zz_g := zz_in 401 (by decide +kernel) rfl
theorem im_T_marks : Cond.instanceMethod y_T_marks ∈ zz_g := zz_in 402 (by decide +kernel) rfl
theorem se_T_marks : Cond.selects "OverlayTree" y_T_marks y_T_marks ∈ zz_g := zz_in 403 (by decide +kernel) rfl
theorem ml_T_114 : Cond.methodLink "OverlayTree" 114 y_T_countMarks ∈ zz_g := zz_in 405 (by decide +kernel) rfl
theorem sm_T_countMarks : Cond.static y_T_countMarks ∈ zz_g := zz_in 406 (by decide +kernel) rfl
theorem ml_L_64 : Cond.methodLink "OverlayTreeLaw" 64 y_O_init ∈ zz_g := zz_in 410 (by decide +kernel) rfl
theorem im_O_init : Cond.instanceMethod y_O_init ∈ zz_g := zz_in 411 (by decide +kernel) rfl
theorem ml_O_1 : Cond.methodLink "OverlayTreeModel" 1 Lib.objectInit ∈ zz_g := zz_in 413 (by decide +kernel) rfl
theorem ml_O_37 : Cond.methodLink "OverlayTreeModel" 37 y_O_isPath ∈ zz_g := zz_in 415 (by decide +kernel) rfl
theorem sm_O_isPath : Cond.static y_O_isPath ∈ zz_g := zz_in 416 (by decide +kernel) rfl
theorem ml_O_51 : Cond.methodLink "OverlayTreeModel" 51 y_O_in ∈ zz_g := zz_in 418 (by decide +kernel) rfl
theorem sm_O_in : Cond.static y_O_in ∈ zz_g := zz_in 419 (by decide +kernel) rfl
theorem ml_O_44 : Cond.methodLink "OverlayTreeModel" 44 y_O_parentOf ∈ zz_g := zz_in 421 (by decide +kernel) rfl
theorem sm_O_parentOf : Cond.static y_O_parentOf ∈ zz_g := zz_in 422 (by decide +kernel) rfl
theorem ml_L_71 : Cond.methodLink "OverlayTreeLaw" 71 y_O_thrown ∈ zz_g := zz_in 455 (by decide +kernel) rfl
theorem im_O_thrown : Cond.instanceMethod y_O_thrown ∈ zz_g := zz_in 456 (by decide +kernel) rfl
theorem se_O_thrown : Cond.selects "OverlayTreeModel" y_O_thrown y_O_thrown ∈ zz_g := zz_in 457 (by decide +kernel) rfl
theorem ml_L_70 : Cond.methodLink "OverlayTreeLaw" 70 y_O_write ∈ zz_g := zz_in 459 (by decide +kernel) rfl
theorem im_O_write : Cond.instanceMethod y_O_write ∈ zz_g := zz_in 460 (by decide +kernel) rfl
theorem se_O_write : Cond.selects "OverlayTreeModel" y_O_write y_O_write ∈ zz_g := zz_in 461 (by decide +kernel) rfl
theorem ml_O_63 : Cond.methodLink "OverlayTreeModel" 63 y_O_look ∈ zz_g := zz_in 463 (by decide +kernel) rfl
theorem im_O_look : Cond.instanceMethod y_O_look ∈ zz_g := zz_in 465 (by decide +kernel) rfl
theorem ml_O_55 : Cond.methodLink "OverlayTreeModel" 55 y_O_cover ∈ zz_g := zz_in 467 (by decide +kernel) rfl
theorem im_O_cover : Cond.instanceMethod y_O_cover ∈ zz_g := zz_in 469 (by decide +kernel) rfl
theorem ml_O_66 : Cond.methodLink "OverlayTreeModel" 66 y_O_refuse ∈ zz_g := zz_in 471 (by decide +kernel) rfl
theorem im_O_refuse : Cond.instanceMethod y_O_refuse ∈ zz_g := zz_in 473 (by decide +kernel) rfl
theorem ml_O_70 : Cond.methodLink "OverlayTreeModel" 70 y_O_put ∈ zz_g := zz_in 475 (by decide +kernel) rfl
theorem im_O_put : Cond.instanceMethod y_O_put ∈ zz_g := zz_in 477 (by decide +kernel) rfl
theorem ml_O_59 : Cond.methodLink "OverlayTreeModel" 59 y_O_top ∈ zz_g := zz_in 479 (by decide +kernel) rfl
theorem im_O_top : Cond.instanceMethod y_O_top ∈ zz_g := zz_in 481 (by decide +kernel) rfl
theorem ml_L_77 : Cond.methodLink "OverlayTreeLaw" 77 y_O_make ∈ zz_g := zz_in 483 (by decide +kernel) rfl
theorem im_O_make : Cond.instanceMethod y_O_make ∈ zz_g := zz_in 484 (by decide +kernel) rfl
theorem se_O_make : Cond.selects "OverlayTreeModel" y_O_make y_O_make ∈ zz_g := zz_in 485 (by decide +kernel) rfl
theorem ml_L_81 : Cond.methodLink "OverlayTreeLaw" 81 y_O_remove ∈ zz_g := zz_in 487 (by decide +kernel) rfl
theorem im_O_remove : Cond.instanceMethod y_O_remove ∈ zz_g := zz_in 488 (by decide +kernel) rfl
theorem se_O_remove : Cond.selects "OverlayTreeModel" y_O_remove y_O_remove ∈ zz_g := zz_in 489 (by decide +kernel) rfl
theorem ml_O_74 : Cond.methodLink "OverlayTreeModel" 74 y_O_isBelow ∈ zz_g := zz_in 491 (by decide +kernel) rfl
theorem sm_O_isBelow : Cond.static y_O_isBelow ∈ zz_g := zz_in 492 (by decide +kernel) rfl
theorem ml_O_78 : Cond.methodLink "OverlayTreeModel" 78 y_O_takeAway ∈ zz_g := zz_in 494 (by decide +kernel) rfl
theorem im_O_takeAway : Cond.instanceMethod y_O_takeAway ∈ zz_g := zz_in 496 (by decide +kernel) rfl
theorem ml_L_85 : Cond.methodLink "OverlayTreeLaw" 85 y_O_move ∈ zz_g := zz_in 498 (by decide +kernel) rfl
theorem im_O_move : Cond.instanceMethod y_O_move ∈ zz_g := zz_in 499 (by decide +kernel) rfl
theorem se_O_move : Cond.selects "OverlayTreeModel" y_O_move y_O_move ∈ zz_g := zz_in 500 (by decide +kernel) rfl
theorem ml_L_89 : Cond.methodLink "OverlayTreeLaw" 89 y_O_layer ∈ zz_g := zz_in 502 (by decide +kernel) rfl
theorem im_O_layer : Cond.instanceMethod y_O_layer ∈ zz_g := zz_in 503 (by decide +kernel) rfl
theorem se_O_layer : Cond.selects "OverlayTreeModel" y_O_layer y_O_layer ∈ zz_g := zz_in 504 (by decide +kernel) rfl
theorem ml_L_95 : Cond.methodLink "OverlayTreeLaw" 95 y_O_drop ∈ zz_g := zz_in 506 (by decide +kernel) rfl
theorem im_O_drop : Cond.instanceMethod y_O_drop ∈ zz_g := zz_in 507 (by decide +kernel) rfl
theorem se_O_drop : Cond.selects "OverlayTreeModel" y_O_drop y_O_drop ∈ zz_g := zz_in 508 (by decide +kernel) rfl
theorem ml_L_92 : Cond.methodLink "OverlayTreeLaw" 92 y_O_squash ∈ zz_g := zz_in 510 (by decide +kernel) rfl
theorem im_O_squash : Cond.instanceMethod y_O_squash ∈ zz_g := zz_in 511 (by decide +kernel) rfl
theorem se_O_squash : Cond.selects "OverlayTreeModel" y_O_squash y_O_squash ∈ zz_g := zz_in 512 (by decide +kernel) rfl
theorem ml_O_81 : Cond.methodLink "OverlayTreeModel" 81 y_O_isHidden ∈ zz_g := zz_in 514 (by decide +kernel) rfl
theorem im_O_isHidden : Cond.instanceMethod y_O_isHidden ∈ zz_g := zz_in 516 (by decide +kernel) rfl
theorem ml_L_98 : Cond.methodLink "OverlayTreeLaw" 98 y_O_kind ∈ zz_g := zz_in 518 (by decide +kernel) rfl
theorem im_O_kind : Cond.instanceMethod y_O_kind ∈ zz_g := zz_in 519 (by decide +kernel) rfl
theorem se_O_kind : Cond.selects "OverlayTreeModel" y_O_kind y_O_kind ∈ zz_g := zz_in 520 (by decide +kernel) rfl
theorem ml_O_84 : Cond.methodLink "OverlayTreeModel" 84 y_O_isAsked ∈ zz_g := zz_in 522 (by decide +kernel) rfl
theorem im_O_isAsked : Cond.instanceMethod y_O_isAsked ∈ zz_g := zz_in 524 (by decide +kernel) rfl
theorem ml_L_101 : Cond.methodLink "OverlayTreeLaw" 101 y_O_value ∈ zz_g := zz_in 526 (by decide +kernel) rfl
theorem im_O_value : Cond.instanceMethod y_O_value ∈ zz_g := zz_in 527 (by decide +kernel) rfl
theorem se_O_value : Cond.selects "OverlayTreeModel" y_O_value y_O_value ∈ zz_g := zz_in 528 (by decide +kernel) rfl
theorem ml_L_104 : Cond.methodLink "OverlayTreeLaw" 104 y_O_names ∈ zz_g := zz_in 530 (by decide +kernel) rfl
theorem im_O_names : Cond.instanceMethod y_O_names ∈ zz_g := zz_in 531 (by decide +kernel) rfl
theorem se_O_names : Cond.selects "OverlayTreeModel" y_O_names y_O_names ∈ zz_g := zz_in 532 (by decide +kernel) rfl
theorem ml_L_107 : Cond.methodLink "OverlayTreeLaw" 107 y_O_mark ∈ zz_g := zz_in 534 (by decide +kernel) rfl
theorem im_O_mark : Cond.instanceMethod y_O_mark ∈ zz_g := zz_in 535 (by decide +kernel) rfl
theorem se_O_mark : Cond.selects "OverlayTreeModel" y_O_mark y_O_mark ∈ zz_g := zz_in 536 (by decide +kernel) rfl
theorem ml_L_110 : Cond.methodLink "OverlayTreeLaw" 110 y_O_marks ∈ zz_g := zz_in 538 (by decide +kernel) rfl
theorem im_O_marks : Cond.instanceMethod y_O_marks ∈ zz_g := zz_in 539 (by decide +kernel) rfl
theorem se_O_marks : Cond.selects "OverlayTreeModel" y_O_marks y_O_marks ∈ zz_g := zz_in 540 (by decide +kernel) rfl
theorem se_T_checkWritable : Cond.selects "OverlayTree" y_T_checkWritable y_T_checkWritable ∈ zz_g := zz_inp 1 (by decide +kernel) rfl
theorem se_T_checkParent : Cond.selects "OverlayTree" y_T_checkParent y_T_checkParent ∈ zz_g := zz_inp 2 (by decide +kernel) rfl
theorem se_T_look : Cond.selects "OverlayTree" y_T_look y_T_look ∈ zz_g := zz_inp 3 (by decide +kernel) rfl
theorem se_S_addLayer : Cond.selects "OverlayTree$Sight" y_S_addLayer y_S_addLayer ∈ zz_g := zz_inp 4 (by decide +kernel) rfl
theorem se_T_setMark : Cond.selects "OverlayTree" y_T_setMark y_T_setMark ∈ zz_g := zz_inp 5 (by decide +kernel) rfl
theorem se_T_countSeen : Cond.selects "OverlayTree" y_T_countSeen y_T_countSeen ∈ zz_g := zz_inp 6 (by decide +kernel) rfl
theorem se_T_takeAway : Cond.selects "OverlayTree" y_T_takeAway y_T_takeAway ∈ zz_g := zz_inp 7 (by decide +kernel) rfl
theorem se_T_clearMarks : Cond.selects "OverlayTree" y_T_clearMarks y_T_clearMarks ∈ zz_g := zz_inp 8 (by decide +kernel) rfl
theorem se_T_fileValue : Cond.selects "OverlayTree" y_T_fileValue y_T_fileValue ∈ zz_g := zz_inp 9 (by decide +kernel) rfl
theorem se_T_loseTop : Cond.selects "OverlayTree" y_T_loseTop y_T_loseTop ∈ zz_g := zz_inp 10 (by decide +kernel) rfl
theorem se_T_checkView : Cond.selects "OverlayTree" y_T_checkView y_T_checkView ∈ zz_g := zz_inp 11 (by decide +kernel) rfl
theorem se_T_namesSeen : Cond.selects "OverlayTree" y_T_namesSeen y_T_namesSeen ∈ zz_g := zz_inp 12 (by decide +kernel) rfl
theorem se_T_checkLayer : Cond.selects "OverlayTree" y_T_checkLayer y_T_checkLayer ∈ zz_g := zz_inp 13 (by decide +kernel) rfl
theorem se_O_look : Cond.selects "OverlayTreeModel" y_O_look y_O_look ∈ zz_g := zz_inp 14 (by decide +kernel) rfl
theorem se_O_cover : Cond.selects "OverlayTreeModel" y_O_cover y_O_cover ∈ zz_g := zz_inp 15 (by decide +kernel) rfl
theorem se_O_refuse : Cond.selects "OverlayTreeModel" y_O_refuse y_O_refuse ∈ zz_g := zz_inp 16 (by decide +kernel) rfl
theorem se_O_put : Cond.selects "OverlayTreeModel" y_O_put y_O_put ∈ zz_g := zz_inp 17 (by decide +kernel) rfl
theorem se_O_top : Cond.selects "OverlayTreeModel" y_O_top y_O_top ∈ zz_g := zz_inp 18 (by decide +kernel) rfl
theorem se_O_takeAway : Cond.selects "OverlayTreeModel" y_O_takeAway y_O_takeAway ∈ zz_g := zz_inp 19 (by decide +kernel) rfl
theorem se_O_isHidden : Cond.selects "OverlayTreeModel" y_O_isHidden y_O_isHidden ∈ zz_g := zz_inp 20 (by decide +kernel) rfl
theorem se_O_isAsked : Cond.selects "OverlayTreeModel" y_O_isAsked y_O_isAsked ∈ zz_g := zz_inp 21 (by decide +kernel) rfl
end
section
/-! ===== calls over function worlds; throws; handlers ===== -/
section ZD
variable {K : zz_K} {Q : State → Prop} {h0 h : zz_Hp} {k n pc : Nat} {lv : List (Option Value)} {st : List Value} {cc : ByteArray} {own : String} {post : zz_R → zz_Hp → Prop}
variable {l : Launch} {D : va_G} {aC : Nat → ClassId} {rm rm' : Room} {ret ret' : Option FieldType} {hs hs' : List (Nat × Nat × Nat × Nat)}
theorem zz_T_to {s U : State} {h0 hc h : zz_Hp} {H : Heap} {locs : List Loc} (hT : zz_T h0 s s.heap) (hS : va_S (zz_A h0 s.heap.size) s.heap H locs) (hN : zz_N h0 s.heap.size h) (hsub : ∀ (a : Nat) (e : va_E), hc a = some e → h a = some e) (hU : U.heap = H) (hW : s.WarmedH U.vm) : zz_T hc U U.heap := by
  have hcA : ∀ q : Nat, zz_A hc H.size q → zz_A h0 s.heap.size q := fun q hq => by
    rcases hq with ⟨e', q1⟩ | q1
    · exact hN.1 q e' (hsub q e' q1)
    · exact Or.inr (Nat.le_trans hS.1 q1)
  rw [hU]
  obtain ⟨⟨h1, h2⟩, h3, h4, h5, h6, h7⟩ := hT
  refine ⟨⟨?_, ?_⟩, fun w hw => ?_, fun q hq => ?_, fun q hq => ?_, va_AO.moved hW.alike h6, va_AO.moved hW.alike h7⟩
  · exact ((vx_Zq.moved hW.alike h1).kept hS.2.1).narrow hcA
  · exact ((vx_Zq.moved hW.alike h2).kept hS.2.1).narrow hcA
  · exact zz_b_warm hW w hw (h3 w hw)
  · obtain ⟨a, ha⟩ := h4 q hq
    exact ⟨a, vk_R.warm hW ha⟩
  · exact va_Nc.moved hW.alike (h5 q hq)
theorem zz_pre {s : State} {h0 h hc : zz_Hp} {H : Heap} {locs : List Loc} {av : List Value} (hK : va_K D zz_cl (zz_tys aC) s) (hT : zz_T h0 s s.heap) (hP : zz_H D h H) (hS : va_S (zz_A h0 s.heap.size) s.heap H locs) (hN : zz_N h0 s.heap.size h) (hsub : ∀ (a : Nat) (e : va_E), hc a = some e → h a = some e) :
    ∀ U : State, U.heap = H → s.WarmedH U.vm → zz_Pc D aC H.size av hc av.toArray U := fun U hU hW =>
  ⟨rfl, by rw [hU], by rw [hU]; exact fun a e he => hP a e (hsub a e he), va_K.moved hW.alike hK, zz_T_to hT hS hN hsub hU hW⟩
theorem zz_cV (C : zz_C K cc own) (E : zz_En l D aC rm ret hs h0 K) {y : MethodName} {As rest : List Value} {hc : zz_Hp} {bytes : ByteArray} {maxL nn b ci index N : Nat} {T : u_T} {Cn : String} {fs : List Value} {post' : zz_R → zz_Hp → Prop} (hm : zz_md y bytes maxL ret' hs' nn) (M : zz_Ct l D aC y rm' (.ref b :: As) hc post')
    (hl : Cond.methodLink own index y ∈ zz_g) (hin : Cond.instanceMethod y ∈ zz_g) (hse : Cond.selects Cn y y ∈ zz_g) (hcl : zz_cl[ci]? = some (Cn, T, N)) (hb : hc b = some (.inr (ci, fs))) (hsub : ∀ (a : Nat) (e : va_E), hc a = some e → h a = some e)
    (hn : As.length = nn) (hst : st = As.reverse ++ .ref b :: rest) (hW : (rest.map fun v => v.category).sum ≤ 8) (hR : rm'.frames + 1 ≤ rm.frames ∧ 8 + (maxL + 11) + rm'.locals ≤ rm.locals) (hf : k + rm'.cells ≤ rm.cells ∧ n + rm'.slots ≤ rm.slots) (hd : decode cc pc = .ok (.invokevirtual index, 3))
    (kr : ∀ (v : Option Value) (h' : zz_Hp), post' (.inl v) h' → (∀ (a : Nat) (e : va_E), h' a = some e → hc a = none → h a = none) → (∀ (a : Nat) (e : va_E), hc a = some e → ∃ e', h' a = some e') → zz_Z K Q h0 (zz_mix hc h' h) (k + rm'.cells) (n + rm'.slots) (pc + 3) lv (v.toList ++ rest))
    (kx : ∀ (X : String) (h' : zz_Hp), post' (.inr X) h' → (∀ (a : Nat) (e : va_E), h' a = some e → hc a = none → h a = none) → (∀ (a : Nat) (e : va_E), hc a = some e → ∃ e', h' a = some e') → zz_V K Q h0 (zz_mix hc h' h) (k + rm'.cells) (n + rm'.slots) pc lv rest X) : zz_Z K Q h0 h k n pc lv st := by
  obtain ⟨p, l', e, R, s, m, args, below, meth, c, D', aC'⟩ := K
  obtain ⟨rfl, rfl, rfl, rfl, -, -, hT, -⟩ := E
  obtain ⟨hexec, hcb, hown, hts, hK, hlk⟩ := C
  refine zz_call (mc := rm'.cells) (ms := rm'.slots) (hc := hc) (rest := rest) (a := (Value.ref b :: As).toArray) hsub ?_ kr kx
  intro H locs ls hP hS hN hls
  have hrecv := va_recv (q0 := 0) hK (hP.one (hsub b _ hb)) hcl rfl
  exact zz_runV (Cn := Cn) hexec hcb hown hts (M H.size) hm hl hin hse rfl rfl hR ⟨zz_Pc_blind, hrecv, zz_pre hK hT hP hS hN hsub⟩ rfl hn hls hst (lv_room hW) hd hf
theorem zz_cS (C : zz_C K cc own) (E : zz_En l D aC rm ret hs h0 K) {y : MethodName} {As rest : List Value} {hc : zz_Hp} {bytes : ByteArray} {maxL nn index : Nat} {post' : zz_R → zz_Hp → Prop} (hm : zz_md y bytes maxL ret' hs' nn) (M : zz_Ct l D aC y rm' As hc post')
    (hl : Cond.methodLink own index y ∈ zz_g) (hin : Cond.static y ∈ zz_g) (hsub : ∀ (a : Nat) (e : va_E), hc a = some e → h a = some e)
    (hn : As.length = nn) (hst : st = As.reverse ++ rest) (hW : (rest.map fun v => v.category).sum ≤ 8) (hR : rm'.frames + 1 ≤ rm.frames ∧ 8 + (maxL + 11) + rm'.locals ≤ rm.locals) (hf : k + rm'.cells ≤ rm.cells ∧ n + rm'.slots ≤ rm.slots) (hd : decode cc pc = .ok (.invokestatic index, 3))
    (kr : ∀ (v : Option Value) (h' : zz_Hp), post' (.inl v) h' → (∀ (a : Nat) (e : va_E), h' a = some e → hc a = none → h a = none) → (∀ (a : Nat) (e : va_E), hc a = some e → ∃ e', h' a = some e') → zz_Z K Q h0 (zz_mix hc h' h) (k + rm'.cells) (n + rm'.slots) (pc + 3) lv (v.toList ++ rest))
    (kx : ∀ (X : String) (h' : zz_Hp), post' (.inr X) h' → (∀ (a : Nat) (e : va_E), h' a = some e → hc a = none → h a = none) → (∀ (a : Nat) (e : va_E), hc a = some e → ∃ e', h' a = some e') → zz_V K Q h0 (zz_mix hc h' h) (k + rm'.cells) (n + rm'.slots) pc lv rest X) : zz_Z K Q h0 h k n pc lv st := by
  obtain ⟨p, l', e, R, s, m, args, below, meth, c, D', aC'⟩ := K
  obtain ⟨rfl, rfl, rfl, rfl, -, -, hT, -⟩ := E
  obtain ⟨hexec, hcb, hown, hts, hK, hlk⟩ := C
  refine zz_call (mc := rm'.cells) (ms := rm'.slots) (hc := hc) (rest := rest) (a := As.toArray) hsub ?_ kr kx
  intro H locs ls hP hS hN hls
  exact zz_runS hexec hcb hown hts (M H.size) hm hl hin rfl rfl hR ⟨zz_Pc_blind, zz_pre hK hT hP hS hN hsub⟩ rfl hn hls hst (lv_room hW) hd hf
theorem zz_cI (C : zz_C K cc own) (E : zz_En l D aC rm ret hs h0 K) {y : MethodName} {As rest : List Value} {hc : zz_Hp} {bytes : ByteArray} {maxL nn b index : Nat} {post' : zz_R → zz_Hp → Prop} (hm : zz_md y bytes maxL none [] nn) (M : zz_Ct l D aC y rm' (.ref b :: As) hc post')
    (hcw : Cond.code y bytes maxL none ∈ zz_g) (hl : Cond.methodLink own index y ∈ zz_g) (hin : Cond.instanceMethod y ∈ zz_g) (hy1 : y.name = "<init>") (hsub : ∀ (a : Nat) (e : va_E), hc a = some e → h a = some e)
    (hn : As.length = nn) (hst : st = As.reverse ++ .ref b :: rest) (hW : (rest.map fun v => v.category).sum ≤ 8) (hR : rm'.frames + 1 ≤ rm.frames ∧ 8 + (maxL + 11) + rm'.locals ≤ rm.locals) (hf : k + rm'.cells ≤ rm.cells ∧ n + rm'.slots ≤ rm.slots) (hd : decode cc pc = .ok (.invokespecial index, 3))
    (kr : ∀ (v : Option Value) (h' : zz_Hp), post' (.inl v) h' → (∀ (a : Nat) (e : va_E), h' a = some e → hc a = none → h a = none) → (∀ (a : Nat) (e : va_E), hc a = some e → ∃ e', h' a = some e') → zz_Z K Q h0 (zz_mix hc h' h) (k + rm'.cells) (n + rm'.slots) (pc + 3) lv (v.toList ++ rest))
    (kx : ∀ (X : String) (h' : zz_Hp), post' (.inr X) h' → (∀ (a : Nat) (e : va_E), h' a = some e → hc a = none → h a = none) → (∀ (a : Nat) (e : va_E), hc a = some e → ∃ e', h' a = some e') → zz_V K Q h0 (zz_mix hc h' h) (k + rm'.cells) (n + rm'.slots) pc lv rest X) : zz_Z K Q h0 h k n pc lv st := by
  obtain ⟨p, l', e, R, s, m, args, below, meth, c, D', aC'⟩ := K
  obtain ⟨rfl, rfl, rfl, rfl, -, -, hT, -⟩ := E
  obtain ⟨hexec, hcb, hown, hts, hK, hlk⟩ := C
  refine zz_call (mc := rm'.cells) (ms := rm'.slots) (hc := hc) (rest := rest) (a := (Value.ref b :: As).toArray) hsub ?_ kr kx
  intro H locs ls hP hS hN hls
  exact zz_runI hexec hcb hown hts (M H.size) hm hcw hl hin hy1 rfl rfl hR ⟨zz_Pc_blind, zz_pre hK hT hP hS hN hsub⟩ rfl hn hls hst (lv_room hW) hd hf
theorem zz_mix_self {h' : zz_Hp} (hd : ∀ (a : Nat) (e : va_E), h a = some e → ∃ e', h' a = some e') : zz_mix h h' h = h' := by
  funext a
  unfold zz_mix
  cases h1 : h' a with
  | some e => rfl
  | none =>
    cases h2 : h a with
    | some e =>
      obtain ⟨e', h3⟩ := hd a e h2
      rw [h1] at h3
    | none => rfl
theorem zz_obj (C : zz_C K cc own) {index a : Nat} (hl : Cond.methodLink own index Lib.objectInit ∈ zz_g) (hfr : 1 ≤ K.2.2.2.1.frames) (hlo : (st.map fun v => v.category).sum + 12 ≤ K.2.2.2.1.locals) (hd : decode cc pc = .ok (.invokespecial index, 3)) (kk : zz_Z K Q h0 h k n (pc + 3) lv st) : zz_Z K Q h0 h k n pc lv (.ref a :: st) := by
  obtain ⟨p, l', e, R, s, m, args, below, meth, c, D', aC'⟩ := K
  obtain ⟨hexec, hcb, hown, hts, hK, hlk⟩ := C
  intro H locs ls hP hS hN hls hln
  exact W.objInit hexec hcb hown (hts _ hl) (hts _ zz_o1) (hts _ zz_o2) rfl hls.1 rfl hd hfr (by have h0 : (F0 m pc ls (.ref a :: st)).monitorRoom = 0 := rfl; rw [h0]; simpa using hlo) (kk H locs ls hP hS hN hls hln)
end ZD
end
section
/-! ===== throws and handlers over function worlds ===== -/
def zz_nm : List String := ["java/lang/RuntimeException", "java/lang/Exception"]
/-- a throw: 'new' by ik, the text by is, the constructor by ic -/
def zz_Xd (ik is ic : Nat) (cls text : String) : Prop := Bundle.fit cls = true ∧ Cond.classLink "OverlayTree" ik cls ∈ zz_g ∧ Cond.initialized cls ∈ zz_g ∧ (is, text) ∈ zz_str ∧ (∀ w ∈ (vx_atS "OverlayTree" ic cls zz_nm).filter goodWord, w ∈ zz_g) ∧ (∀ w ∈ (vx_atS "OverlayTree" ic cls zz_nm).filter (fun w => !goodWord w), w ∈ zz_b) ∧ ∀ w ∈ Cond.classLink "OverlayTree" ik cls :: Cond.initialized cls :: vx_atS "OverlayTree" ic cls zz_nm, vx_ot w = true
theorem zz_nm_fit : ∀ n ∈ zz_nm, Bundle.fit n = true := by decide +kernel
theorem xd_53 : zz_Xd 51 53 55 "java/lang/IllegalStateException" "something is there" := ⟨by decide +kernel, by decide +kernel, by decide +kernel, by decide +kernel, by decide +kernel, by decide +kernel, by decide +kernel⟩
theorem xd_78 : zz_Xd 76 78 80 "java/lang/UnsupportedOperationException" "no more layers" := ⟨by decide +kernel, by decide +kernel, by decide +kernel, by decide +kernel, by decide +kernel, by decide +kernel, by decide +kernel⟩
theorem xd_83 : zz_Xd 81 83 85 "java/lang/IndexOutOfBoundsException" "no such two layers" := ⟨by decide +kernel, by decide +kernel, by decide +kernel, by decide +kernel, by decide +kernel, by decide +kernel, by decide +kernel⟩
theorem xd_94 : zz_Xd 76 94 80 "java/lang/UnsupportedOperationException" "the only layer" := ⟨by decide +kernel, by decide +kernel, by decide +kernel, by decide +kernel, by decide +kernel, by decide +kernel, by decide +kernel⟩
theorem xd_124 : zz_Xd 122 124 126 "java/lang/IllegalArgumentException" "no path below the root" := ⟨by decide +kernel, by decide +kernel, by decide +kernel, by decide +kernel, by decide +kernel, by decide +kernel, by decide +kernel⟩
theorem xd_127 : zz_Xd 122 127 126 "java/lang/IllegalArgumentException" "no path or no such view" := ⟨by decide +kernel, by decide +kernel, by decide +kernel, by decide +kernel, by decide +kernel, by decide +kernel, by decide +kernel⟩
theorem xd_129 : zz_Xd 81 129 85 "java/lang/IndexOutOfBoundsException" "no such layer" := ⟨by decide +kernel, by decide +kernel, by decide +kernel, by decide +kernel, by decide +kernel, by decide +kernel, by decide +kernel⟩
theorem xd_134 : zz_Xd 51 134 55 "java/lang/IllegalStateException" "the parent is no directory" := ⟨by decide +kernel, by decide +kernel, by decide +kernel, by decide +kernel, by decide +kernel, by decide +kernel, by decide +kernel⟩
theorem xd_136 : zz_Xd 51 136 55 "java/lang/IllegalStateException" "a directory is there" := ⟨by decide +kernel, by decide +kernel, by decide +kernel, by decide +kernel, by decide +kernel, by decide +kernel, by decide +kernel⟩
section ZT
variable {K : zz_K} {Q : State → Prop} {h0 h : zz_Hp} {k n pc : Nat} {lv : List (Option Value)} {st : List Value} {cc : ByteArray} {own : String} {post : zz_R → zz_Hp → Prop}
variable {l : Launch} {D : va_G} {aC : Nat → ClassId} {rm : Room} {ret : Option FieldType} {hs : List (Nat × Nat × Nat × Nat)}
theorem zz_throw (C : zz_C K cc "OverlayTree") (E : zz_En l D aC rm ret [] h0 K) (hl : l.stackTraces = false) {ik is ic : Nat} {cls text : String} (F : zz_Xd ik is ic cls text) (hp : post (.inr cls) h)
    (hfr : 5 < rm.frames) (hlo : (st.map fun v => v.category).sum + 82 ≤ rm.locals) (hce : k + 1 ≤ rm.cells) (hsl : n + 6 ≤ rm.slots)
    (d0 : decode cc pc = .ok (.new ik, 3)) (d3 : decode cc (pc + 3) = .ok (.dup, 1)) (d4 : decode cc (pc + 4) = .ok (.ldc is, 2)) (d6 : decode cc (pc + 6) = .ok (.invokespecial ic, 3)) (d9 : decode cc (pc + 9) = .ok (.athrow, 1)) : zz_Z K (zz_End K h0 post) h0 h k n pc lv st := by
  obtain ⟨p, l', e, R, s, m, args, below, meth, c, D', aC'⟩ := K
  obtain ⟨rfl, rfl, rfl, rfl, -, htab, hT, -⟩ := E
  obtain ⟨hexec, hcb, hown, hts, hK, hlk⟩ := C
  obtain ⟨f1, f2, f3, f4, f5, f6, f7⟩ := F
  obtain ⟨⟨hU, hNs⟩, hb, hstr, -⟩ := hT
  obtain ⟨sa, hsa⟩ := hstr _ f4
  intro H locs ls hP hS hN hls hln
  have hout : ∀ x ∈ c.exceptionTable.toList, covers x (pc + 9) = false := fun x hx => by
    rw [htab] at hx; cases hx
  refine zz_mono ?_ (vx_throwS (Qc := fun _ _ _ _ => False) (XC := fun E st t => E = cls ∧ st.vm.Alike t.vm ∧ H.size ≤ t.heap.size ∧ ∀ q : Nat, q < H.size → t.heap[q]? = H[q]?) (free := zz_A h0 s.heap.size) (mc := R.cells) (ms := R.slots) hexec hcb hl hown f1 zz_nm_fit (hts _ f2) (hts _ f3) hsa
    (vx_hat (B := zz_b) (fun w hw => hts w (f5 w hw)) f6 (fun w hw => va_Nw.use (by have h2 := (List.mem_filter.mp hw).2; cases w <;> first | rfl | simp at h2) (hb w hw))) f7 hU hNs hS hls.1 d0 d3 d4 d6 d9 hout hfr hlo hce hsl hlk (fun t h1 h2 h3 => ⟨rfl, h1, h2, h3⟩) (fun q hq => hS.2.2 q hq) hce hsl)
  intro t ht
  obtain ⟨o, hrun, hend, hq⟩ := ht
  rcases hq with ⟨hf, -⟩ | ⟨q, rfl, E', ce, L, ⟨rfl, hal, g1, g2⟩, hce', hcv, hcl, hW, hsm, hL⟩
  · exact hf.elim
  · refine ⟨.threw q, hrun, hend, ⟨.inr E', h, ⟨q, ce, rfl, hce', by rw [hal.findClass]; exact hcl, hcv⟩, hp, fun b x hb => (hP b x hb).kept (g2 b (hP.lt hb)), hN, Nat.le_trans hS.1 g1, fun z h1 h2 => by rw [g2 z (Nat.lt_of_lt_of_le h1 hS.1)]; exact hS.2.1 z h1 h2⟩, L, ⟨hW, hsm⟩, hL⟩
theorem zz_catch (C : zz_C K cc own) (E : zz_En l D aC rm ret hs h0 K) {X : String} (pre : List ExceptionTableEntry) (x : ExceptionTableEntry) (suf : List ExceptionTableEntry) (hsp : tableOf hs = pre ++ x :: suf) (hpass : ∀ z ∈ pre, z.catchType ≠ 0 ∧ ∃ nm : String, Cond.classLink own z.catchType nm ∈ zz_g ∧ (X, nm) ∈ zz_nc)
    (hx : covers x pc = true) (hx0 : x.catchType ≠ 0) (hlink : Cond.classLink own x.catchType X ∈ zz_g) (hcast : Cond.castable X X ∈ zz_b) (kk : ∀ q : Nat, zz_Z K Q h0 h k n x.handlerPc lv [.ref q]) : zz_V K Q h0 h k n pc lv st X := by
  obtain ⟨p, l', e, R, s, m, args, below, meth, c, D', aC'⟩ := K
  obtain ⟨rfl, rfl, rfl, rfl, -, htab, hT, -⟩ := E
  obtain ⟨hexec, hcb, hown, hts, hK, hlk⟩ := C
  obtain ⟨-, hb, -, hnc, -⟩ := hT
  intro H locs ls q cell T hP hS hN hls hln hq hX hv hTh X0
  exact vx_catch (own := own) (name := X) hown pre x suf (by rw [htab]; exact hsp) (fun z hz => by
    obtain ⟨h1, nm, h2, h3⟩ := hpass z hz
    exact Or.inr ⟨h1, nm, hts _ h2, hnc _ h3⟩) hx hx0 (hts _ hlink) (va_Nw.use rfl (hb _ hcast)) hq hv hX (kk q H locs ls hP hS hN hls hln) T hTh X0
end ZT
end
section
/-! ===== the same rows, with the room of the contract ===== -/
section ZU
variable {K : zz_K} {Q : State → Prop} {h0 h : zz_Hp} {k n pc : Nat} {lv : List (Option Value)} {st : List Value} {cc : ByteArray} {own : String} {post : zz_R → zz_Hp → Prop}
variable {l : Launch} {D : va_G} {aC : Nat → ClassId} {rm rm' : Room} {ret ret' : Option FieldType} {hs hs' : List (Nat × Nat × Nat × Nat)}
theorem zz_En.ac (E : zz_En l D aC rm ret hs h0 K) : aC = zz_ac K := by
  obtain ⟨p, l', e, R, s, m, args, below, meth, c, D', aC'⟩ := K
  exact E.2.2.1.symm
theorem zz_En.cells (E : zz_En l D aC rm ret hs h0 K) : zz_cells K = rm.cells := by
  obtain ⟨p, l', e, R, s, m, args, below, meth, c, D', aC'⟩ := K
  have h : R = rm := E.2.2.2.1
  show R.cells = rm.cells
  rw [h]
theorem zz_En.slots (E : zz_En l D aC rm ret hs h0 K) : zz_slots K = rm.slots := by
  obtain ⟨p, l', e, R, s, m, args, below, meth, c, D', aC'⟩ := K
  have h : R = rm := E.2.2.2.1
  show R.slots = rm.slots
  rw [h]
theorem zz_En.room (E : zz_En l D aC rm ret hs h0 K) : K.2.2.2.1 = rm := by
  obtain ⟨p, l', e, R, s, m, args, below, meth, c, D', aC'⟩ := K
  exact E.2.2.2.1
theorem zz_En.rt (E : zz_En l D aC rm ret hs h0 K) : zz_ret K = ret := by
  obtain ⟨p, l', e, R, s, m, args, below, meth, c, D', aC'⟩ := K
  exact E.2.2.2.2.1
theorem zz_En.tab (E : zz_En l D aC rm ret [] h0 K) : K.2.2.2.2.2.2.2.2.2.1.exceptionTable.toList = [] := by
  obtain ⟨p, l', e, R, s, m, args, below, meth, c, D', aC'⟩ := K
  exact E.2.2.2.2.2.1
theorem zz_En.old (E : zz_En l D aC rm ret hs h0 K) {a : Nat} {e : va_E} (ha : h0 a = some e) : a < zz_sz K := by
  obtain ⟨p, l', e, R, s, m, args, below, meth, c, D', aC'⟩ := K
  exact zz_H.lt E.2.2.2.2.2.2.2 ha
theorem zz_En.aoM (E : zz_En l D aC rm ret hs h0 K) : va_AO "OverlayTree$Mark" K.2.2.2.2.1 := by
  obtain ⟨p, l', e, R, s, m, args, below, meth, c, D', aC'⟩ := K
  exact E.2.2.2.2.2.2.1.2.2.2.2.1
theorem zz_En.aoS (E : zz_En l D aC rm ret hs h0 K) : va_AO "OverlayTree$Sight" K.2.2.2.2.1 := by
  obtain ⟨p, l', e, R, s, m, args, below, meth, c, D', aC'⟩ := K
  exact E.2.2.2.2.2.2.1.2.2.2.2.2
theorem zr_i (C : zz_C K cc own) (E : zz_En l D aC rm (some .int) hs h0 K) {v : Int32} (hk : k ≤ rm.cells) (hn : n ≤ rm.slots) (hd : decode cc pc = .ok (.ireturn, 1)) (hp : post (.inl (some (.int v))) h) : zz_Z K (zz_End K h0 post) h0 h k n pc lv [.int v] :=
  zz_iret C E.rt rfl hp (by rw [E.cells]; exact hk) (by rw [E.slots]; exact hn) hd
/-- a number that is 0 or 1 -/
def bI (b : Bool) : Int32 := if b then 1 else 0
theorem bI_nar (b : Bool) : narrow .boolean (.int (bI b)) = .int (bI b) := by cases b <;> rfl
theorem bI_vp (b : Bool) : vp_nar .boolean (bI b) = bI b := by cases b <;> rfl
theorem zr_z (C : zz_C K cc own) (E : zz_En l D aC rm (some .boolean) hs h0 K) {v : Int32} (b : Bool) (hv : v = bI b) (hk : k ≤ rm.cells) (hn : n ≤ rm.slots) (hd : decode cc pc = .ok (.ireturn, 1)) (hp : post (.inl (some (.int (bI b)))) h) : zz_Z K (zz_End K h0 post) h0 h k n pc lv [.int v] := by
  subst hv
  exact zz_iret C E.rt (bI_nar b) hp (by rw [E.cells]; exact hk) (by rw [E.slots]; exact hn) hd
theorem zr_v (C : zz_C K cc own) (E : zz_En l D aC rm none hs h0 K) (hk : k ≤ rm.cells) (hn : n ≤ rm.slots) (hd : decode cc pc = .ok (.return_, 1)) (hp : post (.inl none) h) : zz_Z K (zz_End K h0 post) h0 h k n pc lv [] :=
  zz_vret C E.rt hp (by rw [E.cells]; exact hk) (by rw [E.slots]; exact hn) hd
theorem zr_a (C : zz_C K cc own) {Cn : String} (E : zz_En l D aC rm (some (.object Cn)) hs h0 K) {r : Option Nat} {v : Value} (hv : v = va_rf r) (hk : k ≤ rm.cells) (hn : n ≤ rm.slots) (hd : decode cc pc = .ok (.areturn, 1)) (hp : post (.inl (some (va_rf r))) h) : zz_Z K (zz_End K h0 post) h0 h k n pc lv [v] := by
  subst hv
  exact zz_aret C E.rt (va_rf_or r) hp (by rw [E.cells]; exact hk) (by rw [E.slots]; exact hn) hd
theorem zr_out (C : zz_C K cc own) (E : zz_En l D aC rm ret [] h0 K) {X : String} (hk : k ≤ rm.cells) (hn : n ≤ rm.slots) (hp : post (.inr X) h) : zz_V K (zz_End K h0 post) h0 h k n pc lv st X :=
  zz_out C E.tab hp (by rw [E.cells]; exact hk) (by rw [E.slots]; exact hn)
theorem zr_new (C : zz_C K cc own) (E : zz_En l D aC rm ret hs h0 K) {index ci N : Nat} {fs : List Value} (F : zz_Nd own index ci N fs) (hce : k + 1 ≤ rm.cells) (hsl : n + N ≤ rm.slots) (hd : decode cc pc = .ok (.new index, 3))
    (kk : ∀ q : Nat, h q = none → zz_sz K ≤ q → zz_Z K Q h0 (va_up h q (some (.inr (ci, fs)))) (k + 1) (n + N) (pc + 3) lv (.ref q :: st)) : zz_Z K Q h0 h k n pc lv st :=
  zz_new C F (by rw [E.cells]; exact hce) (by rw [E.slots]; exact hsl) hd kk
theorem zr_obj (C : zz_C K cc own) (E : zz_En l D aC rm ret hs h0 K) {index a : Nat} (hl : Cond.methodLink own index Lib.objectInit ∈ zz_g) (hfr : 1 ≤ rm.frames) (hlo : (st.map fun v => v.category).sum + 12 ≤ rm.locals) (hd : decode cc pc = .ok (.invokespecial index, 3)) (kk : zz_Z K Q h0 h k n (pc + 3) lv st) : zz_Z K Q h0 h k n pc lv (.ref a :: st) :=
  zz_obj C hl (by rw [E.room]; exact hfr) (by rw [E.room]; exact hlo) hd kk
theorem zr_anewM (C : zz_C K cc own) (E : zz_En l D aC rm ret hs h0 K) {index : Nat} (hw : Cond.classLink own index "OverlayTree$Mark" ∈ zz_g) {x : Int32} {N : Nat} (hx : ¬ x < 0) (hN' : x.toNatClampNeg = N) (hby : N * 4 ≤ 536870912) (hce : k + 1 ≤ rm.cells) (hsl : n + N ≤ rm.slots) (hd : decode cc pc = .ok (.anewarray index, 3))
    (kk : ∀ q : Nat, h q = none → zz_sz K ≤ q → zz_Z K Q h0 (va_up h q (some (.inl (zz_ac K 3, N, .inr (.inr (.inr (.inr (fun _ => none)))))))) (k + 1) (n + N) (pc + 3) lv (.ref q :: st)) : zz_Z K Q h0 h k n pc lv (.int x :: st) :=
  zz_anew C 3 (fun _ => rfl) hw E.aoM hx hN' hby (by rw [E.cells]; exact hce) (by rw [E.slots]; exact hsl) hd kk
theorem zr_anewS (C : zz_C K cc own) (E : zz_En l D aC rm ret hs h0 K) {index : Nat} (hw : Cond.classLink own index "OverlayTree$Sight" ∈ zz_g) {x : Int32} {N : Nat} (hx : ¬ x < 0) (hN' : x.toNatClampNeg = N) (hby : N * 4 ≤ 536870912) (hce : k + 1 ≤ rm.cells) (hsl : n + N ≤ rm.slots) (hd : decode cc pc = .ok (.anewarray index, 3))
    (kk : ∀ q : Nat, h q = none → zz_sz K ≤ q → zz_Z K Q h0 (va_up h q (some (.inl (zz_ac K 4, N, .inr (.inr (.inr (.inr (fun _ => none)))))))) (k + 1) (n + N) (pc + 3) lv (.ref q :: st)) : zz_Z K Q h0 h k n pc lv (.int x :: st) :=
  zz_anew C 4 (fun _ => rfl) hw E.aoS hx hN' hby (by rw [E.cells]; exact hce) (by rw [E.slots]; exact hsl) hd kk
theorem zr_newI (C : zz_C K cc own) (E : zz_En l D aC rm ret hs h0 K) {x : Int32} {N : Nat} (hx : ¬ x < 0) (hN' : x.toNatClampNeg = N) (hby : N * 4 ≤ 536870912) (hce : k + 1 ≤ rm.cells) (hsl : n + N ≤ rm.slots) (hd : decode cc pc = .ok (.newarray .int, 2))
    (kk : ∀ q : Nat, h q = none → zz_sz K ≤ q → zz_Z K Q h0 (va_up h q (some (.inl (zz_ac K 0, N, .inl (fun _ => 0))))) (k + 1) (n + N) (pc + 2) lv (.ref q :: st)) : zz_Z K Q h0 h k n pc lv (.int x :: st) :=
  zz_newa (atype := .int) C 0 rfl (fun _ => rfl) (fun _ h => by cases h) (zz_in 63 (by decide +kernel) rfl) (fun _ => rfl) hx hN' hby (by rw [E.cells]; exact hce) (by rw [E.slots]; exact hsl) hd kk
theorem zr_newZ (C : zz_C K cc own) (E : zz_En l D aC rm ret hs h0 K) {x : Int32} {N : Nat} (hx : ¬ x < 0) (hN' : x.toNatClampNeg = N) (hby : N * 1 ≤ 536870912) (hce : k + 1 ≤ rm.cells) (hsl : n + N ≤ rm.slots) (hd : decode cc pc = .ok (.newarray .boolean, 2))
    (kk : ∀ q : Nat, h q = none → zz_sz K ≤ q → zz_Z K Q h0 (va_up h q (some (.inl (zz_ac K 1, N, .inl (fun _ => 0))))) (k + 1) (n + N) (pc + 2) lv (.ref q :: st)) : zz_Z K Q h0 h k n pc lv (.int x :: st) :=
  zz_newa (atype := .boolean) C 1 rfl (fun _ => rfl) (fun _ h => by cases h) (zz_in 64 (by decide +kernel) rfl) (fun _ => rfl) hx hN' hby (by rw [E.cells]; exact hce) (by rw [E.slots]; exact hsl) hd kk
/-- another word for what stands in locals and on the stack -/
theorem zz_eq {lv' : List (Option Value)} {st' : List Value} (hl : lv = lv') (hs : st = st') (kk : zz_Z K Q h0 h k n pc lv' st') : zz_Z K Q h0 h k n pc lv st := by
  subst hl; subst hs; exact kk
theorem zz_hp {h' : zz_Hp} (hh : h = h') (kk : zz_Z K Q h0 h' k n pc lv st) : zz_Z K Q h0 h k n pc lv st := by
  subst hh; exact kk
/-- the whole world is the callee's: what comes back -/
theorem zm_self {Pz : zz_Hp → Prop} {h' : zz_Hp} (hd : ∀ (a : Nat) (e : va_E), h a = some e → ∃ e', h' a = some e') (kk : Pz h') : Pz (zz_mix h h' h) := by
  rw [zz_mix_self hd]; exact kk
end ZU
/-! ===== a mark and its row ===== -/
def mkE (s v : Int32) (b : Option Nat) : va_E := .inr (0, [.int s, .int v, va_rf b])
def maE (aC : Nat → ClassId) (N : Nat) (f : Nat → Option Nat) : va_E := .inl (aC 3, N, .inr (.inr (.inr (.inr f))))
def zrm (f c s lo : Nat) : Room := { frames := f, cells := c, slots := s, locals := lo }
end
section
/-! ===== OverlayTree$Mark ===== -/
def atF (b : Option Nat) (f : Nat → Option Nat) (x : Int32) : Option Nat := if b = none ∨ x < 1 ∨ 9 < x then none else f x.toNatClampNeg
theorem nI9 : ∀ x : Int32, 1 ≤ x → x ≤ 9 → ∃ j : Nat, 1 ≤ j ∧ j ≤ 9 ∧ x = nI j := fun x h1 h2 => by
  obtain ⟨j, hj, rfl⟩ := nI_of2 (x := x) (M := 9) (n := 9) (by decide) (fun h => by
    have := Int32.lt_of_le_of_lt h1 h
    exact absurd this (by decide)) h2
  refine ⟨j, ?_, hj, rfl⟩
  have h3 : nI 1 ≤ nI j := h1
  exact (nI_leI (by decide) (by omega)).mp h3
set_option maxHeartbeats 1000000 in
theorem c_M_at (l : Launch) (D : va_G) (aC : Nat → ClassId) (h : zz_Hp) (a : Nat) (s v x : Int32) (b : Option Nat) (f : Nat → Option Nat) (ha : h a = some (mkE s v b)) (hb : ∀ q, b = some q → h q = some (maE aC 10 f)) :
    zz_Ct l D aC y_M_at (zrm 0 0 0 0) [.ref a, .int x] h (fun r h' => h' = h ∧ r = .inl (some (va_rf (atF b f x)))) := by
  refine zz_ct md_M_at rfl (by simp [Value.category]) (Nat.le_of_ble_eq_true rfl) fun K C E _ => ?_
  obtain rfl := E.ac
  refine zz_go C [(0, .aload_n 0)] (by decide +kernel) (pc' := 1) (lv' := [some (.ref a), some (.int x)]) (st' := [.ref a]) rfl ?_
  refine zz_get C fd_M_18 ha (v := va_rf b) rfl (by decide +kernel) ?_
  cases b with
  | none =>
    show zz_Z _ _ _ _ _ _ _ _ [.null]
    refine zz_go C [(4, .ifnull 14), (18, .aconst_null)] (by decide +kernel) (pc' := 19) (lv' := [some (.ref a), some (.int x)]) (st' := [.null]) rfl ?_
    exact zr_a C E (r := none) rfl (by decide) (by decide) (by decide +kernel) (⟨rfl, by simp [atF]⟩)
  | some q =>
    show zz_Z _ _ _ _ _ _ _ _ [.ref q]
    refine zz_go C [(4, .ifnull 14), (7, .iload_n 1), (8, .iconst 1)] (by decide +kernel) (pc' := 9) (lv' := [some (.ref a), some (.int x)]) (st' := [.int (nI 1), .int x]) rfl ?_
    refine zz_if C (i := .if_icmp .lt 9) (by decide +kernel) (Pt := x < (nI 1)) (Pf := ¬ x < (nI 1)) (off := 9) (r := []) (tgt := 18) rfl (by decide) (fun c1 => ?_) (fun c1 => ?_)
    · refine zz_go C [(18, .aconst_null)] (by decide +kernel) (pc' := 19) (lv' := [some (.ref a), some (.int x)]) (st' := [.null]) rfl ?_
      exact zr_a C E (r := none) rfl (by decide) (by decide) (by decide +kernel) (⟨rfl, by have c2 : x < 1 := c1; simp [atF, c2]⟩)
    · refine zz_go C [(12, .iload_n 1), (13, .bipush 9)] (by decide +kernel) (pc' := 15) (lv' := [some (.ref a), some (.int x)]) (st' := [.int (nI 9), .int x]) rfl ?_
      refine zz_if C (i := .if_icmp .le 5) (by decide +kernel) (Pt := x ≤ (nI 9)) (Pf := ¬ x ≤ (nI 9)) (off := 5) (r := []) (tgt := 20) rfl (by decide) (fun c2 => ?_) (fun c2 => ?_)
      · refine zz_go C [(20, .aload_n 0)] (by decide +kernel) (pc' := 21) (lv' := [some (.ref a), some (.int x)]) (st' := [.ref a]) rfl ?_
        refine zz_get C fd_M_18 ha (v := va_rf ((some q))) rfl (by decide +kernel) ?_
        show zz_Z _ _ _ _ _ _ _ _ [.ref q]
        refine zz_go C [(24, .iload_n 1)] (by decide +kernel) (pc' := 25) (lv' := [some (.ref a), some (.int x)]) (st' := [.int x, .ref q]) rfl ?_
        obtain ⟨j, hj1, hj2, rfl⟩ := nI9 x (Int32.not_lt.mp c1) c2
        refine zz_qald C 3 (fun _ => rfl) (hb q rfl) (vp_in_nI (by omega) (by omega)) (by decide +kernel) ?_
        rw [nI_clamp (by omega)]
        exact zr_a C E (r := f j) rfl (by decide) (by decide) (by decide +kernel) (⟨rfl, by rw [show atF (some q) f (nI j) = f j from by unfold atF; rw [if_neg, nI_clamp (by omega)]; rintro (h | h | h); cases h; exact c1 h; exact absurd c2 (Int32.not_le.mpr h)]⟩)
      · refine zz_go C [(18, .aconst_null)] (by decide +kernel) (pc' := 19) (lv' := [some (.ref a), some (.int x)]) (st' := [.null]) rfl ?_
        exact zr_a C E (r := none) rfl (by decide) (by decide) (by decide +kernel) (⟨rfl, by have c3 : 9 < x := Int32.not_le.mp c2; simp [atF, c3]⟩)
set_option maxHeartbeats 1000000 in
theorem c_M_init (l : Launch) (D : va_G) (aC : Nat → ClassId) (h : zz_Hp) (a : Nat) (s v x y : Int32) (b : Option Nat) (ha : h a = some (mkE s v b)) :
    zz_Ct l D aC y_M_init (zrm 1 0 0 12) [.ref a, .int x, .int y] h (fun r h' => h' = va_up h a (some (mkE x y b)) ∧ r = .inl none) := by
  refine zz_ct md_M_init rfl (by simp [Value.category]) (Nat.le_of_ble_eq_true rfl) fun K C E _ => ?_
  obtain rfl := E.ac
  refine zz_go C [(0, .aload_n 0)] (by decide +kernel) (pc' := 1) (lv' := [some (.ref a), some (.int x), some (.int y)]) (st' := [.ref a]) rfl ?_
  refine zr_obj C E ml_M_3 (by decide) (by decide) (by decide +kernel) ?_
  refine zz_go C [(4, .aload_n 0), (5, .iload_n 1)] (by decide +kernel) (pc' := 6) (lv' := [some (.ref a), some (.int x), some (.int y)]) (st' := [.int x, .ref a]) rfl ?_
  refine zz_putf C fd_M_9 ha rfl rfl (Nat.le_of_ble_eq_true rfl) (by decide +kernel) ?_
  refine zz_go C [(9, .aload_n 0), (10, .iload_n 2)] (by decide +kernel) (pc' := 11) (lv' := [some (.ref a), some (.int x), some (.int y)]) (st' := [.int y, .ref a]) rfl ?_
  refine zz_putf C fd_M_15 (va_up_self _ _ _) rfl rfl (Nat.le_of_ble_eq_true rfl) (by decide +kernel) ?_
  exact zr_v C E (by decide) (by decide) (by decide +kernel) (⟨by rw [bx_uu]; rfl, rfl⟩)
def hangF (h : zz_Hp) (aC : Nat → ClassId) (a : Nat) (s v : Int32) (b : Option Nat) (f : Nat → Option Nat) (j : Nat) (r : Option Nat) (q : Nat) : zz_Hp := match b with
  | some c => va_up h c (some (maE aC 10 (va_up f j r)))
  | none => va_up (va_up h a (some (mkE s v (some q)))) q (some (maE aC 10 (va_up (fun _ => none) j r)))
theorem hangN {h : zz_Hp} {aC : Nat → ClassId} {a q : Nat} {s v : Int32} {g : Nat → Option Nat} {j : Nat} {r : Option Nat} (hqa : a ≠ q) :
    va_up (va_up (va_up h q (some (.inl (aC 3, 10, .inr (.inr (.inr (.inr (fun _ => none)))))))) a (some (.inr (0, List.set [.int s, .int v, va_rf none] 2 (.ref q))))) q (some (.inl (aC 3, 10, .inr (.inr (.inr (.inr (va_up g j r))))))) = va_up (va_up h a (some (mkE s v (some q)))) q (some (maE aC 10 (va_up g j r))) := by
  funext x
  by_cases h1 : x = q
  · subst h1
    rw [va_up_self, va_up_self]; rfl
  · rw [va_up_ne _ _ h1, va_up_ne _ _ h1]
    by_cases h2 : x = a
    · subst h2
      rw [va_up_self, va_up_self]; rfl
    · rw [va_up_ne _ _ h2, va_up_ne _ _ h2, va_up_ne _ _ h1]
set_option maxHeartbeats 1000000 in
theorem c_M_hang (l : Launch) (D : va_G) (aC : Nat → ClassId) (h : zz_Hp) (a j : Nat) (s v : Int32) (b : Option Nat) (f : Nat → Option Nat) (ha : h a = some (mkE s v b)) (hb : ∀ q, b = some q → h q = some (maE aC 10 f)) (hj1 : 1 ≤ j) (hj2 : j ≤ 9) (c2 : Nat) (s2 v2 : Int32) (b2 : Option Nat) (hc : h c2 = some (mkE s2 v2 b2)) (hac : a ≠ c2) :
    zz_Ct l D aC y_M_hang (zrm 0 1 10 0) [.ref a, .int (nI j), .ref c2] h (fun r h' => ∃ q : Nat, h' = hangF h aC a s v b f j (some c2) q ∧ r = .inl none ∧ (b = none → h q = none)) := by
  refine zz_ct md_M_hang rfl (by simp [Value.category]) (Nat.le_of_ble_eq_true rfl) fun K C E _ => ?_
  obtain rfl := E.ac
  refine zz_go C [(0, .iload_n 1), (1, .iconst 1)] (by decide +kernel) (pc' := 2) (lv' := [some (.ref a), some (.int (nI j)), some (.ref c2)]) (st' := [.int (nI 1), .int (nI j)]) rfl ?_
  have hj1' : ¬ nI j < nI 1 := nI_nlt hj1 (by omega)
  have hj9 : nI j ≤ nI 9 := nI_le hj2 (by omega)
  refine zz_if C (i := .if_icmp .lt 9) (by decide +kernel) (Pt := (nI j) < (nI 1)) (Pf := ¬ (nI j) < (nI 1)) (off := 9) (r := []) (tgt := 11) rfl (by decide) (fun cA => ?_) (fun cA => ?_)
  · exact absurd cA hj1'
  · refine zz_go C [(5, .iload_n 1), (6, .bipush 9)] (by decide +kernel) (pc' := 8) (lv' := [some (.ref a), some (.int (nI j)), some (.ref c2)]) (st' := [.int (nI 9), .int (nI j)]) rfl ?_
    refine zz_if C (i := .if_icmp .le 4) (by decide +kernel) (Pt := (nI j) ≤ (nI 9)) (Pf := ¬ (nI j) ≤ (nI 9)) (off := 4) (r := []) (tgt := 12) rfl (by decide) (fun cB => ?_) (fun cB => ?_)
    · refine zz_go C [(12, .aload_n 0)] (by decide +kernel) (pc' := 13) (lv' := [some (.ref a), some (.int (nI j)), some (.ref c2)]) (st' := [.ref a]) rfl ?_
      refine zz_get C fd_M_18 ha (v := va_rf b) rfl (by decide +kernel) ?_
      cases b with
      | some c =>
        show zz_Z _ _ _ _ _ _ _ _ [.ref c]
        refine zz_go C [(16, .ifnonnull 12), (28, .aload_n 0)] (by decide +kernel) (pc' := 29) (lv' := [some (.ref a), some (.int (nI j)), some (.ref c2)]) (st' := [.ref a]) rfl ?_
        refine zz_get C fd_M_18 ha (v := va_rf ((some c))) rfl (by decide +kernel) ?_
        show zz_Z _ _ _ _ _ _ _ _ [.ref c]
        refine zz_go C [(32, .iload_n 1), (33, .aload_n 2)] (by decide +kernel) (pc' := 34) (lv' := [some (.ref a), some (.int (nI j)), some (.ref c2)]) (st' := [.ref c2, .int (nI j), .ref c]) rfl ?_
        refine zz_qast C 3 (fun _ => rfl) (ci := 0) rfl (hb c rfl) hc (vp_in_nI (by omega) (by omega)) (by decide +kernel) ?_
        rw [nI_clamp (by omega)]
        exact zr_v C E (by decide) (by decide) (by decide +kernel) (⟨0, rfl, rfl, fun hbn => by cases hbn⟩)
      | none =>
        show zz_Z _ _ _ _ _ _ _ _ [.null]
        refine zz_go C [(16, .ifnonnull 12), (19, .aload_n 0), (20, .bipush 10)] (by decide +kernel) (pc' := 22) (lv' := [some (.ref a), some (.int (nI j)), some (.ref c2)]) (st' := [.int (nI 10), .ref a]) rfl ?_
        refine zr_anewM C E cl_M_10 (by decide) (N := 10) (by decide) (by decide) (by decide) (by decide) (by decide +kernel) (fun q hq hz => ?_)
        have hqa : a ≠ q := fun e => by rw [e, hq] at ha; cases ha
        refine zz_putf C fd_M_18 (by rw [va_up_ne _ _ hqa]; exact ha) rfl rfl (Nat.le_of_ble_eq_true rfl) (by decide +kernel) ?_
        refine zz_go C [(28, .aload_n 0)] (by decide +kernel) (pc' := 29) (lv' := [some (.ref a), some (.int (nI j)), some (.ref c2)]) (st' := [.ref a]) rfl ?_
        have hqq : (va_up (va_up h q (some (.inl (zz_ac K 3, 10, .inr (.inr (.inr (.inr (fun _ => none)))))))) a (some (.inr (0, List.set [.int s, .int v, va_rf none] 2 (.ref q))))) q = some (maE (zz_ac K) 10 (fun _ => none)) := by rw [va_up_ne _ _ (Ne.symm hqa), va_up_self]; rfl
        refine zz_get C fd_M_18 (va_up_self _ _ _) (v := .ref q) rfl (by decide +kernel) ?_
        refine zz_go C [(32, .iload_n 1), (33, .aload_n 2)] (by decide +kernel) (pc' := 34) (lv' := [some (.ref a), some (.int (nI j)), some (.ref c2)]) (st' := [.ref c2, .int (nI j), .ref q]) rfl ?_
        refine zz_qast C 3 (fun _ => rfl) (ci := 0) rfl hqq (show _ = some (mkE s2 v2 b2) by rw [va_up_ne _ _ (Ne.symm hac), va_up_ne _ _ (fun e => by rw [e, hq] at hc; cases hc)]; exact hc) (vp_in_nI (by omega) (by omega)) (by decide +kernel) ?_
        rw [nI_clamp (by omega)]
        exact zr_v C E (by decide) (by decide) (by decide +kernel) (⟨q, hangN hqa, rfl, fun _ => hq⟩)
    · exact absurd hj9 cB
set_option maxHeartbeats 1000000 in
theorem c_M_hang0 (l : Launch) (D : va_G) (aC : Nat → ClassId) (h : zz_Hp) (a j : Nat) (s v : Int32) (b : Option Nat) (f : Nat → Option Nat) (ha : h a = some (mkE s v b)) (hb : ∀ q, b = some q → h q = some (maE aC 10 f)) (hj1 : 1 ≤ j) (hj2 : j ≤ 9) :
    zz_Ct l D aC y_M_hang (zrm 0 1 10 0) [.ref a, .int (nI j), .null] h (fun r h' => ∃ q : Nat, h' = hangF h aC a s v b f j (none) q ∧ r = .inl none ∧ (b = none → h q = none)) := by
  refine zz_ct md_M_hang rfl (by simp [Value.category]) (Nat.le_of_ble_eq_true rfl) fun K C E _ => ?_
  obtain rfl := E.ac
  refine zz_go C [(0, .iload_n 1), (1, .iconst 1)] (by decide +kernel) (pc' := 2) (lv' := [some (.ref a), some (.int (nI j)), some (.null)]) (st' := [.int (nI 1), .int (nI j)]) rfl ?_
  have hj1' : ¬ nI j < nI 1 := nI_nlt hj1 (by omega)
  have hj9 : nI j ≤ nI 9 := nI_le hj2 (by omega)
  refine zz_if C (i := .if_icmp .lt 9) (by decide +kernel) (Pt := (nI j) < (nI 1)) (Pf := ¬ (nI j) < (nI 1)) (off := 9) (r := []) (tgt := 11) rfl (by decide) (fun cA => ?_) (fun cA => ?_)
  · exact absurd cA hj1'
  · refine zz_go C [(5, .iload_n 1), (6, .bipush 9)] (by decide +kernel) (pc' := 8) (lv' := [some (.ref a), some (.int (nI j)), some (.null)]) (st' := [.int (nI 9), .int (nI j)]) rfl ?_
    refine zz_if C (i := .if_icmp .le 4) (by decide +kernel) (Pt := (nI j) ≤ (nI 9)) (Pf := ¬ (nI j) ≤ (nI 9)) (off := 4) (r := []) (tgt := 12) rfl (by decide) (fun cB => ?_) (fun cB => ?_)
    · refine zz_go C [(12, .aload_n 0)] (by decide +kernel) (pc' := 13) (lv' := [some (.ref a), some (.int (nI j)), some (.null)]) (st' := [.ref a]) rfl ?_
      refine zz_get C fd_M_18 ha (v := va_rf b) rfl (by decide +kernel) ?_
      cases b with
      | some c =>
        show zz_Z _ _ _ _ _ _ _ _ [.ref c]
        refine zz_go C [(16, .ifnonnull 12), (28, .aload_n 0)] (by decide +kernel) (pc' := 29) (lv' := [some (.ref a), some (.int (nI j)), some (.null)]) (st' := [.ref a]) rfl ?_
        refine zz_get C fd_M_18 ha (v := va_rf ((some c))) rfl (by decide +kernel) ?_
        show zz_Z _ _ _ _ _ _ _ _ [.ref c]
        refine zz_go C [(32, .iload_n 1), (33, .aload_n 2)] (by decide +kernel) (pc' := 34) (lv' := [some (.ref a), some (.int (nI j)), some (.null)]) (st' := [.null, .int (nI j), .ref c]) rfl ?_
        refine zz_qastN C 3 (fun _ => rfl) (hb c rfl) (vp_in_nI (by omega) (by omega)) (by decide +kernel) ?_
        rw [nI_clamp (by omega)]
        exact zr_v C E (by decide) (by decide) (by decide +kernel) (⟨0, rfl, rfl, fun hbn => by cases hbn⟩)
      | none =>
        show zz_Z _ _ _ _ _ _ _ _ [.null]
        refine zz_go C [(16, .ifnonnull 12), (19, .aload_n 0), (20, .bipush 10)] (by decide +kernel) (pc' := 22) (lv' := [some (.ref a), some (.int (nI j)), some (.null)]) (st' := [.int (nI 10), .ref a]) rfl ?_
        refine zr_anewM C E cl_M_10 (by decide) (N := 10) (by decide) (by decide) (by decide) (by decide) (by decide +kernel) (fun q hq hz => ?_)
        have hqa : a ≠ q := fun e => by rw [e, hq] at ha; cases ha
        refine zz_putf C fd_M_18 (by rw [va_up_ne _ _ hqa]; exact ha) rfl rfl (Nat.le_of_ble_eq_true rfl) (by decide +kernel) ?_
        refine zz_go C [(28, .aload_n 0)] (by decide +kernel) (pc' := 29) (lv' := [some (.ref a), some (.int (nI j)), some (.null)]) (st' := [.ref a]) rfl ?_
        have hqq : (va_up (va_up h q (some (.inl (zz_ac K 3, 10, .inr (.inr (.inr (.inr (fun _ => none)))))))) a (some (.inr (0, List.set [.int s, .int v, va_rf none] 2 (.ref q))))) q = some (maE (zz_ac K) 10 (fun _ => none)) := by rw [va_up_ne _ _ (Ne.symm hqa), va_up_self]; rfl
        refine zz_get C fd_M_18 (va_up_self _ _ _) (v := .ref q) rfl (by decide +kernel) ?_
        refine zz_go C [(32, .iload_n 1), (33, .aload_n 2)] (by decide +kernel) (pc' := 34) (lv' := [some (.ref a), some (.int (nI j)), some (.null)]) (st' := [.null, .int (nI j), .ref q]) rfl ?_
        refine zz_qastN C 3 (fun _ => rfl) hqq (vp_in_nI (by omega) (by omega)) (by decide +kernel) ?_
        rw [nI_clamp (by omega)]
        exact zr_v C E (by decide) (by decide) (by decide +kernel) (⟨q, hangN hqa, rfl, fun _ => hq⟩)
    · exact absurd hj9 cB
set_option maxHeartbeats 1000000 in
theorem c_M_atOrNew (l : Launch) (D : va_G) (aC : Nat → ClassId) (h : zz_Hp) (a j : Nat) (s v : Int32) (b : Option Nat) (f : Nat → Option Nat) (ha : h a = some (mkE s v b)) (hb : ∀ q, b = some q → h q = some (maE aC 10 f)) (hj1 : 1 ≤ j) (hj2 : j ≤ 9) :
    zz_Ct l D aC y_M_atOrNew (zrm 3 2 13 60) [.ref a, .int (nI j)] h (fun r h' => (∃ c, atF b f (nI j) = some c ∧ r = .inl (some (va_rf (some c))) ∧ h' = h) ∨ (atF b f (nI j) = none ∧ ∃ q2 q : Nat, h q2 = none ∧ r = .inl (some (va_rf (some q2))) ∧ h' = hangF (va_up h q2 (some (mkE (nI 1) (nI 0) none))) aC a s v b f j (some q2) q ∧ (b = none → h q = none ∧ q ≠ q2))) := by
  refine zz_ct md_M_atOrNew rfl (by simp [Value.category]) (Nat.le_of_ble_eq_true rfl) fun K C E _ => ?_
  obtain rfl := E.ac
  refine zz_go C [(0, .aload_n 0), (1, .iload_n 1)] (by decide +kernel) (pc' := 2) (lv' := [some (.ref a), some (.int (nI j)), none]) (st' := [.int (nI j), .ref a]) rfl ?_
  refine zz_cV C E (ci := 0) (As := [.int (nI j)]) (rest := []) (hc := h) md_M_at (c_M_at l D (zz_ac K) h a s v (nI j) b f ha hb) ml_M_22 im_M_at se_M_at rfl ha (fun _ _ q => q) rfl rfl (Nat.le_of_ble_eq_true rfl) ⟨by decide, by decide⟩ ⟨by decide, by decide⟩ (by decide +kernel) (fun v h' hp hn hd => ?_) (fun v h' hp hn hd => ?_)
  · rw [zz_mix_self hd]
    obtain ⟨hh, hv⟩ := hp
    rw [hh]
    cases hv
    generalize hg : atF b f (nI j) = g
    cases g with
    | some c =>
      show zz_Z _ _ _ _ _ _ _ _ [.ref c]
      refine zz_go C [(5, .astore_n 2), (6, .aload_n 2), (7, .ifnonnull 19), (26, .aload_n 2)] (by decide +kernel) (pc' := 27) (lv' := [some (.ref a), some (.int (nI j)), some (.ref c)]) (st' := [.ref c]) rfl ?_
      exact zr_a C E (r := some c) rfl (by decide) (by decide) (by decide +kernel) (Or.inl ⟨c, rfl, rfl, rfl⟩)
    | none =>
      show zz_Z _ _ _ _ _ _ _ _ [.null]
      refine zz_go C [(5, .astore_n 2), (6, .aload_n 2), (7, .ifnonnull 19)] (by decide +kernel) (pc' := 10) (lv' := [some (.ref a), some (.int (nI j)), some (.null)]) (st' := []) rfl ?_
      refine zr_new C E nd_M_10 (by decide) (by decide) (by decide +kernel) (fun q2 hq2 hz2 => ?_)
      refine zz_go C [(13, .dup), (14, .iconst 1), (15, .iconst 0)] (by decide +kernel) (pc' := 16) (lv' := [some (.ref a), some (.int (nI j)), some (.null)]) (st' := [.int (nI 0), .int (nI 1), .ref q2, .ref q2]) rfl ?_
      refine zz_cI C E (As := [.int (nI 1), .int (nI 0)]) (rest := [.ref q2]) (hc := (va_up h q2 (some (.inr (0, [.int 0, .int 0, .null]))))) md_M_init (c_M_init l D (zz_ac K) _ q2 0 0 (nI 1) (nI 0) none (va_up_self _ _ _)) cw_M_init ml_M_26 im_M_init rfl (fun _ _ q => q) rfl rfl (Nat.le_of_ble_eq_true rfl) ⟨by decide, by decide⟩ ⟨by decide, by decide⟩ (by decide +kernel) (fun v h' hp hn hd => ?_) (fun v h' hp hn hd => ?_)
      · rw [zz_mix_self hd]
        obtain ⟨hh, hv⟩ := hp
        rw [hh]
        cases hv
        show zz_Z _ _ _ _ _ _ _ _ [.ref q2]
        refine zz_go C [(19, .astore_n 2), (20, .aload_n 0), (21, .iload_n 1), (22, .aload_n 2)] (by decide +kernel) (pc' := 23) (lv' := [some (.ref a), some (.int (nI j)), some (.ref q2)]) (st' := [.ref q2, .int (nI j), .ref a]) rfl ?_
        rw [bx_uu]
        have haq : a ≠ q2 := fun e => by rw [e, hq2] at ha; cases ha
        refine zz_cV C E (ci := 0) (As := [.int (nI j), .ref q2]) (rest := []) (hc := (va_up h q2 (some (mkE (nI 1) (nI 0) none)))) md_M_hang (c_M_hang l D (zz_ac K) _ a j s v b f (by rw [va_up_ne _ _ haq]; exact ha) (fun q e => by rw [va_up_ne _ _ (fun e2 => by have := hb q e; rw [e2, hq2] at this; cases this)]; exact hb q e) hj1 hj2 q2 (nI 1) (nI 0) none (va_up_self _ _ _) haq) ml_M_29 im_M_hang se_M_hang rfl (by rw [va_up_ne _ _ haq]; exact ha) (fun _ _ q => q) rfl rfl (Nat.le_of_ble_eq_true rfl) ⟨by decide, by decide⟩ ⟨by decide, by decide⟩ (by decide +kernel) (fun v h' hp hn hd => ?_) (fun v h' hp hn hd => ?_)
        · rw [zz_mix_self hd]
          obtain ⟨q, hh, hv, hqf⟩ := hp
          rw [hh]
          cases hv
          show zz_Z _ _ _ _ _ _ _ _ []
          refine zz_go C [(26, .aload_n 2)] (by decide +kernel) (pc' := 27) (lv' := [some (.ref a), some (.int (nI j)), some (.ref q2)]) (st' := [.ref q2]) rfl ?_
          exact zr_a C E (r := some q2) rfl (by decide) (by decide) (by decide +kernel) (Or.inr ⟨rfl, q2, q, hq2, rfl, rfl, fun hbn => by have := hqf hbn; by_cases e : q = q2; subst e; rw [va_up_self] at this; cases this; rw [va_up_ne _ _ e] at this; exact ⟨this, e⟩⟩)
        · obtain ⟨_, _, hv, _⟩ := hp; cases hv
      · cases hp.2
  · cases hp.2
end
section
/-! ===== the world of a sight: its four rows over a heap ===== -/
def sgE (k v f s : Nat) : va_E := .inr (1, [.ref k, .ref v, .ref f, .ref s])
def iaE (aC : Nat → ClassId) (N : Nat) (g : Nat → Int32) : va_E := .inl (aC 0, N, .inl g)
def zaE (aC : Nat → ClassId) (N : Nat) (g : Nat → Int32) : va_E := .inl (aC 1, N, .inl g)
def sgU (h : zz_Hp) (aC : Nat → ClassId) (k v f s : Nat) (Kd Vl : Nat → Int32) (Fd : Nat → Option Nat) (Sh : Nat → Int32) : zz_Hp := fun a => if a = k then some (iaE aC 9 Kd) else if a = v then some (iaE aC 9 Vl) else if a = f then some (maE aC 8 Fd) else if a = s then some (zaE aC 8 Sh) else h a
/-- four different places -/
def sgD (k v f s : Nat) : Prop := k ≠ v ∧ k ≠ f ∧ k ≠ s ∧ v ≠ f ∧ v ≠ s ∧ f ≠ s
section SGA
variable {h : zz_Hp} {aC : Nat → ClassId} {k v f s : Nat} {Kd Vl Sh : Nat → Int32} {Fd : Nat → Option Nat}
theorem sgU_o {a : Nat} (h1 : a ≠ k) (h2 : a ≠ v) (h3 : a ≠ f) (h4 : a ≠ s) : sgU h aC k v f s Kd Vl Fd Sh a = h a := by
  unfold sgU
  rw [if_neg h1, if_neg h2, if_neg h3, if_neg h4]
theorem sgU_k : sgU h aC k v f s Kd Vl Fd Sh k = some (iaE aC 9 Kd) := if_pos rfl
theorem sgU_v (d : sgD k v f s) : sgU h aC k v f s Kd Vl Fd Sh v = some (iaE aC 9 Vl) := by
  unfold sgU
  rw [if_neg (Ne.symm d.1), if_pos rfl]
theorem sgU_f (d : sgD k v f s) : sgU h aC k v f s Kd Vl Fd Sh f = some (maE aC 8 Fd) := by
  unfold sgU
  rw [if_neg (Ne.symm d.2.1), if_neg (Ne.symm d.2.2.2.1), if_pos rfl]
theorem sgU_s (d : sgD k v f s) : sgU h aC k v f s Kd Vl Fd Sh s = some (zaE aC 8 Sh) := by
  unfold sgU
  rw [if_neg (Ne.symm d.2.2.1), if_neg (Ne.symm d.2.2.2.2.1), if_neg (Ne.symm d.2.2.2.2.2), if_pos rfl]
theorem sgU_self (d : sgD k v f s) (h1 : h k = some (iaE aC 9 Kd)) (h2 : h v = some (iaE aC 9 Vl)) (h3 : h f = some (maE aC 8 Fd)) (h4 : h s = some (zaE aC 8 Sh)) : sgU h aC k v f s Kd Vl Fd Sh = h := by
  funext a
  by_cases e1 : a = k
  · subst e1; rw [sgU_k, h1]
  by_cases e2 : a = v
  · subst e2; rw [sgU_v d, h2]
  by_cases e3 : a = f
  · subst e3; rw [sgU_f d, h3]
  by_cases e4 : a = s
  · subst e4; rw [sgU_s d, h4]
  exact sgU_o e1 e2 e3 e4
theorem sgU_uk (K2 : Nat → Int32) : va_up (sgU h aC k v f s Kd Vl Fd Sh) k (some (iaE aC 9 K2)) = sgU h aC k v f s K2 Vl Fd Sh := by
  funext a
  by_cases e1 : a = k
  · subst e1; rw [va_up_self, sgU_k]
  · rw [va_up_ne _ _ e1]
    unfold sgU
    rw [if_neg e1, if_neg e1]
theorem sgU_uv (d : sgD k v f s) (V2 : Nat → Int32) : va_up (sgU h aC k v f s Kd Vl Fd Sh) v (some (iaE aC 9 V2)) = sgU h aC k v f s Kd V2 Fd Sh := by
  funext a
  by_cases e1 : a = v
  · subst e1; rw [va_up_self, sgU_v d]
  · rw [va_up_ne _ _ e1]
    unfold sgU
    rw [if_neg e1, if_neg e1]
theorem sgU_uf (d : sgD k v f s) (F2 : Nat → Option Nat) : va_up (sgU h aC k v f s Kd Vl Fd Sh) f (some (maE aC 8 F2)) = sgU h aC k v f s Kd Vl F2 Sh := by
  funext a
  by_cases e1 : a = f
  · subst e1; rw [va_up_self, sgU_f d]
  · rw [va_up_ne _ _ e1]
    unfold sgU
    rw [if_neg e1, if_neg e1]
theorem sgU_us (d : sgD k v f s) (S2 : Nat → Int32) : va_up (sgU h aC k v f s Kd Vl Fd Sh) s (some (zaE aC 8 S2)) = sgU h aC k v f s Kd Vl Fd S2 := by
  funext a
  by_cases e1 : a = s
  · subst e1; rw [va_up_self, sgU_s d]
  · rw [va_up_ne _ _ e1]
    unfold sgU
    rw [if_neg e1, if_neg e1]
end SGA
section SGR
variable {K : zz_K} {Q : State → Prop} {h0 h : zz_Hp} {ck cn pc : Nat} {lv : List (Option Value)} {st : List Value} {cc : ByteArray} {own : String}
variable {k v f s j : Nat} {Kd Vl Sh : Nat → Int32} {Fd : Nat → Option Nat}
theorem sg_kld (C : zz_C K cc own) (hj : j < 9) (hd : decode cc pc = .ok (.iaload, 1)) (kk : zz_Z K Q h0 (sgU h (zz_ac K) k v f s Kd Vl Fd Sh) ck cn (pc + 1) lv (.int (Kd j) :: st)) : zz_Z K Q h0 (sgU h (zz_ac K) k v f s Kd Vl Fd Sh) ck cn pc lv (.int (nI j) :: .ref k :: st) := by
  refine zz_iald C 0 (fun _ => rfl) sgU_k (vp_in_nI hj (by omega)) hd ?_
  rw [nI_clamp (by omega)]; exact kk
theorem sg_vld (C : zz_C K cc own) (d : sgD k v f s) (hj : j < 9) (hd : decode cc pc = .ok (.iaload, 1)) (kk : zz_Z K Q h0 (sgU h (zz_ac K) k v f s Kd Vl Fd Sh) ck cn (pc + 1) lv (.int (Vl j) :: st)) : zz_Z K Q h0 (sgU h (zz_ac K) k v f s Kd Vl Fd Sh) ck cn pc lv (.int (nI j) :: .ref v :: st) := by
  refine zz_iald C 0 (fun _ => rfl) (sgU_v d) (vp_in_nI hj (by omega)) hd ?_
  rw [nI_clamp (by omega)]; exact kk
theorem sg_fld (C : zz_C K cc own) (d : sgD k v f s) (hj : j < 8) (hd : decode cc pc = .ok (.aaload, 1)) (kk : zz_Z K Q h0 (sgU h (zz_ac K) k v f s Kd Vl Fd Sh) ck cn (pc + 1) lv (va_rf (Fd j) :: st)) : zz_Z K Q h0 (sgU h (zz_ac K) k v f s Kd Vl Fd Sh) ck cn pc lv (.int (nI j) :: .ref f :: st) := by
  refine zz_qald C 3 (fun _ => rfl) (sgU_f d) (vp_in_nI hj (by omega)) hd ?_
  rw [nI_clamp (by omega)]; exact kk
theorem sg_kst (C : zz_C K cc own) {x : Int32} (hj : j < 9) (hd : decode cc pc = .ok (.iastore, 1)) (kk : zz_Z K Q h0 (sgU h (zz_ac K) k v f s (upd Kd j x) Vl Fd Sh) ck cn (pc + 1) lv st) : zz_Z K Q h0 (sgU h (zz_ac K) k v f s Kd Vl Fd Sh) ck cn pc lv (.int x :: .int (nI j) :: .ref k :: st) := by
  refine zz_iast C 0 (fun _ => rfl) sgU_k (vp_in_nI hj (by omega)) hd ?_
  rw [nI_clamp (by omega)]; exact zz_hp (sgU_uk _) kk
theorem sg_vst (C : zz_C K cc own) (d : sgD k v f s) {x : Int32} (hj : j < 9) (hd : decode cc pc = .ok (.iastore, 1)) (kk : zz_Z K Q h0 (sgU h (zz_ac K) k v f s Kd (upd Vl j x) Fd Sh) ck cn (pc + 1) lv st) : zz_Z K Q h0 (sgU h (zz_ac K) k v f s Kd Vl Fd Sh) ck cn pc lv (.int x :: .int (nI j) :: .ref v :: st) := by
  refine zz_iast C 0 (fun _ => rfl) (sgU_v d) (vp_in_nI hj (by omega)) hd ?_
  rw [nI_clamp (by omega)]; exact zz_hp (sgU_uv d _) kk
theorem sg_sst (C : zz_C K cc own) (d : sgD k v f s) (b : Bool) (hj : j < 8) (hd : decode cc pc = .ok (.bastore, 1)) (kk : zz_Z K Q h0 (sgU h (zz_ac K) k v f s Kd Vl Fd (upd Sh j (bI b))) ck cn (pc + 1) lv st) : zz_Z K Q h0 (sgU h (zz_ac K) k v f s Kd Vl Fd Sh) ck cn pc lv (.int (bI b) :: .int (nI j) :: .ref s :: st) := by
  refine zz_zast C 1 (fun _ => rfl) (sgU_s d) (vp_in_nI hj (by omega)) hd ?_
  rw [nI_clamp (by omega), bI_vp]; exact zz_hp (sgU_us d _) kk
theorem sg_fst (C : zz_C K cc own) (d : sgD k v f s) {c : Nat} {vs : List Value} (hj : j < 8) (hc : sgU h (zz_ac K) k v f s Kd Vl Fd Sh c = some (.inr (0, vs))) (hd : decode cc pc = .ok (.aastore, 1)) (kk : zz_Z K Q h0 (sgU h (zz_ac K) k v f s Kd Vl (va_up Fd j (some c)) Sh) ck cn (pc + 1) lv st) : zz_Z K Q h0 (sgU h (zz_ac K) k v f s Kd Vl Fd Sh) ck cn pc lv (.ref c :: .int (nI j) :: .ref f :: st) := by
  refine zz_qast C 3 (fun _ => rfl) (ci := 0) rfl (sgU_f d) hc (vp_in_nI hj (by omega)) hd ?_
  rw [nI_clamp (by omega)]; exact zz_hp (sgU_uf d _) kk
theorem sg_fstN (C : zz_C K cc own) (d : sgD k v f s) (hj : j < 8) (hd : decode cc pc = .ok (.aastore, 1)) (kk : zz_Z K Q h0 (sgU h (zz_ac K) k v f s Kd Vl (va_up Fd j none) Sh) ck cn (pc + 1) lv st) : zz_Z K Q h0 (sgU h (zz_ac K) k v f s Kd Vl Fd Sh) ck cn pc lv (.null :: .int (nI j) :: .ref f :: st) := by
  refine zz_qastN C 3 (fun _ => rfl) (sgU_f d) (vp_in_nI hj (by omega)) hd ?_
  rw [nI_clamp (by omega)]; exact zz_hp (sgU_uf d _) kk
end SGR
end
section
/-! ===== OverlayTree$Sight ===== -/
set_option maxHeartbeats 2000000 in
theorem c_S_kindIn (l : Launch) (D : va_G) (aC : Nat → ClassId) (h : zz_Hp) (o k v f s : Nat) (x : Int32) (Kd : Nat → Int32) (ho : h o = some (sgE k v f s)) (hk : h k = some (iaE aC 9 Kd)) :
    zz_Ct l D aC y_S_kindIn (zrm 0 0 0 0) [.ref o, .int x] h (fun r h' => h' = h ∧ r = .inl (some (.int (if x < 0 ∨ 8 < x then (-1) else Kd x.toNatClampNeg)))) := by
  refine zz_ct md_S_kindIn rfl (by simp [Value.category]) (Nat.le_of_ble_eq_true rfl) fun K C E hI => ?_
  obtain rfl := E.ac
  refine zz_go C [(0, .iload_n 1)] (by decide +kernel) (pc' := 1) (lv' := [some (.ref o), some (.int x)]) (st' := [.int x]) rfl ?_
  refine zz_if C (i := .ifCond .lt 9) (by decide +kernel) (Pt := x < 0) (Pf := ¬ x < 0) (off := 9) (r := []) (tgt := 10) rfl (by decide) (fun cA => ?_) (fun cA => ?_)
  · refine zz_go C [(10, .iconst (-1)), (11, .goto 9)] (by decide +kernel) (pc' := 20) (lv' := [some (.ref o), some (.int x)]) (st' := [.int ((-1))]) rfl ?_
    exact zr_i C E (by decide) (by decide) (by decide +kernel) (⟨rfl, by rw [if_pos (Or.inl cA)]⟩)
  · refine zz_go C [(4, .iload_n 1), (5, .bipush 8)] (by decide +kernel) (pc' := 7) (lv' := [some (.ref o), some (.int x)]) (st' := [.int (nI 8), .int x]) rfl ?_
    refine zz_if C (i := .if_icmp .le 7) (by decide +kernel) (Pt := x ≤ (nI 8)) (Pf := ¬ x ≤ (nI 8)) (off := 7) (r := []) (tgt := 14) rfl (by decide) (fun cB => ?_) (fun cB => ?_)
    · refine zz_go C [(14, .aload_n 0)] (by decide +kernel) (pc' := 15) (lv' := [some (.ref o), some (.int x)]) (st' := [.ref o]) rfl ?_
      refine zz_get C fd_S_9 ho (v := .ref k) rfl (by decide +kernel) ?_
      refine zz_go C [(18, .iload_n 1)] (by decide +kernel) (pc' := 19) (lv' := [some (.ref o), some (.int x)]) (st' := [.int x, .ref k]) rfl ?_
      have hx : vp_in x 9 := by
        obtain ⟨j, hj, rfl⟩ := nI_of2 (x := x) (M := 8) (n := 8) (by decide) cA cB
        exact vp_in_nI (by omega) (by omega)
      refine zz_iald C 0 (fun _ => rfl) hk hx (by decide +kernel) ?_
      exact zr_i C E (by decide) (by decide) (by decide +kernel) (⟨rfl, by rw [if_neg]; rintro (q | q); exact cA q; exact absurd cB (Int32.not_le.mpr q)⟩)
    · refine zz_go C [(10, .iconst (-1)), (11, .goto 9)] (by decide +kernel) (pc' := 20) (lv' := [some (.ref o), some (.int x)]) (st' := [.int ((-1))]) rfl ?_
      exact zr_i C E (by decide) (by decide) (by decide +kernel) (⟨rfl, by rw [if_pos (Or.inr (show (8 : Int32) < x from Int32.not_le.mp cB))]⟩)
set_option maxHeartbeats 2000000 in
theorem c_S_valueIn (l : Launch) (D : va_G) (aC : Nat → ClassId) (h : zz_Hp) (o k v f s : Nat) (x : Int32) (Kd : Nat → Int32) (ho : h o = some (sgE k v f s)) (hk : h v = some (iaE aC 9 Kd)) :
    zz_Ct l D aC y_S_valueIn (zrm 0 0 0 0) [.ref o, .int x] h (fun r h' => h' = h ∧ r = .inl (some (.int (if x < 0 ∨ 8 < x then 0 else Kd x.toNatClampNeg)))) := by
  refine zz_ct md_S_valueIn rfl (by simp [Value.category]) (Nat.le_of_ble_eq_true rfl) fun K C E hI => ?_
  obtain rfl := E.ac
  refine zz_go C [(0, .iload_n 1)] (by decide +kernel) (pc' := 1) (lv' := [some (.ref o), some (.int x)]) (st' := [.int x]) rfl ?_
  refine zz_if C (i := .ifCond .lt 9) (by decide +kernel) (Pt := x < 0) (Pf := ¬ x < 0) (off := 9) (r := []) (tgt := 10) rfl (by decide) (fun cA => ?_) (fun cA => ?_)
  · refine zz_go C [(10, .iconst 0), (11, .goto 9)] (by decide +kernel) (pc' := 20) (lv' := [some (.ref o), some (.int x)]) (st' := [.int (nI 0)]) rfl ?_
    exact zr_i C E (by decide) (by decide) (by decide +kernel) (⟨rfl, by rw [if_pos (Or.inl cA)]; rfl⟩)
  · refine zz_go C [(4, .iload_n 1), (5, .bipush 8)] (by decide +kernel) (pc' := 7) (lv' := [some (.ref o), some (.int x)]) (st' := [.int (nI 8), .int x]) rfl ?_
    refine zz_if C (i := .if_icmp .le 7) (by decide +kernel) (Pt := x ≤ (nI 8)) (Pf := ¬ x ≤ (nI 8)) (off := 7) (r := []) (tgt := 14) rfl (by decide) (fun cB => ?_) (fun cB => ?_)
    · refine zz_go C [(14, .aload_n 0)] (by decide +kernel) (pc' := 15) (lv' := [some (.ref o), some (.int x)]) (st' := [.ref o]) rfl ?_
      refine zz_get C fd_S_15 ho (v := .ref v) rfl (by decide +kernel) ?_
      refine zz_go C [(18, .iload_n 1)] (by decide +kernel) (pc' := 19) (lv' := [some (.ref o), some (.int x)]) (st' := [.int x, .ref v]) rfl ?_
      have hx : vp_in x 9 := by
        obtain ⟨j, hj, rfl⟩ := nI_of2 (x := x) (M := 8) (n := 8) (by decide) cA cB
        exact vp_in_nI (by omega) (by omega)
      refine zz_iald C 0 (fun _ => rfl) hk hx (by decide +kernel) ?_
      exact zr_i C E (by decide) (by decide) (by decide +kernel) (⟨rfl, by rw [if_neg]; rintro (q | q); exact cA q; exact absurd cB (Int32.not_le.mpr q)⟩)
    · refine zz_go C [(10, .iconst 0), (11, .goto 9)] (by decide +kernel) (pc' := 20) (lv' := [some (.ref o), some (.int x)]) (st' := [.int (nI 0)]) rfl ?_
      exact zr_i C E (by decide) (by decide) (by decide +kernel) (⟨rfl, by rw [if_pos (Or.inr (show (8 : Int32) < x from Int32.not_le.mp cB))]; rfl⟩)
theorem sgNew {h : zz_Hp} {aC : Nat → ClassId} {o k v f s : Nat} {e1 e2 e3 : va_E} (ok : o ≠ k) (ov : o ≠ v) (of : o ≠ f) (os : o ≠ s) (hk : h k = none) (hv : (va_up (va_up h k (some (iaE aC 9 (fun _ => 0)))) o (some e1)) v = none) (hf : (va_up (va_up (va_up (va_up h k (some (iaE aC 9 (fun _ => 0)))) o (some e1)) v (some (iaE aC 9 (fun _ => 0)))) o (some e2)) f = none)
    (hs : (va_up (va_up (va_up (va_up (va_up (va_up h k (some (iaE aC 9 (fun _ => 0)))) o (some e1)) v (some (iaE aC 9 (fun _ => 0)))) o (some e2)) f (some (maE aC 8 (fun _ => none)))) o (some e3)) s = none) :
    ∃ k' v' f' s' : Nat, sgD k' v' f' s' ∧ (h k' = none ∧ h v' = none ∧ h f' = none ∧ h s' = none) ∧ va_up (va_up (va_up (va_up (va_up (va_up (va_up (va_up h k (some (iaE aC 9 (fun _ => 0)))) o (some e1)) v (some (iaE aC 9 (fun _ => 0)))) o (some e2)) f (some (maE aC 8 (fun _ => none)))) o (some e3)) s (some (zaE aC 8 (fun _ => 0)))) o (some (sgE k v f s)) = va_up (sgU h aC k' v' f' s' (fun _ => 0) (fun _ => 0) (fun _ => none) (fun _ => 0)) o (some (sgE k' v' f' s')) ∧ (Sum.inl none : zz_R) = .inl none := by
  have kv : v ≠ k := fun e => by
    rw [e, va_up_ne _ _ (Ne.symm ok), va_up_self] at hv; cases hv
  have hv0 : h v = none := by
    rw [va_up_ne _ _ (Ne.symm ov), va_up_ne _ _ kv] at hv; exact hv
  have fv : f ≠ v := fun e => by
    rw [e, va_up_ne _ _ (Ne.symm ov), va_up_self] at hf; cases hf
  have fk : f ≠ k := fun e => by
    rw [va_up_ne _ _ (Ne.symm of), va_up_ne _ _ fv, va_up_ne _ _ (Ne.symm of), e, va_up_self] at hf; cases hf
  have hf0 : h f = none := by
    rw [va_up_ne _ _ (Ne.symm of), va_up_ne _ _ fv, va_up_ne _ _ (Ne.symm of), va_up_ne _ _ fk] at hf; exact hf
  have sf : s ≠ f := fun e => by
    rw [e, va_up_ne _ _ (Ne.symm of), va_up_self] at hs; cases hs
  have sv : s ≠ v := fun e => by
    rw [va_up_ne _ _ (Ne.symm os), va_up_ne _ _ sf, va_up_ne _ _ (Ne.symm os), e, va_up_self] at hs; cases hs
  have sk : s ≠ k := fun e => by
    rw [va_up_ne _ _ (Ne.symm os), va_up_ne _ _ sf, va_up_ne _ _ (Ne.symm os), va_up_ne _ _ sv, va_up_ne _ _ (Ne.symm os), e, va_up_self] at hs; cases hs
  have hs0 : h s = none := by
    rw [va_up_ne _ _ (Ne.symm os), va_up_ne _ _ sf, va_up_ne _ _ (Ne.symm os), va_up_ne _ _ sv, va_up_ne _ _ (Ne.symm os), va_up_ne _ _ sk] at hs; exact hs
  refine ⟨k, v, f, s, ⟨Ne.symm kv, Ne.symm fk, Ne.symm sk, Ne.symm fv, Ne.symm sv, Ne.symm sf⟩, ⟨hk, hv0, hf0, hs0⟩, ?_, rfl⟩
  funext a
  by_cases e0 : a = o
  · subst e0; rw [va_up_self, va_up_self]
  rw [va_up_ne _ _ e0, va_up_ne _ _ e0]
  by_cases e4 : a = s
  · subst e4; rw [va_up_self, sgU_s ⟨Ne.symm kv, Ne.symm fk, Ne.symm sk, Ne.symm fv, Ne.symm sv, Ne.symm sf⟩]
  rw [va_up_ne _ _ e4, va_up_ne _ _ e0]
  by_cases e3 : a = f
  · subst e3; rw [va_up_self, sgU_f ⟨Ne.symm kv, Ne.symm fk, Ne.symm sk, Ne.symm fv, Ne.symm sv, Ne.symm sf⟩]
  rw [va_up_ne _ _ e3, va_up_ne _ _ e0]
  by_cases e2 : a = v
  · subst e2; rw [va_up_self, sgU_v ⟨Ne.symm kv, Ne.symm fk, Ne.symm sk, Ne.symm fv, Ne.symm sv, Ne.symm sf⟩]
  rw [va_up_ne _ _ e2, va_up_ne _ _ e0]
  by_cases e1 : a = k
  · subst e1; rw [va_up_self, sgU_k]
  rw [va_up_ne _ _ e1, sgU_o e1 e2 e3 e4]
set_option maxHeartbeats 2000000 in
theorem c_S_init (l : Launch) (D : va_G) (aC : Nat → ClassId) (h : zz_Hp) (o : Nat) (ho : h o = some (.inr (1, [.null, .null, .null, .null]))) :
    zz_Ct l D aC y_S_init (zrm 1 4 34 13) [.ref o] h (fun r h' => ∃ k v f s : Nat, sgD k v f s ∧ (h k = none ∧ h v = none ∧ h f = none ∧ h s = none) ∧ h' = va_up (sgU h aC k v f s (fun _ => 0) (fun _ => 0) (fun _ => none) (fun _ => 0)) o (some (sgE k v f s)) ∧ r = .inl none) := by
  refine zz_ct md_S_init rfl (by simp [Value.category]) (Nat.le_of_ble_eq_true rfl) fun K C E hI => ?_
  obtain rfl := E.ac
  refine zz_go C [(0, .aload_n 0)] (by decide +kernel) (pc' := 1) (lv' := [some (.ref o)]) (st' := [.ref o]) rfl ?_
  refine zr_obj C E ml_S_3 (by decide) (by decide) (by decide +kernel) ?_
  refine zz_go C [(4, .aload_n 0), (5, .bipush 9)] (by decide +kernel) (pc' := 7) (lv' := [some (.ref o)]) (st' := [.int (nI 9), .ref o]) rfl ?_
  refine zr_newI C E (by decide) (N := 9) (by decide) (by decide) (by decide) (by decide) (by decide +kernel) (fun k hk zk => ?_)
  have ok : o ≠ k := fun e => by rw [e, hk] at ho; cases ho
  refine zz_putF C fd_S_9 (hI rfl) (by rw [va_up_ne _ _ ok]; exact ho) rfl rfl (Nat.le_of_ble_eq_true rfl) (by decide +kernel) ?_
  refine zz_go C [(12, .aload_n 0), (13, .bipush 9)] (by decide +kernel) (pc' := 15) (lv' := [some (.ref o)]) (st' := [.int (nI 9), .ref o]) rfl ?_
  refine zr_newI C E (by decide) (N := 9) (by decide) (by decide) (by decide) (by decide) (by decide +kernel) (fun v hv zv => ?_)
  have ov : o ≠ v := fun e => by rw [← e, va_up_self] at hv; cases hv
  refine zz_putF C fd_S_15 (hI rfl) (by rw [va_up_ne _ _ ov]; exact va_up_self _ _ _) rfl rfl (Nat.le_of_ble_eq_true rfl) (by decide +kernel) ?_
  refine zz_go C [(20, .aload_n 0), (21, .bipush 8)] (by decide +kernel) (pc' := 23) (lv' := [some (.ref o)]) (st' := [.int (nI 8), .ref o]) rfl ?_
  refine zr_anewM C E cl_S_18 (by decide) (N := 8) (by decide) (by decide) (by decide) (by decide) (by decide +kernel) (fun f hf zf => ?_)
  have of : o ≠ f := fun e => by rw [← e, va_up_self] at hf; cases hf
  refine zz_putF C fd_S_20 (hI rfl) (by rw [va_up_ne _ _ of]; exact va_up_self _ _ _) rfl rfl (Nat.le_of_ble_eq_true rfl) (by decide +kernel) ?_
  refine zz_go C [(29, .aload_n 0), (30, .bipush 8)] (by decide +kernel) (pc' := 32) (lv' := [some (.ref o)]) (st' := [.int (nI 8), .ref o]) rfl ?_
  refine zr_newZ C E (by decide) (N := 8) (by decide) (by decide) (by decide) (by decide) (by decide +kernel) (fun s hs zs => ?_)
  have os : o ≠ s := fun e => by rw [← e, va_up_self] at hs; cases hs
  refine zz_putF C fd_S_24 (hI rfl) (by rw [va_up_ne _ _ os]; exact va_up_self _ _ _) rfl rfl (Nat.le_of_ble_eq_true rfl) (by decide +kernel) ?_
  exact zr_v C E (by decide) (by decide) (by decide +kernel) (by exact sgNew ok ov of os hk hv hf hs)
/-! one layer more in a sight -/
def sgN (c k v f s : Nat) : Prop := c ≠ k ∧ c ≠ v ∧ c ≠ f ∧ c ≠ s
theorem sgU_n {h : zz_Hp} {aC : Nat → ClassId} {k v f s c : Nat} {Kd Vl Sh : Nat → Int32} {Fd : Nat → Option Nat} (n : sgN c k v f s) : sgU h aC k v f s Kd Vl Fd Sh c = h c := sgU_o n.1 n.2.1 n.2.2.1 n.2.2.2
theorem upd_upd (f : Nat → Int32) (j : Nat) (x y : Int32) : upd (upd f j x) j y = upd f j y := by
  funext a; unfold upd; by_cases h : a = j
  · rw [if_pos h, if_pos h]
  · rw [if_neg h, if_neg h, if_neg h]
theorem upd_ne (f : Nat → Int32) {j a : Nat} (x : Int32) (h : a ≠ j) : upd f j x a = f a := if_neg h
theorem upd_at (f : Nat → Int32) (j : Nat) (x : Int32) : upd f j x j = x := if_pos rfl
theorem upd_self (f : Nat → Int32) (j : Nat) : upd f j (f j) = f := by
  funext a; unfold upd; by_cases h : a = j
  · rw [if_pos h, h]
  · rw [if_neg h]
section GA
variable {K : zz_K} {Q : State → Prop} {h0 h : zz_Hp} {ck cn pc : Nat} {lv : List (Option Value)} {st : List Value} {cc : ByteArray} {own : String}
theorem ga_ild (C : zz_C K cc own) {a N j : Nat} {g : Nat → Int32} (ha : h a = some (iaE (zz_ac K) N g)) (hj : j < N) (hN : N ≤ 100000) (hd : decode cc pc = .ok (.iaload, 1)) (kk : zz_Z K Q h0 h ck cn (pc + 1) lv (.int (g j) :: st)) : zz_Z K Q h0 h ck cn pc lv (.int (nI j) :: .ref a :: st) := by
  refine zz_iald C 0 (fun _ => rfl) ha (vp_in_nI hj (by omega)) hd ?_
  rw [nI_clamp (by omega)]; exact kk
theorem ga_zld (C : zz_C K cc own) {a N j : Nat} {g : Nat → Int32} (ha : h a = some (zaE (zz_ac K) N g)) (hj : j < N) (hN : N ≤ 100000) (hd : decode cc pc = .ok (.baload, 1)) (kk : zz_Z K Q h0 h ck cn (pc + 1) lv (.int (g j) :: st)) : zz_Z K Q h0 h ck cn pc lv (.int (nI j) :: .ref a :: st) := by
  refine zz_zald C 1 (fun _ => rfl) ha (vp_in_nI hj (by omega)) hd ?_
  rw [nI_clamp (by omega)]; exact kk
theorem ga_qld (C : zz_C K cc own) {a N j : Nat} {g : Nat → Option Nat} (ha : h a = some (maE (zz_ac K) N g)) (hj : j < N) (hN : N ≤ 100000) (hd : decode cc pc = .ok (.aaload, 1)) (kk : zz_Z K Q h0 h ck cn (pc + 1) lv (va_rf (g j) :: st)) : zz_Z K Q h0 h ck cn pc lv (.int (nI j) :: .ref a :: st) := by
  refine zz_qald C 3 (fun _ => rfl) ha (vp_in_nI hj (by omega)) hd ?_
  rw [nI_clamp (by omega)]; exact kk
end GA
def alK (P S : Int32) (m : Option Nat) (ms K0 : Int32) : Int32 := if P = nI 1 then (if m = none then (if S = 0 then -1 else K0) else if ms = nI 3 then -1 else if ms = 0 then nI 0 else nI 1) else -1
def alV (P S : Int32) (m : Option Nat) (mv V0 V1 : Int32) : Int32 := if P = nI 1 then (if m = none then (if S = 0 then V1 else V0) else mv) else V1
def alS (S : Int32) (m : Option Nat) (ms K0 : Int32) : Bool := decide (¬ S = 0 ∧ K0 = nI 1 ∧ (m = none ∨ ms = nI 1))
set_option maxHeartbeats 4000000 in
theorem c_S_addLayer (l : Launch) (D : va_G) (aC : Nat → ClassId) (h : zz_Hp) (o k v f s po pk pv pf ps i : Nat) (Kd Vl : Nat → Int32) (Fd : Nat → Option Nat) (Sh PK PS : Nat → Int32) (ms mv : Int32) (d : sgD k v f s) (no : sgN o k v f s) (ho : h o = some (sgE k v f s)) (np : sgN po k v f s) (hpo : h po = some (sgE pk pv pf ps)) (npk : sgN pk k v f s) (hpk : h pk = some (iaE aC 9 PK)) (nps : sgN ps k v f s) (hps : h ps = some (zaE aC 8 PS)) (hi : i < 8) (hm : ∀ c, Fd i = some c → sgN c k v f s ∧ ∃ b, h c = some (mkE ms mv b)) :
    zz_Ct l D aC y_S_addLayer (zrm 0 0 0 0) [.ref o, .ref po, .int (nI i)] (sgU h aC k v f s Kd Vl Fd Sh) (fun r h' => h' = sgU h aC k v f s (upd Kd (i + 1) (alK (PK (i + 1)) (PS i) (Fd i) ms (Kd i))) (upd Vl (i + 1) (alV (PK (i + 1)) (PS i) (Fd i) mv (Vl i) (Vl (i + 1)))) Fd (upd Sh i (bI (alS (PS i) (Fd i) ms (Kd i)))) ∧ r = .inl none) := by
  refine zz_ct md_S_addLayer rfl (by simp [Value.category]) (Nat.le_of_ble_eq_true rfl) fun K C E hI => ?_
  obtain rfl := E.ac
  refine zz_go C [(0, .iload_n 2)] (by decide +kernel) (pc' := 1) (lv' := [some (.ref o), some (.ref po), some (.int (nI i)), none]) (st' := [.int (nI i)]) rfl ?_
  refine zz_if C (i := .ifCond .lt 9) (by decide +kernel) (Pt := (nI i) < 0) (Pf := ¬ (nI i) < 0) (off := 9) (r := []) (tgt := 10) rfl (by decide) (fun cA => ?_) (fun cA => ?_)
  · exact absurd cA (nI_pos (by omega))
  · refine zz_go C [(4, .iload_n 2), (5, .bipush 8)] (by decide +kernel) (pc' := 7) (lv' := [some (.ref o), some (.ref po), some (.int (nI i)), none]) (st' := [.int (nI 8), .int (nI i)]) rfl ?_
    refine zz_if C (i := .if_icmp .lt 4) (by decide +kernel) (Pt := (nI i) < (nI 8)) (Pf := ¬ (nI i) < (nI 8)) (off := 4) (r := []) (tgt := 11) rfl (by decide) (fun cB => ?_) (fun cB => ?_)
    · refine zz_go C [(11, .aload_n 0)] (by decide +kernel) (pc' := 12) (lv' := [some (.ref o), some (.ref po), some (.int (nI i)), none]) (st' := [.ref o]) rfl ?_
      refine zz_get C fd_S_20 ((sgU_n no).trans ho) (v := .ref f) rfl (by decide +kernel) ?_
      refine zz_go C [(15, .iload_n 2)] (by decide +kernel) (pc' := 16) (lv' := [some (.ref o), some (.ref po), some (.int (nI i)), none]) (st' := [.int (nI i), .ref f]) rfl ?_
      refine sg_fld C d hi (by decide +kernel) ?_
      cases hF : Fd i with
      | none =>
        show zz_Z _ _ _ _ _ _ _ _ [.null]
        refine zz_go C [(17, .astore_n 3), (18, .aload_n 0)] (by decide +kernel) (pc' := 19) (lv' := [some (.ref o), some (.ref po), some (.int (nI i)), some (.null)]) (st' := [.ref o]) rfl ?_
        refine zz_get C fd_S_9 ((sgU_n no).trans ho) (v := .ref k) rfl (by decide +kernel) ?_
        refine zz_go C [(22, .iload_n 2), (23, .iconst 1), (24, .iadd), (25, .iconst (-1))] (by decide +kernel) (pc' := 26) (lv' := [some (.ref o), some (.ref po), some (.int (nI i)), some (.null)]) (st' := [.int ((-1)), .int ((nI i) + (nI 1)), .ref k]) rfl ?_
        rw [show nI i + nI 1 = nI (i + 1) from nI_add i 1]
        refine sg_kst C (by omega) (by decide +kernel) ?_
        have J2 : ∀ (K2 V2 : Nat → Int32) (b : Bool), K2 = upd Kd (i + 1) (alK (PK (i + 1)) (PS i) none ms (Kd i)) → V2 = upd Vl (i + 1) (alV (PK (i + 1)) (PS i) none mv (Vl i) (Vl (i + 1))) → b = alS (PS i) none ms (Kd i) → zz_Z K (zz_End K (sgU h (zz_ac K) k v f s Kd Vl Fd Sh) (fun r h' => h' = sgU h (zz_ac K) k v f s (upd Kd (i + 1) (alK (PK (i + 1)) (PS i) none ms (Kd i))) (upd Vl (i + 1) (alV (PK (i + 1)) (PS i) none mv (Vl i) (Vl (i + 1)))) Fd (upd Sh i (bI (alS (PS i) none ms (Kd i)))) ∧ r = .inl none)) (sgU h (zz_ac K) k v f s Kd Vl Fd Sh) (sgU h (zz_ac K) k v f s K2 V2 Fd Sh) 0 0 168 [some (.ref o), some (.ref po), some (.int (nI i)), some (.null)] [.int (bI b), .int (nI i), .ref s] := fun K2 V2 b e1 e2 e3 => by
          refine sg_sst C d b hi (by decide +kernel) ?_
          subst e1; subst e2; subst e3
          exact zr_v C E (by decide) (by decide) (by decide +kernel) (⟨rfl, rfl⟩)
        have J : ∀ K2 V2 : Nat → Int32, K2 = upd Kd (i + 1) (alK (PK (i + 1)) (PS i) none ms (Kd i)) → V2 = upd Vl (i + 1) (alV (PK (i + 1)) (PS i) none mv (Vl i) (Vl (i + 1))) → zz_Z K (zz_End K (sgU h (zz_ac K) k v f s Kd Vl Fd Sh) (fun r h' => h' = sgU h (zz_ac K) k v f s (upd Kd (i + 1) (alK (PK (i + 1)) (PS i) none ms (Kd i))) (upd Vl (i + 1) (alV (PK (i + 1)) (PS i) none mv (Vl i) (Vl (i + 1)))) Fd (upd Sh i (bI (alS (PS i) none ms (Kd i)))) ∧ r = .inl none)) (sgU h (zz_ac K) k v f s Kd Vl Fd Sh) (sgU h (zz_ac K) k v f s K2 V2 Fd Sh) 0 0 127 [some (.ref o), some (.ref po), some (.int (nI i)), some (.null)] [] := fun K2 V2 e1 e2 => by
          refine zz_go C [(127, .aload_n 0)] (by decide +kernel) (pc' := 128) (lv' := [some (.ref o), some (.ref po), some (.int (nI i)), some (.null)]) (st' := [.ref o]) rfl ?_
          refine zz_get C fd_S_24 ((sgU_n no).trans ho) (v := .ref s) rfl (by decide +kernel) ?_
          refine zz_go C [(131, .iload_n 2), (132, .aload_n 1)] (by decide +kernel) (pc' := 133) (lv' := [some (.ref o), some (.ref po), some (.int (nI i)), some (.null)]) (st' := [.ref po, .int (nI i), .ref s]) rfl ?_
          refine zz_get C fd_S_24 ((sgU_n np).trans hpo) (v := .ref ps) rfl (by decide +kernel) ?_
          refine zz_go C [(136, .iload_n 2)] (by decide +kernel) (pc' := 137) (lv' := [some (.ref o), some (.ref po), some (.int (nI i)), some (.null)]) (st' := [.int (nI i), .ref ps, .int (nI i), .ref s]) rfl ?_
          refine ga_zld C ((sgU_n nps).trans hps) hi (by decide) (by decide +kernel) ?_
          refine zz_if C (i := .ifCond .eq 29) (by decide +kernel) (Pt := (PS i) = 0) (Pf := ¬ (PS i) = 0) (off := 29) (r := [.int (nI i), .ref s]) (tgt := 167) rfl (by decide) (fun g1 => ?_) (fun g1 => ?_)
          · refine zz_go C [(167, .iconst 0)] (by decide +kernel) (pc' := 168) (lv' := [some (.ref o), some (.ref po), some (.int (nI i)), some (.null)]) (st' := [.int (nI 0), .int (nI i), .ref s]) rfl ?_
            exact J2 K2 V2 false e1 e2 (by unfold alS; symm; exact decide_eq_false (fun q => q.1 g1))
          · refine zz_go C [(141, .aload_n 0)] (by decide +kernel) (pc' := 142) (lv' := [some (.ref o), some (.ref po), some (.int (nI i)), some (.null)]) (st' := [.ref o, .int (nI i), .ref s]) rfl ?_
            refine zz_get C fd_S_9 ((sgU_n no).trans ho) (v := .ref k) rfl (by decide +kernel) ?_
            refine zz_go C [(145, .iload_n 2)] (by decide +kernel) (pc' := 146) (lv' := [some (.ref o), some (.ref po), some (.int (nI i)), some (.null)]) (st' := [.int (nI i), .ref k, .int (nI i), .ref s]) rfl ?_
            refine sg_kld C (by omega) (by decide +kernel) ?_
            rw [show K2 i = Kd i from by rw [e1, upd_ne _ _ (by omega)]]
            refine zz_go C [(147, .iconst 1)] (by decide +kernel) (pc' := 148) (lv' := [some (.ref o), some (.ref po), some (.int (nI i)), some (.null)]) (st' := [.int (nI 1), .int (Kd i), .int (nI i), .ref s]) rfl ?_
            refine zz_if C (i := .if_icmp .ne 19) (by decide +kernel) (Pt := ¬ (Kd i) = (nI 1)) (Pf := (Kd i) = (nI 1)) (off := 19) (r := [.int (nI i), .ref s]) (tgt := 167) rfl (by decide) (fun g2 => ?_) (fun g2 => ?_)
            · refine zz_go C [(167, .iconst 0)] (by decide +kernel) (pc' := 168) (lv' := [some (.ref o), some (.ref po), some (.int (nI i)), some (.null)]) (st' := [.int (nI 0), .int (nI i), .ref s]) rfl ?_
              exact J2 K2 V2 false e1 e2 (by unfold alS; symm; exact decide_eq_false (fun q => g2 q.2.1))
            · refine zz_go C [(151, .aload_n 3), (152, .ifnull 11), (163, .iconst 1), (164, .goto 4)] (by decide +kernel) (pc' := 168) (lv' := [some (.ref o), some (.ref po), some (.int (nI i)), some (.null)]) (st' := [.int (nI 1), .int (nI i), .ref s]) rfl ?_
              exact J2 K2 V2 true e1 e2 (by unfold alS; symm; exact decide_eq_true ⟨g1, g2, Or.inl rfl⟩)
        refine zz_go C [(27, .aload_n 1)] (by decide +kernel) (pc' := 28) (lv' := [some (.ref o), some (.ref po), some (.int (nI i)), some (.null)]) (st' := [.ref po]) rfl ?_
        refine zz_get C fd_S_9 ((sgU_n np).trans hpo) (v := .ref pk) rfl (by decide +kernel) ?_
        refine zz_go C [(31, .iload_n 2), (32, .iconst 1), (33, .iadd)] (by decide +kernel) (pc' := 34) (lv' := [some (.ref o), some (.ref po), some (.int (nI i)), some (.null)]) (st' := [.int ((nI i) + (nI 1)), .ref pk]) rfl ?_
        rw [show nI i + nI 1 = nI (i + 1) from nI_add i 1]
        refine ga_ild C ((sgU_n npk).trans hpk) (by omega) (by decide) (by decide +kernel) ?_
        refine zz_go C [(35, .iconst 1)] (by decide +kernel) (pc' := 36) (lv' := [some (.ref o), some (.ref po), some (.int (nI i)), some (.null)]) (st' := [.int (nI 1), .int (PK (i + 1))]) rfl ?_
        refine zz_if C (i := .if_icmp .ne 91) (by decide +kernel) (Pt := ¬ (PK (i + 1)) = (nI 1)) (Pf := (PK (i + 1)) = (nI 1)) (off := 91) (r := []) (tgt := 127) rfl (by decide) (fun c1 => ?_) (fun c1 => ?_)
        · refine J _ _ ?_ ?_
          · rw [alK, if_neg c1]
          · rw [alV, if_neg c1, upd_self]
        · refine zz_go C [(39, .aload_n 3), (40, .ifnull 50), (90, .aload_n 1)] (by decide +kernel) (pc' := 91) (lv' := [some (.ref o), some (.ref po), some (.int (nI i)), some (.null)]) (st' := [.ref po]) rfl ?_
          refine zz_get C fd_S_24 ((sgU_n np).trans hpo) (v := .ref ps) rfl (by decide +kernel) ?_
          refine zz_go C [(94, .iload_n 2)] (by decide +kernel) (pc' := 95) (lv' := [some (.ref o), some (.ref po), some (.int (nI i)), some (.null)]) (st' := [.int (nI i), .ref ps]) rfl ?_
          refine ga_zld C ((sgU_n nps).trans hps) hi (by decide) (by decide +kernel) ?_
          refine zz_if C (i := .ifCond .eq 31) (by decide +kernel) (Pt := (PS i) = 0) (Pf := ¬ (PS i) = 0) (off := 31) (r := []) (tgt := 127) rfl (by decide) (fun c2 => ?_) (fun c2 => ?_)
          · refine J _ _ ?_ ?_
            · rw [alK, if_pos c1, if_pos rfl, if_pos c2]
            · rw [alV, if_pos c1, if_pos rfl, if_pos c2, upd_self]
          · refine zz_go C [(99, .aload_n 0)] (by decide +kernel) (pc' := 100) (lv' := [some (.ref o), some (.ref po), some (.int (nI i)), some (.null)]) (st' := [.ref o]) rfl ?_
            refine zz_get C fd_S_9 ((sgU_n no).trans ho) (v := .ref k) rfl (by decide +kernel) ?_
            refine zz_go C [(103, .iload_n 2), (104, .iconst 1), (105, .iadd), (106, .aload_n 0)] (by decide +kernel) (pc' := 107) (lv' := [some (.ref o), some (.ref po), some (.int (nI i)), some (.null)]) (st' := [.ref o, .int ((nI i) + (nI 1)), .ref k]) rfl ?_
            rw [show nI i + nI 1 = nI (i + 1) from nI_add i 1]
            refine zz_get C fd_S_9 ((sgU_n no).trans ho) (v := .ref k) rfl (by decide +kernel) ?_
            refine zz_go C [(110, .iload_n 2)] (by decide +kernel) (pc' := 111) (lv' := [some (.ref o), some (.ref po), some (.int (nI i)), some (.null)]) (st' := [.int (nI i), .ref k, .int (nI (i + 1)), .ref k]) rfl ?_
            refine sg_kld C (by omega) (by decide +kernel) ?_
            rw [upd_ne _ _ (show i ≠ i + 1 by omega)]
            refine sg_kst C (by omega) (by decide +kernel) ?_
            refine zz_go C [(113, .aload_n 0)] (by decide +kernel) (pc' := 114) (lv' := [some (.ref o), some (.ref po), some (.int (nI i)), some (.null)]) (st' := [.ref o]) rfl ?_
            refine zz_get C fd_S_15 ((sgU_n no).trans ho) (v := .ref v) rfl (by decide +kernel) ?_
            refine zz_go C [(117, .iload_n 2), (118, .iconst 1), (119, .iadd), (120, .aload_n 0)] (by decide +kernel) (pc' := 121) (lv' := [some (.ref o), some (.ref po), some (.int (nI i)), some (.null)]) (st' := [.ref o, .int ((nI i) + (nI 1)), .ref v]) rfl ?_
            rw [show nI i + nI 1 = nI (i + 1) from nI_add i 1]
            refine zz_get C fd_S_15 ((sgU_n no).trans ho) (v := .ref v) rfl (by decide +kernel) ?_
            refine zz_go C [(124, .iload_n 2)] (by decide +kernel) (pc' := 125) (lv' := [some (.ref o), some (.ref po), some (.int (nI i)), some (.null)]) (st' := [.int (nI i), .ref v, .int (nI (i + 1)), .ref v]) rfl ?_
            refine sg_vld C d (by omega) (by decide +kernel) ?_
            refine sg_vst C d (by omega) (by decide +kernel) ?_
            refine J _ _ ?_ ?_
            · rw [upd_upd, alK, if_pos c1, if_pos rfl, if_neg c2]
            · rw [alV, if_pos c1, if_pos rfl, if_neg c2]
      | some c =>
        obtain ⟨nc, mb, hc⟩ := hm c hF
        show zz_Z _ _ _ _ _ _ _ _ [.ref c]
        refine zz_go C [(17, .astore_n 3), (18, .aload_n 0)] (by decide +kernel) (pc' := 19) (lv' := [some (.ref o), some (.ref po), some (.int (nI i)), some (.ref c)]) (st' := [.ref o]) rfl ?_
        refine zz_get C fd_S_9 ((sgU_n no).trans ho) (v := .ref k) rfl (by decide +kernel) ?_
        refine zz_go C [(22, .iload_n 2), (23, .iconst 1), (24, .iadd), (25, .iconst (-1))] (by decide +kernel) (pc' := 26) (lv' := [some (.ref o), some (.ref po), some (.int (nI i)), some (.ref c)]) (st' := [.int ((-1)), .int ((nI i) + (nI 1)), .ref k]) rfl ?_
        rw [show nI i + nI 1 = nI (i + 1) from nI_add i 1]
        refine sg_kst C (by omega) (by decide +kernel) ?_
        have J2 : ∀ (K2 V2 : Nat → Int32) (b : Bool), K2 = upd Kd (i + 1) (alK (PK (i + 1)) (PS i) (some c) ms (Kd i)) → V2 = upd Vl (i + 1) (alV (PK (i + 1)) (PS i) (some c) mv (Vl i) (Vl (i + 1))) → b = alS (PS i) (some c) ms (Kd i) → zz_Z K (zz_End K (sgU h (zz_ac K) k v f s Kd Vl Fd Sh) (fun r h' => h' = sgU h (zz_ac K) k v f s (upd Kd (i + 1) (alK (PK (i + 1)) (PS i) (some c) ms (Kd i))) (upd Vl (i + 1) (alV (PK (i + 1)) (PS i) (some c) mv (Vl i) (Vl (i + 1)))) Fd (upd Sh i (bI (alS (PS i) (some c) ms (Kd i)))) ∧ r = .inl none)) (sgU h (zz_ac K) k v f s Kd Vl Fd Sh) (sgU h (zz_ac K) k v f s K2 V2 Fd Sh) 0 0 168 [some (.ref o), some (.ref po), some (.int (nI i)), some (.ref c)] [.int (bI b), .int (nI i), .ref s] := fun K2 V2 b e1 e2 e3 => by
          refine sg_sst C d b hi (by decide +kernel) ?_
          subst e1; subst e2; subst e3
          exact zr_v C E (by decide) (by decide) (by decide +kernel) (⟨rfl, rfl⟩)
        have J : ∀ K2 V2 : Nat → Int32, K2 = upd Kd (i + 1) (alK (PK (i + 1)) (PS i) (some c) ms (Kd i)) → V2 = upd Vl (i + 1) (alV (PK (i + 1)) (PS i) (some c) mv (Vl i) (Vl (i + 1))) → zz_Z K (zz_End K (sgU h (zz_ac K) k v f s Kd Vl Fd Sh) (fun r h' => h' = sgU h (zz_ac K) k v f s (upd Kd (i + 1) (alK (PK (i + 1)) (PS i) (some c) ms (Kd i))) (upd Vl (i + 1) (alV (PK (i + 1)) (PS i) (some c) mv (Vl i) (Vl (i + 1)))) Fd (upd Sh i (bI (alS (PS i) (some c) ms (Kd i)))) ∧ r = .inl none)) (sgU h (zz_ac K) k v f s Kd Vl Fd Sh) (sgU h (zz_ac K) k v f s K2 V2 Fd Sh) 0 0 127 [some (.ref o), some (.ref po), some (.int (nI i)), some (.ref c)] [] := fun K2 V2 e1 e2 => by
          refine zz_go C [(127, .aload_n 0)] (by decide +kernel) (pc' := 128) (lv' := [some (.ref o), some (.ref po), some (.int (nI i)), some (.ref c)]) (st' := [.ref o]) rfl ?_
          refine zz_get C fd_S_24 ((sgU_n no).trans ho) (v := .ref s) rfl (by decide +kernel) ?_
          refine zz_go C [(131, .iload_n 2), (132, .aload_n 1)] (by decide +kernel) (pc' := 133) (lv' := [some (.ref o), some (.ref po), some (.int (nI i)), some (.ref c)]) (st' := [.ref po, .int (nI i), .ref s]) rfl ?_
          refine zz_get C fd_S_24 ((sgU_n np).trans hpo) (v := .ref ps) rfl (by decide +kernel) ?_
          refine zz_go C [(136, .iload_n 2)] (by decide +kernel) (pc' := 137) (lv' := [some (.ref o), some (.ref po), some (.int (nI i)), some (.ref c)]) (st' := [.int (nI i), .ref ps, .int (nI i), .ref s]) rfl ?_
          refine ga_zld C ((sgU_n nps).trans hps) hi (by decide) (by decide +kernel) ?_
          refine zz_if C (i := .ifCond .eq 29) (by decide +kernel) (Pt := (PS i) = 0) (Pf := ¬ (PS i) = 0) (off := 29) (r := [.int (nI i), .ref s]) (tgt := 167) rfl (by decide) (fun g1 => ?_) (fun g1 => ?_)
          · refine zz_go C [(167, .iconst 0)] (by decide +kernel) (pc' := 168) (lv' := [some (.ref o), some (.ref po), some (.int (nI i)), some (.ref c)]) (st' := [.int (nI 0), .int (nI i), .ref s]) rfl ?_
            exact J2 K2 V2 false e1 e2 (by unfold alS; symm; exact decide_eq_false (fun q => q.1 g1))
          · refine zz_go C [(141, .aload_n 0)] (by decide +kernel) (pc' := 142) (lv' := [some (.ref o), some (.ref po), some (.int (nI i)), some (.ref c)]) (st' := [.ref o, .int (nI i), .ref s]) rfl ?_
            refine zz_get C fd_S_9 ((sgU_n no).trans ho) (v := .ref k) rfl (by decide +kernel) ?_
            refine zz_go C [(145, .iload_n 2)] (by decide +kernel) (pc' := 146) (lv' := [some (.ref o), some (.ref po), some (.int (nI i)), some (.ref c)]) (st' := [.int (nI i), .ref k, .int (nI i), .ref s]) rfl ?_
            refine sg_kld C (by omega) (by decide +kernel) ?_
            rw [show K2 i = Kd i from by rw [e1, upd_ne _ _ (by omega)]]
            refine zz_go C [(147, .iconst 1)] (by decide +kernel) (pc' := 148) (lv' := [some (.ref o), some (.ref po), some (.int (nI i)), some (.ref c)]) (st' := [.int (nI 1), .int (Kd i), .int (nI i), .ref s]) rfl ?_
            refine zz_if C (i := .if_icmp .ne 19) (by decide +kernel) (Pt := ¬ (Kd i) = (nI 1)) (Pf := (Kd i) = (nI 1)) (off := 19) (r := [.int (nI i), .ref s]) (tgt := 167) rfl (by decide) (fun g2 => ?_) (fun g2 => ?_)
            · refine zz_go C [(167, .iconst 0)] (by decide +kernel) (pc' := 168) (lv' := [some (.ref o), some (.ref po), some (.int (nI i)), some (.ref c)]) (st' := [.int (nI 0), .int (nI i), .ref s]) rfl ?_
              exact J2 K2 V2 false e1 e2 (by unfold alS; symm; exact decide_eq_false (fun q => g2 q.2.1))
            · refine zz_go C [(151, .aload_n 3), (152, .ifnull 11), (155, .aload_n 3)] (by decide +kernel) (pc' := 156) (lv' := [some (.ref o), some (.ref po), some (.int (nI i)), some (.ref c)]) (st' := [.ref c, .int (nI i), .ref s]) rfl ?_
              refine zz_get C fd_S_36 ((sgU_n nc).trans hc) (v := .int ms) rfl (by decide +kernel) ?_
              refine zz_go C [(159, .iconst 1)] (by decide +kernel) (pc' := 160) (lv' := [some (.ref o), some (.ref po), some (.int (nI i)), some (.ref c)]) (st' := [.int (nI 1), .int ms, .int (nI i), .ref s]) rfl ?_
              refine zz_if C (i := .if_icmp .ne 7) (by decide +kernel) (Pt := ¬ ms = (nI 1)) (Pf := ms = (nI 1)) (off := 7) (r := [.int (nI i), .ref s]) (tgt := 167) rfl (by decide) (fun g3 => ?_) (fun g3 => ?_)
              · refine zz_go C [(167, .iconst 0)] (by decide +kernel) (pc' := 168) (lv' := [some (.ref o), some (.ref po), some (.int (nI i)), some (.ref c)]) (st' := [.int (nI 0), .int (nI i), .ref s]) rfl ?_
                exact J2 K2 V2 false e1 e2 (by unfold alS; symm; exact decide_eq_false (fun q => q.2.2.elim (fun x => by cases x) g3))
              · refine zz_go C [(163, .iconst 1), (164, .goto 4)] (by decide +kernel) (pc' := 168) (lv' := [some (.ref o), some (.ref po), some (.int (nI i)), some (.ref c)]) (st' := [.int (nI 1), .int (nI i), .ref s]) rfl ?_
                exact J2 K2 V2 true e1 e2 (by unfold alS; symm; exact decide_eq_true (⟨g1, g2, Or.inr g3⟩))
        refine zz_go C [(27, .aload_n 1)] (by decide +kernel) (pc' := 28) (lv' := [some (.ref o), some (.ref po), some (.int (nI i)), some (.ref c)]) (st' := [.ref po]) rfl ?_
        refine zz_get C fd_S_9 ((sgU_n np).trans hpo) (v := .ref pk) rfl (by decide +kernel) ?_
        refine zz_go C [(31, .iload_n 2), (32, .iconst 1), (33, .iadd)] (by decide +kernel) (pc' := 34) (lv' := [some (.ref o), some (.ref po), some (.int (nI i)), some (.ref c)]) (st' := [.int ((nI i) + (nI 1)), .ref pk]) rfl ?_
        rw [show nI i + nI 1 = nI (i + 1) from nI_add i 1]
        refine ga_ild C ((sgU_n npk).trans hpk) (by omega) (by decide) (by decide +kernel) ?_
        refine zz_go C [(35, .iconst 1)] (by decide +kernel) (pc' := 36) (lv' := [some (.ref o), some (.ref po), some (.int (nI i)), some (.ref c)]) (st' := [.int (nI 1), .int (PK (i + 1))]) rfl ?_
        refine zz_if C (i := .if_icmp .ne 91) (by decide +kernel) (Pt := ¬ (PK (i + 1)) = (nI 1)) (Pf := (PK (i + 1)) = (nI 1)) (off := 91) (r := []) (tgt := 127) rfl (by decide) (fun c1 => ?_) (fun c1 => ?_)
        · refine J _ _ ?_ ?_
          · rw [alK, if_neg c1]
          · rw [alV, if_neg c1, upd_self]
        · refine zz_go C [(39, .aload_n 3), (40, .ifnull 50), (43, .aload_n 0)] (by decide +kernel) (pc' := 44) (lv' := [some (.ref o), some (.ref po), some (.int (nI i)), some (.ref c)]) (st' := [.ref o]) rfl ?_
          refine zz_get C fd_S_9 ((sgU_n no).trans ho) (v := .ref k) rfl (by decide +kernel) ?_
          refine zz_go C [(47, .iload_n 2), (48, .iconst 1), (49, .iadd), (50, .aload_n 3)] (by decide +kernel) (pc' := 51) (lv' := [some (.ref o), some (.ref po), some (.int (nI i)), some (.ref c)]) (st' := [.ref c, .int ((nI i) + (nI 1)), .ref k]) rfl ?_
          rw [show nI i + nI 1 = nI (i + 1) from nI_add i 1]
          refine zz_get C fd_S_36 ((sgU_n nc).trans hc) (v := .int ms) rfl (by decide +kernel) ?_
          refine zz_go C [(54, .iconst 3)] (by decide +kernel) (pc' := 55) (lv' := [some (.ref o), some (.ref po), some (.int (nI i)), some (.ref c)]) (st' := [.int (nI 3), .int ms, .int (nI (i + 1)), .ref k]) rfl ?_
          refine zz_if C (i := .if_icmp .ne 7) (by decide +kernel) (Pt := ¬ ms = (nI 3)) (Pf := ms = (nI 3)) (off := 7) (r := [.int (nI (i + 1)), .ref k]) (tgt := 62) rfl (by decide) (fun c2 => ?_) (fun c2 => ?_)
          · refine zz_go C [(62, .aload_n 3)] (by decide +kernel) (pc' := 63) (lv' := [some (.ref o), some (.ref po), some (.int (nI i)), some (.ref c)]) (st' := [.ref c, .int (nI (i + 1)), .ref k]) rfl ?_
            refine zz_get C fd_S_36 ((sgU_n nc).trans hc) (v := .int ms) rfl (by decide +kernel) ?_
            refine zz_if C (i := .ifCond .ne 7) (by decide +kernel) (Pt := ¬ ms = 0) (Pf := ms = 0) (off := 7) (r := [.int (nI (i + 1)), .ref k]) (tgt := 73) rfl (by decide) (fun c3 => ?_) (fun c3 => ?_)
            · refine zz_go C [(73, .iconst 1)] (by decide +kernel) (pc' := 74) (lv' := [some (.ref o), some (.ref po), some (.int (nI i)), some (.ref c)]) (st' := [.int (nI 1), .int (nI (i + 1)), .ref k]) rfl ?_
              refine sg_kst C (by omega) (by decide +kernel) ?_
              refine zz_go C [(75, .aload_n 0)] (by decide +kernel) (pc' := 76) (lv' := [some (.ref o), some (.ref po), some (.int (nI i)), some (.ref c)]) (st' := [.ref o]) rfl ?_
              refine zz_get C fd_S_15 ((sgU_n no).trans ho) (v := .ref v) rfl (by decide +kernel) ?_
              refine zz_go C [(79, .iload_n 2), (80, .iconst 1), (81, .iadd), (82, .aload_n 3)] (by decide +kernel) (pc' := 83) (lv' := [some (.ref o), some (.ref po), some (.int (nI i)), some (.ref c)]) (st' := [.ref c, .int ((nI i) + (nI 1)), .ref v]) rfl ?_
              rw [show nI i + nI 1 = nI (i + 1) from nI_add i 1]
              refine zz_get C fd_S_40 ((sgU_n nc).trans hc) (v := .int mv) rfl (by decide +kernel) ?_
              refine sg_vst C d (by omega) (by decide +kernel) ?_
              refine zz_go C [(87, .goto 40)] (by decide +kernel) (pc' := 127) (lv' := [some (.ref o), some (.ref po), some (.int (nI i)), some (.ref c)]) (st' := []) rfl ?_
              refine J _ _ ?_ ?_
              · rw [upd_upd, alK, if_pos c1, if_neg (by simp), if_neg c2, if_neg c3]
              · rw [alV, if_pos c1, if_neg (by simp)]
            · refine zz_go C [(69, .iconst 0), (70, .goto 4)] (by decide +kernel) (pc' := 74) (lv' := [some (.ref o), some (.ref po), some (.int (nI i)), some (.ref c)]) (st' := [.int (nI 0), .int (nI (i + 1)), .ref k]) rfl ?_
              refine sg_kst C (by omega) (by decide +kernel) ?_
              refine zz_go C [(75, .aload_n 0)] (by decide +kernel) (pc' := 76) (lv' := [some (.ref o), some (.ref po), some (.int (nI i)), some (.ref c)]) (st' := [.ref o]) rfl ?_
              refine zz_get C fd_S_15 ((sgU_n no).trans ho) (v := .ref v) rfl (by decide +kernel) ?_
              refine zz_go C [(79, .iload_n 2), (80, .iconst 1), (81, .iadd), (82, .aload_n 3)] (by decide +kernel) (pc' := 83) (lv' := [some (.ref o), some (.ref po), some (.int (nI i)), some (.ref c)]) (st' := [.ref c, .int ((nI i) + (nI 1)), .ref v]) rfl ?_
              rw [show nI i + nI 1 = nI (i + 1) from nI_add i 1]
              refine zz_get C fd_S_40 ((sgU_n nc).trans hc) (v := .int mv) rfl (by decide +kernel) ?_
              refine sg_vst C d (by omega) (by decide +kernel) ?_
              refine zz_go C [(87, .goto 40)] (by decide +kernel) (pc' := 127) (lv' := [some (.ref o), some (.ref po), some (.int (nI i)), some (.ref c)]) (st' := []) rfl ?_
              refine J _ _ ?_ ?_
              · rw [upd_upd, alK, if_pos c1, if_neg (by simp), if_neg c2, if_pos c3]
              · rw [alV, if_pos c1, if_neg (by simp)]
          · refine zz_go C [(58, .iconst (-1)), (59, .goto 15)] (by decide +kernel) (pc' := 74) (lv' := [some (.ref o), some (.ref po), some (.int (nI i)), some (.ref c)]) (st' := [.int ((-1)), .int (nI (i + 1)), .ref k]) rfl ?_
            refine sg_kst C (by omega) (by decide +kernel) ?_
            refine zz_go C [(75, .aload_n 0)] (by decide +kernel) (pc' := 76) (lv' := [some (.ref o), some (.ref po), some (.int (nI i)), some (.ref c)]) (st' := [.ref o]) rfl ?_
            refine zz_get C fd_S_15 ((sgU_n no).trans ho) (v := .ref v) rfl (by decide +kernel) ?_
            refine zz_go C [(79, .iload_n 2), (80, .iconst 1), (81, .iadd), (82, .aload_n 3)] (by decide +kernel) (pc' := 83) (lv' := [some (.ref o), some (.ref po), some (.int (nI i)), some (.ref c)]) (st' := [.ref c, .int ((nI i) + (nI 1)), .ref v]) rfl ?_
            rw [show nI i + nI 1 = nI (i + 1) from nI_add i 1]
            refine zz_get C fd_S_40 ((sgU_n nc).trans hc) (v := .int mv) rfl (by decide +kernel) ?_
            refine sg_vst C d (by omega) (by decide +kernel) ?_
            refine zz_go C [(87, .goto 40)] (by decide +kernel) (pc' := 127) (lv' := [some (.ref o), some (.ref po), some (.int (nI i)), some (.ref c)]) (st' := []) rfl ?_
            refine J _ _ ?_ ?_
            · rw [upd_upd, alK, if_pos c1, if_neg (by simp), if_pos c2]
            · rw [alV, if_pos c1, if_neg (by simp)]
    · exact absurd (show nI i < nI 8 from nI_lt hi (by omega)) cB
end
section
/-! ===== what a sight sees ===== -/
/-- a mark of a layer: its place, its sort, its value, its row -/
abbrev zMk := Nat × Int32 × Int32 × Option Nat
def mkA (m : Option zMk) : Option Nat := m.map fun q => q.1
def mkS (m : Option zMk) : Int32 := match m with
  | some q => q.2.1
  | none => 0
def mkV (m : Option zMk) : Int32 := match m with
  | some q => q.2.2.1
  | none => 0
def nxK (P : Nat → Int32) (S : Nat → Bool) (m : Nat → Option zMk) : Nat → Int32
  | 0 => -1
  | i + 1 => alK (P (i + 1)) (bI (S i)) (mkA (m i)) (mkS (m i)) (nxK P S m i)
def nxV (m : Nat → Option zMk) : Nat → Int32
  | 0 => 0
  | i + 1 => if mkA (m i) = none then nxV m i else mkV (m i)
def nxS (P : Nat → Int32) (S : Nat → Bool) (m : Nat → Option zMk) (i : Nat) : Bool := alS (bI (S i)) (mkA (m i)) (mkS (m i)) (nxK P S m i)
def sgG (n : Nat) (Kd Vl : Nat → Int32) (Fd : Nat → Option Nat) (Sh : Nat → Int32) (VK : Nat → Int32) (VS : Nat → Bool) (VV : Nat → Int32) (Ad : Nat → Option Nat) : Prop := (∀ i, i ≤ n → Kd i = VK i) ∧ (∀ i, i < n → Fd i = Ad i ∧ Sh i = bI (VS i)) ∧ ∀ i, i ≤ n → VK i = 0 → Vl i = VV i
def sgS (h : zz_Hp) (aC : Nat → ClassId) (k v f s n : Nat) (VK : Nat → Int32) (VS : Nat → Bool) (VV : Nat → Int32) (Ad : Nat → Option Nat) : Prop := ∃ (Kd Vl : Nat → Int32) (Fd : Nat → Option Nat) (Sh : Nat → Int32), (h k = some (iaE aC 9 Kd) ∧ h v = some (iaE aC 9 Vl) ∧ h f = some (maE aC 8 Fd) ∧ h s = some (zaE aC 8 Sh)) ∧ sgG n Kd Vl Fd Sh VK VS VV Ad
theorem bI_0 (b : Bool) : bI b = 0 ↔ b = false := by cases b <;> decide
theorem sgG_step {i : Nat} {Kd Vl Sh PK PS P : Nat → Int32} {Fd : Nat → Option Nat} {S : Nat → Bool} {m : Nat → Option zMk} (G : sgG i Kd Vl Fd Sh (nxK P S m) (nxS P S m) (nxV m) (fun j => mkA (m j))) (h1 : PK (i + 1) = P (i + 1)) (h2 : PS i = bI (S i)) :
    sgG (i + 1) (upd Kd (i + 1) (alK (PK (i + 1)) (PS i) (mkA (m i)) (mkS (m i)) (Kd i))) (upd Vl (i + 1) (alV (PK (i + 1)) (PS i) (mkA (m i)) (mkV (m i)) (Vl i) (Vl (i + 1)))) (va_up Fd i (mkA (m i))) (upd Sh i (bI (alS (PS i) (mkA (m i)) (mkS (m i)) (Kd i)))) (nxK P S m) (nxS P S m) (nxV m) (fun j => mkA (m j)) := by
  obtain ⟨g1, g2, g3⟩ := G
  have e0 := g1 i (Nat.le_refl i)
  refine ⟨fun j hj => ?_, fun j hj => ?_, fun j hj hz => ?_⟩
  · by_cases e : j = i + 1
    · subst e; rw [upd_at, h1, h2, e0]; rfl
    · rw [upd_ne _ _ e]; exact g1 j (by omega)
  · by_cases e : j = i
    · subst e; rw [va_up_self, upd_at, h2, e0]; exact ⟨rfl, rfl⟩
    · rw [va_up_ne _ _ e, upd_ne _ _ e]; exact g2 j (by omega)
  · by_cases e : j = i + 1
    · subst e
      rw [upd_at, h1, h2]
      have hz' : alK (P (i + 1)) (bI (S i)) (mkA (m i)) (mkS (m i)) (nxK P S m i) = 0 := hz
      unfold alK at hz'
      unfold alV
      show _ = if mkA (m i) = none then nxV m i else mkV (m i)
      by_cases c1 : P (i + 1) = nI 1
      · rw [if_pos c1] at hz' ⊢
        by_cases c2 : mkA (m i) = none
        · rw [if_pos c2] at hz' ⊢
          rw [if_pos c2]
          by_cases c3 : bI (S i) = 0
          · rw [if_pos c3] at hz'; exact absurd hz' (by decide)
          · rw [if_neg c3] at hz' ⊢; exact g3 i (Nat.le_refl i) hz'
        · rw [if_neg c2, if_neg c2]
      · rw [if_neg c1] at hz'; exact absurd hz' (by decide)
    · rw [upd_ne _ _ e]; exact g3 j (by omega) hz
def zEl (e : va_E) : Nat := match e with
  | .inl y => y.2.1
  | .inr _ => 0
theorem sgN_len {h : zz_Hp} {aC : Nat → ClassId} {k v f s c : Nat} {Kd Vl Sh : Nat → Int32} {Fd : Nat → Option Nat} {e : va_E} (hk : h k = some (iaE aC 9 Kd)) (hv : h v = some (iaE aC 9 Vl)) (hf : h f = some (maE aC 8 Fd)) (hs : h s = some (zaE aC 8 Sh)) (hc : h c = some e) (h8 : zEl e ≠ 8) (h9 : zEl e ≠ 9) : sgN c k v f s :=
  ⟨fun q => by rw [q, hk] at hc; exact h9 (Option.some.inj hc ▸ rfl), fun q => by rw [q, hv] at hc; exact h9 (Option.some.inj hc ▸ rfl), fun q => by rw [q, hf] at hc; exact h8 (Option.some.inj hc ▸ rfl), fun q => by rw [q, hs] at hc; exact h8 (Option.some.inj hc ▸ rfl)⟩
theorem sgN_mk {h : zz_Hp} {aC : Nat → ClassId} {k v f s c : Nat} {Kd Vl Sh : Nat → Int32} {Fd : Nat → Option Nat} {x : Nat × List Value} (hk : h k = some (iaE aC 9 Kd)) (hv : h v = some (iaE aC 9 Vl)) (hf : h f = some (maE aC 8 Fd)) (hs : h s = some (zaE aC 8 Sh)) (hc : h c = some (.inr x)) : sgN c k v f s := sgN_len hk hv hf hs hc (fun e => absurd (show (0 : Nat) = 8 from e) (by decide)) (fun e => absurd (show (0 : Nat) = 9 from e) (by decide))
theorem sgN_rw {h : zz_Hp} {aC : Nat → ClassId} {k v f s c : Nat} {Kd Vl Sh : Nat → Int32} {Fd g : Nat → Option Nat} (hk : h k = some (iaE aC 9 Kd)) (hv : h v = some (iaE aC 9 Vl)) (hf : h f = some (maE aC 8 Fd)) (hs : h s = some (zaE aC 8 Sh)) (hc : h c = some (maE aC 10 g)) : sgN c k v f s := sgN_len hk hv hf hs hc (fun e => absurd (show (10 : Nat) = 8 from e) (by decide)) (fun e => absurd (show (10 : Nat) = 9 from e) (by decide))
/-- what a layer has at a name below a place -/
def seH (h : zz_Hp) (aC : Nat → ClassId) (x : Int32) (pa : Option Nat) (m : Option zMk) : Prop := (pa = none → m = none) ∧ (∀ a, pa = some a → ∃ (s v : Int32) (b : Option Nat) (f : Nat → Option Nat), h a = some (mkE s v b) ∧ (∀ q, b = some q → h q = some (maE aC 10 f)) ∧ atF b f x = mkA m) ∧ ∀ q, m = some q → h q.1 = some (mkE q.2.1 q.2.2.1 q.2.2.2)
set_option maxHeartbeats 4000000 in
theorem c_S_see (l : Launch) (D : va_G) (aC : Nat → ClassId) (h : zz_Hp) (o k v f s po pk pv pf ps n : Nat) (x : Int32) (P : Nat → Int32) (S : Nat → Bool) (PV : Nat → Int32) (PA : Nat → Option Nat) (m : Nat → Option zMk) (d : sgD k v f s) (no : sgN o k v f s) (ho : h o = some (sgE k v f s)) (hk : ∃ Kd, h k = some (iaE aC 9 Kd)) (hv : ∃ Vl, h v = some (iaE aC 9 Vl)) (hf : ∃ Fd, h f = some (maE aC 8 Fd)) (hs : ∃ Sh, h s = some (zaE aC 8 Sh)) (np : sgN po k v f s) (hpo : h po = some (sgE pk pv pf ps)) (npk : sgN pk k v f s) (npf : sgN pf k v f s) (nps : sgN ps k v f s) (hP : sgS h aC pk pv pf ps n P S PV PA) (hn : n ≤ 8) (hl : ∀ i, i < n → seH h aC x (PA i) (m i)) :
    zz_Ct l D aC y_S_see (zrm 1 0 0 60) [.ref o, .ref po, .int x, .int (nI n)] h (fun r h' => r = .inl none ∧ (∀ a, sgN a k v f s → h' a = h a) ∧ sgS h' aC k v f s n (nxK P S m) (nxS P S m) (nxV m) (fun i => mkA (m i))) := by
  refine zz_ct md_S_see rfl (by simp [Value.category]) (Nat.le_of_ble_eq_true rfl) fun K C E hI => ?_
  obtain rfl := E.ac
  obtain ⟨Kd0, hk⟩ := hk
  obtain ⟨Vl0, hv⟩ := hv
  obtain ⟨Fd0, hf⟩ := hf
  obtain ⟨Sh0, hs⟩ := hs
  obtain ⟨PKd, PVl, PFd, PSh, ⟨hpk, hpv, hpf, hps⟩, pg1, pg2, pg3⟩ := hP
  have loop : ∀ (g i : Nat), i + g = n → ∀ (Kd Vl : Nat → Int32) (Fd : Nat → Option Nat) (Sh : Nat → Int32), sgG i Kd Vl Fd Sh (nxK P S m) (nxS P S m) (nxV m) (fun j => mkA (m j)) → zz_Z K (zz_End K h (fun r h' => r = .inl none ∧ (∀ a, sgN a k v f s → h' a = h a) ∧ sgS h' (zz_ac K) k v f s n (nxK P S m) (nxS P S m) (nxV m) (fun i => mkA (m i)))) h (sgU h (zz_ac K) k v f s Kd Vl Fd Sh) 0 0 10 [some (.ref o), some (.ref po), some (.int x), some (.int (nI n)), some (.int (nI i)), none] [] := by
    intro g
    induction g with
    | zero =>
      intro i hin Kd Vl Fd Sh G
      refine zz_go C [(10, .iload 4), (12, .iload_n 3)] (by decide +kernel) (pc' := 13) (lv' := [some (.ref o), some (.ref po), some (.int x), some (.int (nI n)), some (.int (nI i)), none]) (st' := [.int (nI n), .int (nI i)]) rfl ?_
      refine zz_if C (i := .if_icmp .ge 54) (by decide +kernel) (Pt := (nI n) ≤ (nI i)) (Pf := ¬ (nI n) ≤ (nI i)) (off := 54) (r := []) (tgt := 67) rfl (by decide) (fun cA => ?_) (fun cA => ?_)
      · have hin2 : i = n := by omega
        subst hin2
        exact zr_v C E (by decide) (by decide) (by decide +kernel) (⟨rfl, fun a na => sgU_n na, Kd, Vl, Fd, Sh, ⟨sgU_k, sgU_v d, sgU_f d, sgU_s d⟩, G⟩)
      · exact absurd (nI_le (by omega) (by omega)) cA
    | succ g ih =>
      intro i hin Kd Vl Fd Sh G
      refine zz_go C [(10, .iload 4), (12, .iload_n 3)] (by decide +kernel) (pc' := 13) (lv' := [some (.ref o), some (.ref po), some (.int x), some (.int (nI n)), some (.int (nI i)), none]) (st' := [.int (nI n), .int (nI i)]) rfl ?_
      refine zz_if C (i := .if_icmp .ge 54) (by decide +kernel) (Pt := (nI n) ≤ (nI i)) (Pf := ¬ (nI n) ≤ (nI i)) (off := 54) (r := []) (tgt := 67) rfl (by decide) (fun cA => ?_) (fun cA => ?_)
      · exact absurd ((nI_leI (by omega) (by omega)).mp cA) (by omega)
      · refine zz_go C [(16, .iload 4), (18, .bipush 8)] (by decide +kernel) (pc' := 20) (lv' := [some (.ref o), some (.ref po), some (.int x), some (.int (nI n)), some (.int (nI i)), none]) (st' := [.int (nI 8), .int (nI i)]) rfl ?_
        refine zz_if C (i := .if_icmp .ge 47) (by decide +kernel) (Pt := (nI 8) ≤ (nI i)) (Pf := ¬ (nI 8) ≤ (nI i)) (off := 47) (r := []) (tgt := 67) rfl (by decide) (fun cB => ?_) (fun cB => ?_)
        · exact absurd ((nI_leI (by omega) (by omega)).mp cB) (by omega)
        · obtain ⟨q1, q2, q3⟩ := hl i (by omega)
          have pgi := pg2 i (by omega)
          have J : zz_Z K (zz_End K h (fun r h' => r = .inl none ∧ (∀ a, sgN a k v f s → h' a = h a) ∧ sgS h' (zz_ac K) k v f s n (nxK P S m) (nxS P S m) (nxV m) (fun i => mkA (m i)))) h (sgU h (zz_ac K) k v f s Kd Vl (va_up Fd i (mkA (m i))) Sh) 0 0 54 [some (.ref o), some (.ref po), some (.int x), some (.int (nI n)), some (.int (nI i)), none] [] := by
            refine zz_go C [(54, .aload_n 0), (55, .aload_n 1), (56, .iload 4)] (by decide +kernel) (pc' := 58) (lv' := [some (.ref o), some (.ref po), some (.int x), some (.int (nI n)), some (.int (nI i)), none]) (st' := [.int (nI i), .ref po, .ref o]) rfl ?_
            refine zz_cV C E (ci := 1) (As := [.ref po, .int (nI i)]) (rest := []) (hc := (sgU h (zz_ac K) k v f s Kd Vl (va_up Fd i (mkA (m i))) Sh)) md_S_addLayer (c_S_addLayer l D (zz_ac K) h o k v f s po pk pv pf ps i Kd Vl (va_up Fd i (mkA (m i))) Sh PKd PSh (mkS (m i)) (mkV (m i)) d no ho np hpo npk hpk nps hps (by omega) (fun c hc => by
          rw [va_up_self] at hc
          cases hmi : m i with
          | none => rw [hmi] at hc; cases hc
          | some q =>
            rw [hmi] at hc
            cases hc
            have hq := q3 q hmi
            exact ⟨sgN_mk hk hv hf hs hq, _, hq⟩)) ml_S_32 im_S_addLayer se_S_addLayer rfl ((sgU_n no).trans ho) (fun _ _ q => q) rfl rfl (Nat.le_of_ble_eq_true rfl) ⟨by decide, by decide⟩ ⟨by decide, by decide⟩ (by decide +kernel) (fun v h' hp hn hd => ?_) (fun v h' hp hn hd => ?_)
            · rw [zz_mix_self hd]
              obtain ⟨hh, hv2⟩ := hp
              rw [hh]
              cases hv2
              rw [va_up_self]
              show zz_Z _ _ _ _ _ _ _ _ []
              refine zz_go C [(61, .iinc 4 1), (64, .goto (-54))] (by decide +kernel) (pc' := 10) (lv' := [some (.ref o), some (.ref po), some (.int x), some (.int (nI n)), some (.int ((nI i) + (nI 1))), none]) (st' := []) rfl ?_
              rw [show nI i + nI 1 = nI (i + 1) from nI_add i 1]
              exact ih (i + 1) (by omega) _ _ _ _ (sgG_step G (pg1 (i + 1) (by omega)) pgi.2)
            · cases hp.2
          refine zz_go C [(23, .aload_n 1)] (by decide +kernel) (pc' := 24) (lv' := [some (.ref o), some (.ref po), some (.int x), some (.int (nI n)), some (.int (nI i)), none]) (st' := [.ref po]) rfl ?_
          refine zz_get C fd_S_20 ((sgU_n np).trans hpo) (v := .ref pf) rfl (by decide +kernel) ?_
          refine zz_go C [(27, .iload 4)] (by decide +kernel) (pc' := 29) (lv' := [some (.ref o), some (.ref po), some (.int x), some (.int (nI n)), some (.int (nI i)), none]) (st' := [.int (nI i), .ref pf]) rfl ?_
          refine ga_qld C ((sgU_n npf).trans hpf) (by omega) (by decide) (by decide +kernel) ?_
          rw [pgi.1]
          cases hpa : PA i with
          | none =>
            show zz_Z _ _ _ _ _ _ _ _ [.null]
            refine zz_go C [(30, .astore 5), (32, .aload_n 0)] (by decide +kernel) (pc' := 33) (lv' := [some (.ref o), some (.ref po), some (.int x), some (.int (nI n)), some (.int (nI i)), some (.null)]) (st' := [.ref o]) rfl ?_
            refine zz_get C fd_S_20 ((sgU_n no).trans ho) (v := .ref f) rfl (by decide +kernel) ?_
            refine zz_go C [(36, .iload 4), (38, .aload 5), (40, .ifnonnull 7), (43, .aconst_null), (44, .goto 9)] (by decide +kernel) (pc' := 53) (lv' := [some (.ref o), some (.ref po), some (.int x), some (.int (nI n)), some (.int (nI i)), some (.null)]) (st' := [.null, .int (nI i), .ref f]) rfl ?_
            refine sg_fstN C d (by omega) (by decide +kernel) ?_
            have hmi := q1 hpa
            rw [show (none : Option Nat) = mkA (m i) from by rw [hmi]; rfl]
            exact zz_lv [some (.ref o), some (.ref po), some (.int x), some (.int (nI n)), some (.int (nI i)), none] (fun j u hu => by
            rcases j with _ | _ | _ | _ | _ | _ | j <;> first | exact hu | cases hu) (Nat.le_of_ble_eq_true rfl) J
          | some a =>
            show zz_Z _ _ _ _ _ _ _ _ [.ref a]
            obtain ⟨as, av, ab, af, ha, hb, hat⟩ := q2 a hpa
            have na : sgN a k v f s := sgN_mk hk hv hf hs ha
            refine zz_go C [(30, .astore 5), (32, .aload_n 0)] (by decide +kernel) (pc' := 33) (lv' := [some (.ref o), some (.ref po), some (.int x), some (.int (nI n)), some (.int (nI i)), some (.ref a)]) (st' := [.ref o]) rfl ?_
            refine zz_get C fd_S_20 ((sgU_n no).trans ho) (v := .ref f) rfl (by decide +kernel) ?_
            refine zz_go C [(36, .iload 4), (38, .aload 5), (40, .ifnonnull 7), (47, .aload 5), (49, .iload_n 2)] (by decide +kernel) (pc' := 50) (lv' := [some (.ref o), some (.ref po), some (.int x), some (.int (nI n)), some (.int (nI i)), some (.ref a)]) (st' := [.int x, .ref a, .int (nI i), .ref f]) rfl ?_
            refine zz_cV C E (ci := 0) (As := [.int x]) (rest := [.int (nI i), .ref f]) (hc := (sgU h (zz_ac K) k v f s Kd Vl Fd Sh)) md_M_at (c_M_at l D (zz_ac K) (sgU h (zz_ac K) k v f s Kd Vl Fd Sh) a as av x ab af ((sgU_n na).trans ha) (fun q e => (sgU_n (sgN_rw hk hv hf hs (hb q e))).trans (hb q e))) ml_S_28 im_M_at se_M_at rfl ((sgU_n na).trans ha) (fun _ _ q => q) rfl rfl (Nat.le_of_ble_eq_true rfl) ⟨by decide, by decide⟩ ⟨by decide, by decide⟩ (by decide +kernel) (fun v h' hp hn hd => ?_) (fun v h' hp hn hd => ?_)
            · rw [zz_mix_self hd]
              obtain ⟨hh, hv2⟩ := hp
              rw [hh]
              cases hv2
              rw [hat]
              cases hmi : m i with
              | none =>
                show zz_Z _ _ _ _ _ _ _ _ [.null, .int (nI i), .ref f]
                refine sg_fstN C d (by omega) (by decide +kernel) ?_
                rw [show (none : Option Nat) = mkA (m i) from by rw [hmi]; rfl]
                exact zz_lv [some (.ref o), some (.ref po), some (.int x), some (.int (nI n)), some (.int (nI i)), none] (fun j u hu => by
            rcases j with _ | _ | _ | _ | _ | _ | j <;> first | exact hu | cases hu) (Nat.le_of_ble_eq_true rfl) J
              | some q =>
                show zz_Z _ _ _ _ _ _ _ _ [.ref q.1, .int (nI i), .ref f]
                refine sg_fst C d (by omega) (vs := [.int q.2.1, .int q.2.2.1, va_rf q.2.2.2]) ((sgU_n (sgN_mk hk hv hf hs (q3 q hmi))).trans (q3 q hmi)) (by decide +kernel) ?_
                rw [show some q.1 = mkA (m i) from by rw [hmi]; rfl]
                exact zz_lv [some (.ref o), some (.ref po), some (.int x), some (.int (nI n)), some (.int (nI i)), none] (fun j u hu => by
            rcases j with _ | _ | _ | _ | _ | _ | j <;> first | exact hu | cases hu) (Nat.le_of_ble_eq_true rfl) J
            · cases hp.2
  refine zz_hp (sgU_self d hk hv hf hs).symm ?_
  refine zz_go C [(0, .aload_n 0)] (by decide +kernel) (pc' := 1) (lv' := [some (.ref o), some (.ref po), some (.int x), some (.int (nI n)), none, none]) (st' := [.ref o]) rfl ?_
  refine zz_get C fd_S_9 ((sgU_n no).trans ho) (v := .ref k) rfl (by decide +kernel) ?_
  refine zz_go C [(4, .iconst 0), (5, .iconst (-1))] (by decide +kernel) (pc' := 6) (lv' := [some (.ref o), some (.ref po), some (.int x), some (.int (nI n)), none, none]) (st' := [.int ((-1)), .int (nI 0), .ref k]) rfl ?_
  refine sg_kst C (j := 0) (by decide) (by decide +kernel) ?_
  refine zz_go C [(7, .iconst 0), (8, .istore 4)] (by decide +kernel) (pc' := 10) (lv' := [some (.ref o), some (.ref po), some (.int x), some (.int (nI n)), some (.int (nI 0)), none]) (st' := []) rfl ?_
  exact loop n 0 (by omega) _ _ _ _ ⟨fun j hj => by rw [show j = 0 by omega, upd_at]; rfl, fun j hj => absurd hj (by omega), fun j hj hz => by rw [show j = 0 by omega] at hz; exact absurd (show (-1 : Int32) = 0 from hz) (by decide)⟩
set_option maxHeartbeats 4000000 in
theorem c_S_seeRoot (l : Launch) (D : va_G) (aC : Nat → ClassId) (h : zz_Hp) (o k v f s la n : Nat) (Lr : Nat → Option Nat) (d : sgD k v f s) (no : sgN o k v f s) (ho : h o = some (sgE k v f s)) (hk : ∃ Kd, h k = some (iaE aC 9 Kd)) (hv : ∃ Vl, h v = some (iaE aC 9 Vl)) (hf : ∃ Fd, h f = some (maE aC 8 Fd)) (hs : ∃ Sh, h s = some (zaE aC 8 Sh)) (nla : sgN la k v f s) (hla : h la = some (maE aC 8 Lr)) (hn : n ≤ 8) (hl : ∀ i, i < n → ∃ (a : Nat) (s v : Int32) (b : Option Nat), Lr i = some a ∧ h a = some (mkE s v b)) :
    zz_Ct l D aC y_S_seeRoot (zrm 0 0 0 0) [.ref o, .ref la, .int (nI n)] h (fun r h' => r = .inl none ∧ (∀ a, sgN a k v f s → h' a = h a) ∧ sgS h' aC k v f s n (fun _ => nI 1) (fun _ => true) (fun _ => 0) Lr) := by
  refine zz_ct md_S_seeRoot rfl (by simp [Value.category]) (Nat.le_of_ble_eq_true rfl) fun K C E hI => ?_
  obtain rfl := E.ac
  obtain ⟨Kd0, hk⟩ := hk
  obtain ⟨Vl0, hv⟩ := hv
  obtain ⟨Fd0, hf⟩ := hf
  obtain ⟨Sh0, hs⟩ := hs
  have loop : ∀ (g i : Nat), i + g = n → ∀ (Kd Vl : Nat → Int32) (Fd : Nat → Option Nat) (Sh : Nat → Int32), sgG i Kd Vl Fd Sh (fun _ => nI 1) (fun _ => true) (fun _ => 0) Lr → zz_Z K (zz_End K h (fun r h' => r = .inl none ∧ (∀ a, sgN a k v f s → h' a = h a) ∧ sgS h' (zz_ac K) k v f s n (fun _ => nI 1) (fun _ => true) (fun _ => 0) Lr)) h (sgU h (zz_ac K) k v f s Kd Vl Fd Sh) 0 0 9 [some (.ref o), some (.ref la), some (.int (nI n)), some (.int (nI i))] [] := by
    intro g
    induction g with
    | zero =>
      intro i hin Kd Vl Fd Sh G
      refine zz_go C [(9, .iload_n 3), (10, .iload_n 2)] (by decide +kernel) (pc' := 11) (lv' := [some (.ref o), some (.ref la), some (.int (nI n)), some (.int (nI i))]) (st' := [.int (nI n), .int (nI i)]) rfl ?_
      refine zz_if C (i := .if_icmp .ge 46) (by decide +kernel) (Pt := (nI n) ≤ (nI i)) (Pf := ¬ (nI n) ≤ (nI i)) (off := 46) (r := []) (tgt := 57) rfl (by decide) (fun cA => ?_) (fun cA => ?_)
      · have hin2 : i = n := by omega
        subst hin2
        exact zr_v C E (by decide) (by decide) (by decide +kernel) (⟨rfl, fun a na => sgU_n na, Kd, Vl, Fd, Sh, ⟨sgU_k, sgU_v d, sgU_f d, sgU_s d⟩, G⟩)
      · exact absurd (nI_le (by omega) (by omega)) cA
    | succ g ih =>
      intro i hin Kd Vl Fd Sh G
      refine zz_go C [(9, .iload_n 3), (10, .iload_n 2)] (by decide +kernel) (pc' := 11) (lv' := [some (.ref o), some (.ref la), some (.int (nI n)), some (.int (nI i))]) (st' := [.int (nI n), .int (nI i)]) rfl ?_
      refine zz_if C (i := .if_icmp .ge 46) (by decide +kernel) (Pt := (nI n) ≤ (nI i)) (Pf := ¬ (nI n) ≤ (nI i)) (off := 46) (r := []) (tgt := 57) rfl (by decide) (fun cA => ?_) (fun cA => ?_)
      · exact absurd ((nI_leI (by omega) (by omega)).mp cA) (by omega)
      · refine zz_go C [(14, .iload_n 3), (15, .bipush 8)] (by decide +kernel) (pc' := 17) (lv' := [some (.ref o), some (.ref la), some (.int (nI n)), some (.int (nI i))]) (st' := [.int (nI 8), .int (nI i)]) rfl ?_
        refine zz_if C (i := .if_icmp .ge 40) (by decide +kernel) (Pt := (nI 8) ≤ (nI i)) (Pf := ¬ (nI 8) ≤ (nI i)) (off := 40) (r := []) (tgt := 57) rfl (by decide) (fun cB => ?_) (fun cB => ?_)
        · exact absurd ((nI_leI (by omega) (by omega)).mp cB) (by omega)
        · refine zz_go C [(20, .iload_n 3), (21, .aload_n 1)] (by decide +kernel) (pc' := 22) (lv' := [some (.ref o), some (.ref la), some (.int (nI n)), some (.int (nI i))]) (st' := [.ref la, .int (nI i)]) rfl ?_
          refine zz_len_ C 3 (fun _ => rfl) ((sgU_n nla).trans hla) (by decide +kernel) ?_
          show zz_Z _ _ _ _ _ _ _ _ [.int (nI 8), .int (nI i)]
          refine zz_if C (i := .if_icmp .ge 34) (by decide +kernel) (Pt := (nI 8) ≤ (nI i)) (Pf := ¬ (nI 8) ≤ (nI i)) (off := 34) (r := []) (tgt := 57) rfl (by decide) (fun cC => ?_) (fun cC => ?_)
          · exact absurd ((nI_leI (by omega) (by omega)).mp cC) (by omega)
          · obtain ⟨ra, rs, rv, rb, hr, hra⟩ := hl i (by omega)
            refine zz_go C [(26, .aload_n 0)] (by decide +kernel) (pc' := 27) (lv' := [some (.ref o), some (.ref la), some (.int (nI n)), some (.int (nI i))]) (st' := [.ref o]) rfl ?_
            refine zz_get C fd_S_9 ((sgU_n no).trans ho) (v := .ref k) rfl (by decide +kernel) ?_
            refine zz_go C [(30, .iload_n 3), (31, .iconst 1), (32, .iadd), (33, .iconst 1)] (by decide +kernel) (pc' := 34) (lv' := [some (.ref o), some (.ref la), some (.int (nI n)), some (.int (nI i))]) (st' := [.int (nI 1), .int ((nI i) + (nI 1)), .ref k]) rfl ?_
            rw [show nI i + nI 1 = nI (i + 1) from nI_add i 1]
            refine sg_kst C (by omega) (by decide +kernel) ?_
            refine zz_go C [(35, .aload_n 0)] (by decide +kernel) (pc' := 36) (lv' := [some (.ref o), some (.ref la), some (.int (nI n)), some (.int (nI i))]) (st' := [.ref o]) rfl ?_
            refine zz_get C fd_S_20 ((sgU_n no).trans ho) (v := .ref f) rfl (by decide +kernel) ?_
            refine zz_go C [(39, .iload_n 3), (40, .aload_n 1), (41, .iload_n 3)] (by decide +kernel) (pc' := 42) (lv' := [some (.ref o), some (.ref la), some (.int (nI n)), some (.int (nI i))]) (st' := [.int (nI i), .ref la, .int (nI i), .ref f]) rfl ?_
            refine ga_qld C ((sgU_n nla).trans hla) (by omega) (by decide) (by decide +kernel) ?_
            rw [hr]
            show zz_Z _ _ _ _ _ _ _ _ [.ref ra, .int (nI i), .ref f]
            refine sg_fst C d (by omega) (vs := [.int rs, .int rv, va_rf rb]) ((sgU_n (sgN_mk hk hv hf hs hra)).trans hra) (by decide +kernel) ?_
            refine zz_go C [(44, .aload_n 0)] (by decide +kernel) (pc' := 45) (lv' := [some (.ref o), some (.ref la), some (.int (nI n)), some (.int (nI i))]) (st' := [.ref o]) rfl ?_
            refine zz_get C fd_S_24 ((sgU_n no).trans ho) (v := .ref s) rfl (by decide +kernel) ?_
            refine zz_go C [(48, .iload_n 3), (49, .iconst 1)] (by decide +kernel) (pc' := 50) (lv' := [some (.ref o), some (.ref la), some (.int (nI n)), some (.int (nI i))]) (st' := [.int (nI 1), .int (nI i), .ref s]) rfl ?_
            refine sg_sst C d true (by omega) (by decide +kernel) ?_
            refine zz_go C [(51, .iinc 3 1), (54, .goto (-45))] (by decide +kernel) (pc' := 9) (lv' := [some (.ref o), some (.ref la), some (.int (nI n)), some (.int ((nI i) + (nI 1)))]) (st' := []) rfl ?_
            rw [show nI i + nI 1 = nI (i + 1) from nI_add i 1]
            refine ih (i + 1) (by omega) _ _ _ _ ⟨fun j hj => ?_, fun j hj => ?_, fun j hj hz => absurd (show (1 : Int32) = 0 from hz) (by decide)⟩
            · by_cases e : j = i + 1
              · subst e; rw [upd_at]
              · rw [upd_ne _ _ e]; exact G.1 j (by omega)
            · by_cases e : j = i
              · subst e; rw [va_up_self, upd_at, hr]; exact ⟨rfl, rfl⟩
              · rw [va_up_ne _ _ e, upd_ne _ _ e]; exact G.2.1 j (by omega)
  refine zz_hp (sgU_self d hk hv hf hs).symm ?_
  refine zz_go C [(0, .aload_n 0)] (by decide +kernel) (pc' := 1) (lv' := [some (.ref o), some (.ref la), some (.int (nI n)), none]) (st' := [.ref o]) rfl ?_
  refine zz_get C fd_S_9 ((sgU_n no).trans ho) (v := .ref k) rfl (by decide +kernel) ?_
  refine zz_go C [(4, .iconst 0), (5, .iconst 1)] (by decide +kernel) (pc' := 6) (lv' := [some (.ref o), some (.ref la), some (.int (nI n)), none]) (st' := [.int (nI 1), .int (nI 0), .ref k]) rfl ?_
  refine sg_kst C (j := 0) (by decide) (by decide +kernel) ?_
  refine zz_go C [(7, .iconst 0), (8, .istore_n 3)] (by decide +kernel) (pc' := 9) (lv' := [some (.ref o), some (.ref la), some (.int (nI n)), some (.int (nI 0))]) (st' := []) rfl ?_
  exact loop n 0 (by omega) _ _ _ _ ⟨fun j hj => by rw [show j = 0 by omega, upd_at], fun j hj => absurd hj (by omega), fun j hj hz => absurd (show (1 : Int32) = 0 from hz) (by decide)⟩
end
section
/-! ===== paths ===== -/
/-- the names of a path: its first one is the lowest digit -/
def nmF : Nat → Nat → List Nat
  | 0, _ => []
  | g + 1, j => if j = 0 then [] else (j % 10) :: nmF g (j / 10)
def nz (d : Nat) : Bool := decide (¬ d = 0)
def pok (j : Nat) : Bool := (nmF 4 j).all nz
def isP (x : Int32) : Bool := if x < 0 ∨ nI 9999 < x then false else pok x.toNatClampNeg
def prN (j : Nat) : Nat := if 1000 ≤ j then j % 1000 else if 100 ≤ j then j % 100 else if 10 ≤ j then j % 10 else 0
theorem nmF_0 (g : Nat) : nmF g 0 = [] := by cases g <;> rfl
theorem nmF_s (g : Nat) {j : Nat} (h : ¬ j = 0) : nmF (g + 1) j = (j % 10) :: nmF g (j / 10) := if_neg h
theorem lt10 {g j : Nat} (h : j < 10 ^ (g + 1)) : j / 10 < 10 ^ g := by
  rw [Nat.pow_succ] at h; omega
theorem p10 {g j : Nat} (hg : g ≤ 4) (h : j < 10 ^ g) : j < 10000 := Nat.lt_of_lt_of_le h (Nat.pow_le_pow_right (by decide) hg)
set_option maxHeartbeats 2000000 in
theorem c_T_isPath (l : Launch) (D : va_G) (aC : Nat → ClassId) (h : zz_Hp) (x : Int32) :
    zz_Ct l D aC y_T_isPath (zrm 0 0 0 0) [.int x] h (fun r h' => h' = h ∧ r = .inl (some (.int (bI (isP x))))) := by
  refine zz_ct md_T_isPath rfl (by simp [Value.category]) (Nat.le_of_ble_eq_true rfl) fun K C E hI => ?_
  obtain rfl := E.ac
  have loop : ∀ (g j : Nat), g ≤ 4 → j < 10 ^ g → isP x = (nmF g j).all nz → zz_Z K (zz_End K h (fun r h' => h' = h ∧ r = .inl (some (.int (bI (isP x)))))) h h 0 0 15 [some (.int x), some (.int (nI j))] [] := by
    intro g
    induction g with
    | zero =>
      intro j hg hj hr
      have hj2 := p10 hg hj
      refine zz_go C [(15, .iload_n 1)] (by decide +kernel) (pc' := 16) (lv' := [some (.int x), some (.int (nI j))]) (st' := [.int (nI j)]) rfl ?_
      refine zz_if C (i := .ifCond .le 20) (by decide +kernel) (Pt := (nI j) ≤ 0) (Pf := ¬ (nI j) ≤ 0) (off := 20) (r := []) (tgt := 36) rfl (by decide) (fun cA => ?_) (fun cA => ?_)
      · have hj0 : j = 0 := by
          by_cases e : j = 0
          · exact e
          · exact absurd cA (nI_nle (by omega) (by omega))
        rw [hj0, nmF_0] at hr
        refine zz_go C [(36, .iconst 1)] (by decide +kernel) (pc' := 37) (lv' := [some (.int x), some (.int (nI j))]) (st' := [.int (nI 1)]) rfl ?_
        exact zr_z C E true rfl (by decide) (by decide) (by decide +kernel) (⟨rfl, by rw [hr]; rfl⟩)
      · have hj0 : ¬ j = 0 := fun e => cA (by rw [e]; decide)
        exact absurd hj (by simp; omega)
    | succ g ih =>
      intro j hg hj hr
      have hj2 := p10 hg hj
      refine zz_go C [(15, .iload_n 1)] (by decide +kernel) (pc' := 16) (lv' := [some (.int x), some (.int (nI j))]) (st' := [.int (nI j)]) rfl ?_
      refine zz_if C (i := .ifCond .le 20) (by decide +kernel) (Pt := (nI j) ≤ 0) (Pf := ¬ (nI j) ≤ 0) (off := 20) (r := []) (tgt := 36) rfl (by decide) (fun cA => ?_) (fun cA => ?_)
      · have hj0 : j = 0 := by
          by_cases e : j = 0
          · exact e
          · exact absurd cA (nI_nle (by omega) (by omega))
        rw [hj0, nmF_0] at hr
        refine zz_go C [(36, .iconst 1)] (by decide +kernel) (pc' := 37) (lv' := [some (.int x), some (.int (nI j))]) (st' := [.int (nI 1)]) rfl ?_
        exact zr_z C E true rfl (by decide) (by decide) (by decide +kernel) (⟨rfl, by rw [hr]; rfl⟩)
      · have hj0 : ¬ j = 0 := fun e => cA (by rw [e]; decide)
        rw [nmF_s g hj0, List.all_cons] at hr
        refine zz_go C [(19, .iload_n 1), (20, .bipush 10), (22, .irem)] (by decide +kernel) (pc' := 23) (lv' := [some (.int x), some (.int (nI j))]) (st' := [.int ((nI j) - (nI j) / (nI 10) * (nI 10))]) rfl ?_
        rw [pk_rem (show j < 2 ^ 31 by omega) (by decide) (by decide)]
        refine zz_if C (i := .ifCond .ne 5) (by decide +kernel) (Pt := ¬ (nI (j % 10)) = 0) (Pf := (nI (j % 10)) = 0) (off := 5) (r := []) (tgt := 28) rfl (by decide) (fun cB => ?_) (fun cB => ?_)
        · refine zz_go C [(28, .iload_n 1), (29, .bipush 10), (31, .idiv), (32, .istore_n 1), (33, .goto (-18))] (by decide +kernel) (pc' := 15) (lv' := [some (.int x), some (.int ((nI j) / (nI 10)))]) (st' := []) rfl ?_
          rw [pk_div (show j < 2 ^ 31 by omega) (by decide) (by decide)]
          have hd : ¬ j % 10 = 0 := fun e => cB (by rw [e]; rfl)
          exact ih (j / 10) (by omega) (lt10 hj) (by rw [hr, show nz (j % 10) = true from decide_eq_true hd, Bool.true_and])
        · have hd : j % 10 = 0 := by
            by_cases e : j % 10 = 0
            · exact e
            · exact absurd cB (nI_ne0 (by omega) (by omega))
          refine zz_go C [(26, .iconst 0)] (by decide +kernel) (pc' := 27) (lv' := [some (.int x), some (.int (nI j))]) (st' := [.int (nI 0)]) rfl ?_
          exact zr_z C E false rfl (by decide) (by decide) (by decide +kernel) (⟨rfl, by rw [hr, show nz (j % 10) = false from decide_eq_false (fun q => q hd), Bool.false_and]⟩)
  refine zz_go C [(0, .iload_n 0)] (by decide +kernel) (pc' := 1) (lv' := [some (.int x), none]) (st' := [.int x]) rfl ?_
  refine zz_if C (i := .ifCond .lt 10) (by decide +kernel) (Pt := x < 0) (Pf := ¬ x < 0) (off := 10) (r := []) (tgt := 11) rfl (by decide) (fun cA => ?_) (fun cA => ?_)
  · refine zz_go C [(11, .iconst 0)] (by decide +kernel) (pc' := 12) (lv' := [some (.int x), none]) (st' := [.int (nI 0)]) rfl ?_
    exact zr_z C E false rfl (by decide) (by decide) (by decide +kernel) (⟨rfl, by rw [isP, if_pos (Or.inl cA)]⟩)
  · refine zz_go C [(4, .iload_n 0), (5, .sipush 9999)] (by decide +kernel) (pc' := 8) (lv' := [some (.int x), none]) (st' := [.int (nI 9999), .int x]) rfl ?_
    refine zz_if C (i := .if_icmp .le 5) (by decide +kernel) (Pt := x ≤ (nI 9999)) (Pf := ¬ x ≤ (nI 9999)) (off := 5) (r := []) (tgt := 13) rfl (by decide) (fun cB => ?_) (fun cB => ?_)
    · obtain ⟨j, hj, hx⟩ := nI_of2 (x := x) (M := 9999) (n := 9999) (by decide) cA cB
      refine zz_go C [(13, .iload_n 0), (14, .istore_n 1)] (by decide +kernel) (pc' := 15) (lv' := [some (.int x), some (.int x)]) (st' := []) rfl ?_
      have hz := loop 4 j (by decide) (by omega) (by rw [isP, if_neg, hx, nI_clamp (by omega)]; rfl; rintro (q | q); exact cA q; exact absurd cB (Int32.not_le.mpr q))
      rw [← hx] at hz
      exact hz
    · refine zz_go C [(11, .iconst 0)] (by decide +kernel) (pc' := 12) (lv' := [some (.int x), none]) (st' := [.int (nI 0)]) rfl ?_
      exact zr_z C E false rfl (by decide) (by decide) (by decide +kernel) (⟨rfl, by rw [isP, if_pos (Or.inr (Int32.not_le.mp cB))]⟩)
set_option maxHeartbeats 2000000 in
theorem c_T_depthOf (l : Launch) (D : va_G) (aC : Nat → ClassId) (h : zz_Hp) (jj : Nat) (hjj : jj ≤ 9999) :
    zz_Ct l D aC y_T_depthOf (zrm 0 0 0 0) [.int (nI jj)] h (fun r h' => h' = h ∧ r = .inl (some (.int (nI (nmF 4 jj).length)))) := by
  refine zz_ct md_T_depthOf rfl (by simp [Value.category]) (Nat.le_of_ble_eq_true rfl) fun K C E hI => ?_
  obtain rfl := E.ac
  have loop : ∀ (g j c : Nat), g ≤ 4 → j < 10 ^ g → (nmF 4 jj).length = c + (nmF g j).length → zz_Z K (zz_End K h (fun r h' => h' = h ∧ r = .inl (some (.int (nI (nmF 4 jj).length))))) h h 0 0 4 [some (.int (nI jj)), some (.int (nI c)), some (.int (nI j))] [] := by
    intro g
    induction g with
    | zero =>
      intro j c hg hj hr
      have hj2 := p10 hg hj
      refine zz_go C [(4, .iload_n 2)] (by decide +kernel) (pc' := 5) (lv' := [some (.int (nI jj)), some (.int (nI c)), some (.int (nI j))]) (st' := [.int (nI j)]) rfl ?_
      refine zz_if C (i := .ifCond .le 14) (by decide +kernel) (Pt := (nI j) ≤ 0) (Pf := ¬ (nI j) ≤ 0) (off := 14) (r := []) (tgt := 19) rfl (by decide) (fun cA => ?_) (fun cA => ?_)
      · have hj0 : j = 0 := by
          by_cases e : j = 0
          · exact e
          · exact absurd cA (nI_nle (by omega) (by omega))
        rw [hj0, nmF_0] at hr
        refine zz_go C [(19, .iload_n 1)] (by decide +kernel) (pc' := 20) (lv' := [some (.int (nI jj)), some (.int (nI c)), some (.int (nI j))]) (st' := [.int (nI c)]) rfl ?_
        exact zr_i C E (by decide) (by decide) (by decide +kernel) (⟨rfl, by rw [hr]; rfl⟩)
      · have hj0 : ¬ j = 0 := fun e => cA (by rw [e]; decide)
        exact absurd hj (by simp; omega)
    | succ g ih =>
      intro j c hg hj hr
      have hj2 := p10 hg hj
      refine zz_go C [(4, .iload_n 2)] (by decide +kernel) (pc' := 5) (lv' := [some (.int (nI jj)), some (.int (nI c)), some (.int (nI j))]) (st' := [.int (nI j)]) rfl ?_
      refine zz_if C (i := .ifCond .le 14) (by decide +kernel) (Pt := (nI j) ≤ 0) (Pf := ¬ (nI j) ≤ 0) (off := 14) (r := []) (tgt := 19) rfl (by decide) (fun cA => ?_) (fun cA => ?_)
      · have hj0 : j = 0 := by
          by_cases e : j = 0
          · exact e
          · exact absurd cA (nI_nle (by omega) (by omega))
        rw [hj0, nmF_0] at hr
        refine zz_go C [(19, .iload_n 1)] (by decide +kernel) (pc' := 20) (lv' := [some (.int (nI jj)), some (.int (nI c)), some (.int (nI j))]) (st' := [.int (nI c)]) rfl ?_
        exact zr_i C E (by decide) (by decide) (by decide +kernel) (⟨rfl, by rw [hr]; rfl⟩)
      · have hj0 : ¬ j = 0 := fun e => cA (by rw [e]; decide)
        rw [nmF_s g hj0, List.length_cons] at hr
        refine zz_go C [(8, .iinc 1 1), (11, .iload_n 2), (12, .bipush 10), (14, .idiv), (15, .istore_n 2), (16, .goto (-12))] (by decide +kernel) (pc' := 4) (lv' := [some (.int (nI jj)), some (.int ((nI c) + (nI 1))), some (.int ((nI j) / (nI 10)))]) (st' := []) rfl ?_
        rw [pk_div (show j < 2 ^ 31 by omega) (by decide) (by decide), show nI c + nI 1 = nI (c + 1) from nI_add c 1]
        exact ih (j / 10) (c + 1) (by omega) (lt10 hj) (by omega)
  refine zz_go C [(0, .iconst 0), (1, .istore_n 1), (2, .iload_n 0), (3, .istore_n 2)] (by decide +kernel) (pc' := 4) (lv' := [some (.int (nI jj)), some (.int (nI 0)), some (.int (nI jj))]) (st' := []) rfl ?_
  exact loop 4 jj 0 (by decide) (by omega) (by omega)
set_option maxHeartbeats 2000000 in
theorem c_T_parentOf (l : Launch) (D : va_G) (aC : Nat → ClassId) (h : zz_Hp) (j : Nat) (hj : j ≤ 9999) :
    zz_Ct l D aC y_T_parentOf (zrm 0 0 0 0) [.int (nI j)] h (fun r h' => h' = h ∧ r = .inl (some (.int (nI (prN j))))) := by
  refine zz_ct md_T_parentOf rfl (by simp [Value.category]) (Nat.le_of_ble_eq_true rfl) fun K C E hI => ?_
  obtain rfl := E.ac
  refine zz_go C [(0, .iload_n 0), (1, .sipush 1000)] (by decide +kernel) (pc' := 4) (lv' := [some (.int (nI j))]) (st' := [.int (nI 1000), .int (nI j)]) rfl ?_
  refine zz_if C (i := .if_icmp .lt 9) (by decide +kernel) (Pt := (nI j) < (nI 1000)) (Pf := ¬ (nI j) < (nI 1000)) (off := 9) (r := []) (tgt := 13) rfl (by decide) (fun cA => ?_) (fun cA => ?_)
  · have g1 : ¬ 1000 ≤ j := fun q => absurd cA (nI_nlt q (by omega))
    refine zz_go C [(13, .iload_n 0), (14, .bipush 100)] (by decide +kernel) (pc' := 16) (lv' := [some (.int (nI j))]) (st' := [.int (nI 100), .int (nI j)]) rfl ?_
    refine zz_if C (i := .if_icmp .lt 8) (by decide +kernel) (Pt := (nI j) < (nI 100)) (Pf := ¬ (nI j) < (nI 100)) (off := 8) (r := []) (tgt := 24) rfl (by decide) (fun cB => ?_) (fun cB => ?_)
    · have g2 : ¬ 100 ≤ j := fun q => absurd cB (nI_nlt q (by omega))
      refine zz_go C [(24, .iload_n 0), (25, .bipush 10)] (by decide +kernel) (pc' := 27) (lv' := [some (.int (nI j))]) (st' := [.int (nI 10), .int (nI j)]) rfl ?_
      refine zz_if C (i := .if_icmp .lt 10) (by decide +kernel) (Pt := (nI j) < (nI 10)) (Pf := ¬ (nI j) < (nI 10)) (off := 10) (r := []) (tgt := 37) rfl (by decide) (fun cC => ?_) (fun cC => ?_)
      · have g3 : ¬ 10 ≤ j := fun q => absurd cC (nI_nlt q (by omega))
        refine zz_go C [(37, .iconst 0)] (by decide +kernel) (pc' := 38) (lv' := [some (.int (nI j))]) (st' := [.int (nI 0)]) rfl ?_
        exact zr_i C E (by decide) (by decide) (by decide +kernel) (⟨rfl, by rw [prN, if_neg g1, if_neg g2, if_neg g3]⟩)
      · have g3 : 10 ≤ j := Nat.not_lt.mp (fun q => cC (nI_lt q (by omega)))
        refine zz_go C [(30, .iload_n 0), (31, .bipush 10), (33, .irem), (34, .goto 4)] (by decide +kernel) (pc' := 38) (lv' := [some (.int (nI j))]) (st' := [.int ((nI j) - (nI j) / (nI 10) * (nI 10))]) rfl ?_
        rw [pk_rem (show j < 2 ^ 31 by omega) (by decide) (by decide)]
        exact zr_i C E (by decide) (by decide) (by decide +kernel) (⟨rfl, by rw [prN, if_neg g1, if_neg g2, if_pos g3]⟩)
    · have g2 : 100 ≤ j := Nat.not_lt.mp (fun q => cB (nI_lt q (by omega)))
      refine zz_go C [(19, .iload_n 0), (20, .bipush 100), (22, .irem)] (by decide +kernel) (pc' := 23) (lv' := [some (.int (nI j))]) (st' := [.int ((nI j) - (nI j) / (nI 100) * (nI 100))]) rfl ?_
      rw [pk_rem (show j < 2 ^ 31 by omega) (by decide) (by decide)]
      exact zr_i C E (by decide) (by decide) (by decide +kernel) (⟨rfl, by rw [prN, if_neg g1, if_pos g2]⟩)
  · have g1 : 1000 ≤ j := Nat.not_lt.mp (fun q => cA (nI_lt q (by omega)))
    refine zz_go C [(7, .iload_n 0), (8, .sipush 1000), (11, .irem)] (by decide +kernel) (pc' := 12) (lv' := [some (.int (nI j))]) (st' := [.int ((nI j) - (nI j) / (nI 1000) * (nI 1000))]) rfl ?_
    rw [pk_rem (show j < 2 ^ 31 by omega) (by decide) (by decide)]
    exact zr_i C E (by decide) (by decide) (by decide +kernel) (⟨rfl, by rw [prN, if_pos g1]⟩)
set_option maxHeartbeats 2000000 in
theorem c_T_checkBelowRoot (l : Launch) (hst : l.stackTraces = false) (D : va_G) (aC : Nat → ClassId) (h : zz_Hp) (x : Int32) :
    zz_Ct l D aC y_T_checkBelowRoot (zrm 6 1 6 90) [.int x] h (fun r h' => h' = h ∧ r = if x = 0 ∨ isP x = false then .inr "java/lang/IllegalArgumentException" else .inl none) := by
  refine zz_ct md_T_checkBelowRoot rfl (by simp [Value.category]) (Nat.le_of_ble_eq_true rfl) fun K C E hI => ?_
  obtain rfl := E.ac
  refine zz_go C [(0, .iload_n 0)] (by decide +kernel) (pc' := 1) (lv' := [some (.int x)]) (st' := [.int x]) rfl ?_
  refine zz_if C (i := .ifCond .eq 10) (by decide +kernel) (Pt := x = 0) (Pf := ¬ x = 0) (off := 10) (r := []) (tgt := 11) rfl (by decide) (fun cA => ?_) (fun cA => ?_)
  · exact zz_throw C E hst xd_124 (⟨rfl, by rw [if_pos (Or.inl cA)]⟩) (by decide) (by decide) (by decide) (by decide) (by decide +kernel) (by decide +kernel) (by decide +kernel) (by decide +kernel) (by decide +kernel)
  · refine zz_go C [(4, .iload_n 0)] (by decide +kernel) (pc' := 5) (lv' := [some (.int x)]) (st' := [.int x]) rfl ?_
    refine zz_cS C E (As := [.int x]) (rest := []) (hc := h) md_T_isPath (c_T_isPath l D (zz_ac K) h x) ml_T_118 sm_T_isPath (fun _ _ q => q) rfl rfl (Nat.le_of_ble_eq_true rfl) ⟨by decide, by decide⟩ ⟨by decide, by decide⟩ (by decide +kernel) (fun v h' hp hn hd => ?_) (fun v h' hp hn hd => ?_)
    · rw [zz_mix_self hd]
      obtain ⟨hh, hv⟩ := hp
      rw [hh]
      cases hv
      show zz_Z _ _ _ _ _ _ _ _ [.int (bI (isP x))]
      refine zz_if C (i := .ifCond .ne 13) (by decide +kernel) (Pt := ¬ (bI (isP x)) = 0) (Pf := (bI (isP x)) = 0) (off := 13) (r := []) (tgt := 21) rfl (by decide) (fun cB => ?_) (fun cB => ?_)
      · exact zr_v C E (by decide) (by decide) (by decide +kernel) (⟨rfl, by rw [if_neg (fun q => q.elim cA (fun e => cB ((bI_0 _).mpr e)))]⟩)
      · exact zz_throw C E hst xd_124 (⟨rfl, by rw [if_pos (Or.inr ((bI_0 _).mp cB))]⟩) (by decide) (by decide) (by decide) (by decide) (by decide +kernel) (by decide +kernel) (by decide +kernel) (by decide +kernel) (by decide +kernel)
    · cases hp.2
set_option maxHeartbeats 2000000 in
theorem c_T_checkView (l : Launch) (hst : l.stackTraces = false) (D : va_G) (aC : Nat → ClassId) (h : zz_Hp) (t : Nat) (va vb : Value) (c x n : Int32) (ht : h t = some (.inr (2, [va, .int c, vb]))) :
    zz_Ct l D aC y_T_checkView (zrm 6 1 6 90) [.ref t, .int x, .int n] h (fun r h' => h' = h ∧ r = if isP x = false ∨ n < nI 1 ∨ c < n then .inr "java/lang/IllegalArgumentException" else .inl none) := by
  refine zz_ct md_T_checkView rfl (by simp [Value.category]) (Nat.le_of_ble_eq_true rfl) fun K C E hI => ?_
  obtain rfl := E.ac
  refine zz_go C [(0, .iload_n 1)] (by decide +kernel) (pc' := 1) (lv' := [some (.ref t), some (.int x), some (.int n)]) (st' := [.int x]) rfl ?_
  refine zz_cS C E (As := [.int x]) (rest := []) (hc := h) md_T_isPath (c_T_isPath l D (zz_ac K) h x) ml_T_118 sm_T_isPath (fun _ _ q => q) rfl rfl (Nat.le_of_ble_eq_true rfl) ⟨by decide, by decide⟩ ⟨by decide, by decide⟩ (by decide +kernel) (fun v h' hp hn hd => ?_) (fun v h' hp hn hd => ?_)
  · rw [zz_mix_self hd]
    obtain ⟨hh, hv⟩ := hp
    rw [hh]
    cases hv
    show zz_Z _ _ _ _ _ _ _ _ [.int (bI (isP x))]
    refine zz_if C (i := .ifCond .eq 16) (by decide +kernel) (Pt := (bI (isP x)) = 0) (Pf := ¬ (bI (isP x)) = 0) (off := 16) (r := []) (tgt := 20) rfl (by decide) (fun cA => ?_) (fun cA => ?_)
    · exact zz_throw C E hst xd_127 (⟨rfl, by rw [if_pos (Or.inl ((bI_0 _).mp cA))]⟩) (by decide) (by decide) (by decide) (by decide) (by decide +kernel) (by decide +kernel) (by decide +kernel) (by decide +kernel) (by decide +kernel)
    · refine zz_go C [(7, .iload_n 2), (8, .iconst 1)] (by decide +kernel) (pc' := 9) (lv' := [some (.ref t), some (.int x), some (.int n)]) (st' := [.int (nI 1), .int n]) rfl ?_
      refine zz_if C (i := .if_icmp .lt 11) (by decide +kernel) (Pt := n < (nI 1)) (Pf := ¬ n < (nI 1)) (off := 11) (r := []) (tgt := 20) rfl (by decide) (fun cB => ?_) (fun cB => ?_)
      · exact zz_throw C E hst xd_127 (⟨rfl, by rw [if_pos (Or.inr (Or.inl cB))]⟩) (by decide) (by decide) (by decide) (by decide) (by decide +kernel) (by decide +kernel) (by decide +kernel) (by decide +kernel) (by decide +kernel)
      · refine zz_go C [(12, .iload_n 2), (13, .aload_n 0)] (by decide +kernel) (pc' := 14) (lv' := [some (.ref t), some (.int x), some (.int n)]) (st' := [.ref t, .int n]) rfl ?_
        refine zz_get C fd_T_18 ht (v := .int c) rfl (by decide +kernel) ?_
        refine zz_if C (i := .if_icmp .le 13) (by decide +kernel) (Pt := n ≤ c) (Pf := ¬ n ≤ c) (off := 13) (r := []) (tgt := 30) rfl (by decide) (fun cC => ?_) (fun cC => ?_)
        · exact zr_v C E (by decide) (by decide) (by decide +kernel) (⟨rfl, by rw [if_neg (fun q => q.elim (fun e => cA ((bI_0 _).mpr e)) (fun q => q.elim cB (fun e => absurd cC (Int32.not_le.mpr e))))]⟩)
        · exact zz_throw C E hst xd_127 (⟨rfl, by rw [if_pos (Or.inr (Or.inr (Int32.not_le.mp cC)))]⟩) (by decide) (by decide) (by decide) (by decide) (by decide +kernel) (by decide +kernel) (by decide +kernel) (by decide +kernel) (by decide +kernel)
  · cases hp.2
set_option maxHeartbeats 2000000 in
theorem c_T_checkLayer (l : Launch) (hst : l.stackTraces = false) (D : va_G) (aC : Nat → ClassId) (h : zz_Hp) (t : Nat) (va vb : Value) (c n : Int32) (ht : h t = some (.inr (2, [va, .int c, vb]))) :
    zz_Ct l D aC y_T_checkLayer (zrm 6 1 6 90) [.ref t, .int n] h (fun r h' => h' = h ∧ r = if n < 0 ∨ c ≤ n then .inr "java/lang/IndexOutOfBoundsException" else .inl none) := by
  refine zz_ct md_T_checkLayer rfl (by simp [Value.category]) (Nat.le_of_ble_eq_true rfl) fun K C E hI => ?_
  obtain rfl := E.ac
  refine zz_go C [(0, .iload_n 1)] (by decide +kernel) (pc' := 1) (lv' := [some (.ref t), some (.int n)]) (st' := [.int n]) rfl ?_
  refine zz_if C (i := .ifCond .lt 11) (by decide +kernel) (Pt := n < 0) (Pf := ¬ n < 0) (off := 11) (r := []) (tgt := 12) rfl (by decide) (fun cA => ?_) (fun cA => ?_)
  · exact zz_throw C E hst xd_129 (⟨rfl, by rw [if_pos (Or.inl cA)]⟩) (by decide) (by decide) (by decide) (by decide) (by decide +kernel) (by decide +kernel) (by decide +kernel) (by decide +kernel) (by decide +kernel)
  · refine zz_go C [(4, .iload_n 1), (5, .aload_n 0)] (by decide +kernel) (pc' := 6) (lv' := [some (.ref t), some (.int n)]) (st' := [.ref t, .int n]) rfl ?_
    refine zz_get C fd_T_18 ht (v := .int c) rfl (by decide +kernel) ?_
    refine zz_if C (i := .if_icmp .lt 13) (by decide +kernel) (Pt := n < c) (Pf := ¬ n < c) (off := 13) (r := []) (tgt := 22) rfl (by decide) (fun cB => ?_) (fun cB => ?_)
    · exact zr_v C E (by decide) (by decide) (by decide +kernel) (⟨rfl, by rw [if_neg (fun q => q.elim cA (fun e => absurd cB (Int32.not_lt.mpr e)))]⟩)
    · exact zz_throw C E hst xd_129 (⟨rfl, by rw [if_pos (Or.inr (Int32.not_lt.mp cB))]⟩) (by decide) (by decide) (by decide) (by decide) (by decide +kernel) (by decide +kernel) (by decide +kernel) (by decide +kernel) (by decide +kernel)
end
section
/-! ===== the world of an OverlayTree ===== -/
abbrev zA5 := Nat → Nat × Nat × Nat × Nat × Nat
abbrev zLs := Nat → List Nat → Option zMk
def saE (aC : Nat → ClassId) (N : Nat) (g : Nat → Option Nat) : va_E := .inl (aC 4, N, .inr (.inr (.inr (.inr g))))
def sN (a : Nat) (q : Nat × Nat × Nat × Nat × Nat) : Prop := sgN a q.2.1 q.2.2.1 q.2.2.2.1 q.2.2.2.2
/-- the view: what the lowest 0, 1, 2 .. layers have at a path (its last name first), and what shines through -/
def vw (Ls : zLs) : List Nat → (Nat → Int32) × (Nat → Bool)
  | [] => (fun _ => nI 1, fun _ => true)
  | x :: r => (nxK (vw Ls r).1 (vw Ls r).2 (fun i => Ls i (x :: r)), nxS (vw Ls r).1 (vw Ls r).2 (fun i => Ls i (x :: r)))
def vwV (Ls : zLs) : List Nat → Nat → Int32
  | [] => fun _ => 0
  | x :: r => nxV (fun i => Ls i (x :: r))
def tS (h : zz_Hp) (aC : Nat → ClassId) (q : Nat × Nat × Nat × Nat × Nat) (n : Nat) (Ls : zLs) (r : List Nat) : Prop := sgS h aC q.2.1 q.2.2.1 q.2.2.2.1 q.2.2.2.2 n (vw Ls r).1 (vw Ls r).2 (vwV Ls r) (fun i => mkA (Ls i r))
def siD (A : zA5) : Prop := (∀ d, d < 5 → sgD (A d).2.1 (A d).2.2.1 (A d).2.2.2.1 (A d).2.2.2.2) ∧ ∀ d e, d < 5 → e < 5 → d ≠ e → sN (A e).2.1 (A d) ∧ sN (A e).2.2.1 (A d) ∧ sN (A e).2.2.2.1 (A d) ∧ sN (A e).2.2.2.2 (A d)
def siH (h : zz_Hp) (aC : Nat → ClassId) (A : zA5) : Prop := ∀ d, d < 5 → h (A d).1 = some (sgE (A d).2.1 (A d).2.2.1 (A d).2.2.2.1 (A d).2.2.2.2) ∧ (∃ g, h (A d).2.1 = some (iaE aC 9 g)) ∧ (∃ g, h (A d).2.2.1 = some (iaE aC 9 g)) ∧ (∃ g, h (A d).2.2.2.1 = some (maE aC 8 g)) ∧ ∃ g, h (A d).2.2.2.2 = some (zaE aC 8 g)
/-- a layer's marks -/
def trP (h : zz_Hp) (aC : Nat → ClassId) (t : List Nat → Option zMk) : Prop :=
  (∀ r q, t r = some q → h q.1 = some (mkE q.2.1 q.2.2.1 q.2.2.2)) ∧
  (∀ r q c, t r = some q → q.2.2.2 = some c → ∃ g, h c = some (maE aC 10 g) ∧ ∀ j, 1 ≤ j → j ≤ 9 → g j = mkA (t (j :: r))) ∧
  (∀ r q j, t r = some q → q.2.2.2 = none → t (j :: r) = none) ∧
  (∀ r j, t r = none → t (j :: r) = none) ∧
  (∀ r j, (¬ 1 ≤ j ∨ ¬ j ≤ 9 ∨ 4 ≤ r.length) → t (j :: r) = none) ∧
  ∃ q, t [] = some q ∧ q.2.1 = nI 1
def trI (Ls : zLs) (n : Nat) : Prop := (∀ i i' r r' q q', i < n → i' < n → Ls i r = some q → Ls i' r' = some q' → q.1 = q'.1 → i = i' ∧ r = r') ∧ ∀ i i' r r' q q' c, i < n → i' < n → Ls i r = some q → Ls i' r' = some q' → q.2.2.2 = some c → q'.2.2.2 = some c → i = i' ∧ r = r'
def laP (h : zz_Hp) (aC : Nat → ClassId) (la n : Nat) (Ls : zLs) : Prop := ∃ Lr, h la = some (maE aC 8 Lr) ∧ ∀ i, i < n → Lr i = mkA (Ls i [])
def saP (h : zz_Hp) (aC : Nat → ClassId) (sa : Nat) (A : zA5) : Prop := ∃ Sr, h sa = some (saE aC 5 Sr) ∧ ∀ d, d < 5 → Sr d = some (A d).1
def otE (la n sa : Nat) : va_E := .inr (2, [.ref la, .int (nI n), .ref sa])
def tW (h : zz_Hp) (aC : Nat → ClassId) (t la sa : Nat) (A : zA5) (n : Nat) (Ls : zLs) : Prop :=
  (1 ≤ n ∧ n ≤ 8) ∧ siD A ∧ (∀ d, d < 5 → sN la (A d)) ∧ h t = some (otE la n sa) ∧ laP h aC la n Ls ∧ saP h aC sa A ∧ siH h aC A ∧ (∀ i, i < n → trP h aC (Ls i)) ∧ trI Ls n
section TW
variable {h h' : zz_Hp} {aC : Nat → ClassId} {t la sa n : Nat} {A : zA5} {Ls : zLs}
theorem siH.mk (S : siH h aC A) {d c : Nat} (hd : d < 5) {x : Nat × List Value} (hc : h c = some (.inr x)) : sN c (A d) := by
  obtain ⟨-, ⟨g1, h1⟩, ⟨g2, h2⟩, ⟨g3, h3⟩, g4, h4⟩ := S d hd
  exact sgN_mk h1 h2 h3 h4 hc
theorem siH.ln (S : siH h aC A) {d c : Nat} (hd : d < 5) {e : va_E} (hc : h c = some e) (h8 : zEl e ≠ 8) (h9 : zEl e ≠ 9) : sN c (A d) := by
  obtain ⟨-, ⟨g1, h1⟩, ⟨g2, h2⟩, ⟨g3, h3⟩, g4, h4⟩ := S d hd
  exact sgN_len h1 h2 h3 h4 hc h8 h9
theorem siH.rw (S : siH h aC A) {d c : Nat} (hd : d < 5) {g : Nat → Option Nat} (hc : h c = some (maE aC 10 g)) : sN c (A d) := by
  obtain ⟨-, ⟨g1, h1⟩, ⟨g2, h2⟩, ⟨g3, h3⟩, g4, h4⟩ := S d hd
  exact sgN_rw h1 h2 h3 h4 hc
/-- all but the sights' rows from a depth on stands as it stood -/
def sFr (A : zA5) (lo : Nat) (h h' : zz_Hp) : Prop := ∀ a, (∀ e, lo ≤ e → e < 5 → sN a (A e)) → h' a = h a
theorem sFr.rf {lo : Nat} : sFr A lo h h := fun _ _ => rfl
theorem sFr.tr {lo : Nat} {h2 : zz_Hp} (a : sFr A lo h h') (b : sFr A lo h' h2) : sFr A lo h h2 := fun x hx => (b x hx).trans (a x hx)
theorem sFr.lo {lo lo' : Nat} (hl : lo' ≤ lo) (a : sFr A lo h h') : sFr A lo' h h' := fun x hx => a x (fun e h1 h2 => hx e (Nat.le_trans hl h1) h2)
theorem sFr.one {e lo : Nat} (he : lo ≤ e) (h5 : e < 5) (a : ∀ x, sN x (A e) → h' x = h x) : sFr A lo h h' := fun x hx => a x (hx e he h5)
theorem trP.fr (S : siH h aC A) {u : List Nat → Option zMk} (T : trP h aC u) (f : sFr A 0 h h') : trP h' aC u := by
  obtain ⟨a1, a2, a3, a4, a5, a6⟩ := T
  refine ⟨fun r q hq => ?_, fun r q c hq hc => ?_, a3, a4, a5, a6⟩
  · rw [f q.1 (fun e _ he => S.mk he (a1 r q hq))]; exact a1 r q hq
  · obtain ⟨g, hg, hj⟩ := a2 r q c hq hc
    exact ⟨g, by rw [f c (fun e _ he => S.rw he hg)]; exact hg, hj⟩
theorem tW.fr (W : tW h aC t la sa A n Ls) (f : sFr A 0 h h') (S' : siH h' aC A) : tW h' aC t la sa A n Ls := by
  obtain ⟨w1, w2, w3, w4, ⟨Lr, w5, w5'⟩, ⟨Sr, w6, w6'⟩, w7, w8, w9⟩ := W
  refine ⟨w1, w2, w3, ?_, ⟨Lr, ?_, w5'⟩, ⟨Sr, ?_, w6'⟩, S', fun i hi => (w8 i hi).fr w7 f, w9⟩
  · rw [f t (fun e _ he => w7.mk he w4)]; exact w4
  · rw [f la (fun e _ he => w3 e he)]; exact w5
  · rw [f sa (fun e _ he => w7.ln he w6 (fun q => absurd (show (5 : Nat) = 8 from q) (by decide)) (fun q => absurd (show (5 : Nat) = 9 from q) (by decide)))]; exact w6
theorem siH.see (D : siD A) (S : siH h aC A) {e m : Nat} {VK : Nat → Int32} {VS : Nat → Bool} {VV : Nat → Int32} {Ad : Nat → Option Nat} (he : e < 5) (a : ∀ x, sN x (A e) → h' x = h x) (G : sgS h' aC (A e).2.1 (A e).2.2.1 (A e).2.2.2.1 (A e).2.2.2.2 m VK VS VV Ad) : siH h' aC A := fun d hd => by
  obtain ⟨s0, ⟨g1, s1⟩, ⟨g2, s2⟩, ⟨g3, s3⟩, g4, s4⟩ := S d hd
  refine ⟨by rw [a _ (S.mk he s0)]; exact s0, ?_⟩
  by_cases e0 : d = e
  · subst e0
    obtain ⟨k1, k2, k3, k4, ⟨z1, z2, z3, z4⟩, -⟩ := G
    exact ⟨⟨k1, z1⟩, ⟨k2, z2⟩, ⟨k3, z3⟩, k4, z4⟩
  · obtain ⟨n1, n2, n3, n4⟩ := D.2 e d he hd (fun q => e0 q.symm)
    exact ⟨⟨g1, by rw [a _ n1]; exact s1⟩, ⟨g2, by rw [a _ n2]; exact s2⟩, ⟨g3, by rw [a _ n3]; exact s3⟩, g4, by rw [a _ n4]; exact s4⟩
theorem tS.fr (D : siD A) {d lo m : Nat} {r : List Nat} (hd : d < 5) (hlo : d < lo) (f : sFr A lo h h') (T : tS h aC (A d) m Ls r) : tS h' aC (A d) m Ls r := by
  obtain ⟨k1, k2, k3, k4, ⟨z1, z2, z3, z4⟩, G⟩ := T
  have hx : ∀ e, lo ≤ e → e < 5 → _ := fun e h1 h2 => D.2 e d h2 hd (by omega)
  exact ⟨k1, k2, k3, k4, ⟨by rw [f _ (fun e h1 h2 => (hx e h1 h2).1)]; exact z1, by rw [f _ (fun e h1 h2 => (hx e h1 h2).2.1)]; exact z2, by rw [f _ (fun e h1 h2 => (hx e h1 h2).2.2.1)]; exact z3, by rw [f _ (fun e h1 h2 => (hx e h1 h2).2.2.2)]; exact z4⟩, G⟩
theorem seH_of {u : List Nat → Option zMk} (T : trP h aC u) (r : List Nat) {j : Nat} (h1 : 1 ≤ j) (h9 : j ≤ 9) : seH h aC (nI j) (mkA (u r)) (u (j :: r)) := by
  obtain ⟨a1, a2, a3, a4, a5, a6⟩ := T
  have hx : ¬ (nI j < 1 ∨ 9 < nI j) := by
    rintro (q | q)
    · exact absurd (show nI j < nI 1 from q) (nI_nlt h1 (by omega))
    · exact absurd (show nI 9 < nI j from q) (nI_nlt h9 (by omega))
  refine ⟨fun hn => ?_, fun a ha => ?_, fun q hq => a1 _ q hq⟩
  · cases hr : u r with
    | none => exact a4 r j hr
    | some q => rw [hr] at hn; cases hn
  · cases hr : u r with
    | none => rw [hr] at ha; cases ha
    | some q =>
      rw [hr] at ha; cases ha
      cases hb : q.2.2.2 with
      | none =>
        refine ⟨q.2.1, q.2.2.1, none, fun _ => none, by rw [← hb]; exact a1 r q hr, (fun c hc => by cases hc), ?_⟩
        rw [a3 r q j hr hb]; exact if_pos (Or.inl rfl)
      | some c =>
        obtain ⟨g, hg, hgj⟩ := a2 r q c hr hb
        refine ⟨q.2.1, q.2.2.1, some c, g, by rw [← hb]; exact a1 r q hr, (fun c' hc => by cases hc; exact hg), ?_⟩
        unfold atF
        rw [if_neg, nI_clamp (by omega)]
        · exact hgj j h1 h9
        · rintro (q | q)
          · cases q
          · exact hx q
theorem c_see (l : Launch) (D : va_G) (W : tW h aC t la sa A n Ls) {d m x : Nat} {r : List Nat} (T : tS h aC (A d) m Ls r) (hd : d < 4) (hm : m ≤ n) (h1 : 1 ≤ x) (h9 : x ≤ 9) :
    zz_Ct l D aC y_S_see (zrm 1 0 0 60) [.ref (A (d + 1)).1, .ref (A d).1, .int (nI x), .int (nI m)] h (fun r' h' => r' = .inl none ∧ (∀ a, sN a (A (d + 1)) → h' a = h a) ∧ tS h' aC (A (d + 1)) m Ls (x :: r)) := by
  obtain ⟨w1, w2, w3, w4, w5, w6, w7, w8, w9⟩ := W
  obtain ⟨s0, s1, s2, s3, s4⟩ := w7 (d + 1) (by omega)
  obtain ⟨p0, -⟩ := w7 d (by omega)
  obtain ⟨n1, n2, n3, n4⟩ := w2.2 (d + 1) d (by omega) (by omega) (by omega)
  exact c_S_see l D aC h (A (d + 1)).1 _ _ _ _ (A d).1 _ _ _ _ m (nI x) (vw Ls r).1 (vw Ls r).2 (vwV Ls r) (fun i => mkA (Ls i r)) (fun i => Ls i (x :: r)) (w2.1 (d + 1) (by omega)) (w7.mk (by omega) s0) s0 s1 s2 s3 s4 (w7.mk (by omega) p0) p0 n1 n3 n4 T (by omega) (fun i hi => seH_of (w8 i (by omega)) r h1 h9)
end TW
end
