/-! ===== contracts over function worlds ===== -/
abbrev zz_R : Type := Option Value ⊕ String
/-- how a method ends: with a value, or by a throw of an object of a class -/
def zz_O (r : zz_R) (o : Outcome) (t : State) : Prop := match r with
  | .inl v => o = .returned v
  | .inr X => ∃ (x : Addr) (cell : Cell), o = .threw x ∧ t.heap[x]? = some cell ∧ t.vm.findClass X = some cell.cls ∧ cell.vm = .none
/-- what throws and handlers rest on: the two statics of Throwable; what can be cast, what is declared; the texts; what can't be cast -/
def zz_T (h : zz_Hp) (U : State) (H : Heap) : Prop := (vx_Zq Bundle.tN "UNASSIGNED_STACK" Bundle.steD (zz_A h H.size) U H ∧ vx_Zq Bundle.tN "SUPPRESSED_SENTINEL" Bundle.listD (zz_A h H.size) U H) ∧ (∀ w ∈ zz_b, va_Nw w U) ∧ (∀ q ∈ zz_str, ∃ a, vk_R "OverlayTree" q.1 q.2 a U) ∧ (∀ q ∈ zz_nc, va_Nc q.1 q.2 U) ∧ va_AO "OverlayTree$Mark" U ∧ va_AO "OverlayTree$Sight" U
def zz_Pc (D : va_G) (aC : Nat → ClassId) (sz : Nat) (av : List Value) (h : zz_Hp) : Array Value → State → Prop := fun v U => v = av.toArray ∧ U.heap.size = sz ∧ zz_H D h U.heap ∧ va_K D zz_cl (zz_tys aC) U ∧ zz_T h U U.heap
def zz_Qc (D : va_G) (sz : Nat) (h : zz_Hp) (post : zz_R → zz_Hp → Prop) : Array Value → State → Outcome → State → Prop := fun _ st o t => ∃ (r : zz_R) (h' : zz_Hp), zz_O r o t ∧ post r h' ∧ zz_H D h' t.heap ∧ zz_N h sz h' ∧ sz ≤ t.heap.size ∧ ∀ q : Nat, q < sz → ¬ zz_A h sz q → t.heap[q]? = st.heap[q]?
def zz_Ct (l : Launch) (D : va_G) (aC : Nat → ClassId) (y : MethodName) (rm : Room) (av : List Value) (h : zz_Hp) (post : zz_R → zz_Hp → Prop) : Prop := ∀ sz : Nat, zz_M l y zz_g rm (zz_Pc D aC sz av h) (zz_Qc D sz h post) rm.cells rm.slots (zz_A h sz)
theorem zz_Pc_blind {D : va_G} {aC : Nat → ClassId} {sz : Nat} {av : List Value} {h : zz_Hp} : FrameBlind (zz_Pc D aC sz av h) := fun a U g mk q => by
  obtain ⟨q1, q2, q3, q4, ⟨q5, q6⟩, q7, q8, q9, q10, q11⟩ := q
  have hA : U.vm.Alike (U.calling g mk a).vm := Vm.Alike.refl U.vm
  exact ⟨q1, q2, q3, va_K.moved (u := U) (U := U.calling g mk a) hA q4, ⟨vx_Zq.moved (u := U) (U := U.calling g mk a) hA q5, vx_Zq.moved (u := U) (U := U.calling g mk a) hA q6⟩, fun w hw => zz_b_same (s := U) (U := U.calling g mk a) rfl w hw (q7 w hw), fun z hz => by
    obtain ⟨b, hb⟩ := q8 z hz
    exact ⟨b, vk_R.same (u := U) (U := U.calling g mk a) rfl hb⟩, fun z hz => va_Nc.moved (u := U) (U := U.calling g mk a) hA (q9 z hz), va_AO.moved (u := U) (U := U.calling g mk a) hA q10, va_AO.moved (u := U) (U := U.calling g mk a) hA q11⟩
/-- the method's own end -/
def zz_End (K : zz_K) (h0 : zz_Hp) (post : zz_R → zz_Hp → Prop) : State → Prop := match K with
  | (_, _, _, R, s, _, args, below, _, _, D, _) => zz_Q below (zz_Qc D s.heap.size h0 post) args s R.cells R.slots (zz_A h0 s.heap.size)
/-- what holds at a method's entry -/
def zz_En (l : Launch) (D : va_G) (aC : Nat → ClassId) (rm : Room) (ret : Option FieldType) (hs : List (Nat × Nat × Nat × Nat)) (h0 : zz_Hp) (K : zz_K) : Prop := match K with
  | (_, l', _, R, s, _, _, _, meth, c, D', aC') => l' = l ∧ D' = D ∧ aC' = aC ∧ R = rm ∧ meth.sig.returnType = ret ∧ c.exceptionTable.toList = tableOf hs ∧ zz_T h0 s s.heap ∧ zz_H D h0 s.heap
theorem zz_sl : ∀ {av : List Value}, (∀ v ∈ av, v.category = 1) → (lg_sl av).length = av.length
  | [], _ => rfl
  | v :: r, h => by
    have h1 : v.category = 1 := h v List.mem_cons_self
    have ih := zz_sl (av := r) (fun w hw => h w (List.mem_cons_of_mem _ hw))
    have e : lg_sl (v :: r) = Slot.val v :: lg_sl r := by simp [lg_sl, h1]
    rw [e, List.length_cons, List.length_cons, ih]
theorem zz_args0 : ∀ {av : List Value} {j i : Nat} {v : Value}, (∀ v ∈ av, v.category = 1) → av[i]? = some v → (j + i, v) ∈ lv_args j av
  | [], j, i, v, _, hi => by simp at hi
  | w :: r, j, i, v, h, hi => by
    have h1 : w.category = 1 := h w List.mem_cons_self
    rw [lv_args, h1]
    cases i with
    | zero =>
      simp at hi
      rw [hi]
      exact List.mem_cons_self
    | succ i =>
      have ih := zz_args0 (av := r) (j := j + 1) (i := i) (v := v) (fun x hx => h x (List.mem_cons_of_mem _ hx)) (by simpa using hi)
      refine List.mem_cons_of_mem _ ?_
      simpa [Nat.add_assoc, Nat.add_comm 1 i] using ih
theorem zz_args_mem {av : List Value} {i r : Nat} {v : Value} (hc : ∀ v ∈ av, v.category = 1) (h : (av.map some ++ List.replicate r none)[i]? = some (some v)) : (i, v) ∈ lv_args 0 av := by
  by_cases hi : i < av.length
  · rw [List.getElem?_append_left (by simpa using hi)] at h
    have h2 : av[i]? = some v := by simpa using h
    simpa using zz_args0 (j := 0) hc h2
  · rw [List.getElem?_append_right (by simpa using hi)] at h
    have := List.eq_of_mem_replicate (List.mem_of_getElem? h)
    cases this
theorem zz_ct {l : Launch} {D : va_G} {aC : Nat → ClassId} {y : MethodName} {rm : Room} {av : List Value} {h : zz_Hp} {post : zz_R → zz_Hp → Prop} {cc : ByteArray} {maxL n : Nat} {ret : Option FieldType} {hs : List (Nat × Nat × Nat × Nat)} (hm : zz_md y cc maxL ret hs n)
    {lv : List (Option Value)} (hav : av.map some ++ List.replicate (maxL - av.length) none = lv) (hcat : ∀ v ∈ av, v.category = 1) (hle : av.length ≤ maxL)
    (body : ∀ K : zz_K, zz_C K cc y.cls → zz_En l D aC rm ret hs h K → (y.name = "<init>" → K.2.2.2.2.2.2.2.2.1.name = "<init>") → zz_Z K (zz_End K h post) h h 0 0 0 lv []) : zz_Ct l D aC y rm av h post := by
  intro sz
  obtain ⟨⟨w, hw, hcd⟩, hini, hpl, hy, hlen⟩ := id hm
  refine zz_ofW (cc := cc) (maxL := maxL) (ret := ret) hpl ?_ ?_
  · intro args s m hws hn
    obtain ⟨m', meth, c, h1, h2, h3, h4, h5, h6, h7, h8, h9⟩ := hcd args s (hws w hw)
    cases hn.symm.trans h1
    exact ⟨meth, c, h2, h3, h4, h5, h7, h8⟩
  · intro p e s m args below meth c s₁ B hml hv
    obtain ⟨rfl, hsz, hP, hK, hT⟩ := hv
    subst hsz
    have hts : ∀ w ∈ zz_g, w.before av.toArray s = true := atoms_spec (ws := zz_g) B.pre
    obtain ⟨m', meth', c', h1, h2, h3, h4, h5, h6, h7, h8, h9⟩ := hcd av.toArray s (hts w hw)
    cases B.named.symm.trans h1
    cases B.method.symm.trans h2
    cases (Stand.of_body B).code.symm.trans h3
    have hl := lv_entry av (n := maxL) (by rw [zz_sl hcat]; simpa using hle)
    rw [lg_entry_eq]
    have key := body (p, l, e, rm, s, m, av.toArray, below, meth, c, D, aC) ⟨B.exec, B.bytes, findClass_of_methodNamed B.named, hts, hK, B.notSynchronized⟩ ⟨rfl, rfl, rfl, rfl, B.returns, h6, hT, hP⟩ (fun hi => by rw [(name_of_methodNamed B.named B.method).1]; exact hi)
    refine key s.heap [] _ hP va_S.rf zz_N.rf ?_ ?_
    · rw [hml]
      refine ⟨hl.1, hl.2.1, fun q hq => hl.2.2 q ?_⟩
      obtain ⟨j, v⟩ := q
      obtain ⟨i, hi, hv⟩ := (zz_l_mem _ 0 j v).mp hq
      rw [Nat.zero_add] at hi
      subst hi
      rw [← hav] at hv
      exact zz_args_mem hcat hv
    · rw [hml, ← hav]
      simp
      omega
section ZE
variable {K : zz_K} {Q : State → Prop} {h0 h : zz_Hp} {k n pc : Nat} {lv : List (Option Value)} {st : List Value} {cc : ByteArray} {own : String} {post : zz_R → zz_Hp → Prop}
def zz_ret (K : zz_K) : Option FieldType := K.2.2.2.2.2.2.2.2.1.sig.returnType
theorem zz_widen {k' n' : Nat} (h1 : k ≤ k') (h2 : n ≤ n') (kk : zz_Z K Q h0 h k' n' pc lv st) : zz_Z K Q h0 h k n pc lv st := by
  obtain ⟨p, l, e, R, s, m, args, below, meth, c, D, aC⟩ := K
  intro H locs ls hP hS hN hls hn
  exact W.widen h1 h2 (kk H locs ls hP hS hN hls hn)
theorem zz_iret (C : zz_C K cc own) {v : Int32} {ty : FieldType} (hr : zz_ret K = some ty) (hn1 : narrow ty (.int v) = .int v) (hp : post (.inl (some (.int v))) h) (hk : k ≤ zz_cells K) (hn : n ≤ zz_slots K) (hd : decode cc pc = .ok (.ireturn, 1)) : zz_Z K (zz_End K h0 post) h0 h k n pc lv [.int v] := by
  obtain ⟨p, l, e, R, s, m, args, below, meth, c, D, aC⟩ := K
  obtain ⟨hexec, hb, hown, hts, hK, hlk⟩ := C
  intro H locs ls hP hS hN hls hln
  exact W.widen hk hn (zz_mono zz_Q_of (W.zret hexec hb hr hn1 (fun t ht hw => ⟨.inl (some (.int v)), h, rfl, hp, by rw [ht]; exact hP, hN, by rw [ht]; exact hS.1, fun q h1 h2 => by rw [ht]; exact hS.2.1 q h1 h2⟩) (fun q hq => hS.2.2 q hq) hd hlk))
theorem zz_vret (C : zz_C K cc own) (hr : zz_ret K = none) (hp : post (.inl none) h) (hk : k ≤ zz_cells K) (hn : n ≤ zz_slots K) (hd : decode cc pc = .ok (.return_, 1)) : zz_Z K (zz_End K h0 post) h0 h k n pc lv [] := by
  obtain ⟨p, l, e, R, s, m, args, below, meth, c, D, aC⟩ := K
  obtain ⟨hexec, hb, hown, hts, hK, hlk⟩ := C
  intro H locs ls hP hS hN hls hln
  exact W.widen hk hn (zz_mono zz_Q_of (W.vret hexec hb hr (fun t ht hw => ⟨.inl none, h, rfl, hp, by rw [ht]; exact hP, hN, by rw [ht]; exact hS.1, fun q h1 h2 => by rw [ht]; exact hS.2.1 q h1 h2⟩) (fun q hq => hS.2.2 q hq) hd hlk))
theorem zz_aret (C : zz_C K cc own) {v : Value} {Cn : String} (hr : zz_ret K = some (.object Cn)) (hv : v = .null ∨ ∃ a, v = .ref a) (hp : post (.inl (some v)) h) (hk : k ≤ zz_cells K) (hn : n ≤ zz_slots K) (hd : decode cc pc = .ok (.areturn, 1)) : zz_Z K (zz_End K h0 post) h0 h k n pc lv [v] := by
  obtain ⟨p, l, e, R, s, m, args, below, meth, c, D, aC⟩ := K
  obtain ⟨hexec, hb, hown, hts, hK, hlk⟩ := C
  intro H locs ls hP hS hN hls hln
  exact W.widen hk hn (zz_mono zz_Q_of (W.aret hexec hb hr (Or.inl ⟨_, rfl⟩) hv (fun t ht hw => ⟨.inl (some v), h, rfl, hp, by rw [ht]; exact hP, hN, by rw [ht]; exact hS.1, fun q h1 h2 => by rw [ht]; exact hS.2.1 q h1 h2⟩) (fun q hq => hS.2.2 q hq) hd hlk))
/-- a throw has come to this frame: x is the object -/
def zz_V (K : zz_K) (Q : State → Prop) (h0 h : zz_Hp) (k n pc : Nat) (lv : List (Option Value)) (st : List Value) (X : String) : Prop := match K with
  | (p, l, e, R, s, m, args, below, meth, c, D, _) => ∀ (H : Heap) (locs : List Loc) (ls : Array Slot) (x : Addr) (cell : Cell) (T : State), zz_H D h H → va_S (zz_A h0 s.heap.size) s.heap H locs → zz_N h0 s.heap.size h → lv_has ls c.maxLocals (zz_l 0 lv) → lv.length ≤ c.maxLocals → H[x]? = some cell → s.vm.findClass X = some cell.cls → cell.vm = .none → T.heap = H → Stand p l e R s m args below meth c T locs k n → ∃ t, Steps p.tables e below ((T.setTop (F0 m pc ls st)).pushFrame (.throwing x)) t ∧ Q t
/-- .. and goes on to the caller -/
theorem zz_out (C : zz_C K cc own) (ht : K.2.2.2.2.2.2.2.2.2.1.exceptionTable.toList = []) {X : String} (hp : post (.inr X) h) (hk : k ≤ zz_cells K) (hn : n ≤ zz_slots K) : zz_V K (zz_End K h0 post) h0 h k n pc lv st X := by
  obtain ⟨p, l, e, R, s, m, args, below, meth, c, D, aC⟩ := K
  obtain ⟨hexec, hb, hown, hts, hK, hlk⟩ := C
  intro H locs ls x cell T hP hS hN hls hln hx hX hst hT X0
  have X1 := stand_widen X0 hk hn
  have hto : c.exceptionTable.toList = [] := ht
  obtain ⟨hsteps, hrun, hend, hW, hsame⟩ := X1.leaveThrown x (g := F0 m pc ls st) rfl rfl rfl (fun y hy => by rw [hto] at hy; cases hy) hlk
  refine ⟨_, hsteps, .threw x, hrun, hend, ⟨.inr X, h, ⟨x, cell, rfl, by show T.heap[x]? = _; rw [hT]; exact hx, ?_, hst⟩, hp, by show zz_H D h T.heap; rw [hT]; exact hP, hN, by show _ ≤ T.heap.size; rw [hT]; exact hS.1, fun q h1 h2 => by show T.heap[q]? = _; rw [hT]; exact hS.2.1 q h1 h2⟩, locs, ⟨hW, hsame⟩, fun q hq => hS.2.2 q hq⟩
  rw [hW.alike.findClass]
  exact hX
/-- the world behind a call: the callee's cells are as it left them, the rest as it was -/
def zz_mix (hc h' h : zz_Hp) : zz_Hp := fun a => match h' a with
  | some e => some e
  | none => match hc a with
    | some _ => none
    | none => h a
theorem zz_call {mc ms : Nat} {hc : zz_Hp} {st0 rest : List Value} {a : Array Value} {post' : zz_R → zz_Hp → Prop} (hsub : ∀ (a : Nat) (e : va_E), hc a = some e → h a = some e)
    (hr : match K with | (p, l, e, R, s, m, args, below, meth, c, D, _) => ∀ (H : Heap) (locs : List Loc) (ls : Array Slot), zz_H D h H → va_S (zz_A h0 s.heap.size) s.heap H locs → zz_N h0 s.heap.size h → ls.size = c.maxLocals → zz_Run p l e R s m args below meth c H locs k n mc ms (F0 m pc ls st0) rest (zz_Qc D H.size hc post' a) (zz_A hc H.size))
    (kr : ∀ (v : Option Value) (h' : zz_Hp), post' (.inl v) h' → (∀ (a : Nat) (e : va_E), h' a = some e → hc a = none → h a = none) → (∀ (a : Nat) (e : va_E), hc a = some e → ∃ e', h' a = some e') → zz_Z K Q h0 (zz_mix hc h' h) (k + mc) (n + ms) (pc + 3) lv (v.toList ++ rest))
    (kx : ∀ (X : String) (h' : zz_Hp), post' (.inr X) h' → (∀ (a : Nat) (e : va_E), h' a = some e → hc a = none → h a = none) → (∀ (a : Nat) (e : va_E), hc a = some e → ∃ e', h' a = some e') → zz_V K Q h0 (zz_mix hc h' h) (k + mc) (n + ms) pc lv rest X) : zz_Z K Q h0 h k n pc lv st0 := by
  obtain ⟨p, l, e, R, s, m, args, below, meth, c, D, aC⟩ := K
  intro H locs ls hP hS hN hls hln T hT X
  obtain ⟨o, st₀, t, T', L, g0, gw, X', hL, e1, e2, ⟨r, h', hO, hpost, hP', hN', hsz, hfr⟩, hret, hthr⟩ := hr H locs ls hP hS hN hls.1 T hT X
  have hz : s.heap.size ≤ H.size := hS.1
  have hnew : ∀ (a : Nat) (e : va_E), h' a = some e → hc a = none → h a = none := fun a e he hcn => by
    rcases hN'.1 a e he with ⟨e', q⟩ | q
    · rw [hcn] at q; cases q
    · exact hP.fresh q
  have hcA : ∀ q : Nat, zz_A hc H.size q → zz_A h0 s.heap.size q := fun q hq => by
    rcases hq with ⟨e', q1⟩ | q1
    · exact hN.1 q e' (hsub q e' q1)
    · exact Or.inr (Nat.le_trans hz q1)
  have hP1 : zz_H D (zz_mix hc h' h) t.heap := fun b x hb => by
    unfold zz_mix at hb
    split at hb
    · rename_i e' he'
      cases hb
      exact hP' b x he'
    · rename_i hn'
      split at hb
      · cases hb
      · rename_i hcn
        refine (hP b x hb).kept ?_
        rw [hfr b (hP.lt hb) (fun q => by
          rcases q with ⟨e', q1⟩ | q1
          · rw [hcn] at q1; cases q1
          · exact Nat.not_lt.mpr q1 (hP.lt hb)), g0]
  have hN1 : zz_N h0 s.heap.size (zz_mix hc h' h) := by
    refine ⟨fun b x hb => ?_, fun b x hb => ?_⟩
    · unfold zz_mix at hb
      split at hb
      · rename_i e' he'
        exact hcA b (hN'.1 b e' he')
      · split at hb
        · cases hb
        · exact hN.1 b x hb
    · obtain ⟨y, hy⟩ := hN.2 b x hb
      cases h1 : h' b with
      | some z => exact ⟨z, by simp [zz_mix, h1]⟩
      | none =>
        cases h2 : hc b with
        | some z =>
          obtain ⟨w, hw⟩ := hN'.2 b z h2
          rw [h1] at hw; cases hw
        | none => exact ⟨y, by simp [zz_mix, h1, h2, hy]⟩
  have hS1 : va_S (zz_A h0 s.heap.size) s.heap t.heap (locs ++ L) := by
    refine ⟨Nat.le_trans hz hsz, fun q h1 h2 => ?_, fun q hq => ?_⟩
    · rw [hfr q (Nat.lt_of_lt_of_le h1 hz) (fun z => h2 (hcA q z)), g0]
      exact hS.2.1 q h1 h2
    · rcases List.mem_append.mp hq with h1 | h1
      · exact hS.2.2 q h1
      · exact hcA _ (hL q h1)
  cases r with
  | inl v =>
    have ho : o = .returned v := hO
    obtain ⟨t2, a1, b1⟩ := kr v h' hpost hnew hN'.2 t.heap (locs ++ L) ls hP1 hS1 hN1 hls hln T' e1 X'
    exact ⟨t2, hret v ho t2 a1, b1⟩
  | inr Xn =>
    obtain ⟨x, cell, ho, hx, hX, hst⟩ := hO
    obtain ⟨t2, a1, b1⟩ := kx Xn h' hpost hnew hN'.2 t.heap (locs ++ L) ls x cell T' hP1 hS1 hN1 hls hln hx (by rw [← hX, ← e2, X'.warmed.alike.findClass]) hst e1 X'
    exact ⟨t2, hthr x ho t2 a1, b1⟩
end ZE
