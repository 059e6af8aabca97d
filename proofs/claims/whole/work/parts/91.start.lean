/-! ===== the start: what the law's entry gives ===== -/
theorem zz_arr {args : Array Value} {s : State} {ty : FieldType} (h : (Cond.arrayClass ty).before args s = true) : ∃ cA : ClassId, ArrOfT s cA ty ∧ s.vm.findClass ("[" ++ ty.toString) = some cA := by
  obtain ⟨c, k, comp, h1, h2, h3⟩ := Cond.arrayClass_spec h
  exact ⟨c, fun n z => ⟨fun k h => (by cases h), k, h2, comp, h3⟩, h1⟩
theorem zz_arO {args : Array Value} {s : State} {C : String} (h : (Cond.arrayOver (.object C)).before args s = true) : ∃ cA : ClassId, ArrOfT s cA (.object C) ∧ va_RA s cA (.object C) := by
  obtain ⟨comp, c, k, h1, h2, h3, h4, h5⟩ := Cond.arrayOver_spec h
  exact ⟨c, fun n z => ⟨fun k h => (by cases h), k, h3, comp, h4⟩, k, comp, h3, h4, h1, h5⟩
theorem zz_strR {args : Array Value} {s : State} {own tx : String} {k : Nat} (h : (Cond.stringRef own k tx).before args s = true) : ∃ a, vk_R own k tx a s := by
  have h0 := h
  simp only [Cond.before, Cond.holds, Cond.value] at h
  cases hc : s.vm.findClass own with
  | none => simp [hc] at h
  | some c =>
    cases hr : s.resolvedAt? own k with
    | none => simp [hr, hc] at h
    | some r =>
      cases r with
      | string a =>
        refine ⟨a, h0, ?_⟩
        simp only [State.resolvedAt?] at hr
        simp only [Term.eval]
        cases hk : s.vm.classes[c]? with
        | none => simp [hc, hk] at hr
        | some kk =>
          simp [hc, hk] at hr ⊢
          simp [hr]
      | _ => simp [hr, hc] at h
theorem zz_str_in : ∀ q ∈ zz_str, Cond.stringRef "OverlayTree" q.1 q.2 ∈ lw_tbl := by decide +kernel
theorem zz_nc_in : ∀ q ∈ zz_nc, Cond.not (.castable q.1 q.2) ∈ flatC (Jvm.Cond.and given_1 narrow_1) := by decide +kernel
theorem zz_A0 {sz a : Nat} (h : a < sz) : ¬ zz_A (fun _ => none) sz a := fun z => by
  rcases z with ⟨e, he⟩ | he
  · cases he
  · exact absurd h (Nat.not_lt.mpr he)
set_option maxHeartbeats 4000000 in
theorem whole_start {p : Program} {e : Env} {s : State} {m : MethodId} {below : List Frame} {meth : Method} {c : Code} (l : Launch) (hst : l.stackTraces = false) {b L : Nat} {xs : Nat → Int32} (hL : L ≤ 1536) (C0 : lw_At p s m meth c b L xs) : W p l e room_1 s m #[Value.ref b] below meth c s.heap [] 0 0 (lw_Z below #[Value.ref b] s) (entryFrame m ([Value.ref b] : List Value).toArray 7) := by
  obtain ⟨hx, hb, hr, hml, hown, hts, hX, hbl, hlocks, hgv⟩ := id C0
  have hfl := flat_of_before _ hgv
  have htg : ∀ w ∈ zz_g, w.before #[Value.ref b] s = true := fun w hw => hts w (List.mem_filter.mp hw).1
  obtain ⟨c0, i0, K0⟩ := u_known (C := R_M) (T := F_M) (N := 3) (n := 3) htg i_M (hts (.instantiable R_M 3) (by decide +kernel))
  obtain ⟨c1, i1, K1⟩ := u_known (C := R_S) (T := F_S) (N := 4) (n := 4) htg i_S (hts (.instantiable R_S 4) (by decide +kernel))
  obtain ⟨c2, i2, K2⟩ := u_known (C := R_T) (T := F_T) (N := 3) (n := 3) htg i_T (hts (.instantiable R_T 3) (by decide +kernel))
  obtain ⟨c3, i3, K3⟩ := u_known (C := R_O) (T := F_O) (N := 10) (n := 10) htg i_O (hts (.instantiable R_O 10) (by decide +kernel))
  obtain ⟨dC, dI, hKc⟩ : ∃ (dC : Nat → ClassId) (dI : Nat → Nat → Nat), ∀ (k : Nat) (q : vw_C), zz_cl[k]? = some q → u_Kn s q.1 q.2.1 q.2.2 (dC k) (dI k) := by
    refine ⟨fun k => if k = 0 then c0 else if k = 1 then c1 else if k = 2 then c2 else c3, fun k => if k = 0 then i0 else if k = 1 then i1 else if k = 2 then i2 else i3, ?_⟩
    intro k q hq
    match k, hq with
    | 0, hq => cases hq; exact K0
    | 1, hq => cases hq; exact K1
    | 2, hq => cases hq; exact K2
    | 3, hq => cases hq; exact K3
    | k + 4, hq => simp [zz_cl] at hq
  obtain ⟨a0, A0, N0⟩ := zz_arr (hts (.arrayClass .int) (by decide +kernel))
  obtain ⟨a1, A1, N1⟩ := zz_arr (hts (.arrayClass .boolean) (by decide +kernel))
  obtain ⟨a2, A2, N2⟩ := zz_arr (hts (.arrayClass .long) (by decide +kernel))
  have hO3 := hts (.arrayOver (.object "OverlayTree$Mark")) (by decide +kernel)
  have hO4 := hts (.arrayOver (.object "OverlayTree$Sight")) (by decide +kernel)
  obtain ⟨a3, A3, N3⟩ := zz_arO hO3
  obtain ⟨a4, A4, N4⟩ := zz_arO hO4
  obtain ⟨aC, hac⟩ : ∃ aC : Nat → ClassId, ∀ (k : Nat) (q : ClassId × FieldType), (zz_tys aC)[k]? = some q → ArrOfT s q.1 q.2 ∧ va_RA s q.1 q.2 := by
    refine ⟨fun k => if k = 0 then a0 else if k = 1 then a1 else if k = 2 then a2 else if k = 3 then a3 else a4, ?_⟩
    intro k q hq
    match k, hq with
    | 0, hq => cases hq; exact ⟨A0, N0⟩
    | 1, hq => cases hq; exact ⟨A1, N1⟩
    | 2, hq => cases hq; exact ⟨A2, N2⟩
    | 3, hq => cases hq; exact ⟨A3, N3⟩
    | 4, hq => cases hq; exact ⟨A4, N4⟩
    | k + 5, hq => simp [zz_tys] at hq
  have hK : va_K (dC, dI) zz_cl (zz_tys aC) s := ⟨hKc, hac⟩
  have hT : zz_T (fun _ => none) s s.heap := by
    refine ⟨⟨vx_Zqof (hts (.laysStatic "java/lang/Throwable" "UNASSIGNED_STACK" "[Ljava/lang/StackTraceElement;") (by decide +kernel)) (hts (.initialized "java/lang/Throwable") (by decide +kernel)) (hfl _ (by decide +kernel)) (fun a ha => zz_A0 ha), vx_Zqof (hts (.laysStatic "java/lang/Throwable" "SUPPRESSED_SENTINEL" "Ljava/util/List;") (by decide +kernel)) (hts (.initialized "java/lang/Throwable") (by decide +kernel)) (hfl _ (by decide +kernel)) (fun a ha => zz_A0 ha)⟩, fun w hw => ?_, fun q hq => zz_strR (hts _ (zz_str_in q hq)), fun q hq => va_Nc.of (hfl _ (zz_nc_in q hq)), va_AO.of hO3, va_AO.of hO4⟩
    have h2 := (List.mem_filter.mp hw).2
    exact va_Nw.of (by cases w <;> first | rfl | simp at h2) (hts w (List.mem_filter.mp hw).1)
  have C : zz_C (p, l, e, room_1, s, m, #[Value.ref b], below, meth, c, (dC, dI), aC) b_L_law "OverlayTreeLaw" := ⟨hx, hb, hown, htg, hK, hlocks⟩
  have hH : zz_H (dC, dI) (fun _ => none) s.heap := fun a e h => by cases h
  have E : zz_En l (dC, dI) aC (zrm 2048 601024 7293034 84000) ret (c.exceptionTable.toList.map fun h => (h.startPc, h.endPc, h.handlerPc, h.catchType)) (fun _ => none) (p, l, e, room_1, s, m, #[Value.ref b], below, meth, c, (dC, dI), aC) := ⟨rfl, rfl, rfl, rfl, hr, (table_eq _).symm, hT, hH⟩
  have X : zz_sX (p, l, e, room_1, s, m, #[Value.ref b], below, meth, c, (dC, dI), aC) (fun _ => none) b L xs := ⟨hX, hbl, zz_A0 hbl⟩
  have Z := law_Z hst C E X hL (Q := lw_Z below #[Value.ref b] s) (fun hc k n lv hk hn => by
    intro H locs ls hP hS hN hls hln
    refine va_forget (fun q hq => ?_) (W.widen hk hn (lw_ret hx hb hr hlocks (by decide +kernel)))
    rcases hS.2.2 q hq with ⟨e', he'⟩ | he'
    · cases he'
    · exact he')
  have hl := lv_entry ([.ref b]) (n := 7) (Nat.le_of_ble_eq_true rfl)
  rw [lg_entry_eq]
  generalize (lg_sl ([.ref b]) ++ List.replicate (7 - (lg_sl ([.ref b])).length) Slot.unset).toArray = ls at hl ⊢
  exact Z s.heap [] ls hH va_S.rf zz_N.rf (by show lv_has ls c.maxLocals _; rw [hml]; exact hl) (by show 7 ≤ c.maxLocals; rw [hml]; exact Nat.le_refl 7)
