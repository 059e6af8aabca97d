/-! ===== worlds as functions from addresses; the judgement zz_Z; a row an instruction that touches the heap ===== -/
abbrev zz_Hp : Type := Nat → Option va_E
def zz_H (D : va_G) (h : zz_Hp) (H : Heap) : Prop := ∀ (a : Nat) (e : va_E), h a = some e → va_at D zz_cl (a, e) H
def zz_A (h0 : zz_Hp) (sz : Nat) : Nat → Prop := fun q => (∃ e, h0 q = some e) ∨ sz ≤ q
def zz_N (h0 : zz_Hp) (sz : Nat) (h : zz_Hp) : Prop := (∀ (a : Nat) (e : va_E), h a = some e → zz_A h0 sz a) ∧ ∀ (a : Nat) (e : va_E), h0 a = some e → ∃ e' : va_E, h a = some e'
theorem zz_H.one {D : va_G} {h : zz_Hp} {H : Heap} {a : Nat} {e : va_E} (hP : zz_H D h H) (ha : h a = some e) : va_P D zz_cl [(a, e)] H := fun k q hk => by
  cases k with
  | zero =>
    simp at hk
    subst hk
    exact hP a e ha
  | succ k => simp at hk
theorem zz_H.lt {D : va_G} {h : zz_Hp} {H : Heap} {a : Nat} {e : va_E} (hP : zz_H D h H) (ha : h a = some e) : a < H.size := (hP a e ha).lt
theorem zz_H.up {D : va_G} {h : zz_Hp} {H H1 : Heap} {a : Nat} {e : va_E} (hP : zz_H D h H) (h1 : va_at D zz_cl (a, e) H1) (ho : ∀ q, q ≠ a → H1[q]? = H[q]?) : zz_H D (va_up h a (some e)) H1 := fun b x hb => by
  by_cases hba : b = a
  · subst hba
    rw [va_up_self] at hb
    cases hb
    exact h1
  · rw [va_up_ne _ _ hba] at hb
    exact (hP b x hb).kept (ho b hba)
theorem zz_H.new {D : va_G} {h : zz_Hp} {H H1 : Heap} {e : va_E} (hP : zz_H D h H) (h1 : va_at D zz_cl (H.size, e) H1) (ho : ∀ q, q < H.size → H1[q]? = H[q]?) : zz_H D (va_up h H.size (some e)) H1 := fun b x hb => by
  by_cases hba : b = H.size
  · subst hba
    rw [va_up_self] at hb
    cases hb
    exact h1
  · rw [va_up_ne _ _ hba] at hb
    exact (hP b x hb).kept (ho b (hP.lt hb))
theorem zz_H.fresh {D : va_G} {h : zz_Hp} {H : Heap} (hP : zz_H D h H) {q : Nat} (hq : H.size ≤ q) : h q = none := by
  cases he : h q with
  | none => rfl
  | some e => exact absurd (hP.lt he) (Nat.not_lt.mpr hq)
theorem zz_N.up {h0 h : zz_Hp} {sz a : Nat} {e : va_E} (hN : zz_N h0 sz h) (ha : zz_A h0 sz a) : zz_N h0 sz (va_up h a (some e)) := by
  refine ⟨fun b x hb => ?_, fun b x hb => ?_⟩
  · by_cases hba : b = a
    · subst hba; exact ha
    · rw [va_up_ne _ _ hba] at hb
      exact hN.1 b x hb
  · by_cases hba : b = a
    · subst hba
      exact ⟨e, va_up_self _ _ _⟩
    · rw [va_up_ne _ _ hba]
      exact hN.2 b x hb
theorem zz_N.rf {h0 : zz_Hp} {sz : Nat} : zz_N h0 sz h0 := ⟨fun _ e h => Or.inl ⟨e, h⟩, fun _ e h => ⟨e, h⟩⟩
theorem zz_N.new {h0 h : zz_Hp} {sz q : Nat} (hN : zz_N h0 sz h) (hq : h q = none) (hA : zz_A h0 sz q) : sz ≤ q := by
  rcases hA with ⟨e, he⟩ | hA
  · obtain ⟨e', h'⟩ := hN.2 q e he
    rw [hq] at h'
    cases h'
  · exact hA
/-- what a method's walk stands in: program, launch, environment, room, the state at its start, the method, its arguments, what is below, its code; classes' numbers and slots; arrays' classes -/
abbrev zz_K : Type := Program × Launch × Env × Room × State × MethodId × Array Value × List Frame × Method × Code × va_G × (Nat → ClassId)
def zz_Z (K : zz_K) (Q : State → Prop) (h0 h : zz_Hp) (k n pc : Nat) (lv : List (Option Value)) (st : List Value) : Prop := match K with
  | (p, l, e, R, s, m, args, below, meth, c, D, _) => ∀ (H : Heap) (locs : List Loc) (ls : Array Slot), zz_H D h H → va_S (zz_A h0 s.heap.size) s.heap H locs → zz_N h0 s.heap.size h → lv_has ls c.maxLocals (zz_l 0 lv) → lv.length ≤ c.maxLocals → W p l e R s m args below meth c H locs k n Q (F0 m pc ls st)
def zz_C (K : zz_K) (cc : ByteArray) (own : String) : Prop := match K with
  | (p, _, _, _, s, m, args, _, meth, c, D, aC) => p.tables.exec = Jvm.exec ∧ c.code = cc ∧ s.vm.findClass own = some m.cls ∧ (∀ w ∈ zz_g, w.before args s = true) ∧ va_K D zz_cl (zz_tys aC) s ∧ meth.locks = false
def zz_runs : List (Nat × Instr) → Nat → List (Option Value) → List Value → Option zz_X
  | [], pc, lv, st => some (pc, lv, st)
  | (q, i) :: r, pc, lv, st => if q = pc then (match zz_step i pc lv st with
    | some x => zz_runs r x.1 x.2.1 x.2.2
    | none => none) else none
def zz_dec (cc : ByteArray) (L : List (Nat × Instr)) : Bool := L.all fun q => decide (decode cc q.1 = .ok (q.2, zz_len q.2))
section ZW
variable {K : zz_K} {Q : State → Prop} {h0 h : zz_Hp} {k n pc : Nat} {lv : List (Option Value)} {st : List Value} {cc : ByteArray} {own : String}
theorem zz_go (C : zz_C K cc own) : ∀ (L : List (Nat × Instr)) {pc : Nat} {lv : List (Option Value)} {st : List Value} (_ : zz_dec cc L = true) {pc' : Nat} {lv' : List (Option Value)} {st' : List Value} (_ : zz_runs L pc lv st = some (pc', lv', st')) (_ : zz_Z K Q h0 h k n pc' lv' st'), zz_Z K Q h0 h k n pc lv st
  | [], pc, lv, st, _, pc', lv', st', hr, kk => by
    cases hr
    exact kk
  | (q, i) :: L, pc, lv, st, hd, pc', lv', st', hr, kk => by
    have hd' : decide (decode cc q = .ok (i, zz_len i)) = true ∧ zz_dec cc L = true := by simpa [zz_dec] using hd
    have hdg : decode cc q = .ok (i, zz_len i) := of_decide_eq_true hd'.1
    unfold zz_runs at hr
    split at hr
    · rename_i hq
      subst hq
      split at hr
      · rename_i x hx
        obtain ⟨pc1, lv1, st1⟩ := x
        have ih := zz_go C L hd'.2 hr kk
        obtain ⟨p, l, e, R, s, m, args, below, meth, c, D, aC⟩ := K
        obtain ⟨hexec, hb, -⟩ := C
        intro H locs ls hP hS hN hl hn
        exact zz_step_ok hexec hb hdg hx hl hn fun ls' hl' hn' => ih H locs ls' hP hS hN hl' hn'
      · cases hr
    · cases hr
theorem zz_lv (lv' : List (Option Value)) (hl : ∀ (j : Nat) (v : Value), lv'[j]? = some (some v) → lv[j]? = some (some v)) (hn : lv'.length ≤ lv.length) (kk : zz_Z K Q h0 h k n pc lv' st) : zz_Z K Q h0 h k n pc lv st := by
  obtain ⟨p, l, e, R, s, m, args, below, meth, c, D, aC⟩ := K
  intro H locs ls hP hS hN hls hlen
  refine kk H locs ls hP hS hN ⟨hls.1, hls.2.1, fun q hq => ?_⟩ (Nat.le_trans hn hlen)
  obtain ⟨j, v⟩ := q
  obtain ⟨i, hi, hv⟩ := (zz_l_mem _ 0 j v).mp hq
  exact hls.2.2 _ ((zz_l_mem _ 0 j v).mpr ⟨i, hi, hl i v hv⟩)
def zz_cmp (cd : ClassFile.Cond) (x y : Int32) : Prop × Prop := match cd with
  | .eq => (x = y, ¬ x = y)
  | .ne => (¬ x = y, x = y)
  | .lt => (x < y, ¬ x < y)
  | .ge => (y ≤ x, ¬ y ≤ x)
  | .gt => (y < x, ¬ y < x)
  | .le => (x ≤ y, ¬ x ≤ y)
def zz_br (i : Instr) (st : List Value) : Option (Prop × Prop × Int × List Value) := match i, st with
  | .if_icmp cd off, .int y :: .int x :: r => some ((zz_cmp cd x y).1, (zz_cmp cd x y).2, off, r)
  | .ifCond cd off, .int x :: r => some ((zz_cmp cd x 0).1, (zz_cmp cd x 0).2, off, r)
  | _, _ => none
theorem zz_if (C : zz_C K cc own) {i : Instr} (hd : decode cc pc = .ok (i, 3)) {Pt Pf : Prop} {off : Int} {r : List Value} {tgt : Nat} (hb : zz_br i st = some (Pt, Pf, off, r)) (ht : (pc : Int) + off = (tgt : Int))
    (kt : Pt → zz_Z K Q h0 h k n tgt lv r) (kf : Pf → zz_Z K Q h0 h k n (pc + 3) lv r) : zz_Z K Q h0 h k n pc lv st := by
  obtain ⟨p, l, e, R, s, m, args, below, meth, c, D, aC⟩ := K
  obtain ⟨hexec, hcb, -⟩ := C
  intro H locs ls hP hS hN hl hn
  unfold zz_br at hb
  split at hb
  · rename_i cd off' y x r'
    cases hb
    cases cd
    · exact lv_icmp_eq hexec hcb hd ht (fun q => kt q H locs ls hP hS hN hl hn) (fun q => kf q H locs ls hP hS hN hl hn)
    · exact lv_icmp_ne hexec hcb hd ht (fun q => kt q H locs ls hP hS hN hl hn) (fun q => kf q H locs ls hP hS hN hl hn)
    · exact lv_icmp_lt hexec hcb hd ht (fun q => kt q H locs ls hP hS hN hl hn) (fun q => kf q H locs ls hP hS hN hl hn)
    · exact lv_icmp_ge hexec hcb hd ht (fun q => kt q H locs ls hP hS hN hl hn) (fun q => kf q H locs ls hP hS hN hl hn)
    · exact lv_icmp_gt hexec hcb hd ht (fun q => kt q H locs ls hP hS hN hl hn) (fun q => kf q H locs ls hP hS hN hl hn)
    · exact lv_icmp_le hexec hcb hd ht (fun q => kt q H locs ls hP hS hN hl hn) (fun q => kf q H locs ls hP hS hN hl hn)
  · rename_i cd off' x r'
    cases hb
    cases cd
    · exact lv_if_eq hexec hcb hd ht (fun q => kt q H locs ls hP hS hN hl hn) (fun q => kf q H locs ls hP hS hN hl hn)
    · exact lv_if_ne hexec hcb hd ht (fun q => kt q H locs ls hP hS hN hl hn) (fun q => kf q H locs ls hP hS hN hl hn)
    · exact lv_if_lt hexec hcb hd ht (fun q => kt q H locs ls hP hS hN hl hn) (fun q => kf q H locs ls hP hS hN hl hn)
    · exact lv_if_ge hexec hcb hd ht (fun q => kt q H locs ls hP hS hN hl hn) (fun q => kf q H locs ls hP hS hN hl hn)
    · exact lv_if_gt hexec hcb hd ht (fun q => kt q H locs ls hP hS hN hl hn) (fun q => kf q H locs ls hP hS hN hl hn)
    · exact lv_if_le hexec hcb hd ht (fun q => kt q H locs ls hP hS hN hl hn) (fun q => kf q H locs ls hP hS hN hl hn)
  · cases hb
end ZW
