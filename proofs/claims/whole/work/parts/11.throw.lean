/-! ===== throws and handlers over function worlds ===== -/
def zz_nm : List String := ["java/lang/RuntimeException", "java/lang/Exception"]
/-- a throw: 'new' by ik, the text by is, the constructor by ic -/
def zz_Xd (ik is ic : Nat) (cls text : String) : Prop := Bundle.fit cls = true ∧ Cond.classLink "OverlayTree" ik cls ∈ zz_g ∧ Cond.initialized cls ∈ zz_g ∧ (is, text) ∈ zz_str ∧ (∀ w ∈ (vx_atS "OverlayTree" ic cls zz_nm).filter goodWord, w ∈ zz_g) ∧ (∀ w ∈ (vx_atS "OverlayTree" ic cls zz_nm).filter (fun w => !goodWord w), w ∈ zz_b) ∧ ∀ w ∈ Cond.classLink "OverlayTree" ik cls :: Cond.initialized cls :: vx_atS "OverlayTree" ic cls zz_nm, vx_ot w = true
theorem zz_nm_fit : ∀ n ∈ zz_nm, Bundle.fit n = true := by decide +kernel
theorem xd_53 : zz_Xd 51 53 55 "java/lang/IllegalStateException" "something is there" := ⟨by decide +kernel, by decide +kernel, by decide +kernel, by decide +kernel, by decide +kernel, by decide +kernel, by decide +kernel⟩
theorem xd_78 : zz_Xd 76 78 80 "java/lang/UnsupportedOperationException" "no more layers" := ⟨by decide +kernel, by decide +kernel, by decide +kernel, by decide +kernel, by decide +kernel, by decide +kernel, by decide +kernel⟩
theorem xd_83 : zz_Xd 81 83 85 "java/lang/IndexOutOfBoundsException" "no such two layers" := ⟨by decide +kernel, by decide +kernel, by decide +kernel, by decide +kernel, by decide +kernel, by decide +kernel, by decide +kernel⟩
theorem xd_94 : zz_Xd 76 94 80 "java/lang/UnsupportedOperationException" "the only layer" := ⟨by decide +kernel, by decide +kernel, by decide +kernel, by decide +kernel, by decide +kernel, by decide +kernel, by decide +kernel⟩
theorem xd_124 : zz_Xd 122 124 126 "java/lang/IllegalArgumentException" "no path below the root" := ⟨by decide +kernel, by decide +kernel, by decide +kernel, by decide +kernel, by decide +kernel, by decide +kernel, by decide +kernel⟩
theorem xd_127 : zz_Xd 122 127 126 "java/lang/IllegalArgumentException" "no path or no such view" := ⟨by decide +kernel, by decide +kernel, by decide +kernel, by decide +kernel, by decide +kernel, by decide +kernel, by decide +kernel⟩
theorem xd_129 : zz_Xd 81 129 85 "java/lang/IndexOutOfBoundsException" "no such layer" := ⟨by decide +kernel, by decide +kernel, by decide +kernel, by decide +kernel, by decide +kernel, by decide +kernel, by decide +kernel⟩
theorem xd_134 : zz_Xd 51 134 55 "java/lang/IllegalStateException" "the parent is no directory" := ⟨by decide +kernel, by decide +kernel, by decide +kernel, by decide +kernel, by decide +kernel, by decide +kernel, by decide +kernel⟩
theorem xd_136 : zz_Xd 51 136 55 "java/lang/IllegalStateException" "a directory is there" := ⟨by decide +kernel, by decide +kernel, by decide +kernel, by decide +kernel, by decide +kernel, by decide +kernel, by decide +kernel⟩
section ZT
variable {K : zz_K} {Q : State → Prop} {h0 h : zz_Hp} {k n pc : Nat} {lv : List (Option Value)} {st : List Value} {cc : ByteArray} {own : String} {post : zz_R → zz_Hp → Prop}
variable {l : Launch} {D : va_G} {aC : Nat → ClassId} {rm : Room} {ret : Option FieldType} {hs : List (Nat × Nat × Nat × Nat)}
theorem zz_throw (C : zz_C K cc "OverlayTree") (E : zz_En l D aC rm ret [] h0 K) (hl : l.stackTraces = false) {ik is ic : Nat} {cls text : String} (F : zz_Xd ik is ic cls text) (hp : post (.inr cls) h)
    (hfr : 5 < rm.frames) (hlo : (st.map fun v => v.category).sum + 82 ≤ rm.locals) (hce : k + 1 ≤ rm.cells) (hsl : n + 6 ≤ rm.slots)
    (d0 : decode cc pc = .ok (.new ik, 3)) (d3 : decode cc (pc + 3) = .ok (.dup, 1)) (d4 : decode cc (pc + 4) = .ok (.ldc is, 2)) (d6 : decode cc (pc + 6) = .ok (.invokespecial ic, 3)) (d9 : decode cc (pc + 9) = .ok (.athrow, 1)) : zz_Z K (zz_End K h0 post) h0 h k n pc lv st := by
  obtain ⟨p, l', e, R, s, m, args, below, meth, c, D', aC'⟩ := K
  obtain ⟨rfl, rfl, rfl, rfl, -, htab, hT, -⟩ := E
  obtain ⟨hexec, hcb, hown, hts, hK, hlk⟩ := C
  obtain ⟨f1, f2, f3, f4, f5, f6, f7⟩ := F
  obtain ⟨⟨hU, hNs⟩, hb, hstr, -⟩ := hT
  obtain ⟨sa, hsa⟩ := hstr _ f4
  intro H locs ls hP hS hN hls hln
  have hout : ∀ x ∈ c.exceptionTable.toList, covers x (pc + 9) = false := fun x hx => by
    rw [htab] at hx; cases hx
  refine zz_mono ?_ (vx_throwS (Qc := fun _ _ _ _ => False) (XC := fun E st t => E = cls ∧ st.vm.Alike t.vm ∧ H.size ≤ t.heap.size ∧ ∀ q : Nat, q < H.size → t.heap[q]? = H[q]?) (free := zz_A h0 s.heap.size) (mc := R.cells) (ms := R.slots) hexec hcb hl hown f1 zz_nm_fit (hts _ f2) (hts _ f3) hsa
    (vx_hat (B := zz_b) (fun w hw => hts w (f5 w hw)) f6 (fun w hw => va_Nw.use (by have h2 := (List.mem_filter.mp hw).2; cases w <;> first | rfl | simp at h2) (hb w hw))) f7 hU hNs hS hls.1 d0 d3 d4 d6 d9 hout hfr hlo hce hsl hlk (fun t h1 h2 h3 => ⟨rfl, h1, h2, h3⟩) (fun q hq => hS.2.2 q hq) hce hsl)
  intro t ht
  obtain ⟨o, hrun, hend, hq⟩ := ht
  rcases hq with ⟨hf, -⟩ | ⟨q, rfl, E', ce, L, ⟨rfl, hal, g1, g2⟩, hce', hcv, hcl, hW, hsm, hL⟩
  · exact hf.elim
  · refine ⟨.threw q, hrun, hend, ⟨.inr E', h, ⟨q, ce, rfl, hce', by rw [hal.findClass]; exact hcl, hcv⟩, hp, fun b x hb => (hP b x hb).kept (g2 b (hP.lt hb)), hN, Nat.le_trans hS.1 g1, fun z h1 h2 => by rw [g2 z (Nat.lt_of_lt_of_le h1 hS.1)]; exact hS.2.1 z h1 h2⟩, L, ⟨hW, hsm⟩, hL⟩
theorem zz_catch (C : zz_C K cc own) (E : zz_En l D aC rm ret hs h0 K) {X : String} (pre : List ExceptionTableEntry) (x : ExceptionTableEntry) (suf : List ExceptionTableEntry) (hsp : tableOf hs = pre ++ x :: suf) (hpass : ∀ z ∈ pre, z.catchType ≠ 0 ∧ ∃ nm : String, Cond.classLink own z.catchType nm ∈ zz_g ∧ (X, nm) ∈ zz_nc)
    (hx : covers x pc = true) (hx0 : x.catchType ≠ 0) (hlink : Cond.classLink own x.catchType X ∈ zz_g) (hcast : Cond.castable X X ∈ zz_b) (kk : ∀ q : Nat, zz_Z K Q h0 h k n x.handlerPc lv [.ref q]) : zz_V K Q h0 h k n pc lv st X := by
  obtain ⟨p, l', e, R, s, m, args, below, meth, c, D', aC'⟩ := K
  obtain ⟨rfl, rfl, rfl, rfl, -, htab, hT, -⟩ := E
  obtain ⟨hexec, hcb, hown, hts, hK, hlk⟩ := C
  obtain ⟨-, hb, -, hnc, -⟩ := hT
  intro H locs ls q cell T hP hS hN hls hln hq hX hv hTh X0
  exact vx_catch (own := own) (name := X) hown pre x suf (by rw [htab]; exact hsp) (fun z hz => by
    obtain ⟨h1, nm, h2, h3⟩ := hpass z hz
    exact Or.inr ⟨h1, nm, hts _ h2, hnc _ h3⟩) hx hx0 (hts _ hlink) (va_Nw.use rfl (hb _ hcast)) hq hv hX (kk q H locs ls hP hS hN hls hln) T hTh X0
end ZT
