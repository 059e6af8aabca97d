/-! ===== the same rows, with the room of the contract ===== -/
section ZU
variable {K : zz_K} {Q : State → Prop} {h0 h : zz_Hp} {k n pc : Nat} {lv : List (Option Value)} {st : List Value} {cc : ByteArray} {own : String} {post : zz_R → zz_Hp → Prop}
variable {l : Launch} {D : va_G} {aC : Nat → ClassId} {rm rm' : Room} {ret ret' : Option FieldType} {hs hs' : List (Nat × Nat × Nat × Nat)}
theorem zz_En.ac (E : zz_En l D aC rm ret hs h0 K) : aC = zz_ac K := by
  obtain ⟨p, l', e, R, s, m, args, below, meth, c, D', aC'⟩ := K
  exact E.2.2.1.symm
theorem zz_En.cells (E : zz_En l D aC rm ret hs h0 K) : zz_cells K = rm.cells := by
  obtain ⟨p, l', e, R, s, m, args, below, meth, c, D', aC'⟩ := K
  have h : R = rm := E.2.2.2.1
  show R.cells = rm.cells
  rw [h]
theorem zz_En.slots (E : zz_En l D aC rm ret hs h0 K) : zz_slots K = rm.slots := by
  obtain ⟨p, l', e, R, s, m, args, below, meth, c, D', aC'⟩ := K
  have h : R = rm := E.2.2.2.1
  show R.slots = rm.slots
  rw [h]
theorem zz_En.room (E : zz_En l D aC rm ret hs h0 K) : K.2.2.2.1 = rm := by
  obtain ⟨p, l', e, R, s, m, args, below, meth, c, D', aC'⟩ := K
  exact E.2.2.2.1
theorem zz_En.rt (E : zz_En l D aC rm ret hs h0 K) : zz_ret K = ret := by
  obtain ⟨p, l', e, R, s, m, args, below, meth, c, D', aC'⟩ := K
  exact E.2.2.2.2.1
theorem zz_En.tab (E : zz_En l D aC rm ret [] h0 K) : K.2.2.2.2.2.2.2.2.2.1.exceptionTable.toList = [] := by
  obtain ⟨p, l', e, R, s, m, args, below, meth, c, D', aC'⟩ := K
  exact E.2.2.2.2.2.1
theorem zz_En.old (E : zz_En l D aC rm ret hs h0 K) {a : Nat} {e : va_E} (ha : h0 a = some e) : a < zz_sz K := by
  obtain ⟨p, l', e, R, s, m, args, below, meth, c, D', aC'⟩ := K
  exact zz_H.lt E.2.2.2.2.2.2.2 ha
theorem zz_En.aoM (E : zz_En l D aC rm ret hs h0 K) : va_AO "OverlayTree$Mark" K.2.2.2.2.1 := by
  obtain ⟨p, l', e, R, s, m, args, below, meth, c, D', aC'⟩ := K
  exact E.2.2.2.2.2.2.1.2.2.2.2.1
theorem zz_En.aoS (E : zz_En l D aC rm ret hs h0 K) : va_AO "OverlayTree$Sight" K.2.2.2.2.1 := by
  obtain ⟨p, l', e, R, s, m, args, below, meth, c, D', aC'⟩ := K
  exact E.2.2.2.2.2.2.1.2.2.2.2.2
theorem zr_i (C : zz_C K cc own) (E : zz_En l D aC rm (some .int) hs h0 K) {v : Int32} (hk : k ≤ rm.cells) (hn : n ≤ rm.slots) (hd : decode cc pc = .ok (.ireturn, 1)) (hp : post (.inl (some (.int v))) h) : zz_Z K (zz_End K h0 post) h0 h k n pc lv [.int v] :=
  zz_iret C E.rt rfl hp (by rw [E.cells]; exact hk) (by rw [E.slots]; exact hn) hd
/-- a number that is 0 or 1 -/
def bI (b : Bool) : Int32 := if b then 1 else 0
theorem bI_nar (b : Bool) : narrow .boolean (.int (bI b)) = .int (bI b) := by cases b <;> rfl
theorem bI_vp (b : Bool) : vp_nar .boolean (bI b) = bI b := by cases b <;> rfl
theorem zr_z (C : zz_C K cc own) (E : zz_En l D aC rm (some .boolean) hs h0 K) {v : Int32} (b : Bool) (hv : v = bI b) (hk : k ≤ rm.cells) (hn : n ≤ rm.slots) (hd : decode cc pc = .ok (.ireturn, 1)) (hp : post (.inl (some (.int (bI b)))) h) : zz_Z K (zz_End K h0 post) h0 h k n pc lv [.int v] := by
  subst hv
  exact zz_iret C E.rt (bI_nar b) hp (by rw [E.cells]; exact hk) (by rw [E.slots]; exact hn) hd
theorem zr_v (C : zz_C K cc own) (E : zz_En l D aC rm none hs h0 K) (hk : k ≤ rm.cells) (hn : n ≤ rm.slots) (hd : decode cc pc = .ok (.return_, 1)) (hp : post (.inl none) h) : zz_Z K (zz_End K h0 post) h0 h k n pc lv [] :=
  zz_vret C E.rt hp (by rw [E.cells]; exact hk) (by rw [E.slots]; exact hn) hd
theorem zr_a (C : zz_C K cc own) {Cn : String} (E : zz_En l D aC rm (some (.object Cn)) hs h0 K) {r : Option Nat} {v : Value} (hv : v = va_rf r) (hk : k ≤ rm.cells) (hn : n ≤ rm.slots) (hd : decode cc pc = .ok (.areturn, 1)) (hp : post (.inl (some (va_rf r))) h) : zz_Z K (zz_End K h0 post) h0 h k n pc lv [v] := by
  subst hv
  exact zz_aret C E.rt (va_rf_or r) hp (by rw [E.cells]; exact hk) (by rw [E.slots]; exact hn) hd
theorem zr_out (C : zz_C K cc own) (E : zz_En l D aC rm ret [] h0 K) {X : String} (hk : k ≤ rm.cells) (hn : n ≤ rm.slots) (hp : post (.inr X) h) : zz_V K (zz_End K h0 post) h0 h k n pc lv st X :=
  zz_out C E.tab hp (by rw [E.cells]; exact hk) (by rw [E.slots]; exact hn)
theorem zr_new (C : zz_C K cc own) (E : zz_En l D aC rm ret hs h0 K) {index ci N : Nat} {fs : List Value} (F : zz_Nd own index ci N fs) (hce : k + 1 ≤ rm.cells) (hsl : n + N ≤ rm.slots) (hd : decode cc pc = .ok (.new index, 3))
    (kk : ∀ q : Nat, h q = none → zz_sz K ≤ q → zz_Z K Q h0 (va_up h q (some (.inr (ci, fs)))) (k + 1) (n + N) (pc + 3) lv (.ref q :: st)) : zz_Z K Q h0 h k n pc lv st :=
  zz_new C F (by rw [E.cells]; exact hce) (by rw [E.slots]; exact hsl) hd kk
theorem zr_obj (C : zz_C K cc own) (E : zz_En l D aC rm ret hs h0 K) {index a : Nat} (hl : Cond.methodLink own index Lib.objectInit ∈ zz_g) (hfr : 1 ≤ rm.frames) (hlo : (st.map fun v => v.category).sum + 12 ≤ rm.locals) (hd : decode cc pc = .ok (.invokespecial index, 3)) (kk : zz_Z K Q h0 h k n (pc + 3) lv st) : zz_Z K Q h0 h k n pc lv (.ref a :: st) :=
  zz_obj C hl (by rw [E.room]; exact hfr) (by rw [E.room]; exact hlo) hd kk
theorem zr_anewM (C : zz_C K cc own) (E : zz_En l D aC rm ret hs h0 K) {index : Nat} (hw : Cond.classLink own index "OverlayTree$Mark" ∈ zz_g) {x : Int32} {N : Nat} (hx : ¬ x < 0) (hN' : x.toNatClampNeg = N) (hby : N * 4 ≤ 536870912) (hce : k + 1 ≤ rm.cells) (hsl : n + N ≤ rm.slots) (hd : decode cc pc = .ok (.anewarray index, 3))
    (kk : ∀ q : Nat, h q = none → zz_sz K ≤ q → zz_Z K Q h0 (va_up h q (some (.inl (zz_ac K 3, N, .inr (.inr (.inr (.inr (fun _ => none)))))))) (k + 1) (n + N) (pc + 3) lv (.ref q :: st)) : zz_Z K Q h0 h k n pc lv (.int x :: st) :=
  zz_anew C 3 (fun _ => rfl) hw E.aoM hx hN' hby (by rw [E.cells]; exact hce) (by rw [E.slots]; exact hsl) hd kk
theorem zr_anewS (C : zz_C K cc own) (E : zz_En l D aC rm ret hs h0 K) {index : Nat} (hw : Cond.classLink own index "OverlayTree$Sight" ∈ zz_g) {x : Int32} {N : Nat} (hx : ¬ x < 0) (hN' : x.toNatClampNeg = N) (hby : N * 4 ≤ 536870912) (hce : k + 1 ≤ rm.cells) (hsl : n + N ≤ rm.slots) (hd : decode cc pc = .ok (.anewarray index, 3))
    (kk : ∀ q : Nat, h q = none → zz_sz K ≤ q → zz_Z K Q h0 (va_up h q (some (.inl (zz_ac K 4, N, .inr (.inr (.inr (.inr (fun _ => none)))))))) (k + 1) (n + N) (pc + 3) lv (.ref q :: st)) : zz_Z K Q h0 h k n pc lv (.int x :: st) :=
  zz_anew C 4 (fun _ => rfl) hw E.aoS hx hN' hby (by rw [E.cells]; exact hce) (by rw [E.slots]; exact hsl) hd kk
theorem zr_newI (C : zz_C K cc own) (E : zz_En l D aC rm ret hs h0 K) {x : Int32} {N : Nat} (hx : ¬ x < 0) (hN' : x.toNatClampNeg = N) (hby : N * 4 ≤ 536870912) (hce : k + 1 ≤ rm.cells) (hsl : n + N ≤ rm.slots) (hd : decode cc pc = .ok (.newarray .int, 2))
    (kk : ∀ q : Nat, h q = none → zz_sz K ≤ q → zz_Z K Q h0 (va_up h q (some (.inl (zz_ac K 0, N, .inl (fun _ => 0))))) (k + 1) (n + N) (pc + 2) lv (.ref q :: st)) : zz_Z K Q h0 h k n pc lv (.int x :: st) :=
  zz_newa (atype := .int) C 0 rfl (fun _ => rfl) (fun _ h => by cases h) (zz_in 63 (by decide +kernel) rfl) (fun _ => rfl) hx hN' hby (by rw [E.cells]; exact hce) (by rw [E.slots]; exact hsl) hd kk
theorem zr_newZ (C : zz_C K cc own) (E : zz_En l D aC rm ret hs h0 K) {x : Int32} {N : Nat} (hx : ¬ x < 0) (hN' : x.toNatClampNeg = N) (hby : N * 1 ≤ 536870912) (hce : k + 1 ≤ rm.cells) (hsl : n + N ≤ rm.slots) (hd : decode cc pc = .ok (.newarray .boolean, 2))
    (kk : ∀ q : Nat, h q = none → zz_sz K ≤ q → zz_Z K Q h0 (va_up h q (some (.inl (zz_ac K 1, N, .inl (fun _ => 0))))) (k + 1) (n + N) (pc + 2) lv (.ref q :: st)) : zz_Z K Q h0 h k n pc lv (.int x :: st) :=
  zz_newa (atype := .boolean) C 1 rfl (fun _ => rfl) (fun _ h => by cases h) (zz_in 64 (by decide +kernel) rfl) (fun _ => rfl) hx hN' hby (by rw [E.cells]; exact hce) (by rw [E.slots]; exact hsl) hd kk
/-- another word for what stands in locals and on the stack -/
theorem zz_eq {lv' : List (Option Value)} {st' : List Value} (hl : lv = lv') (hs : st = st') (kk : zz_Z K Q h0 h k n pc lv' st') : zz_Z K Q h0 h k n pc lv st := by
  subst hl; subst hs; exact kk
theorem zz_hp {h' : zz_Hp} (hh : h = h') (kk : zz_Z K Q h0 h' k n pc lv st) : zz_Z K Q h0 h k n pc lv st := by
  subst hh; exact kk
/-- the whole world is the callee's: what comes back -/
theorem zm_self {Pz : zz_Hp → Prop} {h' : zz_Hp} (hd : ∀ (a : Nat) (e : va_E), h a = some e → ∃ e', h' a = some e') (kk : Pz h') : Pz (zz_mix h h' h) := by
  rw [zz_mix_self hd]; exact kk
end ZU
/-! ===== a mark and its row ===== -/
def mkE (s v : Int32) (b : Option Nat) : va_E := .inr (0, [.int s, .int v, va_rf b])
def maE (aC : Nat → ClassId) (N : Nat) (f : Nat → Option Nat) : va_E := .inl (aC 3, N, .inr (.inr (.inr (.inr f))))
def zrm (f c s lo : Nat) : Room := { frames := f, cells := c, slots := s, locals := lo }
