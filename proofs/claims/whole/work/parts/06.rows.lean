/-! ===== from the function world to the kit's lists, and the heap rows ===== -/
theorem zz_listN (h : zz_Hp) : ∀ n : Nat, ∃ ws : va_W, (∀ (k : Nat) (q : Nat × va_E), ws[k]? = some q → q.1 < n ∧ h q.1 = some q.2) ∧ (∀ (i j : Nat) (p q : Nat × va_E), ws[i]? = some p → ws[j]? = some q → p.1 = q.1 → i = j) ∧ ∀ (a : Nat) (e : va_E), a < n → h a = some e → ∃ q0 : Nat, ws[q0]? = some (a, e)
  | 0 => ⟨[], fun k q hk => by simp at hk, fun i j p q hi => by simp at hi, fun a e ha => absurd ha (Nat.not_lt_zero a)⟩
  | n + 1 => by
    obtain ⟨ws, h1, h2, h3⟩ := zz_listN h n
    cases he : h n with
    | none =>
      refine ⟨ws, fun k q hk => ⟨Nat.lt_succ_of_lt (h1 k q hk).1, (h1 k q hk).2⟩, h2, fun a e ha hae => ?_⟩
      by_cases han : a = n
      · subst han
        rw [he] at hae
        cases hae
      · exact h3 a e (by omega) hae
    | some x =>
      refine ⟨ws ++ [(n, x)], fun k q hk => ?_, fun i j p q hi hj hpq => ?_, fun a e ha hae => ?_⟩
      · rcases List.mem_append.mp (List.mem_of_getElem? hk) with hm | hm
        · obtain ⟨k', hk'⟩ := List.getElem?_of_mem hm
          exact ⟨Nat.lt_succ_of_lt (h1 k' q hk').1, (h1 k' q hk').2⟩
        · rw [List.mem_singleton.mp hm]
          exact ⟨Nat.lt_succ_self n, he⟩
      · have key : ∀ (i : Nat) (p : Nat × va_E), (ws ++ [(n, x)])[i]? = some p → (i < ws.length ∧ ws[i]? = some p ∧ p.1 < n) ∨ (i = ws.length ∧ p.1 = n) := by
          intro i p hi
          by_cases hlt : i < ws.length
          · rw [List.getElem?_append_left hlt] at hi
            exact Or.inl ⟨hlt, hi, (h1 i p hi).1⟩
          · rw [List.getElem?_append_right (by omega)] at hi
            have hz : i - ws.length < 1 := (List.getElem?_eq_some_iff.mp hi).1
            rw [show i - ws.length = 0 by omega] at hi
            simp at hi
            exact Or.inr ⟨by omega, by rw [← hi]⟩
        rcases key i p hi with ⟨a1, a2, a3⟩ | ⟨a1, a2⟩ <;> rcases key j q hj with ⟨b1, b2, b3⟩ | ⟨b1, b2⟩
        · exact h2 i j p q a2 b2 hpq
        · omega
        · omega
        · omega
      · by_cases han : a = n
        · subst han
          rw [he] at hae
          cases hae
          exact ⟨ws.length, by simp⟩
        · obtain ⟨q0, hq⟩ := h3 a e (by omega) hae
          exact ⟨q0, by rw [List.getElem?_append_left (List.getElem?_eq_some_iff.mp hq).1]; exact hq⟩
theorem zz_list {D : va_G} {h0 h : zz_Hp} {H : Heap} {sz : Nat} (hP : zz_H D h H) (hN : zz_N h0 sz h) : ∃ ws : va_W, va_P D zz_cl ws H ∧ va_D (zz_A h0 sz) ws ∧ ∀ (a : Nat) (e : va_E), h a = some e → ∃ q0 : Nat, ws[q0]? = some (a, e) := by
  obtain ⟨ws, h1, h2, h3⟩ := zz_listN h H.size
  exact ⟨ws, fun k q hk => hP q.1 q.2 (h1 k q hk).2, ⟨h2, fun k q hk => hN.1 q.1 q.2 (h1 k q hk).2⟩, fun a e ha => h3 a e (hP.lt ha) ha⟩
theorem zz_listSet {D : va_G} {h : zz_Hp} {H1 : Heap} {ws : va_W} {a q0 : Nat} {e e' : va_E} (hall : ∀ (a : Nat) (e : va_E), h a = some e → ∃ q0 : Nat, ws[q0]? = some (a, e)) (hq : ws[q0]? = some (a, e)) (hP : va_P D zz_cl (ws.set q0 (a, e')) H1) : zz_H D (va_up h a (some e')) H1 := fun b x hb => by
  have hlt : q0 < ws.length := (List.getElem?_eq_some_iff.mp hq).1
  by_cases hba : b = a
  · subst hba
    rw [va_up_self] at hb
    cases hb
    exact hP q0 _ (List.getElem?_set_self hlt)
  · rw [va_up_ne _ _ hba] at hb
    obtain ⟨q1, h1⟩ := hall b x hb
    refine hP q1 _ ?_
    rw [List.getElem?_set_ne ?_]
    · exact h1
    · intro hqq
      subst hqq
      rw [hq] at h1
      cases h1
      exact hba rfl
theorem zz_listPush {D : va_G} {h : zz_Hp} {H1 : Heap} {ws : va_W} {a : Nat} {e : va_E} (hall : ∀ (a : Nat) (e : va_E), h a = some e → ∃ q0 : Nat, ws[q0]? = some (a, e)) (hP : va_P D zz_cl (ws ++ [(a, e)]) H1) : zz_H D (va_up h a (some e)) H1 := fun b x hb => by
  by_cases hba : b = a
  · subst hba
    rw [va_up_self] at hb
    cases hb
    exact hP ws.length _ (by simp)
  · rw [va_up_ne _ _ hba] at hb
    obtain ⟨q1, h1⟩ := hall b x hb
    exact hP q1 _ (by rw [List.getElem?_append_left (List.getElem?_eq_some_iff.mp h1).1]; exact h1)
/-- a field, as the class 'own' speaks of it in its pool -/
def zz_Fd (own : String) (index ci k : Nat) (ty : FieldType) (fin : Bool) : Prop := ∃ (Cn : String) (T : u_T) (N : Nat) (ty0 : Nat → FieldType), zz_cl[ci]? = some (Cn, T, N) ∧ (∀ w ∈ u_ws Cn T N, w ∈ zz_g) ∧ k < N ∧ Cond.fieldLink own index (T k).1 (T k).2.1 (T k).2.2.1 ∈ zz_g ∧ (∀ j, j < N → parseFieldDescriptor (T j).2.2.1 = some (ty0 j)) ∧ (∀ a, a < N → ∀ b, b < N → a ≠ b → (T a).2.1 ≠ (T b).2.1) ∧ parseFieldDescriptor (T k).2.2.1 = some ty ∧ (T k).2.2.2 = fin ∧ (fin = true → (T k).1 = own)
/-- a class whose objects 'own' makes -/
def zz_Nd (own : String) (index ci N : Nat) (fs : List Value) : Prop := ∃ (Cn : String) (T : u_T) (ty : Nat → FieldType), zz_cl[ci]? = some (Cn, T, N) ∧ (∀ w ∈ u_ws Cn T N, w ∈ zz_g) ∧ (∀ j, j < N → parseFieldDescriptor (T j).2.2.1 = some (ty j)) ∧ Cond.classLink own index Cn ∈ zz_g ∧ Cond.instantiable Cn N ∈ zz_g ∧ Cond.initialized Cn ∈ zz_g ∧ ∀ j, j < N → defaultValue (ty j) = vp_V fs j
def zz_cells (K : zz_K) : Nat := K.2.2.2.1.cells
def zz_slots (K : zz_K) : Nat := K.2.2.2.1.slots
def zz_sz (K : zz_K) : Nat := K.2.2.2.2.1.heap.size
def zz_ac (K : zz_K) : Nat → ClassId := K.2.2.2.2.2.2.2.2.2.2.2
section ZR
variable {K : zz_K} {Q : State → Prop} {h0 h : zz_Hp} {k n pc : Nat} {lv : List (Option Value)} {st : List Value} {cc : ByteArray} {own : String}
theorem zz_get (C : zz_C K cc own) {index ci j a : Nat} {ty : FieldType} {fin : Bool} {fs : List Value} {v : Value} (F : zz_Fd own index ci j ty fin) (hh : h a = some (.inr (ci, fs))) (hv : fs[j]? = some v) (hd : decode cc pc = .ok (.getfield index, 3))
    (kk : zz_Z K Q h0 h k n (pc + 3) lv (v :: st)) : zz_Z K Q h0 h k n pc lv (.ref a :: st) := by
  obtain ⟨p, l, e, R, s, m, args, below, meth, c, D, aC⟩ := K
  obtain ⟨hexec, hb, hown, hts, hK, hlk⟩ := C
  obtain ⟨Cn, T, N, ty0, hc, hin, hk, hl, hty, hnm, hpt, hf, hf2⟩ := F
  intro H locs ls hP hS hN hls hn
  exact va_get hexec hb hts hin hown hK (hP.one hh) 0 rfl hc j hk (hts _ hl) (fun _ q => q) hv hd (kk H locs ls hP hS hN hls hn)
theorem zz_putf (C : zz_C K cc own) {index ci j a : Nat} {ty : FieldType} {fs : List Value} {v : Value} (F : zz_Fd own index ci j ty false) (hh : h a = some (.inr (ci, fs))) (hnw : narrow ty v = v) (hft : fits ty v = true) (hj : j < fs.length) (hd : decode cc pc = .ok (.putfield index, 3))
    (kk : zz_Z K Q h0 (va_up h a (some (.inr (ci, fs.set j v)))) k n (pc + 3) lv st) : zz_Z K Q h0 h k n pc lv (v :: .ref a :: st) := by
  obtain ⟨p, l, e, R, s, m, args, below, meth, c, D, aC⟩ := K
  obtain ⟨hexec, hb, hown, hts, hK, hlk⟩ := C
  obtain ⟨Cn, T, N, ty0, hc, hin, hk, hl, hty, hnm, hpt, hf, hf2⟩ := F
  intro H locs ls hP hS hN hls hn
  obtain ⟨ws, hPw, hDw, hall⟩ := zz_list hP hN
  obtain ⟨q0, hq⟩ := hall a _ hh
  exact va_put hexec hb hts hin ty0 hty hnm hown hK hPw hDw hS q0 hq hc j hk (hts _ hl) (fun _ q => q) hf hpt hnw hft hj hd (fun H1 locs1 hP1 hD1 hS1 => kk H1 locs1 ls (zz_listSet hall hq hP1) hS1 (hN.up (hN.1 a _ hh)) hls hn)
theorem zz_putF (C : zz_C K cc own) {index ci j a : Nat} {ty : FieldType} {fs : List Value} {v : Value} (F : zz_Fd own index ci j ty true) (hI : K.2.2.2.2.2.2.2.2.1.name = "<init>") (hh : h a = some (.inr (ci, fs))) (hnw : narrow ty v = v) (hft : fits ty v = true) (hj : j < fs.length) (hd : decode cc pc = .ok (.putfield index, 3))
    (kk : zz_Z K Q h0 (va_up h a (some (.inr (ci, fs.set j v)))) k n (pc + 3) lv st) : zz_Z K Q h0 h k n pc lv (v :: .ref a :: st) := by
  obtain ⟨p, l, e, R, s, m, args, below, meth, c, D, aC⟩ := K
  obtain ⟨hexec, hb, hown, hts, hK, hlk⟩ := C
  obtain ⟨Cn, T, N, ty0, hc, hin, hk, hl, hty, hnm, hpt, hf, hf2⟩ := F
  intro H locs ls hP hS hN hls hn
  obtain ⟨ws, hPw, hDw, hall⟩ := zz_list hP hN
  obtain ⟨q0, hq⟩ := hall a _ hh
  exact va_putF hexec hb hts hin ty0 hty hnm hown hK hPw hDw hS q0 hq hc j hk (hts _ hl) (fun _ q => q) hf hI (hf2 rfl) hpt hnw hft hj hd (fun H1 locs1 hP1 hD1 hS1 => kk H1 locs1 ls (zz_listSet hall hq hP1) hS1 (hN.up (hN.1 a _ hh)) hls hn)
theorem zz_listFresh {h : zz_Hp} {A : Nat → Prop} {ws : va_W} {q : Nat} {e : va_E} (hall : ∀ (a : Nat) (e : va_E), h a = some e → ∃ q0 : Nat, ws[q0]? = some (a, e)) (hD : va_D A (ws ++ [(q, e)])) : h q = none ∧ A q := by
  have hl : (ws ++ [(q, e)])[ws.length]? = some (q, e) := by simp
  refine ⟨?_, hD.2 _ _ hl⟩
  cases hq : h q with
  | none => rfl
  | some x =>
    obtain ⟨q1, h1⟩ := hall q x hq
    have hlt := (List.getElem?_eq_some_iff.mp h1).1
    have h2 : (ws ++ [(q, e)])[q1]? = some (q, x) := by rw [List.getElem?_append_left hlt]; exact h1
    have h3 := hD.1 _ _ _ _ h2 hl rfl
    omega
theorem zz_new (C : zz_C K cc own) {index ci N : Nat} {fs : List Value} (F : zz_Nd own index ci N fs) (hce : k + 1 ≤ zz_cells K) (hsl : n + N ≤ zz_slots K) (hd : decode cc pc = .ok (.new index, 3))
    (kk : ∀ q : Nat, h q = none → zz_sz K ≤ q → zz_Z K Q h0 (va_up h q (some (.inr (ci, fs)))) (k + 1) (n + N) (pc + 3) lv (.ref q :: st)) : zz_Z K Q h0 h k n pc lv st := by
  obtain ⟨p, l, e, R, s, m, args, below, meth, c, D, aC⟩ := K
  obtain ⟨hexec, hb, hown, hts, hK, hlk⟩ := C
  obtain ⟨Cn, T, ty, hc, hin, hty, hcl, hins, hini, hdv⟩ := F
  intro H locs ls hP hS hN hls hn
  obtain ⟨ws, hPw, hDw, hall⟩ := zz_list hP hN
  refine va_new (ci := ci) hexec hb hts hin ty hty hown (hts _ hcl) (hts _ hins) (hts _ hini) hK hPw hDw hS (fun q hq => Or.inr hq) hc hdv hce hsl hd (fun q H1 hP1 hD1 hS1 => ?_)
  obtain ⟨hq, hA⟩ := zz_listFresh hall hD1
  exact kk q hq (hN.new hq hA) H1 locs ls (zz_listPush hall hP1) hS1 (hN.up hA) hls hn
theorem zz_newa (C : zz_C K cc own) {atype : ArrayType} (t : Nat) {ty : FieldType} (hty : newarray.typeOf atype = ty) (htt : ∀ aC : Nat → ClassId, (zz_tys aC)[t]? = some (aC t, ty)) (hRA : ∀ C : String, ty ≠ .object C) (hw : Cond.arrayClass (newarray.typeOf atype) ∈ zz_g) {x : Int32} {N : Nat} {a0 : vp_A} (ha : ∀ cA : ClassId, vp_cell cA a0 = arrV cA N (fun _ => defaultValue ty)) (hx : ¬ x < 0) (hN' : x.toNatClampNeg = N) (hby : N * componentBytes ty ≤ 536870912) (hce : k + 1 ≤ zz_cells K) (hsl : n + N ≤ zz_slots K) (hd : decode cc pc = .ok (.newarray atype, 2))
    (kk : ∀ q : Nat, h q = none → zz_sz K ≤ q → zz_Z K Q h0 (va_up h q (some (.inl (zz_ac K t, a0)))) (k + 1) (n + N) (pc + 2) lv (.ref q :: st)) : zz_Z K Q h0 h k n pc lv (.int x :: st) := by
  obtain ⟨p, l, e, R, s, m, args, below, meth, c, D, aC⟩ := K
  obtain ⟨hexec, hb, hown, hts, hK, hlk⟩ := C
  intro H locs ls hP hS hN hls hn
  obtain ⟨ws, hPw, hDw, hall⟩ := zz_list hP hN
  refine va_newa hexec hb (hts _ hw) hty hK hPw hDw hS (fun q hq => Or.inr hq) ha hx hN' hby hce hsl hd (fun q cA H1 hK1 hP1 hD1 hS1 => ?_)
  obtain ⟨hq, hA⟩ := zz_listFresh hall hD1
  have h1 : va_RA s cA ty := (hK1.2 (zz_tys aC).length (cA, ty) (by simp)).2
  have h2 : va_RA s (aC t) ty := (hK.2 t (aC t, ty) (htt aC)).2
  have hc : cA = aC t := by
    cases ty with
    | object C => exact absurd rfl (hRA C)
    | _ => exact Option.some.inj (h1.symm.trans h2)
  subst hc
  exact kk q hq (hN.new hq hA) H1 locs ls (zz_listPush hall hP1) hS1 (hN.up hA) hls hn
theorem zz_anew (C : zz_C K cc own) {index : Nat} {Cn : String} (t : Nat) (htt : ∀ aC : Nat → ClassId, (zz_tys aC)[t]? = some (aC t, .object Cn)) (hw : Cond.classLink own index Cn ∈ zz_g) (hw2 : va_AO Cn K.2.2.2.2.1) {x : Int32} {N : Nat} (hx : ¬ x < 0) (hN' : x.toNatClampNeg = N) (hby : N * 4 ≤ 536870912) (hce : k + 1 ≤ zz_cells K) (hsl : n + N ≤ zz_slots K) (hd : decode cc pc = .ok (.anewarray index, 3))
    (kk : ∀ q : Nat, h q = none → zz_sz K ≤ q → zz_Z K Q h0 (va_up h q (some (.inl (zz_ac K t, N, .inr (.inr (.inr (.inr (fun _ => none)))))))) (k + 1) (n + N) (pc + 3) lv (.ref q :: st)) : zz_Z K Q h0 h k n pc lv (.int x :: st) := by
  obtain ⟨p, l, e, R, s, m, args, below, meth, c, D, aC⟩ := K
  obtain ⟨hexec, hb, hown, hts, hK, hlk⟩ := C
  intro H locs ls hP hS hN hls hn
  obtain ⟨ws, hPw, hDw, hall⟩ := zz_list hP hN
  refine va_newq hexec hb hown (hts _ hw) hw2 hK hPw hDw hS (fun q hq => Or.inr hq) hx hN' hby hce hsl hd (fun q cA H1 hK1 hP1 hD1 hS1 => ?_)
  obtain ⟨hq, hA⟩ := zz_listFresh hall hD1
  obtain ⟨kA, comp, -, -, -, e1⟩ := (hK1.2 (zz_tys aC).length (cA, .object Cn) (by simp)).2
  obtain ⟨kA', comp', -, -, -, e2⟩ := (hK.2 t (aC t, .object Cn) (htt aC)).2
  have hc : cA = aC t := Option.some.inj (e1.symm.trans e2)
  subst hc
  exact kk q hq (hN.new hq hA) H1 locs ls (zz_listPush hall hP1) hS1 (hN.up hA) hls hn
theorem zz_len_ (C : zz_C K cc own) {a : Nat} (t : Nat) {ty : FieldType} (htt : ∀ aC : Nat → ClassId, (zz_tys aC)[t]? = some (aC t, ty)) {x : vp_A} (hh : h a = some (.inl (zz_ac K t, x))) (hd : decode cc pc = .ok (.arraylength, 1))
    (kk : zz_Z K Q h0 h k n (pc + 1) lv (.int (nI x.1) :: st)) : zz_Z K Q h0 h k n pc lv (.ref a :: st) := by
  obtain ⟨p, l, e, R, s, m, args, below, meth, c, D, aC⟩ := K
  obtain ⟨hexec, hb, hown, hts, hK, hlk⟩ := C
  intro H locs ls hP hS hN hls hn
  exact va_alen hexec hb hK (hP.one hh) 0 t rfl (htt aC) rfl hd (kk H locs ls hP hS hN hls hn)
theorem zz_iald (C : zz_C K cc own) {a N : Nat} {f : Nat → Int32} {i : Int32} (t : Nat) (htt : ∀ aC : Nat → ClassId, (zz_tys aC)[t]? = some (aC t, .int)) (hh : h a = some (.inl (zz_ac K t, N, .inl f))) (hin : vp_in i N) (hd : decode cc pc = .ok (.iaload, 1))
    (kk : zz_Z K Q h0 h k n (pc + 1) lv (.int (f i.toNatClampNeg) :: st)) : zz_Z K Q h0 h k n pc lv (.int i :: .ref a :: st) := by
  obtain ⟨p, l, e, R, s, m, args, below, meth, c, D, aC⟩ := K
  obtain ⟨hexec, hb, hown, hts, hK, hlk⟩ := C
  intro H locs ls hP hS hN hls hn
  exact va_iald hexec hb hK (hP.one hh) 0 t rfl (htt aC) hin hd (kk H locs ls hP hS hN hls hn)
theorem zz_zald (C : zz_C K cc own) {a N : Nat} {f : Nat → Int32} {i : Int32} (t : Nat) (htt : ∀ aC : Nat → ClassId, (zz_tys aC)[t]? = some (aC t, .boolean)) (hh : h a = some (.inl (zz_ac K t, N, .inl f))) (hin : vp_in i N) (hd : decode cc pc = .ok (.baload, 1))
    (kk : zz_Z K Q h0 h k n (pc + 1) lv (.int (f i.toNatClampNeg) :: st)) : zz_Z K Q h0 h k n pc lv (.int i :: .ref a :: st) := by
  obtain ⟨p, l, e, R, s, m, args, below, meth, c, D, aC⟩ := K
  obtain ⟨hexec, hb, hown, hts, hK, hlk⟩ := C
  intro H locs ls hP hS hN hls hn
  exact va_zald hexec hb hK (hP.one hh) 0 t rfl (htt aC) hin hd (kk H locs ls hP hS hN hls hn)
theorem zz_lald (C : zz_C K cc own) {a N : Nat} {f : Nat → Int64} {i : Int32} (t : Nat) (htt : ∀ aC : Nat → ClassId, (zz_tys aC)[t]? = some (aC t, .long)) (hh : h a = some (.inl (zz_ac K t, N, .inr (.inl f)))) (hin : vp_in i N) (hd : decode cc pc = .ok (.laload, 1))
    (kk : zz_Z K Q h0 h k n (pc + 1) lv (.long (f i.toNatClampNeg) :: st)) : zz_Z K Q h0 h k n pc lv (.int i :: .ref a :: st) := by
  obtain ⟨p, l, e, R, s, m, args, below, meth, c, D, aC⟩ := K
  obtain ⟨hexec, hb, hown, hts, hK, hlk⟩ := C
  intro H locs ls hP hS hN hls hn
  exact va_lald hexec hb hK (hP.one hh) 0 t rfl (htt aC) hin hd (kk H locs ls hP hS hN hls hn)
theorem zz_qald (C : zz_C K cc own) {a N : Nat} {f : Nat → Option Nat} {i : Int32} (t : Nat) {Cn : String} (htt : ∀ aC : Nat → ClassId, (zz_tys aC)[t]? = some (aC t, .object Cn)) (hh : h a = some (.inl (zz_ac K t, N, .inr (.inr (.inr (.inr f)))))) (hin : vp_in i N) (hd : decode cc pc = .ok (.aaload, 1))
    (kk : zz_Z K Q h0 h k n (pc + 1) lv (va_rf (f i.toNatClampNeg) :: st)) : zz_Z K Q h0 h k n pc lv (.int i :: .ref a :: st) := by
  obtain ⟨p, l, e, R, s, m, args, below, meth, c, D, aC⟩ := K
  obtain ⟨hexec, hb, hown, hts, hK, hlk⟩ := C
  intro H locs ls hP hS hN hls hn
  exact va_aldq hexec hb hK (hP.one hh) 0 t rfl (htt aC) hin hd (kk H locs ls hP hS hN hls hn)
theorem zz_iast (C : zz_C K cc own) {a N : Nat} {f : Nat → Int32} {i x : Int32} (t : Nat) (htt : ∀ aC : Nat → ClassId, (zz_tys aC)[t]? = some (aC t, .int)) (hh : h a = some (.inl (zz_ac K t, N, .inl f))) (hin : vp_in i N) (hd : decode cc pc = .ok (.iastore, 1))
    (kk : zz_Z K Q h0 (va_up h a (some (.inl (zz_ac K t, N, .inl (upd f i.toNatClampNeg x))))) k n (pc + 1) lv st) : zz_Z K Q h0 h k n pc lv (.int x :: .int i :: .ref a :: st) := by
  obtain ⟨p, l, e, R, s, m, args, below, meth, c, D, aC⟩ := K
  obtain ⟨hexec, hb, hown, hts, hK, hlk⟩ := C
  intro H locs ls hP hS hN hls hn
  obtain ⟨ws, hPw, hDw, hall⟩ := zz_list hP hN
  obtain ⟨q0, hq⟩ := hall a _ hh
  exact va_iast hexec hb hK hPw hDw hS q0 t hq (htt aC) hin hd (fun H1 locs1 hP1 hD1 hS1 => kk H1 locs1 ls (zz_listSet hall hq hP1) hS1 (hN.up (hN.1 a _ hh)) hls hn)
theorem zz_zast (C : zz_C K cc own) {a N : Nat} {f : Nat → Int32} {i x : Int32} (t : Nat) (htt : ∀ aC : Nat → ClassId, (zz_tys aC)[t]? = some (aC t, .boolean)) (hh : h a = some (.inl (zz_ac K t, N, .inl f))) (hin : vp_in i N) (hd : decode cc pc = .ok (.bastore, 1))
    (kk : zz_Z K Q h0 (va_up h a (some (.inl (zz_ac K t, N, .inl (upd f i.toNatClampNeg (vp_nar .boolean x)))))) k n (pc + 1) lv st) : zz_Z K Q h0 h k n pc lv (.int x :: .int i :: .ref a :: st) := by
  obtain ⟨p, l, e, R, s, m, args, below, meth, c, D, aC⟩ := K
  obtain ⟨hexec, hb, hown, hts, hK, hlk⟩ := C
  intro H locs ls hP hS hN hls hn
  obtain ⟨ws, hPw, hDw, hall⟩ := zz_list hP hN
  obtain ⟨q0, hq⟩ := hall a _ hh
  exact va_zast hexec hb hK hPw hDw hS q0 t hq (htt aC) hin hd (fun H1 locs1 hP1 hD1 hS1 => kk H1 locs1 ls (zz_listSet hall hq hP1) hS1 (hN.up (hN.1 a _ hh)) hls hn)
theorem zz_last (C : zz_C K cc own) {a N : Nat} {f : Nat → Int64} {i : Int32} {x : Int64} (t : Nat) (htt : ∀ aC : Nat → ClassId, (zz_tys aC)[t]? = some (aC t, .long)) (hh : h a = some (.inl (zz_ac K t, N, .inr (.inl f)))) (hin : vp_in i N) (hd : decode cc pc = .ok (.lastore, 1))
    (kk : zz_Z K Q h0 (va_up h a (some (.inl (zz_ac K t, N, .inr (.inl (vp_updL f i.toNatClampNeg x)))))) k n (pc + 1) lv st) : zz_Z K Q h0 h k n pc lv (.long x :: .int i :: .ref a :: st) := by
  obtain ⟨p, l, e, R, s, m, args, below, meth, c, D, aC⟩ := K
  obtain ⟨hexec, hb, hown, hts, hK, hlk⟩ := C
  intro H locs ls hP hS hN hls hn
  obtain ⟨ws, hPw, hDw, hall⟩ := zz_list hP hN
  obtain ⟨q0, hq⟩ := hall a _ hh
  exact va_last hexec hb hK hPw hDw hS q0 t hq (htt aC) hin hd (fun H1 locs1 hP1 hD1 hS1 => kk H1 locs1 ls (zz_listSet hall hq hP1) hS1 (hN.up (hN.1 a _ hh)) hls hn)
theorem zz_qast (C : zz_C K cc own) {a N v ci : Nat} {vs : List Value} {r : vw_C} {f : Nat → Option Nat} {i : Int32} (t : Nat) (htt : ∀ aC : Nat → ClassId, (zz_tys aC)[t]? = some (aC t, .object r.1)) (hc : zz_cl[ci]? = some r) (hh : h a = some (.inl (zz_ac K t, N, .inr (.inr (.inr (.inr f)))))) (hv : h v = some (.inr (ci, vs))) (hin : vp_in i N) (hd : decode cc pc = .ok (.aastore, 1))
    (kk : zz_Z K Q h0 (va_up h a (some (.inl (zz_ac K t, N, .inr (.inr (.inr (.inr (va_up f i.toNatClampNeg (some v))))))))) k n (pc + 1) lv st) : zz_Z K Q h0 h k n pc lv (.ref v :: .int i :: .ref a :: st) := by
  obtain ⟨p, l, e, R, s, m, args, below, meth, c, D, aC⟩ := K
  obtain ⟨hexec, hb, hown, hts, hK, hlk⟩ := C
  intro H locs ls hP hS hN hls hn
  obtain ⟨ws, hPw, hDw, hall⟩ := zz_list hP hN
  obtain ⟨q0, hq⟩ := hall a _ hh
  obtain ⟨q1, hq1⟩ := hall v _ hv
  exact va_astq hexec hb hK hPw hDw hS q0 t q1 ci hq (htt aC) hq1 hc hin hd (fun H1 locs1 hP1 hD1 hS1 => kk H1 locs1 ls (zz_listSet hall hq hP1) hS1 (hN.up (hN.1 a _ hh)) hls hn)
theorem zz_qastN (C : zz_C K cc own) {a N : Nat} {Cn : String} {f : Nat → Option Nat} {i : Int32} (t : Nat) (htt : ∀ aC : Nat → ClassId, (zz_tys aC)[t]? = some (aC t, .object Cn)) (hh : h a = some (.inl (zz_ac K t, N, .inr (.inr (.inr (.inr f)))))) (hin : vp_in i N) (hd : decode cc pc = .ok (.aastore, 1))
    (kk : zz_Z K Q h0 (va_up h a (some (.inl (zz_ac K t, N, .inr (.inr (.inr (.inr (va_up f i.toNatClampNeg none)))))))) k n (pc + 1) lv st) : zz_Z K Q h0 h k n pc lv (.null :: .int i :: .ref a :: st) := by
  obtain ⟨p, l, e, R, s, m, args, below, meth, c, D, aC⟩ := K
  obtain ⟨hexec, hb, hown, hts, hK, hlk⟩ := C
  intro H locs ls hP hS hN hls hn
  obtain ⟨ws, hPw, hDw, hall⟩ := zz_list hP hN
  obtain ⟨q0, hq⟩ := hall a _ hh
  exact va_astqN hexec hb hK hPw hDw hS q0 t hq (htt aC) hin hd (fun H1 locs1 hP1 hD1 hS1 => kk H1 locs1 ls (zz_listSet hall hq hP1) hS1 (hN.up (hN.1 a _ hh)) hls hn)
end ZR
