/-! ===== the straight steps: locals, stack, numbers; by computation ===== -/
def zz_l : Nat → List (Option Value) → List (Nat × Value)
  | _, [] => []
  | i, none :: r => zz_l (i + 1) r
  | i, some v :: r => (i, v) :: zz_l (i + 1) r
theorem zz_l_mem : ∀ (lv : List (Option Value)) (i j : Nat) (w : Value), (j, w) ∈ zz_l i lv ↔ ∃ k, j = i + k ∧ lv[k]? = some (some w)
  | [], i, j, w => by simp [zz_l]
  | none :: r, i, j, w => by
    rw [zz_l, zz_l_mem r (i + 1) j w]
    constructor
    · rintro ⟨k, h1, h2⟩
      exact ⟨k + 1, by omega, by simpa using h2⟩
    · rintro ⟨k, h1, h2⟩
      cases k with
      | zero => simp at h2
      | succ k => exact ⟨k, by omega, by simpa using h2⟩
  | some v :: r, i, j, w => by
    rw [zz_l, List.mem_cons, zz_l_mem r (i + 1) j w]
    constructor
    · rintro (h | ⟨k, h1, h2⟩)
      · cases h
        exact ⟨0, by omega, by simp⟩
      · exact ⟨k + 1, by omega, by simpa using h2⟩
    · rintro ⟨k, h1, h2⟩
      cases k with
      | zero =>
        simp at h2
        exact Or.inl (by rw [h1, h2]; rfl)
      | succ k => exact Or.inr ⟨k, by omega, by simpa using h2⟩
theorem zz_l_at {ls : Array Slot} {nL : Nat} {lv : List (Option Value)} (h : lv_has ls nL (zz_l 0 lv)) {i : Nat} {v : Value} (hi : lv[i]? = some (some v)) : ls[i]? = some (.val v) :=
  h.2.2 (i, v) ((zz_l_mem lv 0 i v).mpr ⟨i, by omega, hi⟩)
/-- the slot below i is no long's first half -/
def zz_one (lv : List (Option Value)) (i : Nat) : Bool := match i with
  | 0 => true
  | j + 1 => match lv[j]? with
    | some (some v) => v.category == 1
    | _ => true
theorem zz_l_set {ls : Array Slot} {nL : Nat} {lv : List (Option Value)} {i : Nat} {v : Value} (ho : zz_one lv i = true)
    (h : lv_has ls nL ((i, v) :: (zz_l 0 lv).filter (fun q => !(q.1 == i) && !(q.1 + 1 == i && q.2.category == 2)))) : lv_has ls nL (zz_l 0 (lv.set i (some v))) := by
  refine ⟨h.1, h.2.1, fun q hq => ?_⟩
  obtain ⟨j, w⟩ := q
  obtain ⟨k, hk, hw⟩ := (zz_l_mem _ 0 j w).mp hq
  have hjk : j = k := by omega
  subst hjk
  by_cases hji : j = i
  · subst hji
    have hlt : j < (lv.set j (some v)).length := (List.getElem?_eq_some_iff.mp hw).1
    rw [List.length_set] at hlt
    rw [List.getElem?_set_self hlt] at hw
    cases hw
    exact h.2.2 _ List.mem_cons_self
  · rw [List.getElem?_set_ne (Ne.symm hji)] at hw
    refine h.2.2 _ (List.mem_cons_of_mem _ (List.mem_filter.mpr ⟨(zz_l_mem _ 0 j w).mpr ⟨j, by omega, hw⟩, ?_⟩))
    have h1 : (j == i) = false := by simpa using hji
    by_cases h2 : j + 1 = i
    · subst h2
      simp only [zz_one, hw] at ho
      have : w.category = 1 := by simpa using ho
      simp [h1, this]
    · have h3 : (j + 1 == i) = false := by simpa using h2
      simp [h1, h3]
def zz_ic (n : Int) : Int32 := match n with
  | .ofNat k => nI k
  | .negSucc 0 => -1
  | .negSucc k => Int32.ofInt (.negSucc k)
theorem zz_ic_eq (n : Int) : Int32.ofInt n = zz_ic n := by
  unfold zz_ic
  split
  · rfl
  · rfl
  · rfl
/-- the next pc of a jump -/
def zz_j (pc : Nat) (off : Int) : Nat := ((pc : Int) + off).toNat
def zz_ld (lv : List (Option Value)) (i : Nat) : Option Value := match lv[i]? with
  | some (some v) => some v
  | _ => none
theorem zz_ld_spec {lv : List (Option Value)} {i : Nat} {v : Value} (h : zz_ld lv i = some v) : lv[i]? = some (some v) := by
  unfold zz_ld at h
  split at h
  · rename_i w hw
    rw [hw, h]
  · cases h
abbrev zz_X : Type := Nat × List (Option Value) × List Value
/-- the int instructions on two ints -/
def zz_ii (i : Instr) (x y : Int32) : Option Int32 := match i with
  | .iadd => some (x + y)
  | .isub => some (x - y)
  | .imul => some (x * y)
  | .iand => some (x &&& y)
  | .ior => some (x ||| y)
  | .ixor => some (x ^^^ y)
  | .ishl => some (x <<< (y &&& 31))
  | .ishr => some (x >>> (y &&& 31))
  | _ => none
def zz_put (lv : List (Option Value)) (i : Nat) (v : Value) : Option (List (Option Value)) := if zz_one lv i && decide (i < lv.length) then some (lv.set i (some v)) else none
def zz_dup (i : Instr) (st : List Value) : Option (List Value) := match i, st with
  | .dup, v :: r => if v.category == 1 then some (v :: v :: r) else none
  | .pop, v :: r => if v.category == 1 then some r else none
  | .dup_x1, v :: w :: r => if v.category == 1 && w.category == 1 then some (v :: w :: v :: r) else none
  | .dup_x2, v :: w :: z :: r => if v.category == 1 && (w.category == 1 && z.category == 1) then some (v :: w :: z :: v :: r) else none
  | .dup2, v :: w :: r => if v.category == 1 && w.category == 1 then some (v :: w :: v :: w :: r) else none
  | _, _ => none
def zz_step (i : Instr) (pc : Nat) (lv : List (Option Value)) (st : List Value) : Option zz_X :=
  match i with
  | .aconst_null => some (pc + 1, lv, .null :: st)
  | .iconst n => some (pc + 1, lv, .int (zz_ic n) :: st)
  | .bipush n => if decide (-128 ≤ n) && decide (n ≤ 127) then some (pc + 2, lv, .int (zz_ic n) :: st) else none
  | .sipush n => if decide (-32768 ≤ n) && decide (n ≤ 32767) then some (pc + 3, lv, .int (zz_ic n) :: st) else none
  | .lconst n => some (pc + 1, lv, .long (Int64.ofNat n.val) :: st)
  | .iload_n k => match zz_ld lv k.val with
    | some (.int x) => some (pc + 1, lv, .int x :: st)
    | _ => none
  | .iload k => match zz_ld lv k with
    | some (.int x) => some (pc + 2, lv, .int x :: st)
    | _ => none
  | .aload_n k => match zz_ld lv k.val with
    | some (.ref x) => some (pc + 1, lv, .ref x :: st)
    | some .null => some (pc + 1, lv, .null :: st)
    | _ => none
  | .aload k => match zz_ld lv k with
    | some (.ref x) => some (pc + 2, lv, .ref x :: st)
    | some .null => some (pc + 2, lv, .null :: st)
    | _ => none
  | .istore_n k => match st with
    | .int x :: r => (zz_put lv k.val (.int x)).map fun lv' => (pc + 1, lv', r)
    | _ => none
  | .istore k => match st with
    | .int x :: r => (zz_put lv k (.int x)).map fun lv' => (pc + 2, lv', r)
    | _ => none
  | .astore_n k => match st with
    | .ref x :: r => (zz_put lv k.val (.ref x)).map fun lv' => (pc + 1, lv', r)
    | .null :: r => (zz_put lv k.val .null).map fun lv' => (pc + 1, lv', r)
    | _ => none
  | .astore k => match st with
    | .ref x :: r => (zz_put lv k (.ref x)).map fun lv' => (pc + 2, lv', r)
    | .null :: r => (zz_put lv k .null).map fun lv' => (pc + 2, lv', r)
    | _ => none
  | .iinc k n => match zz_ld lv k with
    | some (.int x) => (zz_put lv k (.int (x + zz_ic n))).map fun lv' => (pc + 3, lv', st)
    | _ => none
  | .i2l => match st with
    | .int x :: r => some (pc + 1, lv, .long x.toInt64 :: r)
    | _ => none
  | .lcmp => match st with
    | .long y :: .long x :: r => some (pc + 1, lv, .int (lg_cmp x y) :: r)
    | _ => none
  | .idiv => match st with
    | .int y :: .int x :: r => if decide (y = 0) then none else some (pc + 1, lv, .int (x / y) :: r)
    | _ => none
  | .irem => match st with
    | .int y :: .int x :: r => if decide (y = 0) then none else some (pc + 1, lv, .int (x - x / y * y) :: r)
    | _ => none
  | .goto off => if decide (0 ≤ (pc : Int) + off) then some (zz_j pc off, lv, st) else none
  | .ifnull off => match st with
    | .ref _ :: r => some (pc + 3, lv, r)
    | .null :: r => if decide (0 ≤ (pc : Int) + off) then some (zz_j pc off, lv, r) else none
    | _ => none
  | .ifnonnull off => match st with
    | .null :: r => some (pc + 3, lv, r)
    | .ref _ :: r => if decide (0 ≤ (pc : Int) + off) then some (zz_j pc off, lv, r) else none
    | _ => none
  | i => match zz_dup i st with
    | some st' => some (pc + 1, lv, st')
    | none => match st with
      | .int y :: .int x :: r => (zz_ii i x y).map fun z => (pc + 1, lv, .int z :: r)
      | _ => none
def zz_len : Instr → Nat
  | .bipush _ => 2
  | .sipush _ => 3
  | .iload _ => 2
  | .aload _ => 2
  | .istore _ => 2
  | .astore _ => 2
  | .iinc _ _ => 3
  | .goto _ => 3
  | .ifnull _ => 3
  | .ifnonnull _ => 3
  | _ => 1
theorem zz_ic8 {n : Int} (h1 : -128 ≤ n) (h2 : n ≤ 127) : (Int8.ofInt n).toInt32 = zz_ic n := by
  rw [← zz_ic_eq]
  apply Int32.toInt_inj.mp
  rw [Int8.toInt_toInt32, Int8.toInt_ofInt, Int32.toInt_ofInt]
  rw [Int.bmod_eq_of_le (by show -((256 : Int) / 2) ≤ n; omega) (by show n < ((256 : Int) + 1) / 2; omega)]
  rw [Int.bmod_eq_of_le (by show -((4294967296 : Int) / 2) ≤ n; omega) (by show n < ((4294967296 : Int) + 1) / 2; omega)]
theorem zz_ic16 {n : Int} (h1 : -32768 ≤ n) (h2 : n ≤ 32767) : (Int16.ofInt n).toInt32 = zz_ic n := by
  rw [← zz_ic_eq]
  apply Int32.toInt_inj.mp
  rw [Int16.toInt_toInt32, Int16.toInt_ofInt, Int32.toInt_ofInt]
  rw [Int.bmod_eq_of_le (by show -((65536 : Int) / 2) ≤ n; omega) (by show n < ((65536 : Int) + 1) / 2; omega)]
  rw [Int.bmod_eq_of_le (by show -((4294967296 : Int) / 2) ≤ n; omega) (by show n < ((4294967296 : Int) + 1) / 2; omega)]
section ZP
variable {p : Program} {l : Launch} {e : Env} {R : Room} {s : State} {m : MethodId} {args : Array Value} {below : List Frame} {meth : Method} {c : Code} {H : Heap} {locs : List Loc} {cells slots : Nat} {Q : State → Prop}
theorem zz_put_spec {lv lv' : List (Option Value)} {i : Nat} {v : Value} (h : zz_put lv i v = some lv') : zz_one lv i = true ∧ i < lv.length ∧ lv' = lv.set i (some v) := by
  unfold zz_put at h
  split at h
  · rename_i hc
    simp only [Bool.and_eq_true, decide_eq_true_eq] at hc
    cases h
    exact ⟨hc.1, hc.2, rfl⟩
  · cases h
theorem zz_tgt {pc : Nat} {off : Int} (h : 0 ≤ (pc : Int) + off) : (pc : Int) + off = (zz_j pc off : Nat) := by
  unfold zz_j
  omega
theorem zz_dup_ok {cc : ByteArray} (hexec : p.tables.exec = Jvm.exec) (hb : c.code = cc) {i : Instr} {pc : Nat} {ls : Array Slot} {st st' : List Value} (hdg : decode cc pc = .ok (i, 1)) (hs : zz_dup i st = some st')
    (kk : W p l e R s m args below meth c H locs cells slots Q (F0 m (pc + 1) ls st')) : W p l e R s m args below meth c H locs cells slots Q (F0 m pc ls st) := by
  unfold zz_dup at hs
  split at hs
  · split at hs
    · rename_i hc
      cases hs
      exact lv_dup hexec hb hdg (by simpa using hc) kk
    · cases hs
  · split at hs
    · rename_i hc
      cases hs
      exact lv_pop hexec hb hdg (by simpa using hc) kk
    · cases hs
  · split at hs
    · rename_i hc
      simp only [Bool.and_eq_true, beq_iff_eq] at hc
      cases hs
      exact lv_dup_x1 hexec hb hdg hc.1 hc.2 kk
    · cases hs
  · split at hs
    · rename_i hc
      simp only [Bool.and_eq_true, beq_iff_eq] at hc
      cases hs
      exact lv_dup_x2 hexec hb hdg hc.1 hc.2.1 hc.2.2 kk
    · cases hs
  · split at hs
    · rename_i hc
      simp only [Bool.and_eq_true, beq_iff_eq] at hc
      cases hs
      exact lv_dup2_11 hexec hb hdg hc.1 hc.2 kk
    · cases hs
  · cases hs
theorem zz_ii_ok {cc : ByteArray} (hexec : p.tables.exec = Jvm.exec) (hb : c.code = cc) {i : Instr} {pc : Nat} {ls : Array Slot} {x y z : Int32} {r : List Value} (hdg : decode cc pc = .ok (i, 1)) (hs : zz_ii i x y = some z)
    (kk : W p l e R s m args below meth c H locs cells slots Q (F0 m (pc + 1) ls (.int z :: r))) : W p l e R s m args below meth c H locs cells slots Q (F0 m pc ls (.int y :: .int x :: r)) := by
  unfold zz_ii at hs
  split at hs
  · cases hs; exact lv_iadd hexec hb hdg kk
  · cases hs; exact lv_isub hexec hb hdg kk
  · cases hs; exact lv_imul hexec hb hdg kk
  · cases hs; exact lv_iand hexec hb hdg kk
  · cases hs; exact lv_ior hexec hb hdg kk
  · cases hs; exact lv_ixor hexec hb hdg kk
  · cases hs; exact lv_ishl hexec hb hdg kk
  · cases hs; exact lv_ishr hexec hb hdg kk
  · cases hs
set_option maxHeartbeats 4000000 in
theorem zz_step_ok {cc : ByteArray} (hexec : p.tables.exec = Jvm.exec) (hb : c.code = cc) {i : Instr} {pc pc' nL : Nat} {ls : Array Slot} {lv lv' : List (Option Value)} {st st' : List Value} (hdg : decode cc pc = .ok (i, zz_len i)) (hs : zz_step i pc lv st = some (pc', lv', st'))
    (hl : lv_has ls nL (zz_l 0 lv)) (hn : lv.length ≤ nL) (kk : ∀ ls', lv_has ls' nL (zz_l 0 lv') → lv'.length ≤ nL → W p l e R s m args below meth c H locs cells slots Q (F0 m pc' ls' st')) : W p l e R s m args below meth c H locs cells slots Q (F0 m pc ls st) := by
  unfold zz_step at hs
  split at hs
  · cases hs; exact lv_null hexec hb hdg (kk ls hl hn)
  · cases hs; exact lv_iconst hexec hb hdg (zz_ic_eq _) (kk ls hl hn)
  · split at hs
    · rename_i hc
      simp only [Bool.and_eq_true, decide_eq_true_eq] at hc
      cases hs
      exact lv_bipush hexec hb hdg (zz_ic8 hc.1 hc.2) (kk ls hl hn)
    · cases hs
  · split at hs
    · rename_i hc
      simp only [Bool.and_eq_true, decide_eq_true_eq] at hc
      cases hs
      exact lv_sipush hexec hb hdg (zz_ic16 hc.1 hc.2) (kk ls hl hn)
    · cases hs
  · cases hs; exact lv_lconst hexec hb hdg rfl (kk ls hl hn)
  · split at hs
    · rename_i hx
      cases hs; exact lv_iload_n hexec hb hdg rfl (zz_l_at hl (zz_ld_spec hx)) (kk ls hl hn)
    · cases hs
  · split at hs
    · rename_i hx
      cases hs; exact lv_iload hexec hb hdg (zz_l_at hl (zz_ld_spec hx)) (kk ls hl hn)
    · cases hs
  · split at hs
    · rename_i hx
      cases hs; exact lv_aload_n hexec hb hdg rfl (zz_l_at hl (zz_ld_spec hx)) (kk ls hl hn)
    · rename_i hx
      cases hs; exact lv_aload_nN hexec hb hdg rfl (zz_l_at hl (zz_ld_spec hx)) (kk ls hl hn)
    · cases hs
  · split at hs
    · rename_i hx
      cases hs; exact lv_aload hexec hb hdg (zz_l_at hl (zz_ld_spec hx)) (kk ls hl hn)
    · rename_i hx
      cases hs; exact lv_aloadN hexec hb hdg (zz_l_at hl (zz_ld_spec hx)) (kk ls hl hn)
    · cases hs
  · split at hs
    · obtain ⟨lw, h1, h2⟩ := Option.map_eq_some_iff.mp hs
      obtain ⟨g1, g2, rfl⟩ := zz_put_spec h1
      cases h2
      exact lv_istore_n hexec hb hdg rfl hl (Nat.lt_of_lt_of_le g2 hn) rfl (fun ls' hl' => kk ls' (zz_l_set g1 hl') (by rw [List.length_set]; exact hn))
    · cases hs
  · split at hs
    · obtain ⟨lw, h1, h2⟩ := Option.map_eq_some_iff.mp hs
      obtain ⟨g1, g2, rfl⟩ := zz_put_spec h1
      cases h2
      exact lv_istore hexec hb hdg hl (Nat.lt_of_lt_of_le g2 hn) rfl (fun ls' hl' => kk ls' (zz_l_set g1 hl') (by rw [List.length_set]; exact hn))
    · cases hs
  · split at hs
    · obtain ⟨lw, h1, h2⟩ := Option.map_eq_some_iff.mp hs
      obtain ⟨g1, g2, rfl⟩ := zz_put_spec h1
      cases h2
      exact lv_astore_n hexec hb hdg rfl hl (Nat.lt_of_lt_of_le g2 hn) rfl (fun ls' hl' => kk ls' (zz_l_set g1 hl') (by rw [List.length_set]; exact hn))
    · obtain ⟨lw, h1, h2⟩ := Option.map_eq_some_iff.mp hs
      obtain ⟨g1, g2, rfl⟩ := zz_put_spec h1
      cases h2
      exact lv_astore_nN hexec hb hdg rfl hl (Nat.lt_of_lt_of_le g2 hn) rfl (fun ls' hl' => kk ls' (zz_l_set g1 hl') (by rw [List.length_set]; exact hn))
    · cases hs
  · split at hs
    · obtain ⟨lw, h1, h2⟩ := Option.map_eq_some_iff.mp hs
      obtain ⟨g1, g2, rfl⟩ := zz_put_spec h1
      cases h2
      exact lv_astore hexec hb hdg hl (Nat.lt_of_lt_of_le g2 hn) rfl (fun ls' hl' => kk ls' (zz_l_set g1 hl') (by rw [List.length_set]; exact hn))
    · obtain ⟨lw, h1, h2⟩ := Option.map_eq_some_iff.mp hs
      obtain ⟨g1, g2, rfl⟩ := zz_put_spec h1
      cases h2
      exact lv_astoreN hexec hb hdg hl (Nat.lt_of_lt_of_le g2 hn) rfl (fun ls' hl' => kk ls' (zz_l_set g1 hl') (by rw [List.length_set]; exact hn))
    · cases hs
  · split at hs
    · rename_i hx
      obtain ⟨lw, h1, h2⟩ := Option.map_eq_some_iff.mp hs
      obtain ⟨g1, g2, rfl⟩ := zz_put_spec h1
      cases h2
      obtain ⟨kx, hkx⟩ := List.getElem?_of_mem ((zz_l_mem _ 0 _ _).mpr ⟨_, (Nat.zero_add _).symm, zz_ld_spec hx⟩)
      exact lv_iinc hexec hb hdg hl hkx (by rw [zz_ic_eq]) (Nat.lt_of_lt_of_le g2 hn) rfl (fun ls' hl' => kk ls' (zz_l_set g1 hl') (by rw [List.length_set]; exact hn))
    · cases hs
  · split at hs
    · cases hs; exact lv_i2l hexec hb hdg rfl (kk ls hl hn)
    · cases hs
  · split at hs
    · cases hs; exact W.lcmp hexec hb hdg (kk ls hl hn)
    · cases hs
  · split at hs
    · split at hs
      · cases hs
      · rename_i hc
        cases hs; exact lv_idiv hexec hb hdg (by simpa using hc) (kk ls hl hn)
    · cases hs
  · split at hs
    · split at hs
      · cases hs
      · rename_i hc
        cases hs; exact lv_irem hexec hb hdg (by simpa using hc) (kk ls hl hn)
    · cases hs
  · split at hs
    · rename_i hc
      cases hs; exact lv_goto hexec hb hdg (zz_tgt (by simpa using hc)) (kk ls hl hn)
    · cases hs
  · split at hs
    · cases hs; exact lv_ifnull hexec hb hdg (kk ls hl hn)
    · split at hs
      · rename_i hc
        cases hs; exact lv_ifnullN hexec hb hdg (zz_tgt (by simpa using hc)) (kk ls hl hn)
      · cases hs
    · cases hs
  · split at hs
    · cases hs; exact lv_ifnonnullN hexec hb hdg (kk ls hl hn)
    · split at hs
      · rename_i hc
        cases hs; exact lv_ifnonnull hexec hb hdg (zz_tgt (by simpa using hc)) (kk ls hl hn)
      · cases hs
    · cases hs
  · split at hs
    · rename_i hd
      have hd1 : zz_len i = 1 := by
        cases i <;> first | rfl | (simp [zz_dup] at hd)
      rw [hd1] at hdg
      cases hs
      exact zz_dup_ok hexec hb hdg hd (kk ls hl hn)
    · split at hs
      · obtain ⟨z, h1, h2⟩ := Option.map_eq_some_iff.mp hs
        have hd1 : zz_len i = 1 := by
          cases i <;> first | rfl | (simp [zz_ii] at h1)
        rw [hd1] at hdg
        cases h2
        exact zz_ii_ok hexec hb hdg h1 (kk ls hl hn)
      · cases hs
end ZP
