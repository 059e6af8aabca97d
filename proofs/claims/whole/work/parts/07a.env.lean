/-! ===== what throws and handlers rest on, beside the tables' good words ===== -/
def zz_b : List Cond := lw_tbl.filter fun w => match w with
  | .castable .. => true
  | .declares .. => true
  | _ => false
theorem zz_b_warm {s U : State} (hW : s.WarmedH U.vm) (w : Cond) (hw : w ∈ zz_b) (h : va_Nw w s) : va_Nw w U := by
  have h2 := (List.mem_filter.mp hw).2
  cases w <;> first | exact va_Nw.warmC hW h | exact va_Nw.warmD hW h | simp at h2
theorem zz_b_same {s U : State} (hv : U.vm = s.vm) (w : Cond) (hw : w ∈ zz_b) (h : va_Nw w s) : va_Nw w U := by
  have h2 := (List.mem_filter.mp hw).2
  cases w <;> first | exact va_Nw.same rfl hv.symm h | simp at h2
/-- the texts of the throws: place in the pool, text -/
def zz_str : List (Nat × String) := [(124, "no path below the root"), (134, "the parent is no directory"), (136, "a directory is there"), (53, "something is there"), (60, "nothing is there"), (146, "no file"), (78, "no more layers"), (83, "no such two layers"), (94, "the only layer"), (127, "no path or no such view"), (99, "no directory"), (129, "no such layer")]
/-- pairs of which the first can't be cast to the second -/
def zz_nc : List (String × String) := [("java/lang/IllegalStateException", "java/lang/IllegalArgumentException"), ("java/util/NoSuchElementException", "java/lang/IllegalArgumentException"), ("java/lang/IllegalStateException", "java/util/NoSuchElementException"), ("java/lang/IllegalArgumentException", "java/lang/IndexOutOfBoundsException")]
theorem zz_o1 : Cond.instanceMethod Lib.objectInit ∈ zz_g := zz_in 19 (by decide +kernel) rfl
theorem zz_o2 : Cond.code Lib.objectInit ⟨#[0xb1]⟩ 1 none ∈ zz_g := zz_in 20 rfl rfl
