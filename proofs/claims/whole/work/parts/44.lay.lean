/-! ===== one layer laid over another ===== -/
def bdC (a : Option (Int32 × Int32)) : Bool := match a with
  | some a => decide (¬ a.1 = nI 1)
  | none => false
/-- a mark that hides stands above s, below r -/
def anH (cu : List Nat → Option (Int32 × Int32)) (r : List Nat) : List Nat → Bool
  | [] => false
  | x :: s => if x :: s = r then false else (bdC (cu (x :: s)) || anH cu r s)
def layC (cu cv : List Nat → Option (Int32 × Int32)) (hid : Bool) (r s : List Nat) : Option (Int32 × Int32) := match cu s with
  | some a => some (if a.1 = nI 1 ∧ bdC (cv s) = true then (nI 2, a.2) else a)
  | none => if (hid || anH cu r s) = true then none else cv s
theorem sfx_len {X : Nat} {r s : List Nat} (h : X :: r <:+ s) : r.length + 1 ≤ s.length := by
  have := h.length_le; rw [List.length_cons] at this; exact this
theorem anH_self (cu : List Nat → Option (Int32 × Int32)) : ∀ r, anH cu r r = false
  | [] => rfl
  | _ :: _ => if_pos rfl
theorem anH_up (cu : List Nat → Option (Int32 × Int32)) (X : Nat) (r : List Nat) : ∀ s, X :: r <:+ s → anH cu r s = (anH cu (X :: r) s || bdC (cu (X :: r)))
  | [], h => absurd (List.suffix_nil.mp h) (by simp)
  | y :: s, h => by
    have hl := sfx_len h
    have n1 : y :: s ≠ r := fun e => by rw [e] at hl; omega
    rcases List.suffix_cons_iff.mp h with e | e
    · rw [← e, anH_self, anH, if_neg (fun e => ne_jr r X e.symm), anH_self, Bool.or_false, Bool.false_or]
    · have n2 : y :: s ≠ X :: r := fun e2 => by
        have := sfx_len e; rw [(List.cons.inj e2).2] at this; omega
      rw [anH, if_neg n1, anH, if_neg n2, anH_up cu X r s e, Bool.or_assoc]
theorem anH_eq {cu cu' : List Nat → Option (Int32 × Int32)} {R : List Nat} (hc : ∀ z, R <:+ z → z ≠ R → cu z = cu' z) : ∀ s, R <:+ s → anH cu R s = anH cu' R s
  | [], _ => rfl
  | y :: s, h => by
    by_cases e : y :: s = R
    · rw [anH, if_pos e, anH, if_pos e]
    · rw [anH, if_neg e, anH, if_neg e, hc _ h e]
      rcases List.suffix_cons_iff.mp h with e2 | e2
      · exact absurd e2.symm e
      · rw [anH_eq hc s e2]
theorem anH_no {cu : List Nat → Option (Int32 × Int32)} {R : List Nat} (hc : ∀ z, R <:+ z → cu z = none) : ∀ s, R <:+ s → anH cu R s = false
  | [], _ => rfl
  | y :: s, h => by
    by_cases e : y :: s = R
    · rw [anH, if_pos e]
    · rw [anH, if_neg e, hc _ h]
      rcases List.suffix_cons_iff.mp h with e2 | e2
      · exact absurd e2.symm e
      · rw [anH_no hc s e2]; rfl
theorem layC_nv {cu cv : List Nat → Option (Int32 × Int32)} {hid : Bool} {r s : List Nat} (h : cv s = none) : layC cu cv hid r s = cu s := by
  unfold layC
  cases hs : cu s with
  | none => show (if _ then none else cv s) = none; rw [h]; exact ite_self none
  | some a => show some _ = some a; rw [h, if_neg (fun q => by cases q.2)]
theorem layC_hid {cu cv : List Nat → Option (Int32 × Int32)} {r s : List Nat} (h : cu s = none) : layC cu cv true r s = none := by
  unfold layC; rw [h]; rfl
theorem layC_gr {cu cv : List Nat → Option (Int32 × Int32)} {X : Nat} {r s : List Nat} (hs : X :: r <:+ s) (h : ∀ z, X :: r <:+ z → cu z = none) : layC cu cv false r s = cv s := by
  unfold layC; rw [h s hs]
  show (if (false || anH cu r s) = true then none else cv s) = cv s
  rw [anH_up cu X r s hs, anH_no h s hs, h _ (List.suffix_refl _)]; rfl
theorem layC_rec {cu cu' cv : List Nat → Option (Int32 × Int32)} {hid : Bool} {X : Nat} {r s : List Nat} (hs : X :: r <:+ s) (hn : s ≠ X :: r) (hc : ∀ z, X :: r <:+ z → z ≠ X :: r → cu' z = cu z) : layC cu' cv (hid || bdC (cu (X :: r))) (X :: r) s = layC cu cv hid r s := by
  unfold layC; rw [hc s hs hn]
  cases cu s with
  | some a => rfl
  | none =>
    show (if (hid || bdC (cu (X :: r)) || anH cu' (X :: r) s) = true then none else cv s) = if (hid || anH cu r s) = true then none else cv s
    rw [anH_up cu X r s hs, anH_eq hc s hs, Bool.or_assoc, Bool.or_comm (bdC (cu (X :: r)))]
def own (v : List Nat → Option zMk) (q : zMk) : Prop := (∀ s p, v s = some p → p.1 ≠ q.1) ∧ ∀ c, q.2.2.2 = some c → ∀ s p, v s = some p → p.2.2.2 ≠ some c
def djU (u v : List Nat → Option zMk) : Prop := ∀ s q, u s = some q → v s = some q ∨ own v q
def ctF (u : List Nat → Option zMk) : List Nat → Option (Int32 × Int32) := fun z => ctS (u z)
def loI (h : zz_Hp) (aC : Nat → ClassId) (u v : List Nat → Option zMk) (r : List Nat) (hid : Bool) (x : Nat) (hc : zz_Hp) (w : List Nat → Option zMk) : Prop :=
  (trP hc aC w ∧ trP hc aC v ∧ inU w ∧ djU w v) ∧ (∀ s, ¬ r <:+ s → w s = u s) ∧ (mkA (w r) = mkA (u r) ∧ ctS (w r) = ctS (u r) ∧ ∀ q, w r = some q → own v q) ∧
  (∀ y s, (y :: r) <:+ s → (y ≤ x → ctS (w s) = layC (ctF u) (ctF v) hid r s) ∧ (x < y → w s = u s)) ∧
  (∀ a e, h a = some e → (∀ s q, r <:+ s → u s = some q → a ≠ q.1 ∧ q.2.2.2 ≠ some a) → hc a = some e) ∧
  (∀ s q, w s = some q → (∃ q0, u s = some q0 ∧ q0.1 = q.1) ∨ v s = some q) ∧
  (∀ s q c, w s = some q → q.2.2.2 = some c → (∃ q0, u s = some q0 ∧ q0.2.2.2 = some c) ∨ v s = some q ∨ h c = none) ∧ ∀ a, hc a = none → h a = none
/-- one name's step -/
def loS (aC : Nat → ClassId) (u v : List Nat → Option zMk) (r : List Nat) (hid : Bool) (X : Nat) (hc : zz_Hp) (w : List Nat → Option zMk) (h2 : zz_Hp) (w2 : List Nat → Option zMk) : Prop :=
  (trP h2 aC w2 ∧ trP h2 aC v ∧ inU w2 ∧ djU w2 v) ∧ (∀ s, ¬ (X :: r) <:+ s → s ≠ r → w2 s = w s) ∧ (mkA (w2 r) = mkA (w r) ∧ ctS (w2 r) = ctS (w r) ∧ ∀ q, w2 r = some q → own v q) ∧
  (∀ s, (X :: r) <:+ s → ctS (w2 s) = layC (ctF u) (ctF v) hid r s) ∧
  (∀ a e, hc a = some e → (∀ s q, s = r ∨ (X :: r) <:+ s → w s = some q → a ≠ q.1 ∧ q.2.2.2 ≠ some a) → h2 a = some e) ∧
  (∀ s q, w2 s = some q → (∃ q0, w s = some q0 ∧ q0.1 = q.1) ∨ v s = some q) ∧
  (∀ s q c, w2 s = some q → q.2.2.2 = some c → (∃ q0, w s = some q0 ∧ q0.2.2.2 = some c) ∨ v s = some q ∨ hc c = none) ∧ ∀ a, h2 a = none → hc a = none
section LY
variable {h hc h2 : zz_Hp} {aC : Nat → ClassId} {u v w w2 : List Nat → Option zMk} {r : List Nat} {hid : Bool} {x : Nat}
theorem loI_0 (Tu : trP h aC u) (Tv : trP h aC v) (Uu : inU u) (D : djU u v) (ho : ∀ q, u r = some q → own v q) : loI h aC u v r hid 0 h u := by
  refine ⟨⟨Tu, Tv, Uu, D⟩, fun _ _ => rfl, ⟨rfl, rfl, ho⟩, fun y s hs => ⟨fun hy => ?_, fun _ => rfl⟩, fun _ _ ha _ => ha, fun s q hq => Or.inl ⟨q, hq, rfl⟩, fun s q c hq hc => Or.inl ⟨q, hq, hc⟩, fun _ ha => ha⟩
  have hv : v s = none := by
    obtain ⟨z, rfl⟩ := hs
    exact Tv.no (Tv.2.2.2.2.1 r y (Or.inl (by omega))) z
  exact (layC_nv (cu := ctF u) (hid := hid) (r := r) (show ctF v s = none by unfold ctF; rw [hv]; rfl)).symm
theorem loI_s (I : loI h aC u v r hid x hc w) (S : loS aC u v r hid (x + 1) hc w h2 w2) (ho : ∀ s q, r <:+ s → u s = some q → own v q) (Th : trP h aC u) (Tvh : trP h aC v) : loI h aC u v r hid (x + 1) h2 w2 := by
  obtain ⟨-, i1, ⟨i2, i3, i4⟩, i5, i6, i7, i8, i9⟩ := I
  obtain ⟨s0, s1, ⟨s2, s3, s4⟩, s5, s6, s7, s8, s9⟩ := S
  refine ⟨s0, fun s hs => ?_, ⟨s2.trans i2, s3.trans i3, s4⟩, fun y s hs => ⟨fun hy => ?_, fun hy => ?_⟩, fun a e ha hn => ?_, fun s q hq => ?_, fun s q c hq hc' => ?_, fun a ha => i9 a (s9 a ha)⟩
  · rw [s1 s (fun e => hs ((List.suffix_cons (x + 1) r).trans e)) (fun e => hs (by rw [e]; exact List.suffix_refl _))]; exact i1 s hs
  · by_cases e : y = x + 1
    · subst e; exact s5 s hs
    · have n1 : ¬ (x + 1) :: r <:+ s := fun e2 => by
        have e3 := List.suffix_of_suffix_length_le hs e2 (by rw [List.length_cons, List.length_cons]; omega)
        exact e (List.cons.inj (e3.eq_of_length (by rw [List.length_cons, List.length_cons]))).1
      rw [s1 s n1 (fun e2 => by have := sfx_len hs; rw [e2] at this; omega)]
      exact (i5 y s hs).1 (by omega)
  · have n1 : ¬ (x + 1) :: r <:+ s := fun e2 => by
      have e3 := List.suffix_of_suffix_length_le hs e2 (by rw [List.length_cons, List.length_cons]; omega)
      have := (List.cons.inj (e3.eq_of_length (by rw [List.length_cons, List.length_cons]))).1
      omega
    rw [s1 s n1 (fun e2 => by have := sfx_len hs; rw [e2] at this; omega)]
    exact (i5 y s hs).2 (by omega)
  · refine s6 a e (i6 a e ha hn) (fun s q hs hq => ?_)
    rcases hs with rfl | hs
    · have hu := i7 s q hq
      refine ⟨?_, fun hc' => ?_⟩
      · rcases hu with ⟨q0, h0, h1⟩ | h0
        · rw [← h1]; exact (hn s q0 (List.suffix_refl _) h0).1
        · exact absurd rfl ((i4 q hq).1 s q h0)
      · rcases i8 s q a hq hc' with ⟨q0, h0, h1⟩ | h0 | h0
        · exact (hn s q0 (List.suffix_refl _) h0).2 h1
        · exact absurd rfl ((i4 q hq).1 s q h0)
        · rw [h0] at ha; cases ha
    · rw [(i5 (x + 1) s hs).2 (by omega)] at hq
      exact hn s q ((List.suffix_cons (x + 1) r).trans hs) hq
  · rcases s7 s q hq with ⟨q0, h0, h1⟩ | h0
    · rcases i7 s q0 h0 with ⟨q1, k0, k1⟩ | k0
      · exact Or.inl ⟨q1, k0, k1.trans h1⟩
      · by_cases e : (x + 1) :: r <:+ s
        · rw [(i5 (x + 1) s e).2 (by omega)] at h0
          exact Or.inl ⟨q0, h0, h1⟩
        · by_cases e2 : s = r
          · subst e2; exact absurd rfl ((i4 q0 h0).1 s q0 k0)
          · rw [s1 s e e2, h0] at hq; cases hq; exact Or.inr k0
    · exact Or.inr h0
  · rcases s8 s q c hq hc' with ⟨q0, h0, h1⟩ | h0 | h0
    · rcases i8 s q0 c h0 h1 with ⟨q1, k0, k1⟩ | k0 | k0
      · exact Or.inl ⟨q1, k0, k1⟩
      · by_cases e : (x + 1) :: r <:+ s
        · rw [(i5 (x + 1) s e).2 (by omega)] at h0
          exact Or.inl ⟨q0, h0, h1⟩
        · by_cases e2 : s = r
          · subst e2; exact absurd rfl ((i4 q0 h0).1 s q0 k0)
          · rw [s1 s e e2, h0] at hq; cases hq; exact Or.inr (Or.inl k0)
      · exact Or.inr (Or.inr k0)
    · exact Or.inr (Or.inl h0)
    · exact Or.inr (Or.inr (i9 c h0))
/-- nothing is done -/
theorem loS_id (I : loI h aC u v r hid x hc w) (hs : ∀ s, ((x + 1) :: r) <:+ s → ctS (u s) = layC (ctF u) (ctF v) hid r s) : loS aC u v r hid (x + 1) hc w hc w :=
  ⟨I.1, fun _ _ _ => rfl, ⟨rfl, rfl, I.2.2.1.2.2⟩, fun s h1 => by rw [(I.2.2.2.1 (x + 1) s h1).2 (by omega)]; exact hs s h1, fun _ _ ha _ => ha, fun s q hq => Or.inl ⟨q, hq, rfl⟩, fun s q c hq hc => Or.inl ⟨q, hq, hc⟩, fun _ ha => ha⟩
end LY
