/-! ===== how the world of a tree changes ===== -/
def zKi (e : va_E) : Nat := match e with
  | .inl _ => 9
  | .inr x => x.1
theorem ne_k {h : zz_Hp} {x y : Nat} {e1 e2 : va_E} (h1 : h x = some e1) (h2 : h y = some e2) (hk : zKi e1 ≠ zKi e2) : x ≠ y := fun e => by
  subst e; rw [h1] at h2; exact hk (congrArg zKi (Option.some.inj h2))
theorem ne_l {h : zz_Hp} {x y : Nat} {e1 e2 : va_E} (h1 : h x = some e1) (h2 : h y = some e2) (hk : zEl e1 ≠ zEl e2) : x ≠ y := fun e => by
  subst e; rw [h1] at h2; exact hk (congrArg zEl (Option.some.inj h2))
theorem ki_mk (s v : Int32) (b : Option Nat) : zKi (mkE s v b) = 0 := rfl
theorem ki_ot (la n sa : Nat) : zKi (otE la n sa) = 2 := rfl
theorem ki_sg (k v f s : Nat) : zKi (sgE k v f s) = 1 := rfl
theorem ki_ma (aC : Nat → ClassId) (N : Nat) (g : Nat → Option Nat) : zKi (maE aC N g) = 9 := rfl
theorem ki_sa (aC : Nat → ClassId) (N : Nat) (g : Nat → Option Nat) : zKi (saE aC N g) = 9 := rfl
theorem ki_ia (aC : Nat → ClassId) (N : Nat) (g : Nat → Int32) : zKi (iaE aC N g) = 9 := rfl
theorem ki_za (aC : Nat → ClassId) (N : Nat) (g : Nat → Int32) : zKi (zaE aC N g) = 9 := rfl
theorem el_ma (aC : Nat → ClassId) (N : Nat) (g : Nat → Option Nat) : zEl (maE aC N g) = N := rfl
theorem el_sa (aC : Nat → ClassId) (N : Nat) (g : Nat → Option Nat) : zEl (saE aC N g) = N := rfl
section TC
variable {h h' : zz_Hp} {aC : Nat → ClassId} {t la sa n : Nat} {A : zA5} {Ls : zLs}
theorem trP.kp {u : List Nat → Option zMk} (T : trP h aC u) (hk : ∀ x e, h x = some e → zKi e = 0 ∨ (zKi e = 9 ∧ zEl e = 10) → h' x = some e) : trP h' aC u := by
  obtain ⟨a1, a2, a3, a4, a5, a6⟩ := T
  refine ⟨fun r q hq => hk _ _ (a1 r q hq) (Or.inl rfl), fun r q c hq hc => ?_, a3, a4, a5, a6⟩
  obtain ⟨g, hg, hj⟩ := a2 r q c hq hc
  exact ⟨g, hk _ _ hg (Or.inr ⟨rfl, rfl⟩), hj⟩
theorem siH.kp (S : siH h aC A) (hk : ∀ x e, h x = some e → x ≠ t → x ≠ la → h' x = some e) {n : Nat} (ht : h t = some (otE la n sa)) {g : Nat → Option Nat} (hla : h la = some (maE aC 8 g)) (hN : ∀ d, d < 5 → sN la (A d)) : siH h' aC A := fun d hd => by
  obtain ⟨s0, ⟨g1, s1⟩, ⟨g2, s2⟩, ⟨g3, s3⟩, g4, s4⟩ := S d hd
  obtain ⟨n1, n2, n3, n4⟩ := hN d hd
  refine ⟨hk _ _ s0 (ne_k s0 ht (by rw [ki_sg, ki_ot]; decide)) (ne_k s0 hla (by rw [ki_sg, ki_ma]; decide)), ⟨g1, hk _ _ s1 (ne_k s1 ht (by rw [ki_ia, ki_ot]; decide)) (Ne.symm n1)⟩, ⟨g2, hk _ _ s2 (ne_k s2 ht (by rw [ki_ia, ki_ot]; decide)) (Ne.symm n2)⟩, ⟨g3, hk _ _ s3 (ne_k s3 ht (by rw [ki_ma, ki_ot]; decide)) (Ne.symm n3)⟩, g4, hk _ _ s4 (ne_k s4 ht (by rw [ki_za, ki_ot]; decide)) (Ne.symm n4)⟩
/-- what changes the object and its row of layers only -/
theorem tW.put (W : tW h aC t la sa A n Ls) {n' : Nat} {Ls' : zLs} (hk : ∀ x e, h x = some e → x ≠ t → x ≠ la → h' x = some e) (hn : 1 ≤ n' ∧ n' ≤ 8) (ht : h' t = some (otE la n' sa)) (hla : laP h' aC la n' Ls') (hT : ∀ i, i < n' → (∃ i0, i0 < n ∧ Ls' i = Ls i0) ∨ trP h' aC (Ls' i)) (hI : trI Ls' n') : tW h' aC t la sa A n' Ls' := by
  obtain ⟨w1, w2, w3, w4, ⟨Lr, w5, w5'⟩, ⟨Sr, w6, w6'⟩, w7, w8, w9⟩ := W
  refine ⟨hn, w2, w3, ht, hla, ⟨Sr, hk _ _ w6 (ne_k w6 w4 (by rw [ki_sa, ki_ot]; decide)) (ne_l w6 w5 (by rw [el_sa, el_ma]; decide)), w6'⟩, w7.kp hk w4 w5 w3, fun i hi => ?_, hI⟩
  rcases hT i hi with ⟨i0, h0, e0⟩ | h1
  · rw [e0]
    refine (w8 i0 h0).kp (fun x e hx hd => hk x e hx ?_ ?_)
    · refine ne_k hx w4 ?_
      rw [ki_ot]; rcases hd with hd | hd
      · rw [hd]; decide
      · rw [hd.1]; decide
    · rcases hd with hd | hd
      · exact ne_k hx w5 (by rw [ki_ma, hd]; decide)
      · exact ne_l hx w5 (by rw [el_ma, hd.2]; decide)
  · exact h1
def lyN (Ls : zLs) (n a : Nat) : zLs := fun i r => if i = n then (if r = [] then some (a, nI 1, nI 0, none) else none) else Ls i r
theorem lyN_n (Ls : zLs) (n a : Nat) (r : List Nat) : lyN Ls n a n r = if r = [] then some (a, nI 1, nI 0, none) else none := if_pos rfl
theorem lyN_o (Ls : zLs) {n i : Nat} (a : Nat) (hi : i ≠ n) : lyN Ls n a i = Ls i := by
  funext r; exact if_neg hi
theorem lyN_I {a : Nat} (I : trI Ls n) (hm : ∀ i r q, i < n → Ls i r = some q → q.1 ≠ a) : trI (lyN Ls n a) (n + 1) := by
  have key : ∀ r q, lyN Ls n a n r = some q → r = [] ∧ q = (a, nI 1, nI 0, none) := fun r q hq => by
    rw [lyN_n] at hq
    by_cases e : r = []
    · rw [if_pos e] at hq; exact ⟨e, (Option.some.inj hq).symm⟩
    · rw [if_neg e] at hq; cases hq
  constructor
  · intro i i' r r' q q' hi hi' hq hq' he
    by_cases e : i = n
    · subst e
      obtain ⟨k1, k2⟩ := key r q hq
      by_cases e' : i' = i
      · subst e'
        exact ⟨rfl, k1.trans (key r' q' hq').1.symm⟩
      · rw [lyN_o _ _ e'] at hq'
        exact absurd (by rw [← he, k2]) (hm i' r' q' (by omega) hq')
    · rw [lyN_o _ _ e] at hq
      by_cases e' : i' = n
      · subst e'
        exact absurd (by rw [he, (key r' q' hq').2]) (hm i r q (by omega) hq)
      · rw [lyN_o _ _ e'] at hq'
        exact I.1 i i' r r' q q' (by omega) (by omega) hq hq' he
  · intro i i' r r' q q' c hi hi' hq hq' hc hc'
    by_cases e : i = n
    · subst e
      rw [(key r q hq).2] at hc; cases hc
    · by_cases e' : i' = n
      · subst e'
        rw [(key r' q' hq').2] at hc'; cases hc'
      · rw [lyN_o _ _ e] at hq; rw [lyN_o _ _ e'] at hq'
        exact I.2 i i' r r' q q' c (by omega) (by omega) hq hq' hc hc'
theorem lyN_T {a : Nat} (ha : h' a = some (mkE (nI 1) (nI 0) none)) : trP h' aC (lyN Ls n a n) := by
  have key : ∀ r q, lyN Ls n a n r = some q → r = [] ∧ q = (a, nI 1, nI 0, none) := fun r q hq => by
    rw [lyN_n] at hq
    by_cases e : r = []
    · rw [if_pos e] at hq; exact ⟨e, (Option.some.inj hq).symm⟩
    · rw [if_neg e] at hq; cases hq
  have no : ∀ r j, lyN Ls n a n (j :: r) = none := fun r j => by rw [lyN_n, if_neg (by simp)]
  refine ⟨fun r q hq => ?_, fun r q c hq hc => ?_, fun r q j _ _ => no r j, fun r j _ => no r j, fun r j _ => no r j, (a, nI 1, nI 0, none), by rw [lyN_n, if_pos rfl], rfl⟩
  · rw [(key r q hq).2]; exact ha
  · rw [(key r q hq).2] at hc; cases hc
end TC
