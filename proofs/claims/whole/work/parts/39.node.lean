/-! ===== one mark more, one mark's words ===== -/
def ctS (m : Option zMk) : Option (Int32 × Int32) := m.map fun q => (q.2.1, q.2.2.1)
def lyU (Ls : zLs) (k : Nat) (u : List Nat → Option zMk) : zLs := fun i => if i = k then u else Ls i
theorem lyU_k (Ls : zLs) (k : Nat) (u : List Nat → Option zMk) : lyU Ls k u k = u := if_pos rfl
theorem lyU_o (Ls : zLs) {k i : Nat} (u : List Nat → Option zMk) (h : i ≠ k) : lyU Ls k u i = Ls i := if_neg h
theorem lyU_self (Ls : zLs) (k : Nat) : lyU Ls k (Ls k) = Ls := by
  funext i; unfold lyU; by_cases h : i = k
  · rw [if_pos h, h]
  · rw [if_neg h]
theorem lyU_lyU (Ls : zLs) (k : Nat) (u v : List Nat → Option zMk) : lyU (lyU Ls k u) k v = lyU Ls k v := by
  funext i; unfold lyU; by_cases h : i = k
  · rw [if_pos h, if_pos h]
  · rw [if_neg h, if_neg h, if_neg h]
/-- no two marks of a layer at one place -/
def inU (u : List Nat → Option zMk) : Prop := (∀ s s' q q', u s = some q → u s' = some q' → q.1 = q'.1 → s = s') ∧ ∀ s s' q q' c, u s = some q → u s' = some q' → q.2.2.2 = some c → q'.2.2.2 = some c → s = s'
section ND
variable {h h' : zz_Hp} {aC : Nat → ClassId} {t la sa n : Nat} {A : zA5} {Ls : zLs}
theorem trI.in (I : trI Ls n) {k : Nat} (hk : k < n) : inU (Ls k) := ⟨fun s s' q q' h1 h2 e => (I.1 k k s s' q q' hk hk h1 h2 e).2, fun s s' q q' c h1 h2 e e' => (I.2 k k s s' q q' c hk hk h1 h2 e e').2⟩
/-- what changes the marks of one layer only -/
theorem tW.top (W : tW h aC t la sa A n Ls) {k : Nat} (hkn : k < n) {u : List Nat → Option zMk} (hk : ∀ x e, h x = some e → (∀ r q, Ls k r = some q → x ≠ q.1 ∧ q.2.2.2 ≠ some x) → h' x = some e) (T : trP h' aC u) (hroot : mkA (u []) = mkA (Ls k []))
    (hA : ∀ r q, u r = some q → (∃ q0, Ls k r = some q0 ∧ q0.1 = q.1) ∨ h q.1 = none) (hB : ∀ r q c, u r = some q → q.2.2.2 = some c → (∃ q0, Ls k r = some q0 ∧ q0.2.2.2 = some c) ∨ h c = none) (hU : inU u) : tW h' aC t la sa A n (lyU Ls k u) := by
  obtain ⟨w1, w2, w3, w4, ⟨Lr, w5, w5'⟩, ⟨Sr, w6, w6'⟩, w7, w8, w9⟩ := W
  have Tk := w8 k hkn
  have nk : ∀ x e, h x = some e → zKi e ≠ 0 → zEl e ≠ 10 → ∀ r q, Ls k r = some q → x ≠ q.1 ∧ q.2.2.2 ≠ some x := fun x e hx h0 h10 r q hq => by
    refine ⟨ne_k hx (Tk.1 r q hq) h0, fun hc => ?_⟩
    obtain ⟨g, hg, -⟩ := Tk.2.1 r q x hq hc
    exact ne_l hx hg h10 rfl
  refine ⟨w1, w2, w3, ?_, ⟨Lr, ?_, fun i hi => ?_⟩, ⟨Sr, ?_, w6'⟩, fun d hd => ?_, fun i hi => ?_, ?_⟩
  · exact hk _ _ w4 (nk _ _ w4 (by rw [ki_ot]; decide) (fun e => absurd (show (0 : Nat) = 10 from e) (by decide)))
  · exact hk _ _ w5 (nk _ _ w5 (by rw [ki_ma]; decide) (by rw [el_ma]; decide))
  · by_cases e : i = k
    · subst e; rw [lyU_k, hroot]; exact w5' i hi
    · rw [lyU_o _ _ e]; exact w5' i hi
  · exact hk _ _ w6 (nk _ _ w6 (by rw [ki_sa]; decide) (by rw [el_sa]; decide))
  · obtain ⟨s0, ⟨g1, s1⟩, ⟨g2, s2⟩, ⟨g3, s3⟩, g4, s4⟩ := w7 d hd
    exact ⟨hk _ _ s0 (nk _ _ s0 (by rw [ki_sg]; decide) (fun e => absurd (show (0 : Nat) = 10 from e) (by decide))), ⟨g1, hk _ _ s1 (nk _ _ s1 (by rw [ki_ia]; decide) (fun e => absurd (show (9 : Nat) = 10 from e) (by decide)))⟩, ⟨g2, hk _ _ s2 (nk _ _ s2 (by rw [ki_ia]; decide) (fun e => absurd (show (9 : Nat) = 10 from e) (by decide)))⟩, ⟨g3, hk _ _ s3 (nk _ _ s3 (by rw [ki_ma]; decide) (by rw [el_ma]; decide))⟩, g4, hk _ _ s4 (nk _ _ s4 (by rw [ki_za]; decide) (fun e => absurd (show (8 : Nat) = 10 from e) (by decide)))⟩
  · by_cases e : i = k
    · subst e; rw [lyU_k]; exact T
    · rw [lyU_o _ _ e]
      obtain ⟨a1, a2, a3⟩ := w8 i hi
      refine ⟨fun r q hq => hk _ _ (a1 r q hq) (fun r' q' hq' => ⟨fun ee => e (w9.1 i k r r' q q' hi hkn hq hq' ee).1, fun ee => ?_⟩), fun r q c hq hc => ?_, a3⟩
      · obtain ⟨g, hg, -⟩ := Tk.2.1 r' q' _ hq' ee
        exact ne_k (a1 r q hq) hg (by rw [ki_mk, ki_ma]; decide) rfl
      · obtain ⟨g, hg, hj⟩ := a2 r q c hq hc
        refine ⟨g, hk _ _ hg (fun r' q' hq' => ⟨ne_k hg (Tk.1 r' q' hq') (by rw [ki_mk, ki_ma]; decide), fun ee => e (w9.2 i k r r' q q' c hi hkn hq hq' hc ee).1⟩), hj⟩
  · constructor
    · intro i i' r r' q q' hi hi' hq hq' he
      by_cases e : i = k
      · subst e
        rw [lyU_k] at hq
        by_cases e' : i' = i
        · subst e'; rw [lyU_k] at hq'; exact ⟨rfl, hU.1 r r' q q' hq hq' he⟩
        · rw [lyU_o _ _ e'] at hq'
          rcases hA r q hq with ⟨q0, h0, h1⟩ | h0
          · exact absurd (w9.1 i i' r r' q0 q' hi hi' h0 hq' (h1.trans he)).1.symm e'
          · rw [he, (w8 i' hi').1 r' q' hq'] at h0; cases h0
      · rw [lyU_o _ _ e] at hq
        by_cases e' : i' = k
        · subst e'
          rw [lyU_k] at hq'
          rcases hA r' q' hq' with ⟨q0, h0, h1⟩ | h0
          · exact absurd (w9.1 i i' r r' q q0 hi hi' hq h0 (he.trans h1.symm)).1 e
          · rw [← he, (w8 i hi).1 r q hq] at h0; cases h0
        · rw [lyU_o _ _ e'] at hq'; exact w9.1 i i' r r' q q' hi hi' hq hq' he
    · intro i i' r r' q q' c hi hi' hq hq' hc hc'
      by_cases e : i = k
      · subst e
        rw [lyU_k] at hq
        by_cases e' : i' = i
        · subst e'; rw [lyU_k] at hq'; exact ⟨rfl, hU.2 r r' q q' c hq hq' hc hc'⟩
        · rw [lyU_o _ _ e'] at hq'
          rcases hB r q c hq hc with ⟨q0, h0, h1⟩ | h0
          · exact absurd (w9.2 i i' r r' q0 q' c hi hi' h0 hq' h1 hc').1.symm e'
          · obtain ⟨g, hg, -⟩ := (w8 i' hi').2.1 r' q' c hq' hc'
            rw [hg] at h0; cases h0
      · rw [lyU_o _ _ e] at hq
        by_cases e' : i' = k
        · subst e'
          rw [lyU_k] at hq'
          rcases hB r' q' c hq' hc' with ⟨q0, h0, h1⟩ | h0
          · exact absurd (w9.2 i i' r r' q q0 c hi hi' hq h0 hc h1).1 e
          · obtain ⟨g, hg, -⟩ := (w8 i hi).2.1 r q c hq hc
            rw [hg] at h0; cases h0
        · rw [lyU_o _ _ e'] at hq'; exact w9.2 i i' r r' q q' c hi hi' hq hq' hc hc'
/-- a mark more, below the mark at r -/
def adU (u : List Nat → Option zMk) (r : List Nat) (j : Nat) (q : zMk) (c q2 : Nat) : List Nat → Option zMk := fun s => if s = j :: r then some (q2, nI 1, nI 0, none) else if s = r then some (q.1, q.2.1, q.2.2.1, some c) else u s
variable {u : List Nat → Option zMk} {r : List Nat} {j c q2 : Nat} {q : zMk}
theorem ne_jr (r : List Nat) (j : Nat) : r ≠ j :: r := fun e => absurd (congrArg List.length e) (by rw [List.length_cons]; omega)
theorem adU_j : adU u r j q c q2 (j :: r) = some (q2, nI 1, nI 0, none) := if_pos rfl
theorem adU_r : adU u r j q c q2 r = some (q.1, q.2.1, q.2.2.1, some c) := by
  unfold adU; rw [if_neg (ne_jr r j), if_pos rfl]
theorem adU_o {s : List Nat} (h1 : s ≠ j :: r) (h2 : s ≠ r) : adU u r j q c q2 s = u s := by
  unfold adU; rw [if_neg h1, if_neg h2]
theorem adU_in (U : inU u) (hr : u r = some q) (hm : ∀ s q0, u s = some q0 → q0.1 ≠ q2) (hc : ∀ s q0, u s = some q0 → s ≠ r → q0.2.2.2 ≠ some c) : inU (adU u r j q c q2) := by
  have key : ∀ s q0, adU u r j q c q2 s = some q0 → (s = j :: r ∧ q0 = (q2, nI 1, nI 0, none)) ∨ (s = r ∧ q0 = (q.1, q.2.1, q.2.2.1, some c)) ∨ (s ≠ j :: r ∧ s ≠ r ∧ u s = some q0) := fun s q0 hs => by
    by_cases e1 : s = j :: r
    · subst e1; rw [adU_j] at hs; exact Or.inl ⟨rfl, (Option.some.inj hs).symm⟩
    · by_cases e2 : s = r
      · subst e2; rw [adU_r] at hs; exact Or.inr (Or.inl ⟨rfl, (Option.some.inj hs).symm⟩)
      · rw [adU_o e1 e2] at hs; exact Or.inr (Or.inr ⟨e1, e2, hs⟩)
  constructor
  · intro s s' p p' hs hs' he
    rcases key s p hs with ⟨a1, a2⟩ | ⟨a1, a2⟩ | ⟨a1, a2, a3⟩ <;> rcases key s' p' hs' with ⟨b1, b2⟩ | ⟨b1, b2⟩ | ⟨b1, b2, b3⟩
    · exact a1.trans b1.symm
    · rw [a2, b2] at he; exact absurd he.symm (hm r q hr)
    · rw [a2] at he; exact absurd he.symm (hm s' p' b3)
    · rw [a2, b2] at he; exact absurd he (hm r q hr)
    · exact a1.trans b1.symm
    · rw [a2] at he; exact absurd (U.1 r s' q p' hr b3 he).symm b2
    · rw [b2] at he; exact absurd he (hm s p a3)
    · rw [b2] at he; exact absurd (U.1 s r p q a3 hr he) a2
    · exact U.1 s s' p p' a3 b3 he
  · intro s s' p p' c0 hs hs' h1 h2
    rcases key s p hs with ⟨a1, a2⟩ | ⟨a1, a2⟩ | ⟨a1, a2, a3⟩ <;> rcases key s' p' hs' with ⟨b1, b2⟩ | ⟨b1, b2⟩ | ⟨b1, b2, b3⟩
    · exact a1.trans b1.symm
    · rw [a2] at h1; cases h1
    · rw [a2] at h1; cases h1
    · rw [b2] at h2; cases h2
    · exact a1.trans b1.symm
    · rw [a2] at h1; cases h1; exact absurd h2 (hc s' p' b3 b2)
    · rw [b2] at h2; cases h2
    · rw [b2] at h2; cases h2; exact absurd h1 (hc s p a3 a2)
    · exact U.2 s s' p p' c0 a3 b3 h1 h2
theorem adU_T (T : trP h aC u) (U : inU u) (hr : u r = some q) (hn : u (j :: r) = none) (h1 : 1 ≤ j) (h9 : j ≤ 9) (hl : r.length < 4) (H1 : h' q2 = some (mkE (nI 1) (nI 0) none)) (H2 : h' q.1 = some (mkE q.2.1 q.2.2.1 (some c))) {g : Nat → Option Nat} (H3 : h' c = some (maE aC 10 g)) (H3j : g j = some q2) (H3o : ∀ i, 1 ≤ i → i ≤ 9 → i ≠ j → g i = mkA (u (i :: r)))
    (H4 : ∀ x e, h x = some e → x ≠ q.1 → q.2.2.2 ≠ some x → h' x = some e) : trP h' aC (adU u r j q c q2) := by
  obtain ⟨a1, a2, a3, a4, a5, q6, a6, a7⟩ := T
  have key : ∀ s q0, adU u r j q c q2 s = some q0 → (s = j :: r ∧ q0 = (q2, nI 1, nI 0, none)) ∨ (s = r ∧ q0 = (q.1, q.2.1, q.2.2.1, some c)) ∨ (s ≠ j :: r ∧ s ≠ r ∧ u s = some q0) := fun s q0 hs => by
    by_cases e1 : s = j :: r
    · subst e1; rw [adU_j] at hs; exact Or.inl ⟨rfl, (Option.some.inj hs).symm⟩
    · by_cases e2 : s = r
      · subst e2; rw [adU_r] at hs; exact Or.inr (Or.inl ⟨rfl, (Option.some.inj hs).symm⟩)
      · rw [adU_o e1 e2] at hs; exact Or.inr (Or.inr ⟨e1, e2, hs⟩)
  have nr : ∀ i s, u (i :: s) = none → i :: s ≠ r := fun i s hs e => by rw [e, hr] at hs; cases hs
  refine ⟨fun s q0 hs => ?_, fun s q0 c0 hs hc0 => ?_, fun s q0 i hs hc0 => ?_, fun s i hs => ?_, fun s i hb => ?_, ?_⟩
  · rcases key s q0 hs with ⟨b1, b2⟩ | ⟨b1, b2⟩ | ⟨b1, b2, b3⟩
    · rw [b2]; exact H1
    · rw [b2]; exact H2
    · refine H4 _ _ (a1 s q0 b3) (fun e => b2 (U.1 s r q0 q b3 hr e)) (fun e => ?_)
      obtain ⟨g2, hg, -⟩ := a2 r q _ hr e
      exact ne_k (a1 s q0 b3) hg (by rw [ki_mk, ki_ma]; decide) rfl
  · rcases key s q0 hs with ⟨b1, b2⟩ | ⟨b1, b2⟩ | ⟨b1, b2, b3⟩
    · rw [b2] at hc0; cases hc0
    · rw [b2] at hc0; cases hc0
      refine ⟨g, H3, fun i i1 i9 => ?_⟩
      subst b1
      by_cases e : i = j
      · subst e; rw [adU_j]; exact H3j
      · rw [adU_o (fun q => e (List.cons.inj q).1) (fun q => ne_jr s i q.symm)]; exact H3o i i1 i9 e
    · obtain ⟨g2, hg, hgj⟩ := a2 s q0 c0 b3 hc0
      refine ⟨g2, H4 _ _ hg (ne_k hg (a1 r q hr) (by rw [ki_mk, ki_ma]; decide)) (fun e => b2 (U.2 s r q0 q c0 b3 hr hc0 e)), fun i i1 i9 => ?_⟩
      rw [hgj i i1 i9]
      by_cases e2 : i :: s = r
      · rw [e2, adU_r, hr]; rfl
      · rw [adU_o (fun q => b2 (List.cons.inj q).2) e2]
  · rcases key s q0 hs with ⟨b1, b2⟩ | ⟨b1, b2⟩ | ⟨b1, b2, b3⟩
    · subst b1
      rw [adU_o (fun q => ne_jr r j (List.cons.inj q).2.symm) (fun q => absurd (congrArg List.length q) (by rw [List.length_cons, List.length_cons]; omega))]
      exact a4 _ i hn
    · rw [b2] at hc0; cases hc0
    · have hz := a3 s q0 i b3 hc0
      rw [adU_o (fun q => b2 (List.cons.inj q).2) (nr i s hz)]; exact hz
  · by_cases e1 : s = j :: r
    · subst e1; rw [adU_j] at hs; cases hs
    · by_cases e2 : s = r
      · subst e2; rw [adU_r] at hs; cases hs
      · rw [adU_o e1 e2] at hs
        have hz := a4 s i hs
        rw [adU_o (fun q => e2 (List.cons.inj q).2) (nr i s hz)]; exact hz
  · have hz := a5 s i hb
    rw [adU_o (fun q => ?_) (nr i s hz)]
    · exact hz
    · obtain ⟨e1, e2⟩ := List.cons.inj q
      subst e1; subst e2; omega
  · by_cases e : r = []
    · subst e
      rw [hr] at a6; cases a6
      exact ⟨_, adU_r, a7⟩
    · exact ⟨q6, by rw [adU_o (by simp) (fun q => e q.symm)]; exact a6, a7⟩
/-- other words of the mark at r -/
def stU (u : List Nat → Option zMk) (r : List Nat) (q : zMk) (s v : Int32) : List Nat → Option zMk := fun x => if x = r then some (q.1, s, v, q.2.2.2) else u x
theorem stU_r {s v : Int32} : stU u r q s v r = some (q.1, s, v, q.2.2.2) := if_pos rfl
theorem stU_o {s v : Int32} {x : List Nat} (hx : x ≠ r) : stU u r q s v x = u x := if_neg hx
theorem stU_A {s v : Int32} (hr : u r = some q) (x : List Nat) : mkA (stU u r q s v x) = mkA (u x) := by
  by_cases e : x = r
  · subst e; rw [stU_r, hr]; rfl
  · rw [stU_o e]
theorem stU_n {s v : Int32} (hr : u r = some q) (x : List Nat) : stU u r q s v x = none ↔ u x = none := by
  by_cases e : x = r
  · subst e; rw [stU_r, hr]; exact ⟨(fun k => by cases k), (fun k => by cases k)⟩
  · rw [stU_o e]
theorem stU_q {s v : Int32} (hr : u r = some q) {x : List Nat} {q0 : zMk} (hx : stU u r q s v x = some q0) : ∃ q1, u x = some q1 ∧ q1.1 = q0.1 ∧ q1.2.2.2 = q0.2.2.2 := by
  by_cases e : x = r
  · subst e; rw [stU_r] at hx; cases hx; exact ⟨q, hr, rfl, rfl⟩
  · rw [stU_o e] at hx; exact ⟨q0, hx, rfl, rfl⟩
theorem tW.set (W : tW h aC t la sa A n Ls) {k : Nat} (hkn : k < n) (hr : Ls k r = some q) (hr0 : r ≠ []) {s v : Int32} (H2 : h' q.1 = some (mkE s v q.2.2.2)) (H4 : ∀ x e, h x = some e → x ≠ q.1 → h' x = some e) : tW h' aC t la sa A n (lyU Ls k (stU (Ls k) r q s v)) := by
  have U := W.2.2.2.2.2.2.2.2.in hkn
  obtain ⟨a1, a2, a3, a4, a5, q6, a6, a7⟩ := W.2.2.2.2.2.2.2.1 k hkn
  refine W.top hkn (fun x e hx hn => H4 x e hx (hn r q hr).1) ⟨fun x q0 hx => ?_, fun x q0 c hx hc => ?_, fun x q0 i hx hc => ?_, fun x i hx => ?_, fun x i hb => ?_, ?_⟩ (stU_A hr []) (fun x q0 hx => ?_) (fun x q0 c hx hc => ?_) ⟨fun x x' p p' hx hx' e => ?_, fun x x' p p' c hx hx' e e' => ?_⟩
  · by_cases e : x = r
    · subst e; rw [stU_r] at hx; cases hx; exact H2
    · rw [stU_o e] at hx; exact H4 _ _ (a1 x q0 hx) (fun ee => e (U.1 x r q0 q hx hr ee))
  · obtain ⟨q1, k1, k2, k3⟩ := stU_q hr hx
    obtain ⟨g, hg, hj⟩ := a2 x q1 c k1 (k3.trans hc)
    exact ⟨g, H4 _ _ hg (ne_k hg (a1 r q hr) (by rw [ki_mk, ki_ma]; decide)), fun i i1 i9 => by rw [stU_A hr]; exact hj i i1 i9⟩
  · obtain ⟨q1, k1, k2, k3⟩ := stU_q hr hx
    exact (stU_n hr _).mpr (a3 x q1 i k1 (k3.trans hc))
  · exact (stU_n hr _).mpr (a4 x i ((stU_n hr _).mp hx))
  · exact (stU_n hr _).mpr (a5 x i hb)
  · exact ⟨q6, by rw [stU_o (Ne.symm hr0)]; exact a6, a7⟩
  · obtain ⟨q1, k1, k2, k3⟩ := stU_q hr hx
    exact Or.inl ⟨q1, k1, k2⟩
  · obtain ⟨q1, k1, k2, k3⟩ := stU_q hr hx
    exact Or.inl ⟨q1, k1, k3.trans hc⟩
  · obtain ⟨q1, k1, k2, k3⟩ := stU_q hr hx
    obtain ⟨p1, l1, l2, l3⟩ := stU_q hr hx'
    exact U.1 x x' q1 p1 k1 l1 (k2.trans (e.trans l2.symm))
  · obtain ⟨q1, k1, k2, k3⟩ := stU_q hr hx
    obtain ⟨p1, l1, l2, l3⟩ := stU_q hr hx'
    exact U.2 x x' q1 p1 c k1 l1 (k3.trans e) (l3.trans e')
end ND
