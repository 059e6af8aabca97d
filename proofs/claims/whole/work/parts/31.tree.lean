/-! ===== the world of an OverlayTree ===== -/
abbrev zA5 := Nat → Nat × Nat × Nat × Nat × Nat
abbrev zLs := Nat → List Nat → Option zMk
def saE (aC : Nat → ClassId) (N : Nat) (g : Nat → Option Nat) : va_E := .inl (aC 4, N, .inr (.inr (.inr (.inr g))))
def sN (a : Nat) (q : Nat × Nat × Nat × Nat × Nat) : Prop := sgN a q.2.1 q.2.2.1 q.2.2.2.1 q.2.2.2.2
/-- the view: what the lowest 0, 1, 2 .. layers have at a path (its last name first), and what shines through -/
def vw (Ls : zLs) : List Nat → (Nat → Int32) × (Nat → Bool)
  | [] => (fun _ => nI 1, fun _ => true)
  | x :: r => (nxK (vw Ls r).1 (vw Ls r).2 (fun i => Ls i (x :: r)), nxS (vw Ls r).1 (vw Ls r).2 (fun i => Ls i (x :: r)))
def vwV (Ls : zLs) : List Nat → Nat → Int32
  | [] => fun _ => 0
  | x :: r => nxV (fun i => Ls i (x :: r))
def tS (h : zz_Hp) (aC : Nat → ClassId) (q : Nat × Nat × Nat × Nat × Nat) (n : Nat) (Ls : zLs) (r : List Nat) : Prop := sgS h aC q.2.1 q.2.2.1 q.2.2.2.1 q.2.2.2.2 n (vw Ls r).1 (vw Ls r).2 (vwV Ls r) (fun i => mkA (Ls i r))
def siD (A : zA5) : Prop := (∀ d, d < 5 → sgD (A d).2.1 (A d).2.2.1 (A d).2.2.2.1 (A d).2.2.2.2) ∧ ∀ d e, d < 5 → e < 5 → d ≠ e → sN (A e).2.1 (A d) ∧ sN (A e).2.2.1 (A d) ∧ sN (A e).2.2.2.1 (A d) ∧ sN (A e).2.2.2.2 (A d)
def siH (h : zz_Hp) (aC : Nat → ClassId) (A : zA5) : Prop := ∀ d, d < 5 → h (A d).1 = some (sgE (A d).2.1 (A d).2.2.1 (A d).2.2.2.1 (A d).2.2.2.2) ∧ (∃ g, h (A d).2.1 = some (iaE aC 9 g)) ∧ (∃ g, h (A d).2.2.1 = some (iaE aC 9 g)) ∧ (∃ g, h (A d).2.2.2.1 = some (maE aC 8 g)) ∧ ∃ g, h (A d).2.2.2.2 = some (zaE aC 8 g)
/-- a layer's marks -/
def trP (h : zz_Hp) (aC : Nat → ClassId) (t : List Nat → Option zMk) : Prop :=
  (∀ r q, t r = some q → h q.1 = some (mkE q.2.1 q.2.2.1 q.2.2.2)) ∧
  (∀ r q c, t r = some q → q.2.2.2 = some c → ∃ g, h c = some (maE aC 10 g) ∧ ∀ j, 1 ≤ j → j ≤ 9 → g j = mkA (t (j :: r))) ∧
  (∀ r q j, t r = some q → q.2.2.2 = none → t (j :: r) = none) ∧
  (∀ r j, t r = none → t (j :: r) = none) ∧
  (∀ r j, (¬ 1 ≤ j ∨ ¬ j ≤ 9 ∨ 4 ≤ r.length) → t (j :: r) = none) ∧
  ∃ q, t [] = some q ∧ q.2.1 = nI 1
def trI (Ls : zLs) (n : Nat) : Prop := (∀ i i' r r' q q', i < n → i' < n → Ls i r = some q → Ls i' r' = some q' → q.1 = q'.1 → i = i' ∧ r = r') ∧ ∀ i i' r r' q q' c, i < n → i' < n → Ls i r = some q → Ls i' r' = some q' → q.2.2.2 = some c → q'.2.2.2 = some c → i = i' ∧ r = r'
def laP (h : zz_Hp) (aC : Nat → ClassId) (la n : Nat) (Ls : zLs) : Prop := ∃ Lr, h la = some (maE aC 8 Lr) ∧ ∀ i, i < n → Lr i = mkA (Ls i [])
def saP (h : zz_Hp) (aC : Nat → ClassId) (sa : Nat) (A : zA5) : Prop := ∃ Sr, h sa = some (saE aC 5 Sr) ∧ ∀ d, d < 5 → Sr d = some (A d).1
def otE (la n sa : Nat) : va_E := .inr (2, [.ref la, .int (nI n), .ref sa])
def tW (h : zz_Hp) (aC : Nat → ClassId) (t la sa : Nat) (A : zA5) (n : Nat) (Ls : zLs) : Prop :=
  (1 ≤ n ∧ n ≤ 8) ∧ siD A ∧ (∀ d, d < 5 → sN la (A d)) ∧ h t = some (otE la n sa) ∧ laP h aC la n Ls ∧ saP h aC sa A ∧ siH h aC A ∧ (∀ i, i < n → trP h aC (Ls i)) ∧ trI Ls n
section TW
variable {h h' : zz_Hp} {aC : Nat → ClassId} {t la sa n : Nat} {A : zA5} {Ls : zLs}
theorem siH.mk (S : siH h aC A) {d c : Nat} (hd : d < 5) {x : Nat × List Value} (hc : h c = some (.inr x)) : sN c (A d) := by
  obtain ⟨-, ⟨g1, h1⟩, ⟨g2, h2⟩, ⟨g3, h3⟩, g4, h4⟩ := S d hd
  exact sgN_mk h1 h2 h3 h4 hc
theorem siH.ln (S : siH h aC A) {d c : Nat} (hd : d < 5) {e : va_E} (hc : h c = some e) (h8 : zEl e ≠ 8) (h9 : zEl e ≠ 9) : sN c (A d) := by
  obtain ⟨-, ⟨g1, h1⟩, ⟨g2, h2⟩, ⟨g3, h3⟩, g4, h4⟩ := S d hd
  exact sgN_len h1 h2 h3 h4 hc h8 h9
theorem siH.rw (S : siH h aC A) {d c : Nat} (hd : d < 5) {g : Nat → Option Nat} (hc : h c = some (maE aC 10 g)) : sN c (A d) := by
  obtain ⟨-, ⟨g1, h1⟩, ⟨g2, h2⟩, ⟨g3, h3⟩, g4, h4⟩ := S d hd
  exact sgN_rw h1 h2 h3 h4 hc
/-- all but the sights' rows from a depth on stands as it stood -/
def sFr (A : zA5) (lo : Nat) (h h' : zz_Hp) : Prop := ∀ a, (∀ e, lo ≤ e → e < 5 → sN a (A e)) → h' a = h a
theorem sFr.rf {lo : Nat} : sFr A lo h h := fun _ _ => rfl
theorem sFr.tr {lo : Nat} {h2 : zz_Hp} (a : sFr A lo h h') (b : sFr A lo h' h2) : sFr A lo h h2 := fun x hx => (b x hx).trans (a x hx)
theorem sFr.lo {lo lo' : Nat} (hl : lo' ≤ lo) (a : sFr A lo h h') : sFr A lo' h h' := fun x hx => a x (fun e h1 h2 => hx e (Nat.le_trans hl h1) h2)
theorem sFr.one {e lo : Nat} (he : lo ≤ e) (h5 : e < 5) (a : ∀ x, sN x (A e) → h' x = h x) : sFr A lo h h' := fun x hx => a x (hx e he h5)
theorem trP.fr (S : siH h aC A) {u : List Nat → Option zMk} (T : trP h aC u) (f : sFr A 0 h h') : trP h' aC u := by
  obtain ⟨a1, a2, a3, a4, a5, a6⟩ := T
  refine ⟨fun r q hq => ?_, fun r q c hq hc => ?_, a3, a4, a5, a6⟩
  · rw [f q.1 (fun e _ he => S.mk he (a1 r q hq))]; exact a1 r q hq
  · obtain ⟨g, hg, hj⟩ := a2 r q c hq hc
    exact ⟨g, by rw [f c (fun e _ he => S.rw he hg)]; exact hg, hj⟩
theorem tW.fr (W : tW h aC t la sa A n Ls) (f : sFr A 0 h h') (S' : siH h' aC A) : tW h' aC t la sa A n Ls := by
  obtain ⟨w1, w2, w3, w4, ⟨Lr, w5, w5'⟩, ⟨Sr, w6, w6'⟩, w7, w8, w9⟩ := W
  refine ⟨w1, w2, w3, ?_, ⟨Lr, ?_, w5'⟩, ⟨Sr, ?_, w6'⟩, S', fun i hi => (w8 i hi).fr w7 f, w9⟩
  · rw [f t (fun e _ he => w7.mk he w4)]; exact w4
  · rw [f la (fun e _ he => w3 e he)]; exact w5
  · rw [f sa (fun e _ he => w7.ln he w6 (fun q => absurd (show (5 : Nat) = 8 from q) (by decide)) (fun q => absurd (show (5 : Nat) = 9 from q) (by decide)))]; exact w6
theorem siH.see (D : siD A) (S : siH h aC A) {e m : Nat} {VK : Nat → Int32} {VS : Nat → Bool} {VV : Nat → Int32} {Ad : Nat → Option Nat} (he : e < 5) (a : ∀ x, sN x (A e) → h' x = h x) (G : sgS h' aC (A e).2.1 (A e).2.2.1 (A e).2.2.2.1 (A e).2.2.2.2 m VK VS VV Ad) : siH h' aC A := fun d hd => by
  obtain ⟨s0, ⟨g1, s1⟩, ⟨g2, s2⟩, ⟨g3, s3⟩, g4, s4⟩ := S d hd
  refine ⟨by rw [a _ (S.mk he s0)]; exact s0, ?_⟩
  by_cases e0 : d = e
  · subst e0
    obtain ⟨k1, k2, k3, k4, ⟨z1, z2, z3, z4⟩, -⟩ := G
    exact ⟨⟨k1, z1⟩, ⟨k2, z2⟩, ⟨k3, z3⟩, k4, z4⟩
  · obtain ⟨n1, n2, n3, n4⟩ := D.2 e d he hd (fun q => e0 q.symm)
    exact ⟨⟨g1, by rw [a _ n1]; exact s1⟩, ⟨g2, by rw [a _ n2]; exact s2⟩, ⟨g3, by rw [a _ n3]; exact s3⟩, g4, by rw [a _ n4]; exact s4⟩
theorem tS.fr (D : siD A) {d lo m : Nat} {r : List Nat} (hd : d < 5) (hlo : d < lo) (f : sFr A lo h h') (T : tS h aC (A d) m Ls r) : tS h' aC (A d) m Ls r := by
  obtain ⟨k1, k2, k3, k4, ⟨z1, z2, z3, z4⟩, G⟩ := T
  have hx : ∀ e, lo ≤ e → e < 5 → _ := fun e h1 h2 => D.2 e d h2 hd (by omega)
  exact ⟨k1, k2, k3, k4, ⟨by rw [f _ (fun e h1 h2 => (hx e h1 h2).1)]; exact z1, by rw [f _ (fun e h1 h2 => (hx e h1 h2).2.1)]; exact z2, by rw [f _ (fun e h1 h2 => (hx e h1 h2).2.2.1)]; exact z3, by rw [f _ (fun e h1 h2 => (hx e h1 h2).2.2.2)]; exact z4⟩, G⟩
theorem seH_of {u : List Nat → Option zMk} (T : trP h aC u) (r : List Nat) {j : Nat} (h1 : 1 ≤ j) (h9 : j ≤ 9) : seH h aC (nI j) (mkA (u r)) (u (j :: r)) := by
  obtain ⟨a1, a2, a3, a4, a5, a6⟩ := T
  have hx : ¬ (nI j < 1 ∨ 9 < nI j) := by
    rintro (q | q)
    · exact absurd (show nI j < nI 1 from q) (nI_nlt h1 (by omega))
    · exact absurd (show nI 9 < nI j from q) (nI_nlt h9 (by omega))
  refine ⟨fun hn => ?_, fun a ha => ?_, fun q hq => a1 _ q hq⟩
  · cases hr : u r with
    | none => exact a4 r j hr
    | some q => rw [hr] at hn; cases hn
  · cases hr : u r with
    | none => rw [hr] at ha; cases ha
    | some q =>
      rw [hr] at ha; cases ha
      cases hb : q.2.2.2 with
      | none =>
        refine ⟨q.2.1, q.2.2.1, none, fun _ => none, by rw [← hb]; exact a1 r q hr, (fun c hc => by cases hc), ?_⟩
        rw [a3 r q j hr hb]; exact if_pos (Or.inl rfl)
      | some c =>
        obtain ⟨g, hg, hgj⟩ := a2 r q c hr hb
        refine ⟨q.2.1, q.2.2.1, some c, g, by rw [← hb]; exact a1 r q hr, (fun c' hc => by cases hc; exact hg), ?_⟩
        unfold atF
        rw [if_neg, nI_clamp (by omega)]
        · exact hgj j h1 h9
        · rintro (q | q)
          · cases q
          · exact hx q
theorem c_see (l : Launch) (D : va_G) (W : tW h aC t la sa A n Ls) {d m x : Nat} {r : List Nat} (T : tS h aC (A d) m Ls r) (hd : d < 4) (hm : m ≤ n) (h1 : 1 ≤ x) (h9 : x ≤ 9) :
    zz_Ct l D aC y_S_see (zrm 1 0 0 60) [.ref (A (d + 1)).1, .ref (A d).1, .int (nI x), .int (nI m)] h (fun r' h' => r' = .inl none ∧ (∀ a, sN a (A (d + 1)) → h' a = h a) ∧ tS h' aC (A (d + 1)) m Ls (x :: r)) := by
  obtain ⟨w1, w2, w3, w4, w5, w6, w7, w8, w9⟩ := W
  obtain ⟨s0, s1, s2, s3, s4⟩ := w7 (d + 1) (by omega)
  obtain ⟨p0, -⟩ := w7 d (by omega)
  obtain ⟨n1, n2, n3, n4⟩ := w2.2 (d + 1) d (by omega) (by omega) (by omega)
  exact c_S_see l D aC h (A (d + 1)).1 _ _ _ _ (A d).1 _ _ _ _ m (nI x) (vw Ls r).1 (vw Ls r).2 (vwV Ls r) (fun i => mkA (Ls i r)) (fun i => Ls i (x :: r)) (w2.1 (d + 1) (by omega)) (w7.mk (by omega) s0) s0 s1 s2 s3 s4 (w7.mk (by omega) p0) p0 n1 n3 n4 T (by omega) (fun i hi => seH_of (w8 i (by omega)) r h1 h9)
end TW
