/-! ===== a mark is set ===== -/
theorem zz_post {l : Launch} {D : va_G} {aC : Nat → ClassId} {y : MethodName} {rm : Room} {av : List Value} {h : zz_Hp} {post post' : zz_R → zz_Hp → Prop} (M : zz_Ct l D aC y rm av h post) (hp : ∀ r h', post r h' → post' r h') : zz_Ct l D aC y rm av h post' := fun sz =>
  (M sz).imp (fun a st o t hq => by
    obtain ⟨⟨r, h', h1, h2, h3⟩, L⟩ := hq
    exact ⟨⟨r, h', h1, hp r h' h2, h3⟩, L⟩)
theorem va_fun {aC : Nat → ClassId} {N : Nat} {f g : Nat → Option Nat} (e : maE aC N f = maE aC N g) : f = g := by
  have e2 := congrArg Prod.snd (congrArg Prod.snd (Sum.inl.inj e))
  injection e2 with e2; injection e2 with e2; injection e2 with e2; injection e2 with e2
section SM
variable {h : zz_Hp} {aC : Nat → ClassId} {t la sa n : Nat} {A : zA5} {Ls : zLs}
/-- the words of a layer once all from the root to r stand -/
def anC (u : List Nat → Option zMk) (r s : List Nat) : Option (Int32 × Int32) := if s <:+ r ∧ mkA (u s) = none then some (nI 1, nI 0) else ctS (u s)
theorem anC_0 {u : List Nat → Option zMk} {q : zMk} (h0 : u [] = some q) (s : List Nat) : anC u [] s = ctS (u s) := by
  unfold anC
  rw [if_neg]
  rintro ⟨h1, h2⟩
  rw [List.suffix_nil.mp h1, h0] at h2; cases h2
theorem anC_s {u u' : List Nat → Option zMk} {r : List Nat} {j : Nat} (h1 : ∀ s, ctS (u' s) = if s = j :: r ∧ mkA (u s) = none then some (nI 1, nI 0) else ctS (u s)) {v : List Nat → Option zMk} (hv : ∀ s, ctS (u s) = anC v r s) (s : List Nat) : ctS (u' s) = anC v (j :: r) s := by
  have na : ∀ m : Option zMk, mkA m = none ↔ ctS m = none := fun m => by cases m <;> simp [mkA, ctS]
  rw [h1 s]
  by_cases e : s = j :: r
  · subst e
    have hns : ¬ (j :: r) <:+ r := fun q => absurd q.length_le (by rw [List.length_cons]; omega)
    have e2 : ctS (u (j :: r)) = ctS (v (j :: r)) := by
      rw [hv]; unfold anC; rw [if_neg (fun q => hns q.1)]
    unfold anC
    by_cases e3 : mkA (v (j :: r)) = none
    · rw [if_pos ⟨rfl, (na _).mpr (e2.trans ((na _).mp e3))⟩, if_pos ⟨List.suffix_refl _, e3⟩]
    · rw [if_neg (fun q => e3 ((na _).mpr (e2.symm.trans ((na _).mp q.2)))), if_neg (fun q => e3 q.2)]; exact e2
  · rw [if_neg (fun q => e q.1), hv]
    unfold anC
    have hs : (s <:+ j :: r) ↔ (s <:+ r) := by
      rw [List.suffix_cons_iff]; exact ⟨fun q => q.elim (fun x => absurd x e) id, Or.inr⟩
    by_cases c : s <:+ r ∧ mkA (v s) = none
    · rw [if_pos c, if_pos ⟨hs.mpr c.1, c.2⟩]
    · rw [if_neg c, if_neg (fun z => c ⟨hs.mp z.1, z.2⟩)]
theorem c_atOrNew (l : Launch) (D : va_G) (W : tW h aC t la sa A n Ls) {k : Nat} (hk : k < n) {r : List Nat} {q : zMk} (hr : Ls k r = some q) {j : Nat} (h1 : 1 ≤ j) (h9 : j ≤ 9) (hl : r.length < 4) :
    zz_Ct l D aC y_M_atOrNew (zrm 3 2 13 60) [.ref q.1, .int (nI j)] h (fun r' h' => ∃ (u : List Nat → Option zMk) (q' : zMk), r' = .inl (some (va_rf (some q'.1))) ∧ tW h' aC t la sa A n (lyU Ls k u) ∧ u (j :: r) = some q' ∧ ∀ s, ctS (u s) = if s = j :: r ∧ mkA (Ls k s) = none then some (nI 1, nI 0) else ctS (Ls k s)) := by
  have T := W.2.2.2.2.2.2.2.1 k hk
  have U := W.2.2.2.2.2.2.2.2.in hk
  obtain ⟨-, hb, -⟩ := seH_of T r h1 h9
  obtain ⟨s, v, b, f, e1, e2, e3⟩ := hb q.1 (by rw [hr]; rfl)
  have e4 := (T.1 r q hr).symm.trans e1
  obtain ⟨x1, x2, x3⟩ : q.2.1 = s ∧ q.2.2.1 = v ∧ q.2.2.2 = b := by
    have e5 : [Value.int q.2.1, Value.int q.2.2.1, va_rf q.2.2.2] = [Value.int s, Value.int v, va_rf b] := congrArg Prod.snd (Sum.inr.inj (Option.some.inj e4))
    injection e5 with y1 y2; injection y2 with y2 y3; injection y3 with y3 _
    injection y1 with y1; injection y2 with y2
    refine ⟨y1, y2, ?_⟩
    cases hq3 : q.2.2.2 <;> cases b <;> rw [hq3] at y3 <;> first | rfl | cases y3 | skip
    rfl
  subst x1; subst x2; subst x3
  have M := c_M_atOrNew l D aC h q.1 j q.2.1 q.2.2.1 q.2.2.2 f e1 e2 h1 h9
  rw [e3] at M
  refine zz_post M (fun r' h' hp => ?_)
  rcases hp with ⟨c, hc, rfl, rfl⟩ | ⟨hc, q2, qr, hq2, rfl, rfl, hqr⟩
  · cases hu : Ls k (j :: r) with
    | none => rw [hu] at hc; cases hc
    | some q' =>
      rw [hu] at hc; cases hc
      refine ⟨Ls k, q', rfl, by rw [lyU_self]; exact W, hu, fun s => ?_⟩
      rw [if_neg]; rintro ⟨rfl, h2⟩; rw [hu] at h2; cases h2
  · have hu : Ls k (j :: r) = none := by
      cases hu : Ls k (j :: r) with
      | none => rfl
      | some q' => rw [hu] at hc; cases hc
    have nf : ∀ x e, h x = some e → x ≠ q2 := fun x e hx z => by rw [z, hq2] at hx; cases hx
    obtain ⟨c, g, H1, H2, H3, H3j, H3o, H4, H5⟩ : ∃ (c : Nat) (g : Nat → Option Nat), hangF (va_up h q2 (some (mkE (nI 1) (nI 0) none))) aC q.1 q.2.1 q.2.2.1 q.2.2.2 f j (some q2) qr q2 = some (mkE (nI 1) (nI 0) none) ∧ hangF (va_up h q2 (some (mkE (nI 1) (nI 0) none))) aC q.1 q.2.1 q.2.2.1 q.2.2.2 f j (some q2) qr q.1 = some (mkE q.2.1 q.2.2.1 (some c)) ∧ hangF (va_up h q2 (some (mkE (nI 1) (nI 0) none))) aC q.1 q.2.1 q.2.2.1 q.2.2.2 f j (some q2) qr c = some (maE aC 10 g) ∧ g j = some q2 ∧ (∀ i, 1 ≤ i → i ≤ 9 → i ≠ j → g i = mkA (Ls k (i :: r))) ∧ (∀ x e, h x = some e → x ≠ q.1 → q.2.2.2 ≠ some x → hangF (va_up h q2 (some (mkE (nI 1) (nI 0) none))) aC q.1 q.2.1 q.2.2.1 q.2.2.2 f j (some q2) qr x = some e) ∧ (q.2.2.2 = some c ∨ h c = none) := by
      cases hb : q.2.2.2 with
      | some c =>
        obtain ⟨g, hg, hgj⟩ := T.2.1 r q c hr hb
        have hfg : f = g := by
          have z := (e2 c hb).symm.trans hg
          exact (va_fun (Option.some.inj z))
        subst hfg
        have hqc : q.1 ≠ c := ne_k e1 hg (by rw [ki_mk, ki_ma]; decide)
        refine ⟨c, va_up f j (some q2), ?_, ?_, va_up_self _ _ _, va_up_self _ _ _, fun i i1 i9 hi => by rw [va_up_ne _ _ hi]; exact hgj i i1 i9, fun x e hx n1 n2 => ?_, Or.inl rfl⟩
        · show va_up _ c _ q2 = _
          rw [va_up_ne _ _ (fun z => nf c _ hg z.symm), va_up_self]
        · show va_up _ c _ q.1 = _
          rw [va_up_ne _ _ hqc, va_up_ne _ _ (nf _ _ e1), e1, hb]
        · show va_up _ c _ x = _
          rw [va_up_ne _ _ (fun z => n2 (by rw [z])), va_up_ne _ _ (nf x e hx)]; exact hx
      | none =>
        obtain ⟨z1, z2⟩ := hqr hb
        have hqq : q.1 ≠ qr := fun z => by rw [z, z1] at e1; cases e1
        refine ⟨qr, va_up (fun _ => none) j (some q2), ?_, ?_, va_up_self _ _ _, va_up_self _ _ _, fun i i1 i9 hi => by rw [va_up_ne _ _ hi, T.2.2.1 r q i hr hb]; rfl, fun x e hx n1 n2 => ?_, Or.inr z1⟩
        · show va_up (va_up _ q.1 _) qr _ q2 = _
          rw [va_up_ne _ _ (Ne.symm z2), va_up_ne _ _ (fun z => nf _ _ e1 z.symm), va_up_self]
        · show va_up (va_up _ q.1 _) qr _ q.1 = _
          rw [va_up_ne _ _ hqq, va_up_self]
        · show va_up (va_up _ q.1 _) qr _ x = _
          rw [va_up_ne _ _ (fun z => by rw [z, z1] at hx; cases hx), va_up_ne _ _ n1, va_up_ne _ _ (nf x e hx)]; exact hx
    generalize hangF (va_up h q2 (some (mkE (nI 1) (nI 0) none))) aC q.1 q.2.1 q.2.2.1 q.2.2.2 f j (some q2) qr = h' at H1 H2 H3 H4 ⊢
    refine ⟨adU (Ls k) r j q c q2, (q2, nI 1, nI 0, none), rfl, ?_, adU_j, fun s => ?_⟩
    · refine W.top hk (fun x e hx hn => H4 x e hx (hn r q hr).1 (hn r q hr).2) (adU_T T U hr hu h1 h9 hl H1 H2 H3 H3j H3o H4) ?_ (fun s q0 hs => ?_) (fun s q0 c0 hs hc0 => ?_) (adU_in U hr (fun s q0 hs => nf _ _ (T.1 s q0 hs)) (fun s q0 hs hsr hcc => ?_))
      · by_cases e : r = []
        · subst e; rw [adU_r, hr]; rfl
        · rw [adU_o (by simp) (fun z => e z.symm)]
      · by_cases ea : s = j :: r
        · subst ea; rw [adU_j] at hs; cases hs; exact Or.inr hq2
        · by_cases eb : s = r
          · subst eb; rw [adU_r] at hs; cases hs; exact Or.inl ⟨q, hr, rfl⟩
          · rw [adU_o ea eb] at hs; exact Or.inl ⟨q0, hs, rfl⟩
      · by_cases ea : s = j :: r
        · subst ea; rw [adU_j] at hs; cases hs; cases hc0
        · by_cases eb : s = r
          · subst eb; rw [adU_r] at hs; cases hs; cases hc0
            rcases H5 with h5 | h5
            · exact Or.inl ⟨q, hr, h5⟩
            · exact Or.inr h5
          · rw [adU_o ea eb] at hs; exact Or.inl ⟨q0, hs, hc0⟩
      · rcases H5 with h5 | h5
        · exact hsr (U.2 s r q0 q c hs hr hcc h5)
        · obtain ⟨g2, hg2, -⟩ := T.2.1 s q0 c hs hcc
          rw [hg2] at h5; cases h5
    · by_cases ea : s = j :: r
      · subst ea; rw [adU_j, hu, if_pos ⟨rfl, rfl⟩]; rfl
      · rw [if_neg (fun z => ea z.1)]
        by_cases eb : s = r
        · subst eb; rw [adU_r, hr]; rfl
        · rw [adU_o ea eb]
end SM
/-- the words of a layer once the mark at R says s, v -/
def stC (cc : List Nat → Option (Int32 × Int32)) (R : List Nat) (s v : Int32) (x : List Nat) : Option (Int32 × Int32) := if x = R then some (s, v) else if x <:+ R ∧ cc x = none then some (nI 1, nI 0) else cc x
theorem mkA_ct (m : Option zMk) : mkA m = none ↔ ctS m = none := by cases m <;> simp [mkA, ctS]
theorem anC_st {u : List Nat → Option zMk} {R x : List Nat} (hx : x ≠ R) (s v : Int32) : anC u R x = stC (fun y => ctS (u y)) R s v x := by
  unfold anC stC
  rw [if_neg hx]
  by_cases c : x <:+ R ∧ mkA (u x) = none
  · rw [if_pos c, if_pos ⟨c.1, (mkA_ct _).mp c.2⟩]
  · rw [if_neg c, if_neg (fun z => c ⟨z.1, (mkA_ct _).mpr z.2⟩)]
theorem nm1 {g j : Nat} (h0 : ¬ j = 0) (h9 : j ≤ 9) : nmF (g + 1) j = [j] := by
  rw [nmF_s g h0, show j / 10 = 0 by omega, nmF_0, show j % 10 = j by omega]
set_option maxHeartbeats 4000000 in
theorem c_T_setMark (l : Launch) (D : va_G) (aC : Nat → ClassId) (h : zz_Hp) (t la sa : Nat) (A : zA5) (m : Nat) (Ls : zLs) (W : tW h aC t la sa A (m + 1) Ls) (jj : Nat) (s v : Int32) (hj0 : ¬ jj = 0) (hj : jj ≤ 9999 ∧ pok jj = true) :
    zz_Ct l D aC y_T_setMark (zrm 4 8 52 90) [.ref t, .int (nI jj), .int s, .int v] h (fun r' h' => r' = .inl none ∧ ∃ u, tW h' aC t la sa A (m + 1) (lyU Ls m u) ∧ ∀ x, ctS (u x) = stC (fun y => ctS (Ls m y)) (rp jj) s v x) := by
  refine zz_ct md_T_setMark rfl (by simp [Value.category]) (Nat.le_of_ble_eq_true rfl) fun K C E hI => ?_
  obtain rfl := E.ac
  obtain ⟨hj9, hok⟩ := hj
  have fin : ∀ (d j : Nat) (r : List Nat) (hc : zz_Hp) (u : List Nat → Option zMk) (q : zMk), d ≤ 3 → 1 ≤ j → j ≤ 9 → j :: r = rp jj → r.length = d → tW hc (zz_ac K) t la sa A (m + 1) (lyU Ls m u) → u r = some q → (∀ x, ctS (u x) = anC (Ls m) r x) → zz_Z K (zz_End K h (fun r' h' => r' = .inl none ∧ ∃ u, tW h' (zz_ac K) t la sa A (m + 1) (lyU Ls m u) ∧ ∀ x, ctS (u x) = stC (fun y => ctS (Ls m y)) (rp jj) s v x)) h hc (2 * d) (13 * d) 57 [some (.ref t), some (.int (nI jj)), some (.int s), some (.int v), some (.ref q.1), some (.int (nI j)), some (.int (nI (d + 1)))] [] := by
    intro d j r hc u q hd3 j1 j9 hR hlen W2 hq hct
    have hq2 : lyU Ls m u m r = some q := by rw [lyU_k]; exact hq
    refine zz_go C [(57, .aload 4), (59, .iload 5)] (by decide +kernel) (pc' := 61) (lv' := [some (.ref t), some (.int (nI jj)), some (.int s), some (.int v), some (.ref q.1), some (.int (nI j)), some (.int (nI (d + 1)))]) (st' := [.int (nI j), .ref q.1]) rfl ?_
    refine zz_cV C E (ci := 0) (As := [.int (nI j)]) (rest := []) (hc := hc) md_M_atOrNew (c_atOrNew l D W2 (Nat.lt_succ_self m) hq2 j1 j9 (by omega)) ml_T_151 im_M_atOrNew se_M_atOrNew rfl ((W2.2.2.2.2.2.2.2.1 m (Nat.lt_succ_self m)).1 r q hq2) (fun _ _ q => q) rfl rfl (Nat.le_of_ble_eq_true rfl) ⟨by decide, by decide⟩ ⟨by show 2 * d + 2 ≤ 8; omega, by show 13 * d + 13 ≤ 52; omega⟩ (by decide +kernel) (fun v1 h1 hp hn hd => ?_) (fun v1 h1 hp hn hd => ?_)
    · rw [zz_mix_self hd]
      obtain ⟨u1, q1, hv, W3, hu1, hct1⟩ := hp
      cases hv
      show zz_Z _ _ _ _ _ _ _ [some (.ref t), some (.int (nI jj)), some (.int s), some (.int v), some (.ref q.1), some (.int (nI j)), some (.int (nI (d + 1)))] [.ref q1.1]
      rw [lyU_lyU] at W3
      rw [lyU_k] at hct1
      have hu2 : lyU Ls m u1 m (j :: r) = some q1 := by rw [lyU_k]; exact hu1
      have hm1 := (W3.2.2.2.2.2.2.2.1 m (Nat.lt_succ_self m)).1 _ q1 hu2
      refine zz_go C [(64, .astore 6), (66, .aload 6), (68, .iload_n 2)] (by decide +kernel) (pc' := 69) (lv' := [some (.ref t), some (.int (nI jj)), some (.int s), some (.int v), some (.ref q.1), some (.int (nI j)), some (.ref q1.1)]) (st' := [.int s, .ref q1.1]) rfl ?_
      refine zz_putf C fd_T_111 hm1 rfl rfl (Nat.le_of_ble_eq_true rfl) (by decide +kernel) ?_
      refine zz_go C [(72, .aload 6), (74, .iload_n 3)] (by decide +kernel) (pc' := 75) (lv' := [some (.ref t), some (.int (nI jj)), some (.int s), some (.int v), some (.ref q.1), some (.int (nI j)), some (.ref q1.1)]) (st' := [.int v, .ref q1.1]) rfl ?_
      refine zz_putf C fd_T_154 (va_up_self _ _ _) rfl rfl (Nat.le_of_ble_eq_true rfl) (by decide +kernel) ?_
      rw [bx_uu]
      have W4 := W3.set (h' := va_up h1 q1.1 (some (mkE s v q1.2.2.2))) (Nat.lt_succ_self m) hu2 (by simp) (va_up_self _ _ _) (fun x e hx hn => by rw [va_up_ne _ _ hn]; exact hx)
      rw [lyU_lyU, lyU_k] at W4
      exact zr_v C E (by show 2 * d + 2 ≤ 8; omega) (by show 13 * d + 13 ≤ 52; omega) (by decide +kernel) ⟨rfl, _, W4, fun x => by
        by_cases e : x = j :: r
        · subst e; rw [stU_r, hR, stC, if_pos rfl]; rfl
        · rw [stU_o e, anC_s hct1 hct, hR]; exact anC_st (by rw [← hR]; exact e) s v⟩
    · obtain ⟨_, _, hv, _⟩ := hp; cases hv
  have loop : ∀ (g d j : Nat) (r : List Nat) (hc : zz_Hp) (u : List Nat → Option zMk) (q : zMk), d + g = 3 → ¬ j = 0 → j < 10 ^ (g + 1) → (nmF (g + 1) j).all nz = true → (nmF (g + 1) j).reverse ++ r = rp jj → r.length = d → tW hc (zz_ac K) t la sa A (m + 1) (lyU Ls m u) → u r = some q → (∀ x, ctS (u x) = anC (Ls m) r x) → zz_Z K (zz_End K h (fun r' h' => r' = .inl none ∧ ∃ u, tW h' (zz_ac K) t la sa A (m + 1) (lyU Ls m u) ∧ ∀ x, ctS (u x) = stC (fun y => ctS (Ls m y)) (rp jj) s v x)) h hc (2 * d) (13 * d) 19 [some (.ref t), some (.int (nI jj)), some (.int s), some (.int v), some (.ref q.1), some (.int (nI j)), some (.int (nI (d + 1)))] [] := by
    intro g
    induction g with
    | zero =>
      intro d j r hc u q hdg hj0 hj hnz hR hlen W2 hq hct
      have hj2 := p10 (show _ ≤ 4 by omega) hj
      refine zz_go C [(19, .iload 6), (21, .iconst 4)] (by decide +kernel) (pc' := 22) (lv' := [some (.ref t), some (.int (nI jj)), some (.int s), some (.int v), some (.ref q.1), some (.int (nI j)), some (.int (nI (d + 1)))]) (st' := [.int (nI 4), .int (nI (d + 1))]) rfl ?_
      refine zz_if C (i := .if_icmp .ge 35) (by decide +kernel) (Pt := (nI 4) ≤ (nI (d + 1))) (Pf := ¬ (nI 4) ≤ (nI (d + 1))) (off := 35) (r := []) (tgt := 57) rfl (by decide) (fun cA => ?_) (fun cA => ?_)
      · exact fin d j r hc u q (by omega) (by omega) (by omega) (by rw [← hR, nm1 hj0 (by omega)]; rfl) hlen W2 hq hct
      · exact absurd (nI_le (by omega) (by omega)) cA
    | succ g ih =>
      intro d j r hc u q hdg hj0 hj hnz hR hlen W2 hq hct
      have hj2 := p10 (show _ ≤ 4 by omega) hj
      refine zz_go C [(19, .iload 6), (21, .iconst 4)] (by decide +kernel) (pc' := 22) (lv' := [some (.ref t), some (.int (nI jj)), some (.int s), some (.int v), some (.ref q.1), some (.int (nI j)), some (.int (nI (d + 1)))]) (st' := [.int (nI 4), .int (nI (d + 1))]) rfl ?_
      refine zz_if C (i := .if_icmp .ge 35) (by decide +kernel) (Pt := (nI 4) ≤ (nI (d + 1))) (Pf := ¬ (nI 4) ≤ (nI (d + 1))) (off := 35) (r := []) (tgt := 57) rfl (by decide) (fun cA => ?_) (fun cA => ?_)
      · exact absurd ((nI_leI (by omega) (by omega)).mp cA) (by omega)
      · refine zz_go C [(25, .iload 5), (27, .bipush 9)] (by decide +kernel) (pc' := 29) (lv' := [some (.ref t), some (.int (nI jj)), some (.int s), some (.int v), some (.ref q.1), some (.int (nI j)), some (.int (nI (d + 1)))]) (st' := [.int (nI 9), .int (nI j)]) rfl ?_
        refine zz_if C (i := .if_icmp .le 28) (by decide +kernel) (Pt := (nI j) ≤ (nI 9)) (Pf := ¬ (nI j) ≤ (nI 9)) (off := 28) (r := []) (tgt := 57) rfl (by decide) (fun cB => ?_) (fun cB => ?_)
        · have j9 := (nI_leI (by omega) (by decide)).mp cB
          exact fin d j r hc u q (by omega) (by omega) j9 (by rw [← hR, nm1 hj0 j9]; rfl) hlen W2 hq hct
        · have j9 : ¬ j ≤ 9 := fun z => cB (nI_le z (by decide))
          rw [nmF_s _ hj0] at hnz hR
          rw [List.all_cons, Bool.and_eq_true] at hnz
          have hx0 : ¬ j % 10 = 0 := of_decide_eq_true hnz.1
          have hq2 : lyU Ls m u m r = some q := by rw [lyU_k]; exact hq
          refine zz_go C [(32, .aload 4), (34, .iload 5), (36, .bipush 10), (38, .irem)] (by decide +kernel) (pc' := 39) (lv' := [some (.ref t), some (.int (nI jj)), some (.int s), some (.int v), some (.ref q.1), some (.int (nI j)), some (.int (nI (d + 1)))]) (st' := [.int ((nI j) - (nI j) / (nI 10) * (nI 10)), .ref q.1]) rfl ?_
          rw [pk_rem (show j < 2 ^ 31 by omega) (by decide) (by decide)]
          refine zz_cV C E (ci := 0) (As := [.int (nI (j % 10))]) (rest := []) (hc := hc) md_M_atOrNew (c_atOrNew l D W2 (Nat.lt_succ_self m) hq2 (show 1 ≤ j % 10 by omega) (by omega) (by omega)) ml_T_151 im_M_atOrNew se_M_atOrNew rfl ((W2.2.2.2.2.2.2.2.1 m (Nat.lt_succ_self m)).1 r q hq2) (fun _ _ q => q) rfl rfl (Nat.le_of_ble_eq_true rfl) ⟨by decide, by decide⟩ ⟨by show 2 * d + 2 ≤ 8; omega, by show 13 * d + 13 ≤ 52; omega⟩ (by decide +kernel) (fun v1 h1 hp hn hd => ?_) (fun v1 h1 hp hn hd => ?_)
          · rw [zz_mix_self hd]
            obtain ⟨u1, q1, hv, W3, hu1, hct1⟩ := hp
            cases hv
            show zz_Z _ _ _ _ _ _ _ [some (.ref t), some (.int (nI jj)), some (.int s), some (.int v), some (.ref q.1), some (.int (nI j)), some (.int (nI (d + 1)))] [.ref q1.1]
            rw [lyU_lyU] at W3
            rw [lyU_k] at hct1
            refine zz_go C [(42, .astore 4), (44, .iload 5), (46, .bipush 10), (48, .idiv), (49, .istore 5), (51, .iinc 6 1), (54, .goto (-35))] (by decide +kernel) (pc' := 19) (lv' := [some (.ref t), some (.int (nI jj)), some (.int s), some (.int v), some (.ref q1.1), some (.int ((nI j) / (nI 10))), some (.int ((nI (d + 1)) + (nI 1)))]) (st' := []) rfl ?_
            rw [pk_div (show j < 2 ^ 31 by omega) (by decide) (by decide), show nI (d + 1) + nI 1 = nI (d + 1 + 1) from nI_add (d + 1) 1]
            refine zz_widen (k' := 2 * (d + 1)) (n' := 13 * (d + 1)) (by show 2 * d + 2 ≤ _; omega) (by show 13 * d + 13 ≤ _; omega) ?_
            exact ih (d + 1) (j / 10) (j % 10 :: r) h1 u1 q1 (by omega) (by omega) (lt10 hj) hnz.2 (by rw [← hR, List.reverse_cons, List.append_assoc]; rfl) (by rw [List.length_cons, hlen]) W3 hu1 (anC_s hct1 hct)
          · obtain ⟨_, _, hv, _⟩ := hp; cases hv
  obtain ⟨Lr, hla, hroot⟩ := la_root W
  obtain ⟨q, hq, hLr⟩ := hroot m (Nat.lt_succ_self m)
  have n8 := W.1.2
  refine zz_go C [(0, .aload_n 0)] (by decide +kernel) (pc' := 1) (lv' := [some (.ref t), some (.int (nI jj)), some (.int s), some (.int v), none, none, none]) (st' := [.ref t]) rfl ?_
  refine zz_get C fd_T_11 W.2.2.2.1 (v := .ref la) rfl (by decide +kernel) ?_
  refine zz_go C [(4, .aload_n 0)] (by decide +kernel) (pc' := 5) (lv' := [some (.ref t), some (.int (nI jj)), some (.int s), some (.int v), none, none, none]) (st' := [.ref t, .ref la]) rfl ?_
  refine zz_get C fd_T_18 W.2.2.2.1 (v := .int (nI (m + 1))) rfl (by decide +kernel) ?_
  refine zz_go C [(8, .iconst 1), (9, .isub)] (by decide +kernel) (pc' := 10) (lv' := [some (.ref t), some (.int (nI jj)), some (.int s), some (.int v), none, none, none]) (st' := [.int ((nI (m + 1)) - (nI 1)), .ref la]) rfl ?_
  rw [show nI (m + 1) - nI 1 = nI m from nI_pred m]
  refine ga_qld C hla (by omega) (by decide) (by decide +kernel) ?_
  rw [hLr]
  show zz_Z _ _ _ _ _ _ _ [some (.ref t), some (.int (nI jj)), some (.int s), some (.int v), none, none, none] [.ref q.1]
  refine zz_go C [(11, .astore 4), (13, .iload_n 1), (14, .istore 5), (16, .iconst 1), (17, .istore 6)] (by decide +kernel) (pc' := 19) (lv' := [some (.ref t), some (.int (nI jj)), some (.int s), some (.int v), some (.ref q.1), some (.int (nI jj)), some (.int (nI 1))]) (st' := []) rfl ?_
  exact loop 3 0 jj [] h (Ls m) q rfl hj0 (by omega) hok (List.append_nil _) rfl (by rw [lyU_self]; exact W) hq (fun x => (anC_0 hq x).symm)
