/-! ===== what a sight sees ===== -/
/-- a mark of a layer: its place, its sort, its value, its row -/
abbrev zMk := Nat × Int32 × Int32 × Option Nat
def mkA (m : Option zMk) : Option Nat := m.map fun q => q.1
def mkS (m : Option zMk) : Int32 := match m with
  | some q => q.2.1
  | none => 0
def mkV (m : Option zMk) : Int32 := match m with
  | some q => q.2.2.1
  | none => 0
def nxK (P : Nat → Int32) (S : Nat → Bool) (m : Nat → Option zMk) : Nat → Int32
  | 0 => -1
  | i + 1 => alK (P (i + 1)) (bI (S i)) (mkA (m i)) (mkS (m i)) (nxK P S m i)
def nxV (m : Nat → Option zMk) : Nat → Int32
  | 0 => 0
  | i + 1 => if mkA (m i) = none then nxV m i else mkV (m i)
def nxS (P : Nat → Int32) (S : Nat → Bool) (m : Nat → Option zMk) (i : Nat) : Bool := alS (bI (S i)) (mkA (m i)) (mkS (m i)) (nxK P S m i)
def sgG (n : Nat) (Kd Vl : Nat → Int32) (Fd : Nat → Option Nat) (Sh : Nat → Int32) (VK : Nat → Int32) (VS : Nat → Bool) (VV : Nat → Int32) (Ad : Nat → Option Nat) : Prop := (∀ i, i ≤ n → Kd i = VK i) ∧ (∀ i, i < n → Fd i = Ad i ∧ Sh i = bI (VS i)) ∧ ∀ i, i ≤ n → VK i = 0 → Vl i = VV i
def sgS (h : zz_Hp) (aC : Nat → ClassId) (k v f s n : Nat) (VK : Nat → Int32) (VS : Nat → Bool) (VV : Nat → Int32) (Ad : Nat → Option Nat) : Prop := ∃ (Kd Vl : Nat → Int32) (Fd : Nat → Option Nat) (Sh : Nat → Int32), (h k = some (iaE aC 9 Kd) ∧ h v = some (iaE aC 9 Vl) ∧ h f = some (maE aC 8 Fd) ∧ h s = some (zaE aC 8 Sh)) ∧ sgG n Kd Vl Fd Sh VK VS VV Ad
theorem bI_0 (b : Bool) : bI b = 0 ↔ b = false := by cases b <;> decide
theorem sgG_step {i : Nat} {Kd Vl Sh PK PS P : Nat → Int32} {Fd : Nat → Option Nat} {S : Nat → Bool} {m : Nat → Option zMk} (G : sgG i Kd Vl Fd Sh (nxK P S m) (nxS P S m) (nxV m) (fun j => mkA (m j))) (h1 : PK (i + 1) = P (i + 1)) (h2 : PS i = bI (S i)) :
    sgG (i + 1) (upd Kd (i + 1) (alK (PK (i + 1)) (PS i) (mkA (m i)) (mkS (m i)) (Kd i))) (upd Vl (i + 1) (alV (PK (i + 1)) (PS i) (mkA (m i)) (mkV (m i)) (Vl i) (Vl (i + 1)))) (va_up Fd i (mkA (m i))) (upd Sh i (bI (alS (PS i) (mkA (m i)) (mkS (m i)) (Kd i)))) (nxK P S m) (nxS P S m) (nxV m) (fun j => mkA (m j)) := by
  obtain ⟨g1, g2, g3⟩ := G
  have e0 := g1 i (Nat.le_refl i)
  refine ⟨fun j hj => ?_, fun j hj => ?_, fun j hj hz => ?_⟩
  · by_cases e : j = i + 1
    · subst e; rw [upd_at, h1, h2, e0]; rfl
    · rw [upd_ne _ _ e]; exact g1 j (by omega)
  · by_cases e : j = i
    · subst e; rw [va_up_self, upd_at, h2, e0]; exact ⟨rfl, rfl⟩
    · rw [va_up_ne _ _ e, upd_ne _ _ e]; exact g2 j (by omega)
  · by_cases e : j = i + 1
    · subst e
      rw [upd_at, h1, h2]
      have hz' : alK (P (i + 1)) (bI (S i)) (mkA (m i)) (mkS (m i)) (nxK P S m i) = 0 := hz
      unfold alK at hz'
      unfold alV
      show _ = if mkA (m i) = none then nxV m i else mkV (m i)
      by_cases c1 : P (i + 1) = nI 1
      · rw [if_pos c1] at hz' ⊢
        by_cases c2 : mkA (m i) = none
        · rw [if_pos c2] at hz' ⊢
          rw [if_pos c2]
          by_cases c3 : bI (S i) = 0
          · rw [if_pos c3] at hz'; exact absurd hz' (by decide)
          · rw [if_neg c3] at hz' ⊢; exact g3 i (Nat.le_refl i) hz'
        · rw [if_neg c2, if_neg c2]
      · rw [if_neg c1] at hz'; exact absurd hz' (by decide)
    · rw [upd_ne _ _ e]; exact g3 j (by omega) hz
def zEl (e : va_E) : Nat := match e with
  | .inl y => y.2.1
  | .inr _ => 0
theorem sgN_len {h : zz_Hp} {aC : Nat → ClassId} {k v f s c : Nat} {Kd Vl Sh : Nat → Int32} {Fd : Nat → Option Nat} {e : va_E} (hk : h k = some (iaE aC 9 Kd)) (hv : h v = some (iaE aC 9 Vl)) (hf : h f = some (maE aC 8 Fd)) (hs : h s = some (zaE aC 8 Sh)) (hc : h c = some e) (h8 : zEl e ≠ 8) (h9 : zEl e ≠ 9) : sgN c k v f s :=
  ⟨fun q => by rw [q, hk] at hc; exact h9 (Option.some.inj hc ▸ rfl), fun q => by rw [q, hv] at hc; exact h9 (Option.some.inj hc ▸ rfl), fun q => by rw [q, hf] at hc; exact h8 (Option.some.inj hc ▸ rfl), fun q => by rw [q, hs] at hc; exact h8 (Option.some.inj hc ▸ rfl)⟩
theorem sgN_mk {h : zz_Hp} {aC : Nat → ClassId} {k v f s c : Nat} {Kd Vl Sh : Nat → Int32} {Fd : Nat → Option Nat} {x : Nat × List Value} (hk : h k = some (iaE aC 9 Kd)) (hv : h v = some (iaE aC 9 Vl)) (hf : h f = some (maE aC 8 Fd)) (hs : h s = some (zaE aC 8 Sh)) (hc : h c = some (.inr x)) : sgN c k v f s := sgN_len hk hv hf hs hc (fun e => absurd (show (0 : Nat) = 8 from e) (by decide)) (fun e => absurd (show (0 : Nat) = 9 from e) (by decide))
theorem sgN_rw {h : zz_Hp} {aC : Nat → ClassId} {k v f s c : Nat} {Kd Vl Sh : Nat → Int32} {Fd g : Nat → Option Nat} (hk : h k = some (iaE aC 9 Kd)) (hv : h v = some (iaE aC 9 Vl)) (hf : h f = some (maE aC 8 Fd)) (hs : h s = some (zaE aC 8 Sh)) (hc : h c = some (maE aC 10 g)) : sgN c k v f s := sgN_len hk hv hf hs hc (fun e => absurd (show (10 : Nat) = 8 from e) (by decide)) (fun e => absurd (show (10 : Nat) = 9 from e) (by decide))
/-- what a layer has at a name below a place -/
def seH (h : zz_Hp) (aC : Nat → ClassId) (x : Int32) (pa : Option Nat) (m : Option zMk) : Prop := (pa = none → m = none) ∧ (∀ a, pa = some a → ∃ (s v : Int32) (b : Option Nat) (f : Nat → Option Nat), h a = some (mkE s v b) ∧ (∀ q, b = some q → h q = some (maE aC 10 f)) ∧ atF b f x = mkA m) ∧ ∀ q, m = some q → h q.1 = some (mkE q.2.1 q.2.2.1 q.2.2.2)
set_option maxHeartbeats 4000000 in
theorem c_S_see (l : Launch) (D : va_G) (aC : Nat → ClassId) (h : zz_Hp) (o k v f s po pk pv pf ps n : Nat) (x : Int32) (P : Nat → Int32) (S : Nat → Bool) (PV : Nat → Int32) (PA : Nat → Option Nat) (m : Nat → Option zMk) (d : sgD k v f s) (no : sgN o k v f s) (ho : h o = some (sgE k v f s)) (hk : ∃ Kd, h k = some (iaE aC 9 Kd)) (hv : ∃ Vl, h v = some (iaE aC 9 Vl)) (hf : ∃ Fd, h f = some (maE aC 8 Fd)) (hs : ∃ Sh, h s = some (zaE aC 8 Sh)) (np : sgN po k v f s) (hpo : h po = some (sgE pk pv pf ps)) (npk : sgN pk k v f s) (npf : sgN pf k v f s) (nps : sgN ps k v f s) (hP : sgS h aC pk pv pf ps n P S PV PA) (hn : n ≤ 8) (hl : ∀ i, i < n → seH h aC x (PA i) (m i)) :
    zz_Ct l D aC y_S_see (zrm 1 0 0 60) [.ref o, .ref po, .int x, .int (nI n)] h (fun r h' => r = .inl none ∧ (∀ a, sgN a k v f s → h' a = h a) ∧ sgS h' aC k v f s n (nxK P S m) (nxS P S m) (nxV m) (fun i => mkA (m i))) := by
  refine zz_ct md_S_see rfl (by simp [Value.category]) (Nat.le_of_ble_eq_true rfl) fun K C E hI => ?_
  obtain rfl := E.ac
  obtain ⟨Kd0, hk⟩ := hk
  obtain ⟨Vl0, hv⟩ := hv
  obtain ⟨Fd0, hf⟩ := hf
  obtain ⟨Sh0, hs⟩ := hs
  obtain ⟨PKd, PVl, PFd, PSh, ⟨hpk, hpv, hpf, hps⟩, pg1, pg2, pg3⟩ := hP
  have loop : ∀ (g i : Nat), i + g = n → ∀ (Kd Vl : Nat → Int32) (Fd : Nat → Option Nat) (Sh : Nat → Int32), sgG i Kd Vl Fd Sh (nxK P S m) (nxS P S m) (nxV m) (fun j => mkA (m j)) → zz_Z K (zz_End K h (fun r h' => r = .inl none ∧ (∀ a, sgN a k v f s → h' a = h a) ∧ sgS h' (zz_ac K) k v f s n (nxK P S m) (nxS P S m) (nxV m) (fun i => mkA (m i)))) h (sgU h (zz_ac K) k v f s Kd Vl Fd Sh) 0 0 10 [some (.ref o), some (.ref po), some (.int x), some (.int (nI n)), some (.int (nI i)), none] [] := by
    intro g
    induction g with
    | zero =>
      intro i hin Kd Vl Fd Sh G
      refine zz_go C [(10, .iload 4), (12, .iload_n 3)] (by decide +kernel) (pc' := 13) (lv' := [some (.ref o), some (.ref po), some (.int x), some (.int (nI n)), some (.int (nI i)), none]) (st' := [.int (nI n), .int (nI i)]) rfl ?_
      refine zz_if C (i := .if_icmp .ge 54) (by decide +kernel) (Pt := (nI n) ≤ (nI i)) (Pf := ¬ (nI n) ≤ (nI i)) (off := 54) (r := []) (tgt := 67) rfl (by decide) (fun cA => ?_) (fun cA => ?_)
      · have hin2 : i = n := by omega
        subst hin2
        exact zr_v C E (by decide) (by decide) (by decide +kernel) (⟨rfl, fun a na => sgU_n na, Kd, Vl, Fd, Sh, ⟨sgU_k, sgU_v d, sgU_f d, sgU_s d⟩, G⟩)
      · exact absurd (nI_le (by omega) (by omega)) cA
    | succ g ih =>
      intro i hin Kd Vl Fd Sh G
      refine zz_go C [(10, .iload 4), (12, .iload_n 3)] (by decide +kernel) (pc' := 13) (lv' := [some (.ref o), some (.ref po), some (.int x), some (.int (nI n)), some (.int (nI i)), none]) (st' := [.int (nI n), .int (nI i)]) rfl ?_
      refine zz_if C (i := .if_icmp .ge 54) (by decide +kernel) (Pt := (nI n) ≤ (nI i)) (Pf := ¬ (nI n) ≤ (nI i)) (off := 54) (r := []) (tgt := 67) rfl (by decide) (fun cA => ?_) (fun cA => ?_)
      · exact absurd ((nI_leI (by omega) (by omega)).mp cA) (by omega)
      · refine zz_go C [(16, .iload 4), (18, .bipush 8)] (by decide +kernel) (pc' := 20) (lv' := [some (.ref o), some (.ref po), some (.int x), some (.int (nI n)), some (.int (nI i)), none]) (st' := [.int (nI 8), .int (nI i)]) rfl ?_
        refine zz_if C (i := .if_icmp .ge 47) (by decide +kernel) (Pt := (nI 8) ≤ (nI i)) (Pf := ¬ (nI 8) ≤ (nI i)) (off := 47) (r := []) (tgt := 67) rfl (by decide) (fun cB => ?_) (fun cB => ?_)
        · exact absurd ((nI_leI (by omega) (by omega)).mp cB) (by omega)
        · obtain ⟨q1, q2, q3⟩ := hl i (by omega)
          have pgi := pg2 i (by omega)
          have J : zz_Z K (zz_End K h (fun r h' => r = .inl none ∧ (∀ a, sgN a k v f s → h' a = h a) ∧ sgS h' (zz_ac K) k v f s n (nxK P S m) (nxS P S m) (nxV m) (fun i => mkA (m i)))) h (sgU h (zz_ac K) k v f s Kd Vl (va_up Fd i (mkA (m i))) Sh) 0 0 54 [some (.ref o), some (.ref po), some (.int x), some (.int (nI n)), some (.int (nI i)), none] [] := by
            refine zz_go C [(54, .aload_n 0), (55, .aload_n 1), (56, .iload 4)] (by decide +kernel) (pc' := 58) (lv' := [some (.ref o), some (.ref po), some (.int x), some (.int (nI n)), some (.int (nI i)), none]) (st' := [.int (nI i), .ref po, .ref o]) rfl ?_
            refine zz_cV C E (ci := 1) (As := [.ref po, .int (nI i)]) (rest := []) (hc := (sgU h (zz_ac K) k v f s Kd Vl (va_up Fd i (mkA (m i))) Sh)) md_S_addLayer (c_S_addLayer l D (zz_ac K) h o k v f s po pk pv pf ps i Kd Vl (va_up Fd i (mkA (m i))) Sh PKd PSh (mkS (m i)) (mkV (m i)) d no ho np hpo npk hpk nps hps (by omega) (fun c hc => by
          rw [va_up_self] at hc
          cases hmi : m i with
          | none => rw [hmi] at hc; cases hc
          | some q =>
            rw [hmi] at hc
            cases hc
            have hq := q3 q hmi
            exact ⟨sgN_mk hk hv hf hs hq, _, hq⟩)) ml_S_32 im_S_addLayer se_S_addLayer rfl ((sgU_n no).trans ho) (fun _ _ q => q) rfl rfl (Nat.le_of_ble_eq_true rfl) ⟨by decide, by decide⟩ ⟨by decide, by decide⟩ (by decide +kernel) (fun v h' hp hn hd => ?_) (fun v h' hp hn hd => ?_)
            · rw [zz_mix_self hd]
              obtain ⟨hh, hv2⟩ := hp
              rw [hh]
              cases hv2
              rw [va_up_self]
              show zz_Z _ _ _ _ _ _ _ _ []
              refine zz_go C [(61, .iinc 4 1), (64, .goto (-54))] (by decide +kernel) (pc' := 10) (lv' := [some (.ref o), some (.ref po), some (.int x), some (.int (nI n)), some (.int ((nI i) + (nI 1))), none]) (st' := []) rfl ?_
              rw [show nI i + nI 1 = nI (i + 1) from nI_add i 1]
              exact ih (i + 1) (by omega) _ _ _ _ (sgG_step G (pg1 (i + 1) (by omega)) pgi.2)
            · cases hp.2
          refine zz_go C [(23, .aload_n 1)] (by decide +kernel) (pc' := 24) (lv' := [some (.ref o), some (.ref po), some (.int x), some (.int (nI n)), some (.int (nI i)), none]) (st' := [.ref po]) rfl ?_
          refine zz_get C fd_S_20 ((sgU_n np).trans hpo) (v := .ref pf) rfl (by decide +kernel) ?_
          refine zz_go C [(27, .iload 4)] (by decide +kernel) (pc' := 29) (lv' := [some (.ref o), some (.ref po), some (.int x), some (.int (nI n)), some (.int (nI i)), none]) (st' := [.int (nI i), .ref pf]) rfl ?_
          refine ga_qld C ((sgU_n npf).trans hpf) (by omega) (by decide) (by decide +kernel) ?_
          rw [pgi.1]
          cases hpa : PA i with
          | none =>
            show zz_Z _ _ _ _ _ _ _ _ [.null]
            refine zz_go C [(30, .astore 5), (32, .aload_n 0)] (by decide +kernel) (pc' := 33) (lv' := [some (.ref o), some (.ref po), some (.int x), some (.int (nI n)), some (.int (nI i)), some (.null)]) (st' := [.ref o]) rfl ?_
            refine zz_get C fd_S_20 ((sgU_n no).trans ho) (v := .ref f) rfl (by decide +kernel) ?_
            refine zz_go C [(36, .iload 4), (38, .aload 5), (40, .ifnonnull 7), (43, .aconst_null), (44, .goto 9)] (by decide +kernel) (pc' := 53) (lv' := [some (.ref o), some (.ref po), some (.int x), some (.int (nI n)), some (.int (nI i)), some (.null)]) (st' := [.null, .int (nI i), .ref f]) rfl ?_
            refine sg_fstN C d (by omega) (by decide +kernel) ?_
            have hmi := q1 hpa
            rw [show (none : Option Nat) = mkA (m i) from by rw [hmi]; rfl]
            exact zz_lv [some (.ref o), some (.ref po), some (.int x), some (.int (nI n)), some (.int (nI i)), none] (fun j u hu => by
            rcases j with _ | _ | _ | _ | _ | _ | j <;> first | exact hu | cases hu) (Nat.le_of_ble_eq_true rfl) J
          | some a =>
            show zz_Z _ _ _ _ _ _ _ _ [.ref a]
            obtain ⟨as, av, ab, af, ha, hb, hat⟩ := q2 a hpa
            have na : sgN a k v f s := sgN_mk hk hv hf hs ha
            refine zz_go C [(30, .astore 5), (32, .aload_n 0)] (by decide +kernel) (pc' := 33) (lv' := [some (.ref o), some (.ref po), some (.int x), some (.int (nI n)), some (.int (nI i)), some (.ref a)]) (st' := [.ref o]) rfl ?_
            refine zz_get C fd_S_20 ((sgU_n no).trans ho) (v := .ref f) rfl (by decide +kernel) ?_
            refine zz_go C [(36, .iload 4), (38, .aload 5), (40, .ifnonnull 7), (47, .aload 5), (49, .iload_n 2)] (by decide +kernel) (pc' := 50) (lv' := [some (.ref o), some (.ref po), some (.int x), some (.int (nI n)), some (.int (nI i)), some (.ref a)]) (st' := [.int x, .ref a, .int (nI i), .ref f]) rfl ?_
            refine zz_cV C E (ci := 0) (As := [.int x]) (rest := [.int (nI i), .ref f]) (hc := (sgU h (zz_ac K) k v f s Kd Vl Fd Sh)) md_M_at (c_M_at l D (zz_ac K) (sgU h (zz_ac K) k v f s Kd Vl Fd Sh) a as av x ab af ((sgU_n na).trans ha) (fun q e => (sgU_n (sgN_rw hk hv hf hs (hb q e))).trans (hb q e))) ml_S_28 im_M_at se_M_at rfl ((sgU_n na).trans ha) (fun _ _ q => q) rfl rfl (Nat.le_of_ble_eq_true rfl) ⟨by decide, by decide⟩ ⟨by decide, by decide⟩ (by decide +kernel) (fun v h' hp hn hd => ?_) (fun v h' hp hn hd => ?_)
            · rw [zz_mix_self hd]
              obtain ⟨hh, hv2⟩ := hp
              rw [hh]
              cases hv2
              rw [hat]
              cases hmi : m i with
              | none =>
                show zz_Z _ _ _ _ _ _ _ _ [.null, .int (nI i), .ref f]
                refine sg_fstN C d (by omega) (by decide +kernel) ?_
                rw [show (none : Option Nat) = mkA (m i) from by rw [hmi]; rfl]
                exact zz_lv [some (.ref o), some (.ref po), some (.int x), some (.int (nI n)), some (.int (nI i)), none] (fun j u hu => by
            rcases j with _ | _ | _ | _ | _ | _ | j <;> first | exact hu | cases hu) (Nat.le_of_ble_eq_true rfl) J
              | some q =>
                show zz_Z _ _ _ _ _ _ _ _ [.ref q.1, .int (nI i), .ref f]
                refine sg_fst C d (by omega) (vs := [.int q.2.1, .int q.2.2.1, va_rf q.2.2.2]) ((sgU_n (sgN_mk hk hv hf hs (q3 q hmi))).trans (q3 q hmi)) (by decide +kernel) ?_
                rw [show some q.1 = mkA (m i) from by rw [hmi]; rfl]
                exact zz_lv [some (.ref o), some (.ref po), some (.int x), some (.int (nI n)), some (.int (nI i)), none] (fun j u hu => by
            rcases j with _ | _ | _ | _ | _ | _ | j <;> first | exact hu | cases hu) (Nat.le_of_ble_eq_true rfl) J
            · cases hp.2
  refine zz_hp (sgU_self d hk hv hf hs).symm ?_
  refine zz_go C [(0, .aload_n 0)] (by decide +kernel) (pc' := 1) (lv' := [some (.ref o), some (.ref po), some (.int x), some (.int (nI n)), none, none]) (st' := [.ref o]) rfl ?_
  refine zz_get C fd_S_9 ((sgU_n no).trans ho) (v := .ref k) rfl (by decide +kernel) ?_
  refine zz_go C [(4, .iconst 0), (5, .iconst (-1))] (by decide +kernel) (pc' := 6) (lv' := [some (.ref o), some (.ref po), some (.int x), some (.int (nI n)), none, none]) (st' := [.int ((-1)), .int (nI 0), .ref k]) rfl ?_
  refine sg_kst C (j := 0) (by decide) (by decide +kernel) ?_
  refine zz_go C [(7, .iconst 0), (8, .istore 4)] (by decide +kernel) (pc' := 10) (lv' := [some (.ref o), some (.ref po), some (.int x), some (.int (nI n)), some (.int (nI 0)), none]) (st' := []) rfl ?_
  exact loop n 0 (by omega) _ _ _ _ ⟨fun j hj => by rw [show j = 0 by omega, upd_at]; rfl, fun j hj => absurd hj (by omega), fun j hj hz => by rw [show j = 0 by omega] at hz; exact absurd (show (-1 : Int32) = 0 from hz) (by decide)⟩
set_option maxHeartbeats 4000000 in
theorem c_S_seeRoot (l : Launch) (D : va_G) (aC : Nat → ClassId) (h : zz_Hp) (o k v f s la n : Nat) (Lr : Nat → Option Nat) (d : sgD k v f s) (no : sgN o k v f s) (ho : h o = some (sgE k v f s)) (hk : ∃ Kd, h k = some (iaE aC 9 Kd)) (hv : ∃ Vl, h v = some (iaE aC 9 Vl)) (hf : ∃ Fd, h f = some (maE aC 8 Fd)) (hs : ∃ Sh, h s = some (zaE aC 8 Sh)) (nla : sgN la k v f s) (hla : h la = some (maE aC 8 Lr)) (hn : n ≤ 8) (hl : ∀ i, i < n → ∃ (a : Nat) (s v : Int32) (b : Option Nat), Lr i = some a ∧ h a = some (mkE s v b)) :
    zz_Ct l D aC y_S_seeRoot (zrm 0 0 0 0) [.ref o, .ref la, .int (nI n)] h (fun r h' => r = .inl none ∧ (∀ a, sgN a k v f s → h' a = h a) ∧ sgS h' aC k v f s n (fun _ => nI 1) (fun _ => true) (fun _ => 0) Lr) := by
  refine zz_ct md_S_seeRoot rfl (by simp [Value.category]) (Nat.le_of_ble_eq_true rfl) fun K C E hI => ?_
  obtain rfl := E.ac
  obtain ⟨Kd0, hk⟩ := hk
  obtain ⟨Vl0, hv⟩ := hv
  obtain ⟨Fd0, hf⟩ := hf
  obtain ⟨Sh0, hs⟩ := hs
  have loop : ∀ (g i : Nat), i + g = n → ∀ (Kd Vl : Nat → Int32) (Fd : Nat → Option Nat) (Sh : Nat → Int32), sgG i Kd Vl Fd Sh (fun _ => nI 1) (fun _ => true) (fun _ => 0) Lr → zz_Z K (zz_End K h (fun r h' => r = .inl none ∧ (∀ a, sgN a k v f s → h' a = h a) ∧ sgS h' (zz_ac K) k v f s n (fun _ => nI 1) (fun _ => true) (fun _ => 0) Lr)) h (sgU h (zz_ac K) k v f s Kd Vl Fd Sh) 0 0 9 [some (.ref o), some (.ref la), some (.int (nI n)), some (.int (nI i))] [] := by
    intro g
    induction g with
    | zero =>
      intro i hin Kd Vl Fd Sh G
      refine zz_go C [(9, .iload_n 3), (10, .iload_n 2)] (by decide +kernel) (pc' := 11) (lv' := [some (.ref o), some (.ref la), some (.int (nI n)), some (.int (nI i))]) (st' := [.int (nI n), .int (nI i)]) rfl ?_
      refine zz_if C (i := .if_icmp .ge 46) (by decide +kernel) (Pt := (nI n) ≤ (nI i)) (Pf := ¬ (nI n) ≤ (nI i)) (off := 46) (r := []) (tgt := 57) rfl (by decide) (fun cA => ?_) (fun cA => ?_)
      · have hin2 : i = n := by omega
        subst hin2
        exact zr_v C E (by decide) (by decide) (by decide +kernel) (⟨rfl, fun a na => sgU_n na, Kd, Vl, Fd, Sh, ⟨sgU_k, sgU_v d, sgU_f d, sgU_s d⟩, G⟩)
      · exact absurd (nI_le (by omega) (by omega)) cA
    | succ g ih =>
      intro i hin Kd Vl Fd Sh G
      refine zz_go C [(9, .iload_n 3), (10, .iload_n 2)] (by decide +kernel) (pc' := 11) (lv' := [some (.ref o), some (.ref la), some (.int (nI n)), some (.int (nI i))]) (st' := [.int (nI n), .int (nI i)]) rfl ?_
      refine zz_if C (i := .if_icmp .ge 46) (by decide +kernel) (Pt := (nI n) ≤ (nI i)) (Pf := ¬ (nI n) ≤ (nI i)) (off := 46) (r := []) (tgt := 57) rfl (by decide) (fun cA => ?_) (fun cA => ?_)
      · exact absurd ((nI_leI (by omega) (by omega)).mp cA) (by omega)
      · refine zz_go C [(14, .iload_n 3), (15, .bipush 8)] (by decide +kernel) (pc' := 17) (lv' := [some (.ref o), some (.ref la), some (.int (nI n)), some (.int (nI i))]) (st' := [.int (nI 8), .int (nI i)]) rfl ?_
        refine zz_if C (i := .if_icmp .ge 40) (by decide +kernel) (Pt := (nI 8) ≤ (nI i)) (Pf := ¬ (nI 8) ≤ (nI i)) (off := 40) (r := []) (tgt := 57) rfl (by decide) (fun cB => ?_) (fun cB => ?_)
        · exact absurd ((nI_leI (by omega) (by omega)).mp cB) (by omega)
        · refine zz_go C [(20, .iload_n 3), (21, .aload_n 1)] (by decide +kernel) (pc' := 22) (lv' := [some (.ref o), some (.ref la), some (.int (nI n)), some (.int (nI i))]) (st' := [.ref la, .int (nI i)]) rfl ?_
          refine zz_len_ C 3 (fun _ => rfl) ((sgU_n nla).trans hla) (by decide +kernel) ?_
          show zz_Z _ _ _ _ _ _ _ _ [.int (nI 8), .int (nI i)]
          refine zz_if C (i := .if_icmp .ge 34) (by decide +kernel) (Pt := (nI 8) ≤ (nI i)) (Pf := ¬ (nI 8) ≤ (nI i)) (off := 34) (r := []) (tgt := 57) rfl (by decide) (fun cC => ?_) (fun cC => ?_)
          · exact absurd ((nI_leI (by omega) (by omega)).mp cC) (by omega)
          · obtain ⟨ra, rs, rv, rb, hr, hra⟩ := hl i (by omega)
            refine zz_go C [(26, .aload_n 0)] (by decide +kernel) (pc' := 27) (lv' := [some (.ref o), some (.ref la), some (.int (nI n)), some (.int (nI i))]) (st' := [.ref o]) rfl ?_
            refine zz_get C fd_S_9 ((sgU_n no).trans ho) (v := .ref k) rfl (by decide +kernel) ?_
            refine zz_go C [(30, .iload_n 3), (31, .iconst 1), (32, .iadd), (33, .iconst 1)] (by decide +kernel) (pc' := 34) (lv' := [some (.ref o), some (.ref la), some (.int (nI n)), some (.int (nI i))]) (st' := [.int (nI 1), .int ((nI i) + (nI 1)), .ref k]) rfl ?_
            rw [show nI i + nI 1 = nI (i + 1) from nI_add i 1]
            refine sg_kst C (by omega) (by decide +kernel) ?_
            refine zz_go C [(35, .aload_n 0)] (by decide +kernel) (pc' := 36) (lv' := [some (.ref o), some (.ref la), some (.int (nI n)), some (.int (nI i))]) (st' := [.ref o]) rfl ?_
            refine zz_get C fd_S_20 ((sgU_n no).trans ho) (v := .ref f) rfl (by decide +kernel) ?_
            refine zz_go C [(39, .iload_n 3), (40, .aload_n 1), (41, .iload_n 3)] (by decide +kernel) (pc' := 42) (lv' := [some (.ref o), some (.ref la), some (.int (nI n)), some (.int (nI i))]) (st' := [.int (nI i), .ref la, .int (nI i), .ref f]) rfl ?_
            refine ga_qld C ((sgU_n nla).trans hla) (by omega) (by decide) (by decide +kernel) ?_
            rw [hr]
            show zz_Z _ _ _ _ _ _ _ _ [.ref ra, .int (nI i), .ref f]
            refine sg_fst C d (by omega) (vs := [.int rs, .int rv, va_rf rb]) ((sgU_n (sgN_mk hk hv hf hs hra)).trans hra) (by decide +kernel) ?_
            refine zz_go C [(44, .aload_n 0)] (by decide +kernel) (pc' := 45) (lv' := [some (.ref o), some (.ref la), some (.int (nI n)), some (.int (nI i))]) (st' := [.ref o]) rfl ?_
            refine zz_get C fd_S_24 ((sgU_n no).trans ho) (v := .ref s) rfl (by decide +kernel) ?_
            refine zz_go C [(48, .iload_n 3), (49, .iconst 1)] (by decide +kernel) (pc' := 50) (lv' := [some (.ref o), some (.ref la), some (.int (nI n)), some (.int (nI i))]) (st' := [.int (nI 1), .int (nI i), .ref s]) rfl ?_
            refine sg_sst C d true (by omega) (by decide +kernel) ?_
            refine zz_go C [(51, .iinc 3 1), (54, .goto (-45))] (by decide +kernel) (pc' := 9) (lv' := [some (.ref o), some (.ref la), some (.int (nI n)), some (.int ((nI i) + (nI 1)))]) (st' := []) rfl ?_
            rw [show nI i + nI 1 = nI (i + 1) from nI_add i 1]
            refine ih (i + 1) (by omega) _ _ _ _ ⟨fun j hj => ?_, fun j hj => ?_, fun j hj hz => absurd (show (1 : Int32) = 0 from hz) (by decide)⟩
            · by_cases e : j = i + 1
              · subst e; rw [upd_at]
              · rw [upd_ne _ _ e]; exact G.1 j (by omega)
            · by_cases e : j = i
              · subst e; rw [va_up_self, upd_at, hr]; exact ⟨rfl, rfl⟩
              · rw [va_up_ne _ _ e, upd_ne _ _ e]; exact G.2.1 j (by omega)
  refine zz_hp (sgU_self d hk hv hf hs).symm ?_
  refine zz_go C [(0, .aload_n 0)] (by decide +kernel) (pc' := 1) (lv' := [some (.ref o), some (.ref la), some (.int (nI n)), none]) (st' := [.ref o]) rfl ?_
  refine zz_get C fd_S_9 ((sgU_n no).trans ho) (v := .ref k) rfl (by decide +kernel) ?_
  refine zz_go C [(4, .iconst 0), (5, .iconst 1)] (by decide +kernel) (pc' := 6) (lv' := [some (.ref o), some (.ref la), some (.int (nI n)), none]) (st' := [.int (nI 1), .int (nI 0), .ref k]) rfl ?_
  refine sg_kst C (j := 0) (by decide) (by decide +kernel) ?_
  refine zz_go C [(7, .iconst 0), (8, .istore_n 3)] (by decide +kernel) (pc' := 9) (lv' := [some (.ref o), some (.ref la), some (.int (nI n)), some (.int (nI 0))]) (st' := []) rfl ?_
  exact loop n 0 (by omega) _ _ _ _ ⟨fun j hj => by rw [show j = 0 by omega, upd_at], fun j hj => absurd hj (by omega), fun j hj hz => absurd (show (1 : Int32) = 0 from hz) (by decide)⟩
