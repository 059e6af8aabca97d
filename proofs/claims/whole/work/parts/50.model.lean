/-! ===== OverlayTreeModel, its world and small methods ===== -/
/-- the number of a path -/
def pnum : List Nat → Nat
  | [] => 0
  | x :: r => pnum r + x * 10 ^ r.length
def pths : List Nat := (List.range 10000).filter fun p => pok p && nz p
def pth (k : Nat) : Nat := pths.getD k 0
def moE (th : Int32) (n : Nat) (ad : Nat → Nat) : va_E := .inr (3, [.int th, .int (nI n), .ref (ad 0), .ref (ad 1), .ref (ad 2), .ref (ad 3), .ref (ad 4), .int (nI 7380), .ref (ad 5), .ref (ad 6)])
/-- the world of the model -/
def mW (h : zz_Hp) (aC : Nat → ClassId) (o : Nat) (ad : Nat → Nat) (th : Int32) (n : Nat) (M V vs sn sh : Nat → Int32) : Prop :=
  (1 ≤ n ∧ n ≤ 8) ∧ ((∀ i j, i < 7 → j < 7 → i ≠ j → ad i ≠ ad j) ∧ ∀ q, q ≤ 9999 → pok q = false → vs q = 0) ∧ h o = some (moE th n ad) ∧ h (ad 0) = some (iaE aC 80000 M) ∧ h (ad 1) = some (iaE aC 80000 V) ∧ h (ad 2) = some (iaE aC 10000 vs) ∧ h (ad 3) = some (iaE aC 10000 sn) ∧ h (ad 4) = some (zaE aC 10000 sh) ∧
  (∃ PA, h (ad 5) = some (iaE aC 7380 PA) ∧ ∀ k, k < 7380 → PA k = nI (pth k)) ∧ ∃ PR, h (ad 6) = some (iaE aC 10000 PR) ∧ ∀ p, p ≤ 9999 → pok p = true → PR p = nI (prN p)
section MW
variable {h : zz_Hp} {aC : Nat → ClassId} {o n : Nat} {ad : Nat → Nat} {th : Int32} {M V vs sn sh : Nat → Int32}
theorem mW.ob (W : mW h aC o ad th n M V vs sn sh) : h o = some (moE th n ad) := W.2.2.1
theorem mW.ne (W : mW h aC o ad th n M V vs sn sh) {a : Nat} {y : ClassId × vp_A} (ha : h a = some (.inl y)) : a ≠ o := fun e => by
  rw [e, W.ob] at ha; cases ha
theorem mW.set (W : mW h aC o ad th n M V vs sn sh) (th' : Int32) {n' : Nat} (hn : 1 ≤ n' ∧ n' ≤ 8) : mW (va_up h o (some (moE th' n' ad))) aC o ad th' n' M V vs sn sh := by
  obtain ⟨w1, ⟨w2, nv⟩, w3, w4, w5, w6, w7, w8, ⟨PA, w9, w9'⟩, PR, w10, w10'⟩ := id W
  exact ⟨hn, ⟨w2, nv⟩, va_up_self _ _ _, by rw [va_up_ne _ _ (W.ne w4)]; exact w4, by rw [va_up_ne _ _ (W.ne w5)]; exact w5, by rw [va_up_ne _ _ (W.ne w6)]; exact w6, by rw [va_up_ne _ _ (W.ne w7)]; exact w7, by rw [va_up_ne _ _ (W.ne w8)]; exact w8, ⟨PA, by rw [va_up_ne _ _ (W.ne w9)]; exact w9, w9'⟩, PR, by rw [va_up_ne _ _ (W.ne w10)]; exact w10, w10'⟩
theorem mW.m (W : mW h aC o ad th n M V vs sn sh) (g : Nat → Int32) : mW (va_up h (ad 0) (some (iaE aC 80000 g))) aC o ad th n g V vs sn sh := by
  obtain ⟨w1, ⟨w2, nv⟩, w3, w4, w5, w6, w7, w8, ⟨PA, w9, w9'⟩, PR, w10, w10'⟩ := id W
  have k : ∀ j, j < 7 → j ≠ 0 → ad j ≠ ad 0 := fun j hj hn => w2 j 0 hj (by decide) hn
  exact ⟨w1, ⟨w2, nv⟩, by rw [va_up_ne _ _ (Ne.symm (W.ne w4))]; exact w3, va_up_self _ _ _, by rw [va_up_ne _ _ (k 1 (by decide) (by decide))]; exact w5, by rw [va_up_ne _ _ (k 2 (by decide) (by decide))]; exact w6, by rw [va_up_ne _ _ (k 3 (by decide) (by decide))]; exact w7, by rw [va_up_ne _ _ (k 4 (by decide) (by decide))]; exact w8, ⟨PA, by rw [va_up_ne _ _ (k 5 (by decide) (by decide))]; exact w9, w9'⟩, PR, by rw [va_up_ne _ _ (k 6 (by decide) (by decide))]; exact w10, w10'⟩
theorem mW.v (W : mW h aC o ad th n M V vs sn sh) (g : Nat → Int32) : mW (va_up h (ad 1) (some (iaE aC 80000 g))) aC o ad th n M g vs sn sh := by
  obtain ⟨w1, ⟨w2, nv⟩, w3, w4, w5, w6, w7, w8, ⟨PA, w9, w9'⟩, PR, w10, w10'⟩ := id W
  have k : ∀ j, j < 7 → j ≠ 1 → ad j ≠ ad 1 := fun j hj hn => w2 j 1 hj (by decide) hn
  exact ⟨w1, ⟨w2, nv⟩, by rw [va_up_ne _ _ (Ne.symm (W.ne w5))]; exact w3, by rw [va_up_ne _ _ (k 0 (by decide) (by decide))]; exact w4, va_up_self _ _ _, by rw [va_up_ne _ _ (k 2 (by decide) (by decide))]; exact w6, by rw [va_up_ne _ _ (k 3 (by decide) (by decide))]; exact w7, by rw [va_up_ne _ _ (k 4 (by decide) (by decide))]; exact w8, ⟨PA, by rw [va_up_ne _ _ (k 5 (by decide) (by decide))]; exact w9, w9'⟩, PR, by rw [va_up_ne _ _ (k 6 (by decide) (by decide))]; exact w10, w10'⟩
theorem mW.w (W : mW h aC o ad th n M V vs sn sh) (g : Nat → Int32) (hg : ∀ q, q ≤ 9999 → pok q = false → g q = 0) : mW (va_up h (ad 2) (some (iaE aC 10000 g))) aC o ad th n M V g sn sh := by
  obtain ⟨w1, ⟨w2, nv⟩, w3, w4, w5, w6, w7, w8, ⟨PA, w9, w9'⟩, PR, w10, w10'⟩ := id W
  have k : ∀ j, j < 7 → j ≠ 2 → ad j ≠ ad 2 := fun j hj hn => w2 j 2 hj (by decide) hn
  exact ⟨w1, ⟨w2, hg⟩, by rw [va_up_ne _ _ (Ne.symm (W.ne w6))]; exact w3, by rw [va_up_ne _ _ (k 0 (by decide) (by decide))]; exact w4, by rw [va_up_ne _ _ (k 1 (by decide) (by decide))]; exact w5, va_up_self _ _ _, by rw [va_up_ne _ _ (k 3 (by decide) (by decide))]; exact w7, by rw [va_up_ne _ _ (k 4 (by decide) (by decide))]; exact w8, ⟨PA, by rw [va_up_ne _ _ (k 5 (by decide) (by decide))]; exact w9, w9'⟩, PR, by rw [va_up_ne _ _ (k 6 (by decide) (by decide))]; exact w10, w10'⟩
theorem mW.s (W : mW h aC o ad th n M V vs sn sh) (g : Nat → Int32) : mW (va_up h (ad 3) (some (iaE aC 10000 g))) aC o ad th n M V vs g sh := by
  obtain ⟨w1, ⟨w2, nv⟩, w3, w4, w5, w6, w7, w8, ⟨PA, w9, w9'⟩, PR, w10, w10'⟩ := id W
  have k : ∀ j, j < 7 → j ≠ 3 → ad j ≠ ad 3 := fun j hj hn => w2 j 3 hj (by decide) hn
  exact ⟨w1, ⟨w2, nv⟩, by rw [va_up_ne _ _ (Ne.symm (W.ne w7))]; exact w3, by rw [va_up_ne _ _ (k 0 (by decide) (by decide))]; exact w4, by rw [va_up_ne _ _ (k 1 (by decide) (by decide))]; exact w5, by rw [va_up_ne _ _ (k 2 (by decide) (by decide))]; exact w6, va_up_self _ _ _, by rw [va_up_ne _ _ (k 4 (by decide) (by decide))]; exact w8, ⟨PA, by rw [va_up_ne _ _ (k 5 (by decide) (by decide))]; exact w9, w9'⟩, PR, by rw [va_up_ne _ _ (k 6 (by decide) (by decide))]; exact w10, w10'⟩
theorem mW.hh (W : mW h aC o ad th n M V vs sn sh) (g : Nat → Int32) : mW (va_up h (ad 4) (some (zaE aC 10000 g))) aC o ad th n M V vs sn g := by
  obtain ⟨w1, ⟨w2, nv⟩, w3, w4, w5, w6, w7, w8, ⟨PA, w9, w9'⟩, PR, w10, w10'⟩ := id W
  have k : ∀ j, j < 7 → j ≠ 4 → ad j ≠ ad 4 := fun j hj hn => w2 j 4 hj (by decide) hn
  exact ⟨w1, ⟨w2, nv⟩, by rw [va_up_ne _ _ (Ne.symm (W.ne w8))]; exact w3, by rw [va_up_ne _ _ (k 0 (by decide) (by decide))]; exact w4, by rw [va_up_ne _ _ (k 1 (by decide) (by decide))]; exact w5, by rw [va_up_ne _ _ (k 2 (by decide) (by decide))]; exact w6, by rw [va_up_ne _ _ (k 3 (by decide) (by decide))]; exact w7, va_up_self _ _ _, ⟨PA, by rw [va_up_ne _ _ (k 5 (by decide) (by decide))]; exact w9, w9'⟩, PR, by rw [va_up_ne _ _ (k 6 (by decide) (by decide))]; exact w10, w10'⟩
end MW
/-! rows: what the model's rows give and take -/
section MR
variable {K : zz_K} {Q : State → Prop} {h0 h : zz_Hp} {ck cn pc : Nat} {lv : List (Option Value)} {st : List Value} {cc : ByteArray} {own : String} {o n j : Nat} {ad : Nat → Nat} {th : Int32} {M V vs sn sh : Nat → Int32} {x : Int32}
theorem mo_pld (C : zz_C K cc own) (W : mW h (zz_ac K) o ad th n M V vs sn sh) (hj : j < 7380) (hd : decode cc pc = .ok (.iaload, 1)) (kk : zz_Z K Q h0 h ck cn (pc + 1) lv (.int (nI (pth j)) :: st)) : zz_Z K Q h0 h ck cn pc lv (.int (nI j) :: .ref (ad 5) :: st) := by
  obtain ⟨PA, h1, h2⟩ := W.2.2.2.2.2.2.2.2.1
  refine ga_ild C h1 hj (by decide) hd ?_
  rw [h2 j hj]; exact kk
theorem mo_rld (C : zz_C K cc own) (W : mW h (zz_ac K) o ad th n M V vs sn sh) (hj : j ≤ 9999) (hp : pok j = true) (hd : decode cc pc = .ok (.iaload, 1)) (kk : zz_Z K Q h0 h ck cn (pc + 1) lv (.int (nI (prN j)) :: st)) : zz_Z K Q h0 h ck cn pc lv (.int (nI j) :: .ref (ad 6) :: st) := by
  obtain ⟨PR, h1, h2⟩ := W.2.2.2.2.2.2.2.2.2
  refine ga_ild C h1 (by omega) (by decide) hd ?_
  rw [h2 j hj hp]; exact kk
theorem ga_ist (C : zz_C K cc own) {a N : Nat} {g : Nat → Int32} (ha : h a = some (iaE (zz_ac K) N g)) (hj : j < N) (hN : N ≤ 100000) (hd : decode cc pc = .ok (.iastore, 1)) (kk : zz_Z K Q h0 (va_up h a (some (iaE (zz_ac K) N (upd g j x)))) ck cn (pc + 1) lv st) : zz_Z K Q h0 h ck cn pc lv (.int x :: .int (nI j) :: .ref a :: st) := by
  refine zz_iast C 0 (fun _ => rfl) ha (vp_in_nI hj (by omega)) hd ?_
  rw [nI_clamp (by omega)]; exact kk
theorem ga_zst (C : zz_C K cc own) {a N : Nat} {g : Nat → Int32} (b : Bool) (ha : h a = some (zaE (zz_ac K) N g)) (hj : j < N) (hN : N ≤ 100000) (hd : decode cc pc = .ok (.bastore, 1)) (kk : zz_Z K Q h0 (va_up h a (some (zaE (zz_ac K) N (upd g j (bI b))))) ck cn (pc + 1) lv st) : zz_Z K Q h0 h ck cn pc lv (.int (bI b) :: .int (nI j) :: .ref a :: st) := by
  refine zz_zast C 1 (fun _ => rfl) ha (vp_in_nI hj (by omega)) hd ?_
  rw [nI_clamp (by omega), bI_vp]; exact kk
theorem mo_mst (C : zz_C K cc own) (W : mW h (zz_ac K) o ad th n M V vs sn sh) (hj : j < 80000) (hd : decode cc pc = .ok (.iastore, 1)) (kk : ∀ h', mW h' (zz_ac K) o ad th n (upd M j x) V vs sn sh → zz_Z K Q h0 h' ck cn (pc + 1) lv st) : zz_Z K Q h0 h ck cn pc lv (.int x :: .int (nI j) :: .ref (ad 0) :: st) := ga_ist C W.2.2.2.1 hj (by decide) hd (kk _ (W.m _))
theorem mo_ust (C : zz_C K cc own) (W : mW h (zz_ac K) o ad th n M V vs sn sh) (hj : j < 80000) (hd : decode cc pc = .ok (.iastore, 1)) (kk : ∀ h', mW h' (zz_ac K) o ad th n M (upd V j x) vs sn sh → zz_Z K Q h0 h' ck cn (pc + 1) lv st) : zz_Z K Q h0 h ck cn pc lv (.int x :: .int (nI j) :: .ref (ad 1) :: st) := ga_ist C W.2.2.2.2.1 hj (by decide) hd (kk _ (W.v _))
theorem mo_vst (C : zz_C K cc own) (W : mW h (zz_ac K) o ad th n M V vs sn sh) (hj : j < 10000) (hp : pok j = true) (hd : decode cc pc = .ok (.iastore, 1)) (kk : ∀ h', mW h' (zz_ac K) o ad th n M V (upd vs j x) sn sh → zz_Z K Q h0 h' ck cn (pc + 1) lv st) : zz_Z K Q h0 h ck cn pc lv (.int x :: .int (nI j) :: .ref (ad 2) :: st) := ga_ist C W.2.2.2.2.2.1 hj (by decide) hd (kk _ (W.w _ (fun q h9 hq => by rw [upd_ne _ _ (fun e => by rw [e, hp] at hq; cases hq)]; exact W.2.1.2 q h9 hq)))
theorem mo_sst (C : zz_C K cc own) (W : mW h (zz_ac K) o ad th n M V vs sn sh) (hj : j < 10000) (hd : decode cc pc = .ok (.iastore, 1)) (kk : ∀ h', mW h' (zz_ac K) o ad th n M V vs (upd sn j x) sh → zz_Z K Q h0 h' ck cn (pc + 1) lv st) : zz_Z K Q h0 h ck cn pc lv (.int x :: .int (nI j) :: .ref (ad 3) :: st) := ga_ist C W.2.2.2.2.2.2.1 hj (by decide) hd (kk _ (W.s _))
theorem mo_hst (C : zz_C K cc own) (W : mW h (zz_ac K) o ad th n M V vs sn sh) (b : Bool) (hj : j < 10000) (hd : decode cc pc = .ok (.bastore, 1)) (kk : ∀ h', mW h' (zz_ac K) o ad th n M V vs sn (upd sh j (bI b)) → zz_Z K Q h0 h' ck cn (pc + 1) lv st) : zz_Z K Q h0 h ck cn pc lv (.int (bI b) :: .int (nI j) :: .ref (ad 4) :: st) := ga_zst C b W.2.2.2.2.2.2.2.1 hj (by decide) hd (kk _ (W.hh _))
end MR
def inB (v lo hi : Int32) : Bool := decide (lo ≤ v ∧ v ≤ hi)
def rfC (a b c : Bool) : Int32 := if a then nI 1 else if b then nI 2 else if c then nI 3 else nI 0
set_option maxHeartbeats 4000000 in
theorem c_O_in (l : Launch) (D : va_G) (aC : Nat → ClassId) (h : zz_Hp) (v a b : Int32) :
    zz_Ct l D aC y_O_in (zrm 0 0 0 0) [.int v, .int a, .int b] h (fun r h' => h' = h ∧ r = .inl (some (.int (bI (inB v a b))))) := by
  refine zz_ct md_O_in rfl (by simp [Value.category]) (Nat.le_of_ble_eq_true rfl) fun K C E hI => ?_
  obtain rfl := E.ac
  refine zz_go C [(0, .iload_n 0), (1, .iload_n 1)] (by decide +kernel) (pc' := 2) (lv' := [some (.int v), some (.int a), some (.int b)]) (st' := [.int a, .int v]) rfl ?_
  refine zz_if C (i := .if_icmp .lt 12) (by decide +kernel) (Pt := v < a) (Pf := ¬ v < a) (off := 12) (r := []) (tgt := 14) rfl (by decide) (fun cA => ?_) (fun cA => ?_)
  · refine zz_go C [(14, .iconst 0)] (by decide +kernel) (pc' := 15) (lv' := [some (.int v), some (.int a), some (.int b)]) (st' := [.int (nI 0)]) rfl ?_
    exact zr_z C E false rfl (by decide) (by decide) (by decide +kernel) (⟨rfl, by rw [inB, decide_eq_false (fun z => absurd z.1 (Int32.not_le.mpr cA))]⟩)
  · refine zz_go C [(5, .iload_n 0), (6, .iload_n 2)] (by decide +kernel) (pc' := 7) (lv' := [some (.int v), some (.int a), some (.int b)]) (st' := [.int b, .int v]) rfl ?_
    refine zz_if C (i := .if_icmp .gt 7) (by decide +kernel) (Pt := b < v) (Pf := ¬ b < v) (off := 7) (r := []) (tgt := 14) rfl (by decide) (fun cB => ?_) (fun cB => ?_)
    · refine zz_go C [(14, .iconst 0)] (by decide +kernel) (pc' := 15) (lv' := [some (.int v), some (.int a), some (.int b)]) (st' := [.int (nI 0)]) rfl ?_
      exact zr_z C E false rfl (by decide) (by decide) (by decide +kernel) (⟨rfl, by rw [inB, decide_eq_false (fun z => absurd z.2 (Int32.not_le.mpr cB))]⟩)
    · refine zz_go C [(10, .iconst 1), (11, .goto 4)] (by decide +kernel) (pc' := 15) (lv' := [some (.int v), some (.int a), some (.int b)]) (st' := [.int (nI 1)]) rfl ?_
      exact zr_z C E true rfl (by decide) (by decide) (by decide +kernel) (⟨rfl, by rw [inB, decide_eq_true ⟨Int32.not_lt.mp cA, Int32.not_lt.mp cB⟩]⟩)
set_option maxHeartbeats 4000000 in
theorem c_O_parentOf (l : Launch) (D : va_G) (aC : Nat → ClassId) (h : zz_Hp) (j : Nat) (hj : j ≤ 9999) :
    zz_Ct l D aC y_O_parentOf (zrm 0 0 0 0) [.int (nI j)] h (fun r h' => h' = h ∧ r = .inl (some (.int (nI (prN j))))) := by
  refine zz_ct md_O_parentOf rfl (by simp [Value.category]) (Nat.le_of_ble_eq_true rfl) fun K C E hI => ?_
  obtain rfl := E.ac
  refine zz_go C [(0, .iload_n 0), (1, .bipush 10)] (by decide +kernel) (pc' := 3) (lv' := [some (.int (nI j)), none]) (st' := [.int (nI 10), .int (nI j)]) rfl ?_
  refine zz_if C (i := .if_icmp .ge 7) (by decide +kernel) (Pt := (nI 10) ≤ (nI j)) (Pf := ¬ (nI 10) ≤ (nI j)) (off := 7) (r := []) (tgt := 10) rfl (by decide) (fun cA => ?_) (fun cA => ?_)
  · have g1 : 10 ≤ j := (nI_leI (by decide) (by omega)).mp cA
    refine zz_go C [(10, .iload_n 0), (11, .bipush 100)] (by decide +kernel) (pc' := 13) (lv' := [some (.int (nI j)), none]) (st' := [.int (nI 100), .int (nI j)]) rfl ?_
    refine zz_if C (i := .if_icmp .ge 8) (by decide +kernel) (Pt := (nI 100) ≤ (nI j)) (Pf := ¬ (nI 100) ≤ (nI j)) (off := 8) (r := []) (tgt := 21) rfl (by decide) (fun cB => ?_) (fun cB => ?_)
    · have g2 : 100 ≤ j := (nI_leI (by decide) (by omega)).mp cB
      refine zz_go C [(21, .iload_n 0), (22, .sipush 1000)] (by decide +kernel) (pc' := 25) (lv' := [some (.int (nI j)), none]) (st' := [.int (nI 1000), .int (nI j)]) rfl ?_
      refine zz_if C (i := .if_icmp .ge 8) (by decide +kernel) (Pt := (nI 1000) ≤ (nI j)) (Pf := ¬ (nI 1000) ≤ (nI j)) (off := 8) (r := []) (tgt := 33) rfl (by decide) (fun cC => ?_) (fun cC => ?_)
      · have g3 : 1000 ≤ j := (nI_leI (by decide) (by omega)).mp cC
        refine zz_go C [(33, .sipush 1000), (36, .istore_n 1), (37, .iload_n 0), (38, .iload_n 1), (39, .irem)] (by decide +kernel) (pc' := 40) (lv' := [some (.int (nI j)), some (.int (nI 1000))]) (st' := [.int ((nI j) - (nI j) / (nI 1000) * (nI 1000))]) rfl ?_
        rw [pk_rem (show j < 2 ^ 31 by omega) (by decide) (by decide)]
        exact zr_i C E (by decide) (by decide) (by decide +kernel) (⟨rfl, by rw [prN, if_pos g3]⟩)
      · have g3 : ¬ 1000 ≤ j := fun z => cC (nI_le z (by omega))
        refine zz_go C [(28, .bipush 100), (30, .goto 6), (36, .istore_n 1), (37, .iload_n 0), (38, .iload_n 1), (39, .irem)] (by decide +kernel) (pc' := 40) (lv' := [some (.int (nI j)), some (.int (nI 100))]) (st' := [.int ((nI j) - (nI j) / (nI 100) * (nI 100))]) rfl ?_
        rw [pk_rem (show j < 2 ^ 31 by omega) (by decide) (by decide)]
        exact zr_i C E (by decide) (by decide) (by decide +kernel) (⟨rfl, by rw [prN, if_neg g3, if_pos g2]⟩)
    · have g2 : ¬ 100 ≤ j := fun z => cB (nI_le z (by omega))
      refine zz_go C [(16, .bipush 10), (18, .goto 18), (36, .istore_n 1), (37, .iload_n 0), (38, .iload_n 1), (39, .irem)] (by decide +kernel) (pc' := 40) (lv' := [some (.int (nI j)), some (.int (nI 10))]) (st' := [.int ((nI j) - (nI j) / (nI 10) * (nI 10))]) rfl ?_
      rw [pk_rem (show j < 2 ^ 31 by omega) (by decide) (by decide)]
      exact zr_i C E (by decide) (by decide) (by decide +kernel) (⟨rfl, by rw [prN, if_neg (by omega), if_neg g2, if_pos g1]⟩)
  · have g1 : ¬ 10 ≤ j := fun z => cA (nI_le z (by omega))
    refine zz_go C [(6, .iconst 1), (7, .goto 29), (36, .istore_n 1), (37, .iload_n 0), (38, .iload_n 1), (39, .irem)] (by decide +kernel) (pc' := 40) (lv' := [some (.int (nI j)), some (.int (nI 1))]) (st' := [.int ((nI j) - (nI j) / (nI 1) * (nI 1))]) rfl ?_
    rw [pk_rem (show j < 2 ^ 31 by omega) (by decide) (by decide)]
    exact zr_i C E (by decide) (by decide) (by decide +kernel) (⟨rfl, by rw [prN, if_neg (by omega), if_neg (by omega), if_neg g1, Nat.mod_one]⟩)
set_option maxHeartbeats 4000000 in
theorem c_O_isPath (l : Launch) (D : va_G) (aC : Nat → ClassId) (h : zz_Hp) (x : Int32) :
    zz_Ct l D aC y_O_isPath (zrm 1 0 0 40) [.int x] h (fun r h' => h' = h ∧ r = .inl (some (.int (bI (isP x))))) := by
  refine zz_ct md_O_isPath rfl (by simp [Value.category]) (Nat.le_of_ble_eq_true rfl) fun K C E hI => ?_
  obtain rfl := E.ac
  have loop : ∀ (g j : Nat) (b : Bool), g ≤ 4 → j < 10 ^ g → isP x = (b && (nmF g j).all nz) → zz_Z K (zz_End K h (fun r h' => h' = h ∧ r = .inl (some (.int (bI (isP x)))))) h h (0 + (zrm 0 0 0 0).cells) (0 + (zrm 0 0 0 0).slots) 11 [some (.int x), some (.int (bI b)), some (.int (nI j))] [] := by
    intro g
    induction g with
    | zero =>
      intro j b hg hj hr
      have hj2 := p10 hg hj
      refine zz_go C [(11, .iload_n 2)] (by decide +kernel) (pc' := 12) (lv' := [some (.int x), some (.int (bI b)), some (.int (nI j))]) (st' := [.int (nI j)]) rfl ?_
      refine zz_if C (i := .ifCond .le 28) (by decide +kernel) (Pt := (nI j) ≤ 0) (Pf := ¬ (nI j) ≤ 0) (off := 28) (r := []) (tgt := 40) rfl (by decide) (fun cA => ?_) (fun cA => ?_)
      · have hj0 : j = 0 := Nat.eq_zero_of_not_pos (fun e => absurd cA (nI_nle e (by omega)))
        rw [hj0, nmF_0, List.all_nil, Bool.and_true] at hr
        refine zz_go C [(40, .iload_n 1)] (by decide +kernel) (pc' := 41) (lv' := [some (.int x), some (.int (bI b)), some (.int (nI j))]) (st' := [.int (bI b)]) rfl ?_
        exact zr_z C E b rfl (by decide) (by decide) (by decide +kernel) (⟨rfl, by rw [hr]⟩)
      · have hj0 : ¬ j = 0 := fun e => cA (by rw [e]; decide)
        exact absurd hj (by simp; omega)
    | succ g ih =>
      intro j b hg hj hr
      have hj2 := p10 hg hj
      refine zz_go C [(11, .iload_n 2)] (by decide +kernel) (pc' := 12) (lv' := [some (.int x), some (.int (bI b)), some (.int (nI j))]) (st' := [.int (nI j)]) rfl ?_
      refine zz_if C (i := .ifCond .le 28) (by decide +kernel) (Pt := (nI j) ≤ 0) (Pf := ¬ (nI j) ≤ 0) (off := 28) (r := []) (tgt := 40) rfl (by decide) (fun cA => ?_) (fun cA => ?_)
      · have hj0 : j = 0 := Nat.eq_zero_of_not_pos (fun e => absurd cA (nI_nle e (by omega)))
        rw [hj0, nmF_0, List.all_nil, Bool.and_true] at hr
        refine zz_go C [(40, .iload_n 1)] (by decide +kernel) (pc' := 41) (lv' := [some (.int x), some (.int (bI b)), some (.int (nI j))]) (st' := [.int (bI b)]) rfl ?_
        exact zr_z C E b rfl (by decide) (by decide) (by decide +kernel) (⟨rfl, by rw [hr]⟩)
      · have hj0 : ¬ j = 0 := fun e => cA (by rw [e]; decide)
        rw [nmF_s g hj0, List.all_cons] at hr
        refine zz_go C [(15, .iload_n 1)] (by decide +kernel) (pc' := 16) (lv' := [some (.int x), some (.int (bI b)), some (.int (nI j))]) (st' := [.int (bI b)]) rfl ?_
        refine zz_if C (i := .ifCond .eq 24) (by decide +kernel) (Pt := (bI b) = 0) (Pf := ¬ (bI b) = 0) (off := 24) (r := []) (tgt := 40) rfl (by decide) (fun cB => ?_) (fun cB => ?_)
        · have hb := (bI_0 b).mp cB
          rw [hb, Bool.false_and] at hr
          refine zz_go C [(40, .iload_n 1)] (by decide +kernel) (pc' := 41) (lv' := [some (.int x), some (.int (bI b)), some (.int (nI j))]) (st' := [.int (bI b)]) rfl ?_
          exact zr_z C E b rfl (by decide) (by decide) (by decide +kernel) (⟨rfl, by rw [hr, hb]⟩)
        · have hb := bI_1 cB
          rw [hb, Bool.true_and] at hr
          refine zz_go C [(19, .iload_n 2), (20, .bipush 10), (22, .irem)] (by decide +kernel) (pc' := 23) (lv' := [some (.int x), some (.int (bI b)), some (.int (nI j))]) (st' := [.int ((nI j) - (nI j) / (nI 10) * (nI 10))]) rfl ?_
          rw [pk_rem (show j < 2 ^ 31 by omega) (by decide) (by decide)]
          refine zz_if C (i := .ifCond .le 7) (by decide +kernel) (Pt := (nI (j % 10)) ≤ 0) (Pf := ¬ (nI (j % 10)) ≤ 0) (off := 7) (r := []) (tgt := 30) rfl (by decide) (fun cC => ?_) (fun cC => ?_)
          · have hz : nz (j % 10) = false := decide_eq_false (fun z => absurd cC (nI_nle (by omega) (by omega)))
            refine zz_go C [(30, .iconst 0), (31, .istore_n 1), (32, .iload_n 2), (33, .bipush 10), (35, .idiv), (36, .istore_n 2), (37, .goto (-26))] (by decide +kernel) (pc' := 11) (lv' := [some (.int x), some (.int (nI 0)), some (.int ((nI j) / (nI 10)))]) (st' := []) rfl ?_
            rw [pk_div (show j < 2 ^ 31 by omega) (by decide) (by decide)]
            exact ih (j / 10) false (by omega) (lt10 hj) (by rw [hr, hz])
          · have hz : nz (j % 10) = true := decide_eq_true (fun z => cC (by rw [z]; decide))
            refine zz_go C [(26, .iconst 1), (27, .goto 4), (31, .istore_n 1), (32, .iload_n 2), (33, .bipush 10), (35, .idiv), (36, .istore_n 2), (37, .goto (-26))] (by decide +kernel) (pc' := 11) (lv' := [some (.int x), some (.int (nI 1)), some (.int ((nI j) / (nI 10)))]) (st' := []) rfl ?_
            rw [pk_div (show j < 2 ^ 31 by omega) (by decide) (by decide)]
            exact ih (j / 10) true (by omega) (lt10 hj) (by rw [hr, hz])
  refine zz_go C [(0, .iload_n 0), (1, .iconst 0), (2, .sipush 9999)] (by decide +kernel) (pc' := 5) (lv' := [some (.int x), none, none]) (st' := [.int (nI 9999), .int (nI 0), .int x]) rfl ?_
  refine zz_cS C E (As := [.int x, .int (nI 0), .int (nI 9999)]) (rest := []) (hc := h) md_O_in (c_O_in l D (zz_ac K) h x (nI 0) (nI 9999)) ml_O_51 sm_O_in (fun _ _ q => q) rfl rfl (Nat.le_of_ble_eq_true rfl) ⟨by decide, by decide⟩ ⟨(by decide), (by decide)⟩ (by decide +kernel) (fun v h' hp hn hd => ?_) (fun v h' hp hn hd => ?_)
  · rw [zz_mix_self hd]
    obtain ⟨hh, hv⟩ := hp
    rw [hh]
    cases hv
    show zz_Z _ _ _ _ _ _ _ _ [.int (bI (inB x (nI 0) (nI 9999)))]
    by_cases cI : x < 0 ∨ nI 9999 < x
    · have hI0 : inB x (nI 0) (nI 9999) = false := decide_eq_false (fun z => cI.elim (fun e => absurd (show (0 : Int32) ≤ x from z.1) (Int32.not_le.mpr e)) (fun e => absurd z.2 (Int32.not_le.mpr e)))
      have hP : isP x = false := by rw [isP, if_pos cI]
      rw [hI0]
      show zz_Z _ _ _ _ _ _ _ [some (.int x), none, none] [.int (bI false)]
      refine zz_go C [(8, .istore_n 1), (9, .iload_n 0), (10, .istore_n 2), (11, .iload_n 2)] (by decide +kernel) (pc' := 12) (lv' := [some (.int x), some (.int (bI false)), some (.int x)]) (st' := [.int x]) rfl ?_
      refine zz_if C (i := .ifCond .le 28) (by decide +kernel) (Pt := x ≤ 0) (Pf := ¬ x ≤ 0) (off := 28) (r := []) (tgt := 40) rfl (by decide) (fun cA => ?_) (fun cA => ?_)
      · refine zz_go C [(40, .iload_n 1)] (by decide +kernel) (pc' := 41) (lv' := [some (.int x), some (.int (bI false)), some (.int x)]) (st' := [.int (bI false)]) rfl ?_
        exact zr_z C E false rfl (by decide) (by decide) (by decide +kernel) (⟨rfl, by rw [hP]⟩)
      · refine zz_go C [(15, .iload_n 1)] (by decide +kernel) (pc' := 16) (lv' := [some (.int x), some (.int (bI false)), some (.int x)]) (st' := [.int (bI false)]) rfl ?_
        refine zz_if C (i := .ifCond .eq 24) (by decide +kernel) (Pt := (bI false) = 0) (Pf := ¬ (bI false) = 0) (off := 24) (r := []) (tgt := 40) rfl (by decide) (fun cB => ?_) (fun cB => ?_)
        · refine zz_go C [(40, .iload_n 1)] (by decide +kernel) (pc' := 41) (lv' := [some (.int x), some (.int (bI false)), some (.int x)]) (st' := [.int (bI false)]) rfl ?_
          exact zr_z C E false rfl (by decide) (by decide) (by decide +kernel) (⟨rfl, by rw [hP]⟩)
        · exact absurd rfl cB
    · obtain ⟨j, hj, rfl⟩ := nI_of2 (x := x) (M := 9999) (n := 9999) (by decide) (fun e => cI (Or.inl e)) (Int32.not_lt.mp (fun e => cI (Or.inr e)))
      have hI0 : inB (nI j) (nI 0) (nI 9999) = true := decide_eq_true ⟨nI_le (Nat.zero_le j) (by omega), nI_le hj (by decide)⟩
      rw [hI0]
      show zz_Z _ _ _ _ _ _ _ [some (.int (nI j)), none, none] [.int (bI true)]
      refine zz_go C [(8, .istore_n 1), (9, .iload_n 0), (10, .istore_n 2)] (by decide +kernel) (pc' := 11) (lv' := [some (.int (nI j)), some (.int (bI true)), some (.int (nI j))]) (st' := []) rfl ?_
      exact loop 4 j true (by decide) (by omega) (by rw [isP, if_neg cI, nI_clamp (by omega), Bool.true_and]; rfl)
  · cases hp.2
set_option maxHeartbeats 4000000 in
theorem c_O_thrown (l : Launch) (D : va_G) (aC : Nat → ClassId) (h : zz_Hp) (o : Nat) (ad : Nat → Nat) (th : Int32) (n : Nat) (M V vs sn sh : Nat → Int32) (W : mW h aC o ad th n M V vs sn sh) :
    zz_Ct l D aC y_O_thrown (zrm 0 0 0 0) [.ref o] h (fun r h' => h' = h ∧ r = .inl (some (.int th))) := by
  refine zz_ct md_O_thrown rfl (by simp [Value.category]) (Nat.le_of_ble_eq_true rfl) fun K C E hI => ?_
  obtain rfl := E.ac
  refine zz_go C [(0, .aload_n 0)] (by decide +kernel) (pc' := 1) (lv' := [some (.ref o)]) (st' := [.ref o]) rfl ?_
  refine zz_get C fd_O_48 W.ob (v := .int th) rfl (by decide +kernel) ?_
  exact zr_i C E (by decide) (by decide) (by decide +kernel) (⟨rfl, rfl⟩)
set_option maxHeartbeats 4000000 in
theorem c_O_top (l : Launch) (D : va_G) (aC : Nat → ClassId) (h : zz_Hp) (o : Nat) (ad : Nat → Nat) (th : Int32) (n : Nat) (M V vs sn sh : Nat → Int32) (W : mW h aC o ad th n M V vs sn sh) :
    zz_Ct l D aC y_O_top (zrm 0 0 0 0) [.ref o] h (fun r h' => h' = h ∧ r = .inl (some (.int (nI (10000 * (n - 1)))))) := by
  refine zz_ct md_O_top rfl (by simp [Value.category]) (Nat.le_of_ble_eq_true rfl) fun K C E hI => ?_
  obtain rfl := E.ac
  have n8 := W.1
  refine zz_go C [(0, .sipush 10000), (3, .aload_n 0)] (by decide +kernel) (pc' := 4) (lv' := [some (.ref o)]) (st' := [.ref o, .int (nI 10000)]) rfl ?_
  refine zz_get C fd_O_7 W.ob (v := .int (nI n)) rfl (by decide +kernel) ?_
  refine zz_go C [(7, .iconst 1), (8, .isub), (9, .imul)] (by decide +kernel) (pc' := 10) (lv' := [some (.ref o)]) (st' := [.int ((nI 10000) * ((nI n) - (nI 1)))]) rfl ?_
  rw [show nI n - nI 1 = nI (n - 1) from by obtain ⟨m, rfl⟩ : ∃ m, n = m + 1 := ⟨n - 1, by omega⟩; exact nI_pred m, show nI 10000 * nI (n - 1) = nI (10000 * (n - 1)) from (Int32.ofNat_mul _ _).symm]
  exact zr_i C E (by decide) (by decide) (by decide +kernel) (⟨rfl, rfl⟩)
set_option maxHeartbeats 4000000 in
theorem c_O_refuse (l : Launch) (D : va_G) (aC : Nat → ClassId) (h : zz_Hp) (o : Nat) (ad : Nat → Nat) (th : Int32) (n : Nat) (M V vs sn sh : Nat → Int32) (W : mW h aC o ad th n M V vs sn sh) (a b c : Bool) :
    zz_Ct l D aC y_O_refuse (zrm 0 0 0 0) [.ref o, .int (bI a), .int (bI b), .int (bI c)] h (fun r h' => r = .inl (some (.int (bI (a || b || c)))) ∧ mW h' aC o ad (rfC a b c) n M V vs sn sh) := by
  refine zz_ct md_O_refuse rfl (by simp [Value.category]) (Nat.le_of_ble_eq_true rfl) fun K C E hI => ?_
  obtain rfl := E.ac
  refine zz_go C [(0, .aload_n 0), (1, .iload_n 1)] (by decide +kernel) (pc' := 2) (lv' := [some (.ref o), some (.int (bI a)), some (.int (bI b)), some (.int (bI c))]) (st' := [.int (bI a), .ref o]) rfl ?_
  refine zz_if C (i := .ifCond .eq 7) (by decide +kernel) (Pt := (bI a) = 0) (Pf := ¬ (bI a) = 0) (off := 7) (r := [.ref o]) (tgt := 9) rfl (by decide) (fun c1 => ?_) (fun c1 => ?_)
  · refine zz_go C [(9, .iload_n 2)] (by decide +kernel) (pc' := 10) (lv' := [some (.ref o), some (.int (bI a)), some (.int (bI b)), some (.int (bI c))]) (st' := [.int (bI b), .ref o]) rfl ?_
    refine zz_if C (i := .ifCond .eq 7) (by decide +kernel) (Pt := (bI b) = 0) (Pf := ¬ (bI b) = 0) (off := 7) (r := [.ref o]) (tgt := 17) rfl (by decide) (fun c2 => ?_) (fun c2 => ?_)
    · refine zz_go C [(17, .iload_n 3)] (by decide +kernel) (pc' := 18) (lv' := [some (.ref o), some (.int (bI a)), some (.int (bI b)), some (.int (bI c))]) (st' := [.int (bI c), .ref o]) rfl ?_
      refine zz_if C (i := .ifCond .eq 7) (by decide +kernel) (Pt := (bI c) = 0) (Pf := ¬ (bI c) = 0) (off := 7) (r := [.ref o]) (tgt := 25) rfl (by decide) (fun c3 => ?_) (fun c3 => ?_)
      · refine zz_go C [(25, .iconst 0)] (by decide +kernel) (pc' := 26) (lv' := [some (.ref o), some (.int (bI a)), some (.int (bI b)), some (.int (bI c))]) (st' := [.int (nI 0), .ref o]) rfl ?_
        refine zz_putf C fd_O_48 W.ob rfl rfl (Nat.le_of_ble_eq_true rfl) (by decide +kernel) ?_
        refine zz_go C [(29, .aload_n 0)] (by decide +kernel) (pc' := 30) (lv' := [some (.ref o), some (.int (bI a)), some (.int (bI b)), some (.int (bI c))]) (st' := [.ref o]) rfl ?_
        refine zz_get C fd_O_48 (va_up_self _ _ _) (v := .int (nI 0)) rfl (by decide +kernel) ?_
        have hr : rfC a b c = nI 0 := by rw [rfC, (bI_0 a).mp c1, (bI_0 b).mp c2, (bI_0 c).mp c3]; rfl
        have hb : (a || b || c) = false := by cases a <;> cases b <;> cases c <;> first | rfl | exact absurd rfl c1 | exact absurd rfl c2 | exact absurd rfl c3 | exact absurd c1 (by decide) | exact absurd c2 (by decide) | exact absurd c3 (by decide)
        have W2 : mW (va_up h o (some (moE (nI 0) n ad))) (zz_ac K) o ad (rfC a b c) n M V vs sn sh := by rw [hr]; exact W.set (nI 0) W.1
        refine zz_if C (i := .ifCond .le 7) (by decide +kernel) (Pt := (nI 0) ≤ 0) (Pf := ¬ (nI 0) ≤ 0) (off := 7) (r := []) (tgt := 40) rfl (by decide) (fun cZ => ?_) (fun cZ => ?_)
        · refine zz_go C [(40, .iconst 0)] (by decide +kernel) (pc' := 41) (lv' := [some (.ref o), some (.int (bI a)), some (.int (bI b)), some (.int (bI c))]) (st' := [.int (nI 0)]) rfl ?_
          exact zr_z C E false rfl (by decide) (by decide) (by decide +kernel) (⟨by rw [hb], W2⟩)
        · exact absurd (by decide) cZ
      · refine zz_go C [(21, .iconst 3), (22, .goto 4)] (by decide +kernel) (pc' := 26) (lv' := [some (.ref o), some (.int (bI a)), some (.int (bI b)), some (.int (bI c))]) (st' := [.int (nI 3), .ref o]) rfl ?_
        refine zz_putf C fd_O_48 W.ob rfl rfl (Nat.le_of_ble_eq_true rfl) (by decide +kernel) ?_
        refine zz_go C [(29, .aload_n 0)] (by decide +kernel) (pc' := 30) (lv' := [some (.ref o), some (.int (bI a)), some (.int (bI b)), some (.int (bI c))]) (st' := [.ref o]) rfl ?_
        refine zz_get C fd_O_48 (va_up_self _ _ _) (v := .int (nI 3)) rfl (by decide +kernel) ?_
        have hr : rfC a b c = nI 3 := by rw [rfC, (bI_0 a).mp c1, (bI_0 b).mp c2, bI_1 c3]; rfl
        have hb : (a || b || c) = true := by cases a <;> cases b <;> cases c <;> first | rfl | exact absurd rfl c1 | exact absurd rfl c2 | exact absurd rfl c3 | exact absurd c1 (by decide) | exact absurd c2 (by decide) | exact absurd c3 (by decide)
        have W2 : mW (va_up h o (some (moE (nI 3) n ad))) (zz_ac K) o ad (rfC a b c) n M V vs sn sh := by rw [hr]; exact W.set (nI 3) W.1
        refine zz_if C (i := .ifCond .le 7) (by decide +kernel) (Pt := (nI 3) ≤ 0) (Pf := ¬ (nI 3) ≤ 0) (off := 7) (r := []) (tgt := 40) rfl (by decide) (fun cZ => ?_) (fun cZ => ?_)
        · exact absurd cZ (by decide)
        · refine zz_go C [(36, .iconst 1), (37, .goto 4)] (by decide +kernel) (pc' := 41) (lv' := [some (.ref o), some (.int (bI a)), some (.int (bI b)), some (.int (bI c))]) (st' := [.int (nI 1)]) rfl ?_
          exact zr_z C E true rfl (by decide) (by decide) (by decide +kernel) (⟨by rw [hb], W2⟩)
    · refine zz_go C [(13, .iconst 2), (14, .goto 12)] (by decide +kernel) (pc' := 26) (lv' := [some (.ref o), some (.int (bI a)), some (.int (bI b)), some (.int (bI c))]) (st' := [.int (nI 2), .ref o]) rfl ?_
      refine zz_putf C fd_O_48 W.ob rfl rfl (Nat.le_of_ble_eq_true rfl) (by decide +kernel) ?_
      refine zz_go C [(29, .aload_n 0)] (by decide +kernel) (pc' := 30) (lv' := [some (.ref o), some (.int (bI a)), some (.int (bI b)), some (.int (bI c))]) (st' := [.ref o]) rfl ?_
      refine zz_get C fd_O_48 (va_up_self _ _ _) (v := .int (nI 2)) rfl (by decide +kernel) ?_
      have hr : rfC a b c = nI 2 := by rw [rfC, (bI_0 a).mp c1, bI_1 c2]; rfl
      have hb : (a || b || c) = true := by cases a <;> cases b <;> cases c <;> first | rfl | exact absurd rfl c1 | exact absurd rfl c2 | exact absurd rfl c3 | exact absurd c1 (by decide) | exact absurd c2 (by decide) | exact absurd c3 (by decide)
      have W2 : mW (va_up h o (some (moE (nI 2) n ad))) (zz_ac K) o ad (rfC a b c) n M V vs sn sh := by rw [hr]; exact W.set (nI 2) W.1
      refine zz_if C (i := .ifCond .le 7) (by decide +kernel) (Pt := (nI 2) ≤ 0) (Pf := ¬ (nI 2) ≤ 0) (off := 7) (r := []) (tgt := 40) rfl (by decide) (fun cZ => ?_) (fun cZ => ?_)
      · exact absurd cZ (by decide)
      · refine zz_go C [(36, .iconst 1), (37, .goto 4)] (by decide +kernel) (pc' := 41) (lv' := [some (.ref o), some (.int (bI a)), some (.int (bI b)), some (.int (bI c))]) (st' := [.int (nI 1)]) rfl ?_
        exact zr_z C E true rfl (by decide) (by decide) (by decide +kernel) (⟨by rw [hb], W2⟩)
  · refine zz_go C [(5, .iconst 1), (6, .goto 20)] (by decide +kernel) (pc' := 26) (lv' := [some (.ref o), some (.int (bI a)), some (.int (bI b)), some (.int (bI c))]) (st' := [.int (nI 1), .ref o]) rfl ?_
    refine zz_putf C fd_O_48 W.ob rfl rfl (Nat.le_of_ble_eq_true rfl) (by decide +kernel) ?_
    refine zz_go C [(29, .aload_n 0)] (by decide +kernel) (pc' := 30) (lv' := [some (.ref o), some (.int (bI a)), some (.int (bI b)), some (.int (bI c))]) (st' := [.ref o]) rfl ?_
    refine zz_get C fd_O_48 (va_up_self _ _ _) (v := .int (nI 1)) rfl (by decide +kernel) ?_
    have hr : rfC a b c = nI 1 := by rw [rfC, bI_1 c1]; rfl
    have hb : (a || b || c) = true := by cases a <;> cases b <;> cases c <;> first | rfl | exact absurd rfl c1 | exact absurd rfl c2 | exact absurd rfl c3 | exact absurd c1 (by decide) | exact absurd c2 (by decide) | exact absurd c3 (by decide)
    have W2 : mW (va_up h o (some (moE (nI 1) n ad))) (zz_ac K) o ad (rfC a b c) n M V vs sn sh := by rw [hr]; exact W.set (nI 1) W.1
    refine zz_if C (i := .ifCond .le 7) (by decide +kernel) (Pt := (nI 1) ≤ 0) (Pf := ¬ (nI 1) ≤ 0) (off := 7) (r := []) (tgt := 40) rfl (by decide) (fun cZ => ?_) (fun cZ => ?_)
    · exact absurd cZ (by decide)
    · refine zz_go C [(36, .iconst 1), (37, .goto 4)] (by decide +kernel) (pc' := 41) (lv' := [some (.ref o), some (.int (bI a)), some (.int (bI b)), some (.int (bI c))]) (st' := [.int (nI 1)]) rfl ?_
      exact zr_z C E true rfl (by decide) (by decide) (by decide +kernel) (⟨by rw [hb], W2⟩)
