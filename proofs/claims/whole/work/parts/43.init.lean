/-! ===== a new tree ===== -/
/-- the first d sights stand -/
def siN (h : zz_Hp) (aC : Nat → ClassId) (A : zA5) (d : Nat) (la : Nat) (Sr : Nat → Option Nat) : Prop :=
  (∀ e, e < d → sgD (A e).2.1 (A e).2.2.1 (A e).2.2.2.1 (A e).2.2.2.2 ∧ sN la (A e) ∧ Sr e = some (A e).1 ∧ h (A e).1 = some (sgE (A e).2.1 (A e).2.2.1 (A e).2.2.2.1 (A e).2.2.2.2) ∧ (∃ g, h (A e).2.1 = some (iaE aC 9 g)) ∧ (∃ g, h (A e).2.2.1 = some (iaE aC 9 g)) ∧ (∃ g, h (A e).2.2.2.1 = some (maE aC 8 g)) ∧ ∃ g, h (A e).2.2.2.2 = some (zaE aC 8 g)) ∧
  ∀ e e', e < d → e' < d → e ≠ e' → sN (A e').2.1 (A e) ∧ sN (A e').2.2.1 (A e) ∧ sN (A e').2.2.2.1 (A e) ∧ sN (A e').2.2.2.2 (A e)
theorem siN_s {h h' : zz_Hp} {aC : Nat → ClassId} {A : zA5} {d la o k v f s : Nat} {Sr : Nat → Option Nat} {g0 : Nat → Option Nat} (I : siN h aC A d la Sr) (D : sgD k v f s) (hla : h la = some (maE aC 8 g0)) (fr : ∀ x e, h x = some e → sgN x k v f s) (ho : h' o = some (sgE k v f s)) (hk : ∃ g, h' k = some (iaE aC 9 g)) (hv : ∃ g, h' v = some (iaE aC 9 g)) (hf : ∃ g, h' f = some (maE aC 8 g)) (hs : ∃ g, h' s = some (zaE aC 8 g)) (keep : ∀ x e, h x = some e → zKi e ≠ 9 ∨ zEl e ≠ 5 → h' x = some e) :
    siN h' aC (fun e => if e = d then (o, k, v, f, s) else A e) (d + 1) la (va_up Sr d (some o)) := by
  obtain ⟨i1, i2⟩ := I
  have hA : ∀ e, e < d → (fun e => if e = d then (o, k, v, f, s) else A e) e = A e := fun e he => if_neg (by omega)
  have hD : (fun e => if e = d then (o, k, v, f, s) else A e) d = (o, k, v, f, s) := if_pos rfl
  generalize (fun e => if e = d then (o, k, v, f, s) else A e) = B at hA hD ⊢
  refine ⟨fun e he => ?_, fun e e' he he' hne => ?_⟩
  · by_cases ed : e = d
    · subst ed
      rw [hD, va_up_self]
      exact ⟨D, fr la _ hla, rfl, ho, hk, hv, hf, hs⟩
    · rw [hA e (by omega), va_up_ne _ _ ed]
      obtain ⟨a1, a2, a3, a4, ⟨g1, a5⟩, ⟨g2, a6⟩, ⟨g3, a7⟩, g4, a8⟩ := i1 e (by omega)
      exact ⟨a1, a2, a3, keep _ _ a4 (Or.inl (by rw [ki_sg]; decide)), ⟨g1, keep _ _ a5 (Or.inr (fun q => absurd (show (9 : Nat) = 5 from q) (by decide)))⟩, ⟨g2, keep _ _ a6 (Or.inr (fun q => absurd (show (9 : Nat) = 5 from q) (by decide)))⟩, ⟨g3, keep _ _ a7 (Or.inr (by rw [el_ma]; decide))⟩, g4, keep _ _ a8 (Or.inr (fun q => absurd (show (8 : Nat) = 5 from q) (by decide)))⟩
  · by_cases ed : e = d
    · subst ed
      rw [hD, hA e' (by omega)]
      obtain ⟨-, -, -, -, ⟨g1, a5⟩, ⟨g2, a6⟩, ⟨g3, a7⟩, g4, a8⟩ := i1 e' (by omega)
      exact ⟨fr _ _ a5, fr _ _ a6, fr _ _ a7, fr _ _ a8⟩
    · by_cases ed' : e' = d
      · subst ed'
        rw [hD, hA e (by omega)]
        obtain ⟨-, -, -, -, ⟨g1, a5⟩, ⟨g2, a6⟩, ⟨g3, a7⟩, g4, a8⟩ := i1 e (by omega)
        have b1 := fr _ _ a5; have b2 := fr _ _ a6; have b3 := fr _ _ a7; have b4 := fr _ _ a8
        exact ⟨⟨Ne.symm b1.1, Ne.symm b2.1, Ne.symm b3.1, Ne.symm b4.1⟩, ⟨Ne.symm b1.2.1, Ne.symm b2.2.1, Ne.symm b3.2.1, Ne.symm b4.2.1⟩, ⟨Ne.symm b1.2.2.1, Ne.symm b2.2.2.1, Ne.symm b3.2.2.1, Ne.symm b4.2.2.1⟩, ⟨Ne.symm b1.2.2.2, Ne.symm b2.2.2.2, Ne.symm b3.2.2.2, Ne.symm b4.2.2.2⟩⟩
      · rw [hA e (by omega), hA e' (by omega)]
        exact i2 e e' (by omega) (by omega) hne
set_option maxHeartbeats 4000000 in
theorem c_T_init (l : Launch) (D : va_G) (aC : Nat → ClassId) (h : zz_Hp) (t : Nat) (ht : h t = some (.inr (2, [.null, .int 0, .null]))) :
    zz_Ct l D aC y_T_init (zrm 2 28 206 60) [.ref t] h (fun r' h' => r' = .inl none ∧ ∃ (la sa a : Nat) (A : zA5), tW h' aC t la sa A 1 (lyN (fun _ _ => none) 0 a)) := by
  refine zz_ct md_T_init rfl (by simp [Value.category]) (Nat.le_of_ble_eq_true rfl) fun K C E hI => ?_
  obtain rfl := E.ac
  have loop : ∀ (g d la sa a : Nat) (A : zA5) (Sr Lr : Nat → Option Nat) (hc : zz_Hp), d + g = 5 → hc t = some (otE la 1 sa) → hc la = some (maE (zz_ac K) 8 Lr) → Lr 0 = some a → hc a = some (mkE (nI 1) (nI 0) none) → hc sa = some (saE (zz_ac K) 5 Sr) → siN hc (zz_ac K) A d la Sr → zz_Z K (zz_End K h (fun r' h' => r' = .inl none ∧ ∃ (la sa a : Nat) (A : zA5), tW h' (zz_ac K) t la sa A 1 (lyN (fun _ _ => none) 0 a))) h hc (3 + 5 * d) (16 + 38 * d) 43 [some (.ref t), some (.int (nI d))] [] := by
    intro g
    induction g with
    | zero =>
      intro d la sa a A Sr Lr hc hdg ht hla hLr ha hsa I
      refine zz_go C [(43, .iload_n 1), (44, .iconst 4)] (by decide +kernel) (pc' := 45) (lv' := [some (.ref t), some (.int (nI d))]) (st' := [.int (nI 4), .int (nI d)]) rfl ?_
      refine zz_if C (i := .if_icmp .gt 22) (by decide +kernel) (Pt := (nI 4) < (nI d)) (Pf := ¬ (nI 4) < (nI d)) (off := 22) (r := []) (tgt := 67) rfl (by decide) (fun cA => ?_) (fun cA => ?_)
      · have hd5 : d = 5 := by omega
        subst hd5
        have W : tW hc (zz_ac K) t la sa A 1 (lyN (fun _ _ => none) 0 a) := by
          refine ⟨by decide, ⟨fun d hd => (I.1 d hd).1, fun d e hd he hne => I.2 d e hd he hne⟩, fun d hd => (I.1 d hd).2.1, ht, ⟨Lr, hla, fun i hi => by rw [show i = 0 by omega, hLr, lyN_n, if_pos rfl]; rfl⟩, ⟨Sr, hsa, fun d hd => (I.1 d hd).2.2.1⟩, fun d hd => (I.1 d hd).2.2.2, fun i hi => by rw [show i = 0 by omega]; exact lyN_T ha, lyN_I (n := 0) ⟨fun i i' r r' q q' hi => absurd hi (by omega), fun i i' r r' q q' c hi => absurd hi (by omega)⟩ (fun i r q hi => absurd hi (by omega))⟩
        exact zr_v C E (by decide) (by decide) (by decide +kernel) ⟨rfl, la, sa, a, A, W⟩
      · exact absurd (nI_lt (by omega) (by omega)) cA
    | succ g ih =>
      intro d la sa a A Sr Lr hc hdg ht hla hLr ha hsa I
      refine zz_go C [(43, .iload_n 1), (44, .iconst 4)] (by decide +kernel) (pc' := 45) (lv' := [some (.ref t), some (.int (nI d))]) (st' := [.int (nI 4), .int (nI d)]) rfl ?_
      refine zz_if C (i := .if_icmp .gt 22) (by decide +kernel) (Pt := (nI 4) < (nI d)) (Pf := ¬ (nI 4) < (nI d)) (off := 22) (r := []) (tgt := 67) rfl (by decide) (fun cA => ?_) (fun cA => ?_)
      · exact absurd ((nI_ltI (by omega) (by omega)).mp cA) (by omega)
      · refine zz_go C [(48, .aload_n 0)] (by decide +kernel) (pc' := 49) (lv' := [some (.ref t), some (.int (nI d))]) (st' := [.ref t]) rfl ?_
        refine zz_get C fd_T_24 ht (v := .ref sa) rfl (by decide +kernel) ?_
        refine zz_go C [(52, .iload_n 1)] (by decide +kernel) (pc' := 53) (lv' := [some (.ref t), some (.int (nI d))]) (st' := [.int (nI d), .ref sa]) rfl ?_
        refine zr_new C E nd_T_22 (by show 3 + 5 * d + 1 ≤ 28; omega) (by show 16 + 38 * d + 4 ≤ 206; omega) (by decide +kernel) (fun o ho hz => ?_)
        refine zz_go C [(56, .dup)] (by decide +kernel) (pc' := 57) (lv' := [some (.ref t), some (.int (nI d))]) (st' := [.ref o, .ref o, .int (nI d), .ref sa]) rfl ?_
        refine zz_cI C E (As := []) (rest := [.ref o, .int (nI d), .ref sa]) (hc := (va_up hc o (some (.inr (1, [.null, .null, .null, .null]))))) md_S_init (c_S_init l D (zz_ac K) _ o (va_up_self _ _ _)) cw_S_init ml_T_28 im_S_init rfl (fun _ _ q => q) rfl rfl (Nat.le_of_ble_eq_true rfl) ⟨by decide, by decide⟩ ⟨by show 3 + 5 * d + 1 + 4 ≤ 28; omega, by show 16 + 38 * d + 4 + 34 ≤ 206; omega⟩ (by decide +kernel) (fun v1 h1 hp hn hd => ?_) (fun v1 h1 hp hn hd => ?_)
        · rw [zz_mix_self hd]
          obtain ⟨k, v, f, s, Dk, ⟨k0, v0, f0, s0⟩, hh, hv⟩ := hp
          cases hv
          show zz_Z _ _ _ _ _ _ _ [some (.ref t), some (.int (nI d))] [.ref o, .int (nI d), .ref sa]
          have no : ∀ x e, hc x = some e → x ≠ o := fun x e hx q => by rw [q, ho] at hx; cases hx
          have nn : ∀ y, (va_up hc o (some (.inr (1, [.null, .null, .null, .null])))) y = none → y ≠ o ∧ hc y = none := fun y hy => by
            by_cases e : y = o
            · rw [e, va_up_self] at hy; cases hy
            · rw [va_up_ne _ _ e] at hy; exact ⟨e, hy⟩
          have fr : ∀ x e, hc x = some e → sgN x k v f s := fun x e hx => ⟨(fun q => by rw [q, (nn k k0).2] at hx; cases hx), (fun q => by rw [q, (nn v v0).2] at hx; cases hx), (fun q => by rw [q, (nn f f0).2] at hx; cases hx), (fun q => by rw [q, (nn s s0).2] at hx; cases hx)⟩
          have keep : ∀ x e, hc x = some e → h1 x = some e := fun x e hx => by rw [hh, va_up_ne _ _ (no x e hx), sgU_n (fr x e hx), va_up_ne _ _ (no x e hx)]; exact hx
          have o1 : h1 o = some (sgE k v f s) := by rw [hh, va_up_self]
          refine zz_qast C 4 (fun _ => rfl) (ci := 1) rfl (show h1 sa = some (saE (zz_ac K) 5 Sr) from keep _ _ hsa) o1 (vp_in_nI (by omega) (by omega)) (by decide +kernel) ?_
          rw [nI_clamp (by omega)]
          refine zz_go C [(61, .iinc 1 1), (64, .goto (-21))] (by decide +kernel) (pc' := 43) (lv' := [some (.ref t), some (.int ((nI d) + (nI 1)))]) (st' := []) rfl ?_
          rw [show nI d + nI 1 = nI (d + 1) from nI_add d 1]
          have k2 : ∀ x e, hc x = some e → zKi e ≠ 9 ∨ zEl e ≠ 5 → (va_up h1 sa (some (saE (zz_ac K) 5 (va_up Sr d (some o))))) x = some e := fun x e hx hq => by
            have n1 : x ≠ sa := hq.elim (fun q => ne_k hx hsa q) (fun q => ne_l hx hsa q)
            rw [va_up_ne _ _ n1]; exact keep x e hx
          have ns : sgN sa k v f s := fr sa _ hsa
          refine zz_widen (k' := 3 + 5 * (d + 1)) (n' := 16 + 38 * (d + 1)) (by show 3 + 5 * d + 1 + 4 ≤ _; omega) (by show 16 + 38 * d + 4 + 34 ≤ _; omega) ?_
          refine ih (d + 1) la sa a (fun e => if e = d then (o, k, v, f, s) else A e) (va_up Sr d (some o)) Lr _ (by omega) (k2 _ _ ht (Or.inl (by rw [ki_ot]; decide))) (k2 _ _ hla (Or.inr (by rw [el_ma]; decide))) hLr (k2 _ _ ha (Or.inl (by rw [ki_mk]; decide))) (va_up_self _ _ _) (siN_s I Dk hla fr ?_ ?_ ?_ ?_ ?_ k2)
          · rw [va_up_ne _ _ (fun q => no sa _ hsa q.symm)]; exact o1
          · exact ⟨fun _ => 0, by rw [va_up_ne _ _ (Ne.symm ns.1), hh, va_up_ne _ _ (nn k k0).1, sgU_k]⟩
          · exact ⟨fun _ => 0, by rw [va_up_ne _ _ (Ne.symm ns.2.1), hh, va_up_ne _ _ (nn v v0).1, sgU_v Dk]⟩
          · exact ⟨fun _ => none, by rw [va_up_ne _ _ (Ne.symm ns.2.2.1), hh, va_up_ne _ _ (nn f f0).1, sgU_f Dk]⟩
          · exact ⟨fun _ => 0, by rw [va_up_ne _ _ (Ne.symm ns.2.2.2), hh, va_up_ne _ _ (nn s s0).1, sgU_s Dk]⟩
        · obtain ⟨_, _, _, _, _, _, _, hv⟩ := hp; cases hv
  refine zz_go C [(0, .aload_n 0)] (by decide +kernel) (pc' := 1) (lv' := [some (.ref t), none]) (st' := [.ref t]) rfl ?_
  refine zr_obj C E ml_T_1 (by decide) (by decide) (by decide +kernel) ?_
  refine zz_go C [(4, .aload_n 0), (5, .bipush 8)] (by decide +kernel) (pc' := 7) (lv' := [some (.ref t), none]) (st' := [.int (nI 8), .ref t]) rfl ?_
  refine zr_anewM C E cl_T_9 (by decide) (N := 8) (by decide) (by decide) (by decide) (by decide) (by decide +kernel) (fun la hla zla => ?_)
  have tla : t ≠ la := fun e => by rw [e, hla] at ht; cases ht
  refine zz_putF C fd_T_11 (hI rfl) (fs := [.null, .int 0, .null]) (by rw [va_up_ne _ _ tla]; exact ht) rfl rfl (Nat.le_of_ble_eq_true rfl) (by decide +kernel) ?_
  refine zz_go C [(13, .aload_n 0)] (by decide +kernel) (pc' := 14) (lv' := [some (.ref t), none]) (st' := [.ref t]) rfl ?_
  refine zz_get C fd_T_11 (va_up_self _ _ _) (v := .ref la) rfl (by decide +kernel) ?_
  refine zz_go C [(17, .iconst 0)] (by decide +kernel) (pc' := 18) (lv' := [some (.ref t), none]) (st' := [.int (nI 0), .ref la]) rfl ?_
  refine zr_new C E nd_T_9 (by decide) (by decide) (by decide +kernel) (fun a ha za => ?_)
  refine zz_go C [(21, .dup), (22, .iconst 1), (23, .iconst 0)] (by decide +kernel) (pc' := 24) (lv' := [some (.ref t), none]) (st' := [.int (nI 0), .int (nI 1), .ref a, .ref a, .int (nI 0), .ref la]) rfl ?_
  refine zz_hp (h' := va_up (va_up (va_up h la (some (maE (zz_ac K) 8 (fun _ => none)))) t (some (.inr (2, [.ref la, .int 0, .null])))) a (some (.inr (0, [.int 0, .int 0, .null])))) rfl ?_
  refine zz_cI C E (As := [.int (nI 1), .int (nI 0)]) (rest := [.ref a, .int (nI 0), .ref la]) (hc := (va_up (va_up (va_up h la (some (maE (zz_ac K) 8 (fun _ => none)))) t (some (.inr (2, [.ref la, .int 0, .null])))) a (some (.inr (0, [.int 0, .int 0, .null]))))) md_M_init (c_M_init l D (zz_ac K) _ a 0 0 (nI 1) (nI 0) none (va_up_self _ _ _)) cw_M_init ml_T_15 im_M_init rfl (fun _ _ q => q) rfl rfl (Nat.le_of_ble_eq_true rfl) ⟨by decide, by decide⟩ ⟨(by decide), (by decide)⟩ (by decide +kernel) (fun v1 h1 hp hn hd => ?_) (fun v1 h1 hp hn hd => ?_)
  · rw [zz_mix_self hd]
    obtain ⟨hh, hv⟩ := hp
    rw [hh]
    cases hv
    show zz_Z _ _ _ _ _ _ _ _ [.ref a, .int (nI 0), .ref la]
    rw [bx_uu]
    have at_ : a ≠ t := fun e => by rw [e, va_up_self] at ha; cases ha
    have al : a ≠ la := fun e => by rw [e, va_up_ne _ _ (Ne.symm tla), va_up_self] at ha; cases ha
    refine zz_qast C 3 (fun _ => rfl) (ci := 0) rfl (show _ = some (maE (zz_ac K) 8 (fun _ => none)) by rw [va_up_ne _ _ (Ne.symm al), va_up_ne _ _ (Ne.symm tla), va_up_self]) (show _ = some (mkE (nI 1) (nI 0) none) from va_up_self _ _ _) (vp_in_nI (n := 0) (by decide) (by decide)) (by decide +kernel) ?_
    rw [nI_clamp (by decide)]
    refine zz_go C [(28, .aload_n 0), (29, .iconst 1)] (by decide +kernel) (pc' := 30) (lv' := [some (.ref t), none]) (st' := [.int (nI 1), .ref t]) rfl ?_
    refine zz_putf C fd_T_18 (fs := [.ref la, .int 0, .null]) (by rw [va_up_ne _ _ tla, va_up_ne _ _ (Ne.symm at_), va_up_self]) rfl rfl (Nat.le_of_ble_eq_true rfl) (by decide +kernel) ?_
    refine zz_go C [(33, .aload_n 0), (34, .iconst 5)] (by decide +kernel) (pc' := 35) (lv' := [some (.ref t), none]) (st' := [.int (nI 5), .ref t]) rfl ?_
    refine zr_anewS C E cl_T_22 (by decide) (N := 5) (by decide) (by decide) (by decide) (by decide) (by decide +kernel) (fun sa hsa zsa => ?_)
    have ts : sa ≠ t := fun e => by rw [e, va_up_self] at hsa; cases hsa
    have ls : sa ≠ la := fun e => by rw [e, va_up_ne _ _ (Ne.symm tla), va_up_self] at hsa; cases hsa
    have as : sa ≠ a := fun e => by rw [e, va_up_ne _ _ at_, va_up_ne _ _ al, va_up_self] at hsa; cases hsa
    refine zz_putF C fd_T_24 (hI rfl) (fs := [.ref la, .int (nI 1), .null]) (by rw [va_up_ne _ _ (Ne.symm ts), va_up_self]; rfl) rfl rfl (Nat.le_of_ble_eq_true rfl) (by decide +kernel) ?_
    refine zz_go C [(41, .iconst 0), (42, .istore_n 1)] (by decide +kernel) (pc' := 43) (lv' := [some (.ref t), some (.int (nI 0))]) (st' := []) rfl ?_
    exact loop 5 0 la sa a (fun _ => (0, 0, 0, 0, 0)) (fun _ => none) (va_up (fun _ => none) 0 (some a)) _ rfl (va_up_self _ _ _) (by rw [va_up_ne _ _ (Ne.symm tla), va_up_ne _ _ (Ne.symm ls), va_up_ne _ _ (Ne.symm tla), va_up_self]; rfl) (va_up_self _ _ _) (by rw [va_up_ne _ _ at_, va_up_ne _ _ (Ne.symm as), va_up_ne _ _ at_, va_up_ne _ _ al, va_up_self]) (by rw [va_up_ne _ _ ts, va_up_self]; rfl) ⟨fun e he => absurd he (by omega), fun e e' he => absurd he (by omega)⟩
  · cases hp.2
