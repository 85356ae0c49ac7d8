/-! ===== PathProfiler$Search ===== -/
section SearchC
variable {g : gp_T} {B : List va_E} {G : Gr} {T : Tx} {R : Rd} {S : Se} {K : Lk} {E : Tr} {Q : Pa} {V : Wk} {an : Bool}
theorem c_enter (v : Nat) (hv : v < 12) (hd : S.2.2.2.2.1 < 12) : Ct g mX4_enter [.ref (g.1 + 12), .int (nI v)] 0 (CA g G T R S K E Q V an) B 0 0 (rP none (CA g G T R (enS S v) K E Q V an) B) noX := by
  refine Ct.of [some (.ref (g.1 + 12)), some (.int (nI v))] (by decide) rfl (Nat.le_of_ble_eq_true rfl) rfl ?_
  refine a_aload_n (q := 1) dX4_enter_0 rfl rfl rfl ?_
  refine a_getA (q := 4) dX4_enter_1 fX4_32 rfl rfl rfl ?_
  refine a_iload_n (q := 5) dX4_enter_4 rfl rfl rfl ?_
  refine a_iconst (q := 6) (b2 true) dX4_enter_5 (by decide) rfl ?_
  refine a_zastAN (q := 7) dX4_enter_6 rfl (by omega) (by decide) rfl ?_
  refine a_aload_n (q := 8) dX4_enter_7 rfl rfl rfl ?_
  refine a_getA (q := 11) dX4_enter_8 fX4_35 rfl rfl rfl ?_
  refine a_iload_n (q := 12) dX4_enter_11 rfl rfl rfl ?_
  refine a_iconst (q := 13) (b2 true) dX4_enter_12 (by decide) rfl ?_
  refine a_zastAN (q := 14) dX4_enter_13 rfl (by omega) (by decide) rfl ?_
  refine a_aload_n (q := 15) dX4_enter_14 rfl rfl rfl ?_
  refine a_getA (q := 18) dX4_enter_15 fX4_23 rfl rfl rfl ?_
  refine a_aload_n (q := 19) dX4_enter_18 rfl rfl rfl ?_
  refine a_getA (q := 22) dX4_enter_19 fX4_26 rfl rfl rfl ?_
  refine a_iload_n (q := 23) dX4_enter_22 rfl rfl rfl ?_
  refine a_iastAN (q := 24) dX4_enter_23 rfl (by omega) (by decide) rfl ?_
  refine a_aload_n (q := 25) dX4_enter_24 rfl rfl rfl ?_
  refine a_dup (q := 26) dX4_enter_25 rfl rfl ?_
  refine a_getA (q := 29) dX4_enter_26 fX4_26 rfl rfl rfl ?_
  refine a_iconst (q := 30) (nI 1) dX4_enter_29 (by decide) rfl ?_
  refine a_iaddN (q := 31) dX4_enter_30 rfl ?_
  refine a_putA (q := 34) dX4_enter_31 fX4_26 (fun h => nomatch h) rfl (Nat.le_of_ble_eq_true rfl) rfl rfl rfl ?_
  exact a_ret dX4_enter_34 rfl (Nat.le_of_ble_eq_true rfl) (Nat.le_of_ble_eq_true rfl) (⟨rfl, rfl, rfl, rfl⟩)
theorem c_leave (v : Nat) (hv : v < 12) (hd : 0 < S.2.2.2.2.1) (hl : S.2.2.1 < 12) : Ct g mX4_leave [.ref (g.1 + 12), .int (nI v)] 0 (CA g G T R S K E Q V an) B 0 0 (rP none (CA g G T R (lvS S v) K E Q V an) B) noX := by
  refine Ct.of [some (.ref (g.1 + 12)), some (.int (nI v))] (by decide) rfl (Nat.le_of_ble_eq_true rfl) rfl ?_
  refine a_aload_n (q := 1) dX4_leave_0 rfl rfl rfl ?_
  refine a_getA (q := 4) dX4_leave_1 fX4_35 rfl rfl rfl ?_
  refine a_iload_n (q := 5) dX4_leave_4 rfl rfl rfl ?_
  refine a_iconst (q := 6) (b2 false) dX4_leave_5 (by decide) rfl ?_
  refine a_zastAN (q := 7) dX4_leave_6 rfl (by omega) (by decide) rfl ?_
  refine a_aload_n (q := 8) dX4_leave_7 rfl rfl rfl ?_
  refine a_dup (q := 9) dX4_leave_8 rfl rfl ?_
  refine a_getA (q := 12) dX4_leave_9 fX4_26 rfl rfl rfl ?_
  refine a_iconst (q := 13) (nI 1) dX4_leave_12 (by decide) rfl ?_
  refine a_isubN (q := 14) dX4_leave_13 (by omega) rfl ?_
  refine a_putA (q := 17) dX4_leave_14 fX4_26 (fun h => nomatch h) rfl (Nat.le_of_ble_eq_true rfl) rfl rfl rfl ?_
  refine a_aload_n (q := 18) dX4_leave_17 rfl rfl rfl ?_
  refine a_getA (q := 21) dX4_leave_18 fX4_19 rfl rfl rfl ?_
  refine a_bipush (q := 23) (nI 12) dX4_leave_21 (by decide) rfl ?_
  refine a_icmp_geN (q := 26) 46 dX4_leave_23 (by decide) (by omega) (by omega) rfl (fun c23 => ?_) (fun c23 => ?_)
  · omega
  · skip
    refine a_aload_n (q := 27) dX4_leave_26 rfl rfl rfl ?_
    refine a_getA (q := 30) dX4_leave_27 fX4_15 rfl rfl rfl ?_
    refine a_aload_n (q := 31) dX4_leave_30 rfl rfl rfl ?_
    refine a_getA (q := 34) dX4_leave_31 fX4_19 rfl rfl rfl ?_
    refine a_iload_n (q := 35) dX4_leave_34 rfl rfl rfl ?_
    refine a_iastAN (q := 36) dX4_leave_35 rfl (by omega) (by decide) rfl ?_
    refine a_aload_n (q := 37) dX4_leave_36 rfl rfl rfl ?_
    refine a_dup (q := 38) dX4_leave_37 rfl rfl ?_
    refine a_getA (q := 41) dX4_leave_38 fX4_19 rfl rfl rfl ?_
    refine a_iconst (q := 42) (nI 1) dX4_leave_41 (by decide) rfl ?_
    refine a_iaddN (q := 43) dX4_leave_42 rfl ?_
    refine a_putA (q := 46) dX4_leave_43 fX4_19 (fun h => nomatch h) rfl (Nat.le_of_ble_eq_true rfl) rfl rfl rfl ?_
    exact a_ret dX4_leave_46 rfl (Nat.le_of_ble_eq_true rfl) (Nat.le_of_ble_eq_true rfl) (⟨rfl, rfl, rfl, rfl⟩)
theorem c_follow (k : Nat) (hk : k < 24) (ht : G.2.2.2.1 k < 12) (hd : S.2.2.2.2.2.2.1 (G.2.2.2.1 k) = false → S.2.2.2.2.1 < 12) : Ct g mX4_follow [.ref (g.1 + 12), .int (nI k)] 0 (CA g G T R S K E Q V an) B 0 0 (rP none (CA g G T R (foS G S k) K E Q V an) B) noX := by
  refine Ct.of [some (.ref (g.1 + 12)), some (.int (nI k)), none] (by decide) rfl (Nat.le_of_ble_eq_true rfl) rfl ?_
  refine a_aload_n (q := 1) dX4_follow_0 rfl rfl rfl ?_
  refine a_getA (q := 4) dX4_follow_1 fX4_41 rfl rfl rfl ?_
  refine a_getA (q := 7) dX4_follow_4 fX4_64 rfl rfl rfl ?_
  refine a_iload_n (q := 8) dX4_follow_7 rfl rfl rfl ?_
  refine a_ialdAN (q := 9) dX4_follow_8 rfl (by omega) (by decide) rfl ?_
  refine a_istore_n (q := 10) dX4_follow_9 rfl (Nat.le_of_ble_eq_true rfl) rfl rfl ?_
  refine a_aload_n (q := 11) dX4_follow_10 rfl rfl rfl ?_
  refine a_getA (q := 14) dX4_follow_11 fX4_35 rfl rfl rfl ?_
  refine a_iload_n (q := 15) dX4_follow_14 rfl rfl rfl ?_
  refine a_zaldAN (q := 16) dX4_follow_15 rfl (by omega) (by decide) rfl ?_
  refine a_if_eqZ (q := 19) 29 dX4_follow_16 (by decide) rfl (fun c16 => ?_) (fun c16 => ?_)
  · unfold foS
    rw [if_neg (by rw [c16]; decide)]
    refine a_aload_n (q := 30) dX4_follow_29 rfl rfl rfl ?_
    refine a_getA (q := 33) dX4_follow_30 fX4_32 rfl rfl rfl ?_
    refine a_iload_n (q := 34) dX4_follow_33 rfl rfl rfl ?_
    refine a_zaldAN (q := 35) dX4_follow_34 rfl (by omega) (by decide) rfl ?_
    refine a_if_neZ (q := 38) 52 dX4_follow_35 (by decide) rfl (fun c35 => ?_) (fun c35 => ?_)
    · rw [if_pos c35]
      exact a_ret dX4_follow_52 rfl (Nat.le_of_ble_eq_true rfl) (Nat.le_of_ble_eq_true rfl) (⟨rfl, rfl, rfl, rfl⟩)
    · rw [if_neg (by rw [c35]; decide)]
      have hd2 := hd c35
      refine a_aload_n (q := 39) dX4_follow_38 rfl rfl rfl ?_
      refine a_getA (q := 42) dX4_follow_39 fX4_26 rfl rfl rfl ?_
      refine a_bipush (q := 44) (nI 12) dX4_follow_42 (by decide) rfl ?_
      refine a_icmp_geN (q := 47) 52 dX4_follow_44 (by decide) (by omega) (by omega) rfl (fun c44 => ?_) (fun c44 => ?_)
      · omega
      · skip
        refine a_aload_n (q := 48) dX4_follow_47 rfl rfl rfl ?_
        refine a_iload_n (q := 49) dX4_follow_48 rfl rfl rfl ?_
        refine a_cVA0 (q := 52) _ dX4_follow_49 kX4_48 (c_enter _ ht (hd c35)) rfl rfl rfl (Nat.le_of_ble_eq_true rfl) ⟨(Nat.le_of_ble_eq_true rfl), (Nat.le_of_ble_eq_true rfl)⟩ ⟨(Nat.le_of_ble_eq_true rfl), (Nat.le_of_ble_eq_true rfl)⟩ rfl ?_
        exact a_ret dX4_follow_52 rfl (Nat.le_of_ble_eq_true rfl) (Nat.le_of_ble_eq_true rfl) (⟨rfl, rfl, rfl, rfl⟩)
  · unfold foS
    rw [if_pos c16]
    refine a_aload_n (q := 20) dX4_follow_19 rfl rfl rfl ?_
    refine a_getA (q := 23) dX4_follow_20 fX4_9 rfl rfl rfl ?_
    refine a_iload_n (q := 24) dX4_follow_23 rfl rfl rfl ?_
    refine a_iconst (q := 25) (b2 true) dX4_follow_24 (by decide) rfl ?_
    refine a_zastAN (q := 26) dX4_follow_25 rfl (by omega) (by decide) rfl ?_
    refine a_goto 52 dX4_follow_26 (by decide) ?_
    exact a_ret dX4_follow_52 rfl (Nat.le_of_ble_eq_true rfl) (Nat.le_of_ble_eq_true rfl) (⟨rfl, rfl, rfl, rfl⟩)
theorem l_prep1 (P : ps_T) (cont : AW g mX4_prepare 0 0 P noX 0 0 45 [some (.ref (g.1 + 12)), some (.int (nI 12))] [] 0 (CA g G T R (S.1, S.2.1, 0, S.2.2.2.1, 0, fun _ => 0, fun _ => false, fun _ => false, S.2.2.2.2.2.2.2.2) K E Q V an) B) : ∀ (m k : Nat) (f1 : Nat → Nat) (f2 f3 : Nat → Bool), 12 - k = m → k ≤ 12 → (∀ i, i < k → f1 i = 0 ∧ f2 i = false ∧ f3 i = false) → AW g mX4_prepare 0 0 P noX 0 0 12 [some (.ref (g.1 + 12)), some (.int (nI k))] [] 0 (CA g G T R (S.1, S.2.1, 0, S.2.2.2.1, 0, f1, f2, f3, S.2.2.2.2.2.2.2.2) K E Q V an) B := by
  intro m
  induction m with
  | zero =>
    intro k f1 f2 f3 hm hk hf
    have hk2 : k = 12 := by omega
    subst hk2
    refine a_swapA 16 (aN g 12 (fun _ => 0)) rfl (ceq_n (fun i hi => (hf i hi).1)) ?_
    refine a_swapA 17 (aB g 12 (fun _ => false)) rfl (ceq_b (fun i hi => (hf i hi).2.1)) ?_
    refine a_swapA 18 (aB g 12 (fun _ => false)) rfl (ceq_b (fun i hi => (hf i hi).2.2)) ?_
    refine a_iload_n (q := 13) dX4_prepare_12 rfl rfl rfl ?_
    refine a_bipush (q := 15) (nI 12) dX4_prepare_13 (by decide) rfl ?_
    refine a_icmp_geN (q := 18) 45 dX4_prepare_15 (by decide) (by omega) (by omega) rfl (fun c15 => ?_) (fun c15 => ?_)
    · skip
      exact cont
    · omega
  | succ m ih =>
    intro k f1 f2 f3 hm hk hf
    refine a_iload_n (q := 13) dX4_prepare_12 rfl rfl rfl ?_
    refine a_bipush (q := 15) (nI 12) dX4_prepare_13 (by decide) rfl ?_
    refine a_icmp_geN (q := 18) 45 dX4_prepare_15 (by decide) (by omega) (by omega) rfl (fun c15 => ?_) (fun c15 => ?_)
    · omega
    · skip
      refine a_aload_n (q := 19) dX4_prepare_18 rfl rfl rfl ?_
      refine a_getA (q := 22) dX4_prepare_19 fX4_29 rfl rfl rfl ?_
      refine a_iload_n (q := 23) dX4_prepare_22 rfl rfl rfl ?_
      refine a_iconst (q := 24) (nI 0) dX4_prepare_23 (by decide) rfl ?_
      refine a_iastAN (q := 25) dX4_prepare_24 rfl (by omega) (by decide) rfl ?_
      refine a_aload_n (q := 26) dX4_prepare_25 rfl rfl rfl ?_
      refine a_getA (q := 29) dX4_prepare_26 fX4_32 rfl rfl rfl ?_
      refine a_iload_n (q := 30) dX4_prepare_29 rfl rfl rfl ?_
      refine a_iconst (q := 31) (b2 false) dX4_prepare_30 (by decide) rfl ?_
      refine a_zastAN (q := 32) dX4_prepare_31 rfl (by omega) (by decide) rfl ?_
      refine a_aload_n (q := 33) dX4_prepare_32 rfl rfl rfl ?_
      refine a_getA (q := 36) dX4_prepare_33 fX4_35 rfl rfl rfl ?_
      refine a_iload_n (q := 37) dX4_prepare_36 rfl rfl rfl ?_
      refine a_iconst (q := 38) (b2 false) dX4_prepare_37 (by decide) rfl ?_
      refine a_zastAN (q := 39) dX4_prepare_38 rfl (by omega) (by decide) rfl ?_
      refine a_iincN (q := 42) (c := 1) dX4_prepare_39 rfl (by decide) rfl rfl ?_
      refine a_goto 12 dX4_prepare_42 (by decide) ?_
      exact ih (k + 1) (va_up f1 k 0) (va_up f2 k false) (va_up f3 k false) (by omega) (by omega) (fun i hi => by
      by_cases e : i = k
      · rw [e, va_same, va_same, va_same]; exact ⟨rfl, rfl, rfl⟩
      · rw [va_other e, va_other e, va_other e]; exact hf i (by omega))
theorem l_prep2 (P : ps_T) (hp : P none 0 (CA g G T R ((fun _ => false), S.2) K E Q V an) B) : ∀ (m k : Nat) (f : Nat → Bool), 24 - k = m → k ≤ 24 → (∀ i, i < k → f i = false) → AW g mX4_prepare 0 0 P noX 0 0 47 [some (.ref (g.1 + 12)), some (.int (nI k))] [] 0 (CA g G T R (f, S.2) K E Q V an) B := by
  intro m
  induction m with
  | zero =>
    intro k f hm hk hf
    have hk2 : k = 24 := by omega
    subst hk2
    refine a_swapA 13 (aB g 24 (fun _ => false)) rfl (ceq_b (fun i hi => hf i hi)) ?_
    refine a_iload_n (q := 48) dX4_prepare_47 rfl rfl rfl ?_
    refine a_bipush (q := 50) (nI 24) dX4_prepare_48 (by decide) rfl ?_
    refine a_icmp_geN (q := 53) 66 dX4_prepare_50 (by decide) (by omega) (by omega) rfl (fun c50 => ?_) (fun c50 => ?_)
    · skip
      exact a_ret dX4_prepare_66 rfl (Nat.le_of_ble_eq_true rfl) (Nat.le_of_ble_eq_true rfl) (hp)
    · omega
  | succ m ih =>
    intro k f hm hk hf
    refine a_iload_n (q := 48) dX4_prepare_47 rfl rfl rfl ?_
    refine a_bipush (q := 50) (nI 24) dX4_prepare_48 (by decide) rfl ?_
    refine a_icmp_geN (q := 53) 66 dX4_prepare_50 (by decide) (by omega) (by omega) rfl (fun c50 => ?_) (fun c50 => ?_)
    · omega
    · skip
      refine a_aload_n (q := 54) dX4_prepare_53 rfl rfl rfl ?_
      refine a_getA (q := 57) dX4_prepare_54 fX4_9 rfl rfl rfl ?_
      refine a_iload_n (q := 58) dX4_prepare_57 rfl rfl rfl ?_
      refine a_iconst (q := 59) (b2 false) dX4_prepare_58 (by decide) rfl ?_
      refine a_zastAN (q := 60) dX4_prepare_59 rfl (by omega) (by decide) rfl ?_
      refine a_iincN (q := 63) (c := 1) dX4_prepare_60 rfl (by decide) rfl rfl ?_
      refine a_goto 47 dX4_prepare_63 (by decide) ?_
      exact ih (k + 1) (va_up f k false) (by omega) (by omega) (fun i hi => by
      by_cases e : i = k
      · rw [e, va_same]
      · rw [va_other e]; exact hf i (by omega))
theorem c_prepare : Ct g mX4_prepare [.ref (g.1 + 12)] 0 (CA g G T R S K E Q V an) B 0 0 (rP none (CA g G T R (prS S) K E Q V an) B) noX := by
  refine Ct.of [some (.ref (g.1 + 12)), none] (by decide) rfl (Nat.le_of_ble_eq_true rfl) rfl ?_
  refine a_aload_n (q := 1) dX4_prepare_0 rfl rfl rfl ?_
  refine a_iconst (q := 2) (nI 0) dX4_prepare_1 (by decide) rfl ?_
  refine a_putA (q := 5) dX4_prepare_2 fX4_26 (fun h => nomatch h) rfl (Nat.le_of_ble_eq_true rfl) rfl rfl rfl ?_
  refine a_aload_n (q := 6) dX4_prepare_5 rfl rfl rfl ?_
  refine a_iconst (q := 7) (nI 0) dX4_prepare_6 (by decide) rfl ?_
  refine a_putA (q := 10) dX4_prepare_7 fX4_19 (fun h => nomatch h) rfl (Nat.le_of_ble_eq_true rfl) rfl rfl rfl ?_
  refine a_iconst (q := 11) (nI 0) dX4_prepare_10 (by decide) rfl ?_
  refine a_istore_n (q := 12) dX4_prepare_11 rfl (Nat.le_of_ble_eq_true rfl) rfl rfl ?_
  refine l_prep1 (S := S) _ ?_ _ 0 _ _ _ rfl (Nat.zero_le _) (fun i hi => absurd hi (Nat.not_lt_zero i))
  refine a_iconst (q := 46) (nI 0) dX4_prepare_45 (by decide) rfl ?_
  refine a_istore_n (q := 47) dX4_prepare_46 rfl (Nat.le_of_ble_eq_true rfl) rfl rfl ?_
  exact l_prep2 (S := prS S) _ ⟨rfl, rfl, rfl, rfl⟩ _ 0 S.1 rfl (Nat.zero_le _) (fun i hi => absurd hi (Nat.not_lt_zero i))
theorem l_run (P : ps_T) (hg : gok G) : ∀ (m k : Nat) (S : Se) (L2 L3 : Option Value), 36 - k = m → k ≤ 36 → dI G S → P none 0 (CA g G T R (dfF G m S) K E Q V an) B → AW g mX4_run 0 0 P noX 0 0 11 [some (.ref (g.1 + 12)), some (.int (nI k)), L2, L3] [] 0 (CA g G T R S K E Q V an) B := by
  intro m
  obtain ⟨g1, g2, g3, g4, g5⟩ := id hg
  induction m with
  | zero =>
    intro k S L2 L3 hm hk hd hp
    refine a_iload_n (q := 12) dX4_run_11 rfl rfl rfl ?_
    refine a_bipush (q := 14) (nI 36) dX4_run_12 (by decide) rfl ?_
    refine a_icmp_geN (q := 17) 84 dX4_run_14 (by decide) (by omega) (by omega) rfl (fun c14 => ?_) (fun c14 => ?_)
    · skip
      exact a_ret dX4_run_84 rfl (Nat.le_of_ble_eq_true rfl) (Nat.le_of_ble_eq_true rfl) (hp)
    · omega
  | succ m ih =>
    intro k S L2 L3 hm hk hd hp
    have hle := dI_le hd
    unfold dfF at hp
    have htr : 0 < S.2.2.2.2.1 → dI G (trn G S) := fun q => (dI_trn hg hd q).1
    have htop : 0 < S.2.2.2.2.1 → tpS S < G.1 := fun q => (hd.2.1 (S.2.2.2.2.1 - 1) (by omega)).1
    have hnx : S.2.2.2.2.2.1 (tpS S) ≤ G.2.1 := hd.2.2.2.2.2.1 _
    by_cases hne : neS G S < G.2.1
    · have e1 : trn G S = foS G (nxS S (tpS S) (neS G S + 1)) (neS G S) := by unfold trn; rw [if_pos hne]
      rw [e1] at hp htr
      obtain ⟨e2, e3, e4, e5⟩ := g4 _ hne
      refine a_iload_n (q := 12) dX4_run_11 rfl rfl rfl ?_
      refine a_bipush (q := 14) (nI 36) dX4_run_12 (by decide) rfl ?_
      refine a_icmp_geN (q := 17) 84 dX4_run_14 (by decide) (by omega) (by omega) rfl (fun c14 => ?_) (fun c14 => ?_)
      · omega
      · skip
        refine a_aload_n (q := 18) dX4_run_17 rfl rfl rfl ?_
        refine a_getA (q := 21) dX4_run_18 fX4_26 rfl rfl rfl ?_
        refine a_if_leN (q := 24) 84 dX4_run_21 (by decide) (by omega) rfl (fun c21 => ?_) (fun c21 => ?_)
        · rw [if_pos c21] at hp
          exact a_ret dX4_run_84 rfl (Nat.le_of_ble_eq_true rfl) (Nat.le_of_ble_eq_true rfl) (hp)
        · rw [if_neg (by omega)] at hp
          have htop := htop c21
          have htr := htr c21
          refine a_aload_n (q := 25) dX4_run_24 rfl rfl rfl ?_
          refine a_getA (q := 28) dX4_run_25 fX4_23 rfl rfl rfl ?_
          refine a_aload_n (q := 29) dX4_run_28 rfl rfl rfl ?_
          refine a_getA (q := 32) dX4_run_29 fX4_26 rfl rfl rfl ?_
          refine a_iconst (q := 33) (nI 1) dX4_run_32 (by decide) rfl ?_
          refine a_isubN (q := 34) dX4_run_33 (by omega) rfl ?_
          refine a_ialdAN (q := 35) dX4_run_34 rfl (by omega) (by decide) rfl ?_
          show AW _ _ _ _ _ _ _ _ _ _ (.int (nI (tpS S)) :: _) _ _ _
          refine a_istore_n (q := 36) dX4_run_35 rfl (Nat.le_of_ble_eq_true rfl) rfl rfl ?_
          refine a_aload_n (q := 37) dX4_run_36 rfl rfl rfl ?_
          refine a_getA (q := 40) dX4_run_37 fX4_41 rfl rfl rfl ?_
          refine a_iload_n (q := 41) dX4_run_40 rfl rfl rfl ?_
          refine a_aload_n (q := 42) dX4_run_41 rfl rfl rfl ?_
          refine a_getA (q := 45) dX4_run_42 fX4_29 rfl rfl rfl ?_
          refine a_iload_n (q := 46) dX4_run_45 rfl rfl rfl ?_
          refine a_ialdAN (q := 47) dX4_run_46 rfl (by omega) (by decide) rfl ?_
          refine a_cVAv (q := 50) _ dX4_run_47 kX4_52 (c_nextOf (tpS S) _ g3 hnx (by unfold big; omega) (fun i hi => by have := (g4 i hi).1; unfold big; omega)) rfl rfl rfl (Nat.le_of_ble_eq_true rfl) ⟨(Nat.le_of_ble_eq_true rfl), (Nat.le_of_ble_eq_true rfl)⟩ ⟨(Nat.le_of_ble_eq_true rfl), (Nat.le_of_ble_eq_true rfl)⟩ rfl ?_
          show AW _ _ _ _ _ _ _ _ _ _ (.int (if neS G S < G.2.1 then nI (neS G S) else -1) :: _) _ _ _
          rw [if_pos hne]
          refine a_istore_n (q := 51) dX4_run_50 rfl (Nat.le_of_ble_eq_true rfl) rfl rfl ?_
          refine a_iload_n (q := 52) dX4_run_51 rfl rfl rfl ?_
          refine a_iconst (q := 53) (-1) dX4_run_52 (by decide) rfl ?_
          refine a_icmp_ne (q := 56) 64 dX4_run_53 (by decide) rfl (fun c53 => ?_) (fun c53 => ?_)
          · skip
            refine a_aload_n (q := 65) dX4_run_64 rfl rfl rfl ?_
            refine a_getA (q := 68) dX4_run_65 fX4_29 rfl rfl rfl ?_
            refine a_iload_n (q := 69) dX4_run_68 rfl rfl rfl ?_
            refine a_iload_n (q := 70) dX4_run_69 rfl rfl rfl ?_
            refine a_iconst (q := 71) (nI 1) dX4_run_70 (by decide) rfl ?_
            refine a_iaddN (q := 72) dX4_run_71 rfl ?_
            refine a_iastAN (q := 73) dX4_run_72 rfl (by omega) (by decide) rfl ?_
            refine a_aload_n (q := 74) dX4_run_73 rfl rfl rfl ?_
            refine a_iload_n (q := 75) dX4_run_74 rfl rfl rfl ?_
            refine a_cVA0 (q := 78) _ dX4_run_75 kX4_61 (c_follow (S := nxS S (tpS S) (neS G S + 1)) _ (by omega) (by omega) (fun hh => by
                have h9 := cnt_lt (p := S.2.2.2.2.2.2.1) G.1 e4 hh
                rw [hd.1] at h9
                show S.2.2.2.2.1 < 12
                omega)) rfl rfl rfl (Nat.le_of_ble_eq_true rfl) ⟨(Nat.le_of_ble_eq_true rfl), (Nat.le_of_ble_eq_true rfl)⟩ ⟨(Nat.le_of_ble_eq_true rfl), (Nat.le_of_ble_eq_true rfl)⟩ rfl ?_
            refine a_iincN (q := 81) (c := 1) dX4_run_78 rfl (by decide) rfl rfl ?_
            refine a_goto 11 dX4_run_81 (by decide) ?_
            exact ih (k + 1) _ _ _ (by omega) (by omega) htr hp
          · exact absurd (show nI (neS G S) < 0 by rw [c53]; decide) (nI_pos (by omega))
    · have e1 : trn G S = lvS S (tpS S) := by unfold trn; rw [if_neg hne]
      rw [e1] at hp htr
      refine a_iload_n (q := 12) dX4_run_11 rfl rfl rfl ?_
      refine a_bipush (q := 14) (nI 36) dX4_run_12 (by decide) rfl ?_
      refine a_icmp_geN (q := 17) 84 dX4_run_14 (by decide) (by omega) (by omega) rfl (fun c14 => ?_) (fun c14 => ?_)
      · omega
      · skip
        refine a_aload_n (q := 18) dX4_run_17 rfl rfl rfl ?_
        refine a_getA (q := 21) dX4_run_18 fX4_26 rfl rfl rfl ?_
        refine a_if_leN (q := 24) 84 dX4_run_21 (by decide) (by omega) rfl (fun c21 => ?_) (fun c21 => ?_)
        · rw [if_pos c21] at hp
          exact a_ret dX4_run_84 rfl (Nat.le_of_ble_eq_true rfl) (Nat.le_of_ble_eq_true rfl) (hp)
        · rw [if_neg (by omega)] at hp
          have htop := htop c21
          have htr := htr c21
          refine a_aload_n (q := 25) dX4_run_24 rfl rfl rfl ?_
          refine a_getA (q := 28) dX4_run_25 fX4_23 rfl rfl rfl ?_
          refine a_aload_n (q := 29) dX4_run_28 rfl rfl rfl ?_
          refine a_getA (q := 32) dX4_run_29 fX4_26 rfl rfl rfl ?_
          refine a_iconst (q := 33) (nI 1) dX4_run_32 (by decide) rfl ?_
          refine a_isubN (q := 34) dX4_run_33 (by omega) rfl ?_
          refine a_ialdAN (q := 35) dX4_run_34 rfl (by omega) (by decide) rfl ?_
          show AW _ _ _ _ _ _ _ _ _ _ (.int (nI (tpS S)) :: _) _ _ _
          refine a_istore_n (q := 36) dX4_run_35 rfl (Nat.le_of_ble_eq_true rfl) rfl rfl ?_
          refine a_aload_n (q := 37) dX4_run_36 rfl rfl rfl ?_
          refine a_getA (q := 40) dX4_run_37 fX4_41 rfl rfl rfl ?_
          refine a_iload_n (q := 41) dX4_run_40 rfl rfl rfl ?_
          refine a_aload_n (q := 42) dX4_run_41 rfl rfl rfl ?_
          refine a_getA (q := 45) dX4_run_42 fX4_29 rfl rfl rfl ?_
          refine a_iload_n (q := 46) dX4_run_45 rfl rfl rfl ?_
          refine a_ialdAN (q := 47) dX4_run_46 rfl (by omega) (by decide) rfl ?_
          refine a_cVAv (q := 50) _ dX4_run_47 kX4_52 (c_nextOf (tpS S) _ g3 hnx (by unfold big; omega) (fun i hi => by have := (g4 i hi).1; unfold big; omega)) rfl rfl rfl (Nat.le_of_ble_eq_true rfl) ⟨(Nat.le_of_ble_eq_true rfl), (Nat.le_of_ble_eq_true rfl)⟩ ⟨(Nat.le_of_ble_eq_true rfl), (Nat.le_of_ble_eq_true rfl)⟩ rfl ?_
          show AW _ _ _ _ _ _ _ _ _ _ (.int (if neS G S < G.2.1 then nI (neS G S) else -1) :: _) _ _ _
          rw [if_neg hne]
          refine a_istore_n (q := 51) dX4_run_50 rfl (Nat.le_of_ble_eq_true rfl) rfl rfl ?_
          refine a_iload_n (q := 52) dX4_run_51 rfl rfl rfl ?_
          refine a_iconst (q := 53) (-1) dX4_run_52 (by decide) rfl ?_
          refine a_icmp_ne (q := 56) 64 dX4_run_53 (by decide) rfl (fun c53 => ?_) (fun c53 => ?_)
          · exact absurd rfl c53
          · skip
            refine a_aload_n (q := 57) dX4_run_56 rfl rfl rfl ?_
            refine a_iload_n (q := 58) dX4_run_57 rfl rfl rfl ?_
            refine a_cVA0 (q := 61) _ dX4_run_58 kX4_58 (c_leave _ (by omega) c21 (by omega)) rfl rfl rfl (Nat.le_of_ble_eq_true rfl) ⟨(Nat.le_of_ble_eq_true rfl), (Nat.le_of_ble_eq_true rfl)⟩ ⟨(Nat.le_of_ble_eq_true rfl), (Nat.le_of_ble_eq_true rfl)⟩ rfl ?_
            refine a_goto 78 dX4_run_61 (by decide) ?_
            refine a_iincN (q := 81) (c := 1) dX4_run_78 rfl (by decide) rfl rfl ?_
            refine a_goto 11 dX4_run_81 (by decide) ?_
            exact ih (k + 1) _ _ _ (by omega) (by omega) htr hp
theorem c_run (hg : gok G) : Ct g mX4_run [.ref (g.1 + 12)] 0 (CA g G T R S K E Q V an) B 0 0 (rP none (CA g G T R (dfs G S) K E Q V an) B) noX := by
  refine Ct.of [some (.ref (g.1 + 12)), none, none, none] (by decide) rfl (Nat.le_of_ble_eq_true rfl) rfl ?_
  refine a_aload_n (q := 1) dX4_run_0 rfl rfl rfl ?_
  refine a_cVA0 (q := 4) _ dX4_run_1 kX4_45 (c_prepare) rfl rfl rfl (Nat.le_of_ble_eq_true rfl) ⟨(Nat.le_of_ble_eq_true rfl), (Nat.le_of_ble_eq_true rfl)⟩ ⟨(Nat.le_of_ble_eq_true rfl), (Nat.le_of_ble_eq_true rfl)⟩ rfl ?_
  refine a_aload_n (q := 5) dX4_run_4 rfl rfl rfl ?_
  refine a_iconst (q := 6) (nI 0) dX4_run_5 (by decide) rfl ?_
  refine a_cVA0 (q := 9) _ dX4_run_6 kX4_48 (c_enter _ (by decide) (by show 0 < 12; decide)) rfl rfl rfl (Nat.le_of_ble_eq_true rfl) ⟨(Nat.le_of_ble_eq_true rfl), (Nat.le_of_ble_eq_true rfl)⟩ ⟨(Nat.le_of_ble_eq_true rfl), (Nat.le_of_ble_eq_true rfl)⟩ rfl ?_
  refine a_iconst (q := 10) (nI 0) dX4_run_9 (by decide) rfl ?_
  refine a_istore_n (q := 11) dX4_run_10 rfl (Nat.le_of_ble_eq_true rfl) rfl rfl ?_
  exact l_run _ hg _ 0 _ _ _ rfl (Nat.zero_le _) (dI_start hg S).1 ⟨rfl, rfl, rfl, rfl⟩
theorem c_allNodes (hg : gok G) (hl : S.2.2.1 ≤ 12) : Ct g mX4_allNodesReached [.ref (g.1 + 12)] 0 (CA g G T R S K E Q V an) B 0 0 (rP (some (.int (b2 (decide (S.2.2.1 = G.1))))) (CA g G T R S K E Q V an) B) noX := by
  have h2 := hg.2.1
  refine Ct.of [some (.ref (g.1 + 12))] (by decide) rfl (Nat.le_of_ble_eq_true rfl) rfl ?_
  refine a_aload_n (q := 1) dX4_allNodesReached_0 rfl rfl rfl ?_
  refine a_getA (q := 4) dX4_allNodesReached_1 fX4_19 rfl rfl rfl ?_
  refine a_aload_n (q := 5) dX4_allNodesReached_4 rfl rfl rfl ?_
  refine a_getA (q := 8) dX4_allNodesReached_5 fX4_41 rfl rfl rfl ?_
  refine a_getA (q := 11) dX4_allNodesReached_8 fX4_67 rfl rfl rfl ?_
  refine a_icmp_neN (q := 14) 18 dX4_allNodesReached_11 (by decide) (by omega) (by omega) rfl (fun c11 => ?_) (fun c11 => ?_)
  · skip
    refine a_iconst (q := 19) (b2 false) dX4_allNodesReached_18 (by decide) rfl ?_
    exact a_iret dX4_allNodesReached_19 rfl (b2_narrow _) (Nat.le_of_ble_eq_true rfl) (Nat.le_of_ble_eq_true rfl) (⟨by rw [show decide (S.2.2.1 = G.1) = _ from by first | exact decide_eq_true c11 | exact decide_eq_false c11], rfl, rfl, rfl⟩)
  · skip
    refine a_iconst (q := 15) (b2 true) dX4_allNodesReached_14 (by decide) rfl ?_
    refine a_goto 19 dX4_allNodesReached_15 (by decide) ?_
    exact a_iret dX4_allNodesReached_19 rfl (b2_narrow _) (Nat.le_of_ble_eq_true rfl) (Nat.le_of_ble_eq_true rfl) (⟨by rw [show decide (S.2.2.1 = G.1) = _ from by first | exact decide_eq_true c11 | exact decide_eq_false c11], rfl, rfl, rfl⟩)
/-- one spread, from edge k on; the rounds; all nodes below n -/
def spF (G : Gr) : Nat → Nat → (Nat → Bool) → (Nat → Bool)
  | 0, _, f => f
  | m + 1, k, f => spF G m (k + 1) (if f (G.2.2.2.1 k) = true then va_up f (G.2.2.1 k) true else f)
def spR (G : Gr) : Nat → (Nat → Bool) → (Nat → Bool)
  | 0, f => f
  | m + 1, f => spR G m (spF G G.2.1 0 f)
def ldS (S : Se) (f : Nat → Bool) : Se := (S.1, S.2.1, S.2.2.1, S.2.2.2.1, S.2.2.2.2.1, S.2.2.2.2.2.1, S.2.2.2.2.2.2.1, S.2.2.2.2.2.2.2.1, f)
theorem l_spread (P : ps_T) (hg : gok G) : ∀ (m k : Nat) (f : Nat → Bool), G.2.1 - k = m → k ≤ G.2.1 → P none 0 (CA g G T R (ldS S (spF G m k f)) K E Q V an) B → AW g mX4_spreadLeadsToExit 0 0 P noX 0 0 2 [some (.ref (g.1 + 12)), some (.int (nI k))] [] 0 (CA g G T R (ldS S f) K E Q V an) B := by
  intro m
  obtain ⟨g1, g2, g3, g4, g5⟩ := id hg
  induction m with
  | zero =>
    intro k f hm hk hp
    refine a_iload_n (q := 3) dX4_spreadLeadsToExit_2 rfl rfl rfl ?_
    refine a_aload_n (q := 4) dX4_spreadLeadsToExit_3 rfl rfl rfl ?_
    refine a_getA (q := 7) dX4_spreadLeadsToExit_4 fX4_41 rfl rfl rfl ?_
    refine a_getA (q := 10) dX4_spreadLeadsToExit_7 fX4_77 rfl rfl rfl ?_
    refine a_icmp_geN (q := 13) 51 dX4_spreadLeadsToExit_10 (by decide) (by omega) (by omega) rfl (fun c10 => ?_) (fun c10 => ?_)
    · skip
      exact a_ret dX4_spreadLeadsToExit_51 rfl (Nat.le_of_ble_eq_true rfl) (Nat.le_of_ble_eq_true rfl) (hp)
    · omega
  | succ m ih =>
    intro k f hm hk hp
    have hb := g4 k
    unfold spF at hp
    refine a_iload_n (q := 3) dX4_spreadLeadsToExit_2 rfl rfl rfl ?_
    refine a_aload_n (q := 4) dX4_spreadLeadsToExit_3 rfl rfl rfl ?_
    refine a_getA (q := 7) dX4_spreadLeadsToExit_4 fX4_41 rfl rfl rfl ?_
    refine a_getA (q := 10) dX4_spreadLeadsToExit_7 fX4_77 rfl rfl rfl ?_
    refine a_icmp_geN (q := 13) 51 dX4_spreadLeadsToExit_10 (by decide) (by omega) (by omega) rfl (fun c10 => ?_) (fun c10 => ?_)
    · omega
    · obtain ⟨e1, e2, e3, e4⟩ := hb (by omega)
      refine a_aload_n (q := 14) dX4_spreadLeadsToExit_13 rfl rfl rfl ?_
      refine a_getA (q := 17) dX4_spreadLeadsToExit_14 fX4_38 rfl rfl rfl ?_
      refine a_aload_n (q := 18) dX4_spreadLeadsToExit_17 rfl rfl rfl ?_
      refine a_getA (q := 21) dX4_spreadLeadsToExit_18 fX4_41 rfl rfl rfl ?_
      refine a_getA (q := 24) dX4_spreadLeadsToExit_21 fX4_64 rfl rfl rfl ?_
      refine a_iload_n (q := 25) dX4_spreadLeadsToExit_24 rfl rfl rfl ?_
      refine a_ialdAN (q := 26) dX4_spreadLeadsToExit_25 rfl (by omega) (by decide) rfl ?_
      refine a_zaldAN (q := 27) dX4_spreadLeadsToExit_26 rfl (by omega) (by decide) rfl ?_
      refine a_if_eqZ (q := 30) 45 dX4_spreadLeadsToExit_27 (by decide) rfl (fun c27 => ?_) (fun c27 => ?_)
      · have c27 : f (G.2.2.2.1 k) = false := c27
        rw [if_neg (by rw [c27]; decide)] at hp
        refine a_iincN (q := 48) (c := 1) dX4_spreadLeadsToExit_45 rfl (by decide) rfl rfl ?_
        refine a_goto 2 dX4_spreadLeadsToExit_48 (by decide) ?_
        exact ih (k + 1) _ (by omega) (by omega) hp
      · have c27 : f (G.2.2.2.1 k) = true := c27
        rw [if_pos c27] at hp
        refine a_aload_n (q := 31) dX4_spreadLeadsToExit_30 rfl rfl rfl ?_
        refine a_getA (q := 34) dX4_spreadLeadsToExit_31 fX4_38 rfl rfl rfl ?_
        refine a_aload_n (q := 35) dX4_spreadLeadsToExit_34 rfl rfl rfl ?_
        refine a_getA (q := 38) dX4_spreadLeadsToExit_35 fX4_41 rfl rfl rfl ?_
        refine a_getA (q := 41) dX4_spreadLeadsToExit_38 fX4_80 rfl rfl rfl ?_
        refine a_iload_n (q := 42) dX4_spreadLeadsToExit_41 rfl rfl rfl ?_
        refine a_ialdAN (q := 43) dX4_spreadLeadsToExit_42 rfl (by omega) (by decide) rfl ?_
        refine a_iconst (q := 44) (b2 true) dX4_spreadLeadsToExit_43 (by decide) rfl ?_
        refine a_zastAN (q := 45) dX4_spreadLeadsToExit_44 rfl (by omega) (by decide) rfl ?_
        refine a_iincN (q := 48) (c := 1) dX4_spreadLeadsToExit_45 rfl (by decide) rfl rfl ?_
        refine a_goto 2 dX4_spreadLeadsToExit_48 (by decide) ?_
        exact ih (k + 1) _ (by omega) (by omega) hp
theorem c_spread (hg : gok G) (f : Nat → Bool) : Ct g mX4_spreadLeadsToExit [.ref (g.1 + 12)] 0 (CA g G T R (ldS S f) K E Q V an) B 0 0 (rP none (CA g G T R (ldS S (spF G G.2.1 0 f)) K E Q V an) B) noX := by
  refine Ct.of [some (.ref (g.1 + 12)), none] (by decide) rfl (Nat.le_of_ble_eq_true rfl) rfl ?_
  refine a_iconst (q := 1) (nI 0) dX4_spreadLeadsToExit_0 (by decide) rfl ?_
  refine a_istore_n (q := 2) dX4_spreadLeadsToExit_1 rfl (Nat.le_of_ble_eq_true rfl) rfl rfl ?_
  exact l_spread _ hg _ 0 _ rfl (Nat.zero_le _) ⟨rfl, rfl, rfl, rfl⟩
/-- which nodes lead to the exit, at first -/
def ld0 (G : Gr) : Nat → Bool := fun v => decide (v = G.1 - 1)
def allB (n : Nat) (f : Nat → Bool) : Bool := (List.range n).all f
theorem allB_t {n : Nat} {f : Nat → Bool} (h : ∀ i, i < n → f i = true) : allB n f = true := List.all_eq_true.mpr (fun i hi => h i (List.mem_range.mp hi))
theorem allB_f {n i : Nat} {f : Nat → Bool} (hi : i < n) (h : f i = false) : allB n f = false := by
  cases hh : allB n f with
  | false => rfl
  | true => have := List.all_eq_true.mp hh i (List.mem_range.mpr hi); rw [h] at this; cases this
theorem allB_tE {n : Nat} {f : Nat → Bool} (h : allB n f = true) : ∀ i, i < n → f i = true := fun i hi => List.all_eq_true.mp h i (List.mem_range.mpr hi)
/-- the nodes' marks at the end -/
def ldE (G : Gr) : Nat → Bool := spR G (G.1 - 1) (ld0 G)
theorem spF_beyond {G : Gr} {f f' : Nat → Bool} (hg : gok G) (h : ∀ i, i < G.1 → f i = f' i) : ∀ (m k : Nat), k + m ≤ G.2.1 → ∀ i, i < G.1 → spF G m k f i = spF G m k f' i := by
  intro m
  induction m generalizing f f' with
  | zero => intro k _ i hi; exact h i hi
  | succ m ih =>
    intro k hk i hi
    unfold spF
    obtain ⟨e1, e2, e3, e4⟩ := hg.2.2.2.1 k (by omega)
    refine ih (fun j hj => ?_) (k + 1) (by omega) i hi
    rw [h _ e3]
    split
    · by_cases q : j = G.2.2.1 k
      · rw [q, va_same, va_same]
      · rw [va_other q, va_other q]; exact h j hj
    · exact h j hj
theorem l_exit3 (P : ps_T) (hg : gok G) (f : Nat → Bool) (hp : P (some (.int (b2 (allB G.1 f)))) 0 (CA g G T R (ldS S f) K E Q V an) B) : ∀ (m k : Nat), G.1 - k = m → k ≤ G.1 → (∀ i, i < k → f i = true) → AW g mX4_exitReachedFromAllNodes 0 0 P noX 0 0 66 [some (.ref (g.1 + 12)), some (.int (nI k))] [] 0 (CA g G T R (ldS S f) K E Q V an) B := by
  intro m
  obtain ⟨g1, g2, g3, g4, g5⟩ := id hg
  induction m with
  | zero =>
    intro k hm hk hf
    refine a_iload_n (q := 67) dX4_exitReachedFromAllNodes_66 rfl rfl rfl ?_
    refine a_aload_n (q := 68) dX4_exitReachedFromAllNodes_67 rfl rfl rfl ?_
    refine a_getA (q := 71) dX4_exitReachedFromAllNodes_68 fX4_41 rfl rfl rfl ?_
    refine a_getA (q := 74) dX4_exitReachedFromAllNodes_71 fX4_67 rfl rfl rfl ?_
    refine a_icmp_geN (q := 77) 94 dX4_exitReachedFromAllNodes_74 (by decide) (by omega) (by omega) rfl (fun c74 => ?_) (fun c74 => ?_)
    · skip
      refine a_iconst (q := 95) (b2 true) dX4_exitReachedFromAllNodes_94 (by decide) rfl ?_
      exact a_iret dX4_exitReachedFromAllNodes_95 rfl (b2_narrow _) (Nat.le_of_ble_eq_true rfl) (Nat.le_of_ble_eq_true rfl) (by rw [allB_t (fun i hi => hf i (by omega))] at hp; exact hp)
    · omega
  | succ m ih =>
    intro k hm hk hf
    refine a_iload_n (q := 67) dX4_exitReachedFromAllNodes_66 rfl rfl rfl ?_
    refine a_aload_n (q := 68) dX4_exitReachedFromAllNodes_67 rfl rfl rfl ?_
    refine a_getA (q := 71) dX4_exitReachedFromAllNodes_68 fX4_41 rfl rfl rfl ?_
    refine a_getA (q := 74) dX4_exitReachedFromAllNodes_71 fX4_67 rfl rfl rfl ?_
    refine a_icmp_geN (q := 77) 94 dX4_exitReachedFromAllNodes_74 (by decide) (by omega) (by omega) rfl (fun c74 => ?_) (fun c74 => ?_)
    · omega
    · skip
      refine a_aload_n (q := 78) dX4_exitReachedFromAllNodes_77 rfl rfl rfl ?_
      refine a_getA (q := 81) dX4_exitReachedFromAllNodes_78 fX4_38 rfl rfl rfl ?_
      refine a_iload_n (q := 82) dX4_exitReachedFromAllNodes_81 rfl rfl rfl ?_
      refine a_zaldAN (q := 83) dX4_exitReachedFromAllNodes_82 rfl (by omega) (by decide) rfl ?_
      refine a_if_neZ (q := 86) 88 dX4_exitReachedFromAllNodes_83 (by decide) rfl (fun c83 => ?_) (fun c83 => ?_)
      · skip
        refine a_iincN (q := 91) (c := 1) dX4_exitReachedFromAllNodes_88 rfl (by decide) rfl rfl ?_
        refine a_goto 66 dX4_exitReachedFromAllNodes_91 (by decide) ?_
        exact ih (k + 1) (by omega) (by omega) (fun i hi => by
        by_cases e : i = k
        · rw [e]; exact c83
        · exact hf i (by omega))
      · have c83 : f k = false := c83
        refine a_iconst (q := 87) (b2 false) dX4_exitReachedFromAllNodes_86 (by decide) rfl ?_
        exact a_iret dX4_exitReachedFromAllNodes_87 rfl (b2_narrow _) (Nat.le_of_ble_eq_true rfl) (Nat.le_of_ble_eq_true rfl) (by rw [allB_f (i := k) (by omega) c83] at hp; exact hp)
theorem l_exit2 (P : ps_T) (hg : gok G) : ∀ (m k : Nat) (f : Nat → Bool), G.1 - k = m → 1 ≤ k → k ≤ G.1 → P (some (.int (b2 (allB G.1 (spR G m f))))) 0 (CA g G T R (ldS S (spR G m f)) K E Q V an) B → AW g mX4_exitReachedFromAllNodes 0 0 P noX 0 0 43 [some (.ref (g.1 + 12)), some (.int (nI k))] [] 0 (CA g G T R (ldS S f) K E Q V an) B := by
  intro m
  obtain ⟨g1, g2, g3, g4, g5⟩ := id hg
  induction m with
  | zero =>
    intro k f hm h1 hk hp
    refine a_iload_n (q := 44) dX4_exitReachedFromAllNodes_43 rfl rfl rfl ?_
    refine a_aload_n (q := 45) dX4_exitReachedFromAllNodes_44 rfl rfl rfl ?_
    refine a_getA (q := 48) dX4_exitReachedFromAllNodes_45 fX4_41 rfl rfl rfl ?_
    refine a_getA (q := 51) dX4_exitReachedFromAllNodes_48 fX4_67 rfl rfl rfl ?_
    refine a_icmp_geN (q := 54) 64 dX4_exitReachedFromAllNodes_51 (by decide) (by omega) (by omega) rfl (fun c51 => ?_) (fun c51 => ?_)
    · skip
      refine a_iconst (q := 65) (nI 0) dX4_exitReachedFromAllNodes_64 (by decide) rfl ?_
      refine a_istore_n (q := 66) dX4_exitReachedFromAllNodes_65 rfl (Nat.le_of_ble_eq_true rfl) rfl rfl ?_
      exact l_exit3 _ hg f hp _ 0 rfl (Nat.zero_le _) (fun i hi => absurd hi (Nat.not_lt_zero i))
    · omega
  | succ m ih =>
    intro k f hm h1 hk hp
    refine a_iload_n (q := 44) dX4_exitReachedFromAllNodes_43 rfl rfl rfl ?_
    refine a_aload_n (q := 45) dX4_exitReachedFromAllNodes_44 rfl rfl rfl ?_
    refine a_getA (q := 48) dX4_exitReachedFromAllNodes_45 fX4_41 rfl rfl rfl ?_
    refine a_getA (q := 51) dX4_exitReachedFromAllNodes_48 fX4_67 rfl rfl rfl ?_
    refine a_icmp_geN (q := 54) 64 dX4_exitReachedFromAllNodes_51 (by decide) (by omega) (by omega) rfl (fun c51 => ?_) (fun c51 => ?_)
    · omega
    · skip
      refine a_aload_n (q := 55) dX4_exitReachedFromAllNodes_54 rfl rfl rfl ?_
      refine a_cVA0 (q := 58) _ dX4_exitReachedFromAllNodes_55 kX4_74 (c_spread hg f) rfl rfl rfl (Nat.le_of_ble_eq_true rfl) ⟨(Nat.le_of_ble_eq_true rfl), (Nat.le_of_ble_eq_true rfl)⟩ ⟨(Nat.le_of_ble_eq_true rfl), (Nat.le_of_ble_eq_true rfl)⟩ rfl ?_
      refine a_iincN (q := 61) (c := 1) dX4_exitReachedFromAllNodes_58 rfl (by decide) rfl rfl ?_
      refine a_goto 43 dX4_exitReachedFromAllNodes_61 (by decide) ?_
      exact ih (k + 1) _ (by omega) (by omega) (by omega) hp
theorem l_exit1 (P : ps_T) (hg : gok G) (cont : ∀ f, (∀ i, i < G.1 → f i = ld0 G i) → AW g mX4_exitReachedFromAllNodes 0 0 P noX 0 0 41 [some (.ref (g.1 + 12)), some (.int (nI G.1))] [] 0 (CA g G T R (ldS S f) K E Q V an) B) : ∀ (m k : Nat) (f : Nat → Bool), G.1 - k = m → k ≤ G.1 → (∀ i, i < k → f i = ld0 G i) → AW g mX4_exitReachedFromAllNodes 0 0 P noX 0 0 2 [some (.ref (g.1 + 12)), some (.int (nI k))] [] 0 (CA g G T R (ldS S f) K E Q V an) B := by
  intro m
  obtain ⟨g1, g2, g3, g4, g5⟩ := id hg
  induction m with
  | zero =>
    intro k f hm hk hf
    have hk2 : k = G.1 := by omega
    subst hk2
    refine a_iload_n (q := 3) dX4_exitReachedFromAllNodes_2 rfl rfl rfl ?_
    refine a_aload_n (q := 4) dX4_exitReachedFromAllNodes_3 rfl rfl rfl ?_
    refine a_getA (q := 7) dX4_exitReachedFromAllNodes_4 fX4_41 rfl rfl rfl ?_
    refine a_getA (q := 10) dX4_exitReachedFromAllNodes_7 fX4_67 rfl rfl rfl ?_
    refine a_icmp_geN (q := 13) 41 dX4_exitReachedFromAllNodes_10 (by decide) (by omega) (by omega) rfl (fun c10 => ?_) (fun c10 => ?_)
    · skip
      exact cont f hf
    · omega
  | succ m ih =>
    intro k f hm hk hf
    have hst : ∀ b : Bool, b = ld0 G k → ∀ i, i < k + 1 → va_up f k b i = ld0 G i := by
      intro b hb i hi
      by_cases e : i = k
      · rw [e, va_same]; exact hb
      · rw [va_other e]; exact hf i (by omega)
    refine a_iload_n (q := 3) dX4_exitReachedFromAllNodes_2 rfl rfl rfl ?_
    refine a_aload_n (q := 4) dX4_exitReachedFromAllNodes_3 rfl rfl rfl ?_
    refine a_getA (q := 7) dX4_exitReachedFromAllNodes_4 fX4_41 rfl rfl rfl ?_
    refine a_getA (q := 10) dX4_exitReachedFromAllNodes_7 fX4_67 rfl rfl rfl ?_
    refine a_icmp_geN (q := 13) 41 dX4_exitReachedFromAllNodes_10 (by decide) (by omega) (by omega) rfl (fun c10 => ?_) (fun c10 => ?_)
    · omega
    · skip
      refine a_aload_n (q := 14) dX4_exitReachedFromAllNodes_13 rfl rfl rfl ?_
      refine a_getA (q := 17) dX4_exitReachedFromAllNodes_14 fX4_38 rfl rfl rfl ?_
      refine a_iload_n (q := 18) dX4_exitReachedFromAllNodes_17 rfl rfl rfl ?_
      refine a_iload_n (q := 19) dX4_exitReachedFromAllNodes_18 rfl rfl rfl ?_
      refine a_aload_n (q := 20) dX4_exitReachedFromAllNodes_19 rfl rfl rfl ?_
      refine a_getA (q := 23) dX4_exitReachedFromAllNodes_20 fX4_41 rfl rfl rfl ?_
      refine a_cVAv (q := 26) _ dX4_exitReachedFromAllNodes_23 kX4_70 (c_exit (G := G) rfl (by omega)) rfl rfl rfl (Nat.le_of_ble_eq_true rfl) ⟨(Nat.le_of_ble_eq_true rfl), (Nat.le_of_ble_eq_true rfl)⟩ ⟨(Nat.le_of_ble_eq_true rfl), (Nat.le_of_ble_eq_true rfl)⟩ rfl ?_
      refine a_icmp_neN (q := 29) 33 dX4_exitReachedFromAllNodes_26 (by decide) (by omega) (by omega) rfl (fun c26 => ?_) (fun c26 => ?_)
      · have hb : false = ld0 G k := (decide_eq_false c26).symm
        refine a_iconst (q := 34) (b2 false) dX4_exitReachedFromAllNodes_33 (by decide) rfl ?_
        refine a_zastAN (q := 35) dX4_exitReachedFromAllNodes_34 rfl (by omega) (by decide) rfl ?_
        refine a_iincN (q := 38) (c := 1) dX4_exitReachedFromAllNodes_35 rfl (by decide) rfl rfl ?_
        refine a_goto 2 dX4_exitReachedFromAllNodes_38 (by decide) ?_
        exact ih (k + 1) _ (by omega) (by omega) (hst _ hb)
      · have hb : true = ld0 G k := (decide_eq_true c26).symm
        refine a_iconst (q := 30) (b2 true) dX4_exitReachedFromAllNodes_29 (by decide) rfl ?_
        refine a_goto 34 dX4_exitReachedFromAllNodes_30 (by decide) ?_
        refine a_zastAN (q := 35) dX4_exitReachedFromAllNodes_34 rfl (by omega) (by decide) rfl ?_
        refine a_iincN (q := 38) (c := 1) dX4_exitReachedFromAllNodes_35 rfl (by decide) rfl rfl ?_
        refine a_goto 2 dX4_exitReachedFromAllNodes_38 (by decide) ?_
        exact ih (k + 1) _ (by omega) (by omega) (hst _ hb)
theorem spR_beyond {G : Gr} (hg : gok G) : ∀ (m : Nat) {f f' : Nat → Bool}, (∀ i, i < G.1 → f i = f' i) → ∀ i, i < G.1 → spR G m f i = spR G m f' i
  | 0, _, _, h => h
  | m + 1, _, _, h => fun i hi => spR_beyond hg m (fun j hj => spF_beyond hg h _ 0 (by omega) j hj) i hi
theorem allB_congr {n : Nat} {f f' : Nat → Bool} (h : ∀ i, i < n → f i = f' i) : allB n f = allB n f' := by
  cases hh : allB n f' with
  | true => exact allB_t (fun i hi => by rw [h i hi]; exact allB_tE hh i hi)
  | false =>
    cases hh2 : allB n f with
    | false => rfl
    | true => rw [allB_t (fun i hi => by rw [← h i hi]; exact allB_tE hh2 i hi)] at hh; cases hh
/-- whether the exit can be reached from every node -/
theorem c_exitReached (hg : gok G) : Ct g mX4_exitReachedFromAllNodes [.ref (g.1 + 12)] 0 (CA g G T R S K E Q V an) B 0 0 (fun v z A' B' => v = some (.int (b2 (allB G.1 (ldE G)))) ∧ z = 0 ∧ B' = B ∧ ∃ f, A' = CA g G T R (ldS S f) K E Q V an) noX := by
  refine Ct.of [some (.ref (g.1 + 12)), none] (by decide) rfl (Nat.le_of_ble_eq_true rfl) rfl ?_
  refine a_iconst (q := 1) (nI 0) dX4_exitReachedFromAllNodes_0 (by decide) rfl ?_
  refine a_istore_n (q := 2) dX4_exitReachedFromAllNodes_1 rfl (Nat.le_of_ble_eq_true rfl) rfl rfl ?_
  refine l_exit1 (S := S) _ hg (fun f hf => ?_) _ 0 S.2.2.2.2.2.2.2.2 rfl (Nat.zero_le _) (fun i hi => absurd hi (Nat.not_lt_zero i))
  refine a_iconst (q := 42) (nI 1) dX4_exitReachedFromAllNodes_41 (by decide) rfl ?_
  refine a_istore_n (q := 43) dX4_exitReachedFromAllNodes_42 rfl (Nat.le_of_ble_eq_true rfl) rfl rfl ?_
  refine l_exit2 _ hg _ 1 f rfl (Nat.le_refl _) (by have := hg.1; omega) ⟨?_, rfl, rfl, _, rfl⟩
  rw [allB_congr (spR_beyond hg (G.1 - 1) hf)]
  rfl
end SearchC

