/-! ===== the law's beginning ===== -/
section Head
variable {g : gp_T}
theorem Rl_0 : Rl 0 G0 T0 S0 K0 E0 V0 Y0 W0 :=
  ⟨⟨gok_set (by omega) (by omega), fun i _ => by show 0 ≤ 99; omega⟩, ⟨Nat.zero_le _, fun i hi => absurd hi (Nat.not_lt_zero i)⟩, ⟨rfl, rfl, rfl, sm_zero.symm, by show sm (fun _ => 0) ≤ 0; rw [sm_zero]; exact Nat.le_refl _⟩, (fun e => nomatch e), (fun e => nomatch e)⟩
theorem BM0_len : (BM0 g).length = 23 := rfl
theorem BM0_len2 {x : va_E} : (BM0 g ++ [x]).length = 24 := by rw [List.length_append, BM0_len]; rfl
theorem BM0_end : BM0 g ++ [.inl (g.2.2.1 2, 1, .inr (.inl (fun _ => 0)))] ++ [.inl (g.2.2.1 3, 1, .inr (.inr (.inr (.inl (fun _ => 0)))))] = BM g G0 T0 0 Y0 W0 R0 Z0 U0 L0 0 O0 := rfl
theorem CA_len {G : Gr} {T : Tx} {R : Rd} {S : Se} {K : Lk} {E : Tr} {Q : Pa} {V : Wk} {an : Bool} : (CA g G T R S K E Q V an).length = 34 := rfl
theorem law_head (hL : g.2.2.2.2.2.1 ≤ 1536) (h : g.2.1 = g.1 + 34) : AW g mL_law 1098 10013 lwP noX 0 0 0 [some (.ref g.2.2.2.2.1), none, none, none, none, none, none, none, none] [] 1 [] [] := by
  refine a_newA (q := 3) _ dL_law_0 nL_8 (Nat.le_of_ble_eq_true rfl) (Nat.le_of_ble_eq_true rfl) rfl ?_
  refine a_dup (q := 4) dL_law_3 rfl rfl ?_
  refine a_callI (q := 7) _ dL_law_4 kL_80 (i_prof) rfl rfl (Nat.le_of_ble_eq_true rfl) ⟨(Nat.le_of_ble_eq_true rfl), (Nat.le_of_ble_eq_true rfl)⟩ ⟨by omega, by omega⟩ rfl (fun v9 z9 A9 B9 h9 => ?_) (fun E9 z9 A9 B9 h9 => h9.elim)
  obtain ⟨rfl, rfl, rfl, rfl⟩ := h9
  show AW _ _ _ _ _ _ _ _ _ _ (_ :: _) _ _ _
  refine a_astore_n (q := 8) dL_law_7 rfl (Nat.le_of_ble_eq_true rfl) rfl rfl ?_
  refine a_z12 (by rw [CA_len]; exact h) ?_
  refine a_newB (q := 11) _ dL_law_8 nL_81 (Nat.le_of_ble_eq_true rfl) (Nat.le_of_ble_eq_true rfl) rfl ?_
  refine a_dup (q := 12) dL_law_11 rfl rfl ?_
  refine a_callI (q := 15) _ dL_law_12 kL_83 (i_ref) rfl rfl (Nat.le_of_ble_eq_true rfl) ⟨(Nat.le_of_ble_eq_true rfl), (Nat.le_of_ble_eq_true rfl)⟩ ⟨by omega, by omega⟩ rfl (fun v9 z9 A9 B9 h9 => ?_) (fun E9 z9 A9 B9 h9 => h9.elim)
  obtain ⟨rfl, rfl, rfl, rfl⟩ := h9
  show AW _ _ _ _ _ _ _ _ _ _ (_ :: _) _ _ _
  refine a_astore_n (q := 16) dL_law_15 rfl (Nat.le_of_ble_eq_true rfl) rfl rfl ?_
  refine a_iconst (q := 17) (nI 1) dL_law_16 (by decide) rfl ?_
  refine a_newaB (q := 19) (atype := .long) (ty := .long) (t0 := 2) (N := 1) (1, .inr (.inl (fun _ => 0))) dL_law_17 tw1346 rfl (fun _ h => nomatch h) rfl (fun _ => rfl) (by decide) (by decide) (Nat.le_of_ble_eq_true rfl) (Nat.le_of_ble_eq_true rfl) (Nat.le_of_ble_eq_true rfl) rfl ?_
  rw [BM0_len]
  refine a_astore_n (q := 20) dL_law_19 rfl (Nat.le_of_ble_eq_true rfl) rfl rfl ?_
  refine a_iconst (q := 21) (nI 1) dL_law_20 (by decide) rfl ?_
  refine a_newaB (q := 23) (atype := .double) (ty := .double) (t0 := 3) (N := 1) (1, .inr (.inr (.inr (.inl (fun _ => 0))))) dL_law_21 tw1347 rfl (fun _ h => nomatch h) rfl (fun _ => rfl) (by decide) (by decide) (Nat.le_of_ble_eq_true rfl) (Nat.le_of_ble_eq_true rfl) (Nat.le_of_ble_eq_true rfl) rfl ?_
  rw [BM0_len2, BM0_end]
  refine a_astore (q := 25) dL_law_23 (Nat.le_of_ble_eq_true rfl) rfl rfl ?_
  refine a_iconst (q := 26) (nI 0) dL_law_25 (by decide) rfl ?_
  refine a_istore (q := 28) dL_law_26 (Nat.le_of_ble_eq_true rfl) rfl rfl ?_
  refine a_z0 ?_
  exact a_widen (k := 59 + 0) (n := 1731 + 6 * 0) (by decide) (by decide) (law_loop hL 512 0 _ _ (by omega) (by omega) (LI.mk (G0, 0) Q0 rfl Rl_0) none none none)
end Head

