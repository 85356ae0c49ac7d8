/-! ===== the constructors ===== -/
abbrev rZ (z0 : Nat) (r : Option Value) (A1 B1 : List va_E) : ps_T := fun v z A B => v = r ∧ z = z0 ∧ A = A1 ∧ B = B1
section Ctors
variable {g : gp_T} {c0 c1 c2 c3 c4 c5 c6 c7 c8 c9 c10 c11 c12 c13 c14 c15 c16 c17 c18 c19 c20 c21 c22 c23 c24 c25 c26 c27 c28 c29 c30 c31 : va_E}
theorem i_graph : Ct g mX0_init [.ref (g.1 + 1)] 1 [c0, oB 0 [.int 0, .int 0, .null, .null, .null]] [] 3 72 (rZ 1 none [c0, oB 0 [.int (nI 2), .int (nI 0), .ref (g.1 + 2), .ref (g.1 + 3), .ref (g.1 + 4)], aN g 24 (fun _ => 0), aN g 24 (fun _ => 0), aN g 24 (fun _ => 0)] []) noX := by
  refine Ct.of [some (.ref (g.1 + 1))] (by decide) rfl (Nat.le_of_ble_eq_true rfl) rfl ?_
  refine a_aload_n (q := 1) dX0_init_0 rfl rfl rfl ?_
  refine a_objInit (q := 4) dX0_init_1 oX0_3 ⟨(Nat.le_of_ble_eq_true rfl), (Nat.le_of_ble_eq_true rfl)⟩ rfl ?_
  refine a_aload_n (q := 5) dX0_init_4 rfl rfl rfl ?_
  refine a_iconst (q := 6) (nI 2) dX0_init_5 (by decide) rfl ?_
  refine a_putA (q := 9) dX0_init_6 fX0_9 (fun h => nomatch h) rfl (Nat.le_of_ble_eq_true rfl) rfl rfl rfl ?_
  refine a_aload_n (q := 10) dX0_init_9 rfl rfl rfl ?_
  refine a_iconst (q := 11) (nI 0) dX0_init_10 (by decide) rfl ?_
  refine a_putA (q := 14) dX0_init_11 fX0_15 (fun h => nomatch h) rfl (Nat.le_of_ble_eq_true rfl) rfl rfl rfl ?_
  refine a_aload_n (q := 15) dX0_init_14 rfl rfl rfl ?_
  refine a_bipush (q := 17) (nI 24) dX0_init_15 (by decide) rfl ?_
  refine a_newaA (q := 19) (atype := .int) (ty := .int) (t0 := 0) (N := 24) (24, .inl (fun _ => nI 0)) dX0_init_17 tw140 rfl (fun _ h => nomatch h) rfl (fun _ => rfl) (by decide) (by decide) (Nat.le_of_ble_eq_true rfl) (Nat.le_of_ble_eq_true rfl) (Nat.le_of_ble_eq_true rfl) rfl ?_
  refine a_putA (q := 22) dX0_init_19 fX0_18 (fun _ => ⟨rfl, by decide +kernel⟩) rfl (Nat.le_of_ble_eq_true rfl) rfl rfl rfl ?_
  refine a_aload_n (q := 23) dX0_init_22 rfl rfl rfl ?_
  refine a_bipush (q := 25) (nI 24) dX0_init_23 (by decide) rfl ?_
  refine a_newaA (q := 27) (atype := .int) (ty := .int) (t0 := 0) (N := 24) (24, .inl (fun _ => nI 0)) dX0_init_25 tw140 rfl (fun _ h => nomatch h) rfl (fun _ => rfl) (by decide) (by decide) (Nat.le_of_ble_eq_true rfl) (Nat.le_of_ble_eq_true rfl) (Nat.le_of_ble_eq_true rfl) rfl ?_
  refine a_putA (q := 30) dX0_init_27 fX0_22 (fun _ => ⟨rfl, by decide +kernel⟩) rfl (Nat.le_of_ble_eq_true rfl) rfl rfl rfl ?_
  refine a_aload_n (q := 31) dX0_init_30 rfl rfl rfl ?_
  refine a_bipush (q := 33) (nI 24) dX0_init_31 (by decide) rfl ?_
  refine a_newaA (q := 35) (atype := .int) (ty := .int) (t0 := 0) (N := 24) (24, .inl (fun _ => nI 0)) dX0_init_33 tw140 rfl (fun _ h => nomatch h) rfl (fun _ => rfl) (by decide) (by decide) (Nat.le_of_ble_eq_true rfl) (Nat.le_of_ble_eq_true rfl) (Nat.le_of_ble_eq_true rfl) rfl ?_
  refine a_putA (q := 38) dX0_init_35 fX0_25 (fun _ => ⟨rfl, by decide +kernel⟩) rfl (Nat.le_of_ble_eq_true rfl) rfl rfl rfl ?_
  exact a_ret dX0_init_38 rfl (Nat.le_of_ble_eq_true rfl) (Nat.le_of_ble_eq_true rfl) (⟨rfl, rfl, rfl, rfl⟩)
theorem i_text : Ct g mX5_init [.ref (g.1 + 5)] 1 [c0, c1, c2, c3, c4, oB 5 [.null, .int 0]] [] 1 60 (rZ 1 none [c0, c1, c2, c3, c4, oB 5 [.ref (g.1 + 6), .int (nI 0)], aN g 60 (fun _ => 0)] []) noX := by
  refine Ct.of [some (.ref (g.1 + 5))] (by decide) rfl (Nat.le_of_ble_eq_true rfl) rfl ?_
  refine a_aload_n (q := 1) dX5_init_0 rfl rfl rfl ?_
  refine a_objInit (q := 4) dX5_init_1 oX5_3 ⟨(Nat.le_of_ble_eq_true rfl), (Nat.le_of_ble_eq_true rfl)⟩ rfl ?_
  refine a_aload_n (q := 5) dX5_init_4 rfl rfl rfl ?_
  refine a_bipush (q := 7) (nI 60) dX5_init_5 (by decide) rfl ?_
  refine a_newaA (q := 9) (atype := .int) (ty := .int) (t0 := 0) (N := 60) (60, .inl (fun _ => nI 0)) dX5_init_7 tw140 rfl (fun _ h => nomatch h) rfl (fun _ => rfl) (by decide) (by decide) (Nat.le_of_ble_eq_true rfl) (Nat.le_of_ble_eq_true rfl) (Nat.le_of_ble_eq_true rfl) rfl ?_
  refine a_putA (q := 12) dX5_init_9 fX5_9 (fun _ => ⟨rfl, by decide +kernel⟩) rfl (Nat.le_of_ble_eq_true rfl) rfl rfl rfl ?_
  refine a_aload_n (q := 13) dX5_init_12 rfl rfl rfl ?_
  refine a_iconst (q := 14) (nI 0) dX5_init_13 (by decide) rfl ?_
  refine a_putA (q := 17) dX5_init_14 fX5_15 (fun h => nomatch h) rfl (Nat.le_of_ble_eq_true rfl) rfl rfl rfl ?_
  exact a_ret dX5_init_17 rfl (Nat.le_of_ble_eq_true rfl) (Nat.le_of_ble_eq_true rfl) (⟨rfl, rfl, rfl, rfl⟩)
theorem i_draft : Ct g mX0_init [.ref (g.1 + 8)] 1 [c0, c1, c2, c3, c4, c5, c6, c7, oB 0 [.int 0, .int 0, .null, .null, .null]] [] 3 72 (rZ 1 none [c0, c1, c2, c3, c4, c5, c6, c7, oB 0 [.int (nI 2), .int (nI 0), .ref (g.1 + 9), .ref (g.1 + 10), .ref (g.1 + 11)], aN g 24 (fun _ => 0), aN g 24 (fun _ => 0), aN g 24 (fun _ => 0)] []) noX := by
  refine Ct.of [some (.ref (g.1 + 8))] (by decide) rfl (Nat.le_of_ble_eq_true rfl) rfl ?_
  refine a_aload_n (q := 1) dX0_init_0 rfl rfl rfl ?_
  refine a_objInit (q := 4) dX0_init_1 oX0_3 ⟨(Nat.le_of_ble_eq_true rfl), (Nat.le_of_ble_eq_true rfl)⟩ rfl ?_
  refine a_aload_n (q := 5) dX0_init_4 rfl rfl rfl ?_
  refine a_iconst (q := 6) (nI 2) dX0_init_5 (by decide) rfl ?_
  refine a_putA (q := 9) dX0_init_6 fX0_9 (fun h => nomatch h) rfl (Nat.le_of_ble_eq_true rfl) rfl rfl rfl ?_
  refine a_aload_n (q := 10) dX0_init_9 rfl rfl rfl ?_
  refine a_iconst (q := 11) (nI 0) dX0_init_10 (by decide) rfl ?_
  refine a_putA (q := 14) dX0_init_11 fX0_15 (fun h => nomatch h) rfl (Nat.le_of_ble_eq_true rfl) rfl rfl rfl ?_
  refine a_aload_n (q := 15) dX0_init_14 rfl rfl rfl ?_
  refine a_bipush (q := 17) (nI 24) dX0_init_15 (by decide) rfl ?_
  refine a_newaA (q := 19) (atype := .int) (ty := .int) (t0 := 0) (N := 24) (24, .inl (fun _ => nI 0)) dX0_init_17 tw140 rfl (fun _ h => nomatch h) rfl (fun _ => rfl) (by decide) (by decide) (Nat.le_of_ble_eq_true rfl) (Nat.le_of_ble_eq_true rfl) (Nat.le_of_ble_eq_true rfl) rfl ?_
  refine a_putA (q := 22) dX0_init_19 fX0_18 (fun _ => ⟨rfl, by decide +kernel⟩) rfl (Nat.le_of_ble_eq_true rfl) rfl rfl rfl ?_
  refine a_aload_n (q := 23) dX0_init_22 rfl rfl rfl ?_
  refine a_bipush (q := 25) (nI 24) dX0_init_23 (by decide) rfl ?_
  refine a_newaA (q := 27) (atype := .int) (ty := .int) (t0 := 0) (N := 24) (24, .inl (fun _ => nI 0)) dX0_init_25 tw140 rfl (fun _ h => nomatch h) rfl (fun _ => rfl) (by decide) (by decide) (Nat.le_of_ble_eq_true rfl) (Nat.le_of_ble_eq_true rfl) (Nat.le_of_ble_eq_true rfl) rfl ?_
  refine a_putA (q := 30) dX0_init_27 fX0_22 (fun _ => ⟨rfl, by decide +kernel⟩) rfl (Nat.le_of_ble_eq_true rfl) rfl rfl rfl ?_
  refine a_aload_n (q := 31) dX0_init_30 rfl rfl rfl ?_
  refine a_bipush (q := 33) (nI 24) dX0_init_31 (by decide) rfl ?_
  refine a_newaA (q := 35) (atype := .int) (ty := .int) (t0 := 0) (N := 24) (24, .inl (fun _ => nI 0)) dX0_init_33 tw140 rfl (fun _ h => nomatch h) rfl (fun _ => rfl) (by decide) (by decide) (Nat.le_of_ble_eq_true rfl) (Nat.le_of_ble_eq_true rfl) (Nat.le_of_ble_eq_true rfl) rfl ?_
  refine a_putA (q := 38) dX0_init_35 fX0_25 (fun _ => ⟨rfl, by decide +kernel⟩) rfl (Nat.le_of_ble_eq_true rfl) rfl rfl rfl ?_
  exact a_ret dX0_init_38 rfl (Nat.le_of_ble_eq_true rfl) (Nat.le_of_ble_eq_true rfl) (⟨rfl, rfl, rfl, rfl⟩)
theorem i_reader : Ct g mX3_init [.ref (g.1 + 7)] 1 [c0, c1, c2, c3, c4, c5, c6, oB 3 [.null, .int 0]] [] 4 77 (rZ 1 none [c0, c1, c2, c3, c4, c5, c6, oB 3 [.ref (g.1 + 8), .int (nI 0)], oB 0 [.int (nI 2), .int (nI 0), .ref (g.1 + 9), .ref (g.1 + 10), .ref (g.1 + 11)], aN g 24 (fun _ => 0), aN g 24 (fun _ => 0), aN g 24 (fun _ => 0)] []) noX := by
  refine Ct.of [some (.ref (g.1 + 7))] (by decide) rfl (Nat.le_of_ble_eq_true rfl) rfl ?_
  refine a_aload_n (q := 1) dX3_init_0 rfl rfl rfl ?_
  refine a_objInit (q := 4) dX3_init_1 oX3_3 ⟨(Nat.le_of_ble_eq_true rfl), (Nat.le_of_ble_eq_true rfl)⟩ rfl ?_
  refine a_aload_n (q := 5) dX3_init_4 rfl rfl rfl ?_
  refine a_newA (q := 8) _ dX3_init_5 nX3_9 (Nat.le_of_ble_eq_true rfl) (Nat.le_of_ble_eq_true rfl) rfl ?_
  refine a_dup (q := 9) dX3_init_8 rfl rfl ?_
  refine a_callN (q := 12) _ dX3_init_9 kX3_11 (i_draft) rfl rfl (Nat.le_of_ble_eq_true rfl) ⟨(Nat.le_of_ble_eq_true rfl), (Nat.le_of_ble_eq_true rfl)⟩ ⟨(Nat.le_of_ble_eq_true rfl), (Nat.le_of_ble_eq_true rfl)⟩ rfl (fun v9 z9 A9 B9 h9 => ?_) (fun E9 z9 A9 B9 h9 => h9.elim)
  obtain ⟨rfl, rfl, rfl, rfl⟩ := h9
  show AW _ _ _ _ _ _ _ _ _ _ (_ :: _) _ _ _
  refine a_putA (q := 15) dX3_init_12 fX3_12 (fun _ => ⟨rfl, by decide +kernel⟩) rfl (Nat.le_of_ble_eq_true rfl) rfl rfl rfl ?_
  refine a_aload_n (q := 16) dX3_init_15 rfl rfl rfl ?_
  refine a_iconst (q := 17) (nI 0) dX3_init_16 (by decide) rfl ?_
  refine a_putA (q := 20) dX3_init_17 fX3_18 (fun h => nomatch h) rfl (Nat.le_of_ble_eq_true rfl) rfl rfl rfl ?_
  exact a_ret dX3_init_20 rfl (Nat.le_of_ble_eq_true rfl) (Nat.le_of_ble_eq_true rfl) (⟨rfl, rfl, rfl, rfl⟩)
theorem i_search : Ct g mX4_init [.ref (g.1 + 12), .ref (g.1 + 1)] 1 [c0, c1, c2, c3, c4, c5, c6, c7, c8, c9, c10, c11, oB 4 [.null, .null, .null, .int 0, .null, .int 0, .null, .null, .null, .null]] [] 7 96 (rZ 1 none [c0, c1, c2, c3, c4, c5, c6, c7, c8, c9, c10, c11, oB 4 [.ref (g.1 + 1), .ref (g.1 + 13), .ref (g.1 + 14), .int (nI 0), .ref (g.1 + 15), .int (nI 0), .ref (g.1 + 16), .ref (g.1 + 17), .ref (g.1 + 18), .ref (g.1 + 19)], aB g 24 (fun _ => false), aN g 12 (fun _ => 0), aN g 12 (fun _ => 0), aN g 12 (fun _ => 0), aB g 12 (fun _ => false), aB g 12 (fun _ => false), aB g 12 (fun _ => false)] []) noX := by
  refine Ct.of [some (.ref (g.1 + 12)), some (.ref (g.1 + 1))] (by decide) rfl (Nat.le_of_ble_eq_true rfl) rfl ?_
  refine a_aload_n (q := 1) dX4_init_0 rfl rfl rfl ?_
  refine a_objInit (q := 4) dX4_init_1 oX4_3 ⟨(Nat.le_of_ble_eq_true rfl), (Nat.le_of_ble_eq_true rfl)⟩ rfl ?_
  refine a_aload_n (q := 5) dX4_init_4 rfl rfl rfl ?_
  refine a_bipush (q := 7) (nI 24) dX4_init_5 (by decide) rfl ?_
  refine a_newaA (q := 9) (atype := .boolean) (ty := .boolean) (t0 := 1) (N := 24) (24, .inl (fun _ => b2 false)) dX4_init_7 tw216 rfl (fun _ h => nomatch h) rfl (fun _ => rfl) (by decide) (by decide) (Nat.le_of_ble_eq_true rfl) (Nat.le_of_ble_eq_true rfl) (Nat.le_of_ble_eq_true rfl) rfl ?_
  refine a_putA (q := 12) dX4_init_9 fX4_9 (fun _ => ⟨rfl, by decide +kernel⟩) rfl (Nat.le_of_ble_eq_true rfl) rfl rfl rfl ?_
  refine a_aload_n (q := 13) dX4_init_12 rfl rfl rfl ?_
  refine a_bipush (q := 15) (nI 12) dX4_init_13 (by decide) rfl ?_
  refine a_newaA (q := 17) (atype := .int) (ty := .int) (t0 := 0) (N := 12) (12, .inl (fun _ => nI 0)) dX4_init_15 tw140 rfl (fun _ h => nomatch h) rfl (fun _ => rfl) (by decide) (by decide) (Nat.le_of_ble_eq_true rfl) (Nat.le_of_ble_eq_true rfl) (Nat.le_of_ble_eq_true rfl) rfl ?_
  refine a_putA (q := 20) dX4_init_17 fX4_15 (fun _ => ⟨rfl, by decide +kernel⟩) rfl (Nat.le_of_ble_eq_true rfl) rfl rfl rfl ?_
  refine a_aload_n (q := 21) dX4_init_20 rfl rfl rfl ?_
  refine a_iconst (q := 22) (nI 0) dX4_init_21 (by decide) rfl ?_
  refine a_putA (q := 25) dX4_init_22 fX4_19 (fun h => nomatch h) rfl (Nat.le_of_ble_eq_true rfl) rfl rfl rfl ?_
  refine a_aload_n (q := 26) dX4_init_25 rfl rfl rfl ?_
  refine a_bipush (q := 28) (nI 12) dX4_init_26 (by decide) rfl ?_
  refine a_newaA (q := 30) (atype := .int) (ty := .int) (t0 := 0) (N := 12) (12, .inl (fun _ => nI 0)) dX4_init_28 tw140 rfl (fun _ h => nomatch h) rfl (fun _ => rfl) (by decide) (by decide) (Nat.le_of_ble_eq_true rfl) (Nat.le_of_ble_eq_true rfl) (Nat.le_of_ble_eq_true rfl) rfl ?_
  refine a_putA (q := 33) dX4_init_30 fX4_23 (fun _ => ⟨rfl, by decide +kernel⟩) rfl (Nat.le_of_ble_eq_true rfl) rfl rfl rfl ?_
  refine a_aload_n (q := 34) dX4_init_33 rfl rfl rfl ?_
  refine a_iconst (q := 35) (nI 0) dX4_init_34 (by decide) rfl ?_
  refine a_putA (q := 38) dX4_init_35 fX4_26 (fun h => nomatch h) rfl (Nat.le_of_ble_eq_true rfl) rfl rfl rfl ?_
  refine a_aload_n (q := 39) dX4_init_38 rfl rfl rfl ?_
  refine a_bipush (q := 41) (nI 12) dX4_init_39 (by decide) rfl ?_
  refine a_newaA (q := 43) (atype := .int) (ty := .int) (t0 := 0) (N := 12) (12, .inl (fun _ => nI 0)) dX4_init_41 tw140 rfl (fun _ h => nomatch h) rfl (fun _ => rfl) (by decide) (by decide) (Nat.le_of_ble_eq_true rfl) (Nat.le_of_ble_eq_true rfl) (Nat.le_of_ble_eq_true rfl) rfl ?_
  refine a_putA (q := 46) dX4_init_43 fX4_29 (fun _ => ⟨rfl, by decide +kernel⟩) rfl (Nat.le_of_ble_eq_true rfl) rfl rfl rfl ?_
  refine a_aload_n (q := 47) dX4_init_46 rfl rfl rfl ?_
  refine a_bipush (q := 49) (nI 12) dX4_init_47 (by decide) rfl ?_
  refine a_newaA (q := 51) (atype := .boolean) (ty := .boolean) (t0 := 1) (N := 12) (12, .inl (fun _ => b2 false)) dX4_init_49 tw216 rfl (fun _ h => nomatch h) rfl (fun _ => rfl) (by decide) (by decide) (Nat.le_of_ble_eq_true rfl) (Nat.le_of_ble_eq_true rfl) (Nat.le_of_ble_eq_true rfl) rfl ?_
  refine a_putA (q := 54) dX4_init_51 fX4_32 (fun _ => ⟨rfl, by decide +kernel⟩) rfl (Nat.le_of_ble_eq_true rfl) rfl rfl rfl ?_
  refine a_aload_n (q := 55) dX4_init_54 rfl rfl rfl ?_
  refine a_bipush (q := 57) (nI 12) dX4_init_55 (by decide) rfl ?_
  refine a_newaA (q := 59) (atype := .boolean) (ty := .boolean) (t0 := 1) (N := 12) (12, .inl (fun _ => b2 false)) dX4_init_57 tw216 rfl (fun _ h => nomatch h) rfl (fun _ => rfl) (by decide) (by decide) (Nat.le_of_ble_eq_true rfl) (Nat.le_of_ble_eq_true rfl) (Nat.le_of_ble_eq_true rfl) rfl ?_
  refine a_putA (q := 62) dX4_init_59 fX4_35 (fun _ => ⟨rfl, by decide +kernel⟩) rfl (Nat.le_of_ble_eq_true rfl) rfl rfl rfl ?_
  refine a_aload_n (q := 63) dX4_init_62 rfl rfl rfl ?_
  refine a_bipush (q := 65) (nI 12) dX4_init_63 (by decide) rfl ?_
  refine a_newaA (q := 67) (atype := .boolean) (ty := .boolean) (t0 := 1) (N := 12) (12, .inl (fun _ => b2 false)) dX4_init_65 tw216 rfl (fun _ h => nomatch h) rfl (fun _ => rfl) (by decide) (by decide) (Nat.le_of_ble_eq_true rfl) (Nat.le_of_ble_eq_true rfl) (Nat.le_of_ble_eq_true rfl) rfl ?_
  refine a_putA (q := 70) dX4_init_67 fX4_38 (fun _ => ⟨rfl, by decide +kernel⟩) rfl (Nat.le_of_ble_eq_true rfl) rfl rfl rfl ?_
  refine a_aload_n (q := 71) dX4_init_70 rfl rfl rfl ?_
  refine a_aload_n (q := 72) dX4_init_71 rfl rfl rfl ?_
  refine a_putA (q := 75) dX4_init_72 fX4_41 (fun _ => ⟨rfl, by decide +kernel⟩) rfl (Nat.le_of_ble_eq_true rfl) rfl rfl rfl ?_
  exact a_ret dX4_init_75 rfl (Nat.le_of_ble_eq_true rfl) (Nat.le_of_ble_eq_true rfl) (⟨rfl, rfl, rfl, rfl⟩)
theorem i_links : Ct g mX1_init [.ref (g.1 + 20), .ref (g.1 + 1), .ref (g.1 + 12)] 1 [c0, c1, c2, c3, c4, c5, c6, c7, c8, c9, c10, c11, c12, c13, c14, c15, c16, c17, c18, c19, oB 1 [.null, .null, .null, .null, .null, .null]] [] 4 228 (rZ 1 none [c0, c1, c2, c3, c4, c5, c6, c7, c8, c9, c10, c11, c12, c13, c14, c15, c16, c17, c18, c19, oB 1 [.ref (g.1 + 1), .ref (g.1 + 12), .ref (g.1 + 21), .ref (g.1 + 22), .ref (g.1 + 23), .ref (g.1 + 24)], aI g 72 (fun _ => nI 0), aI g 72 (fun _ => nI 0), aI g 72 (fun _ => nI 0), aI g 12 (fun _ => nI 0)] []) noX := by
  refine Ct.of [some (.ref (g.1 + 20)), some (.ref (g.1 + 1)), some (.ref (g.1 + 12))] (by decide) rfl (Nat.le_of_ble_eq_true rfl) rfl ?_
  refine a_aload_n (q := 1) dX1_init_0 rfl rfl rfl ?_
  refine a_objInit (q := 4) dX1_init_1 oX1_3 ⟨(Nat.le_of_ble_eq_true rfl), (Nat.le_of_ble_eq_true rfl)⟩ rfl ?_
  refine a_aload_n (q := 5) dX1_init_4 rfl rfl rfl ?_
  refine a_bipush (q := 7) (nI 72) dX1_init_5 (by decide) rfl ?_
  refine a_newaA (q := 9) (atype := .int) (ty := .int) (t0 := 0) (N := 72) (72, .inl (fun _ => nI 0)) dX1_init_7 tw140 rfl (fun _ h => nomatch h) rfl (fun _ => rfl) (by decide) (by decide) (Nat.le_of_ble_eq_true rfl) (Nat.le_of_ble_eq_true rfl) (Nat.le_of_ble_eq_true rfl) rfl ?_
  refine a_putA (q := 12) dX1_init_9 fX1_9 (fun _ => ⟨rfl, by decide +kernel⟩) rfl (Nat.le_of_ble_eq_true rfl) rfl rfl rfl ?_
  refine a_aload_n (q := 13) dX1_init_12 rfl rfl rfl ?_
  refine a_bipush (q := 15) (nI 72) dX1_init_13 (by decide) rfl ?_
  refine a_newaA (q := 17) (atype := .int) (ty := .int) (t0 := 0) (N := 72) (72, .inl (fun _ => nI 0)) dX1_init_15 tw140 rfl (fun _ h => nomatch h) rfl (fun _ => rfl) (by decide) (by decide) (Nat.le_of_ble_eq_true rfl) (Nat.le_of_ble_eq_true rfl) (Nat.le_of_ble_eq_true rfl) rfl ?_
  refine a_putA (q := 20) dX1_init_17 fX1_15 (fun _ => ⟨rfl, by decide +kernel⟩) rfl (Nat.le_of_ble_eq_true rfl) rfl rfl rfl ?_
  refine a_aload_n (q := 21) dX1_init_20 rfl rfl rfl ?_
  refine a_bipush (q := 23) (nI 72) dX1_init_21 (by decide) rfl ?_
  refine a_newaA (q := 25) (atype := .int) (ty := .int) (t0 := 0) (N := 72) (72, .inl (fun _ => nI 0)) dX1_init_23 tw140 rfl (fun _ h => nomatch h) rfl (fun _ => rfl) (by decide) (by decide) (Nat.le_of_ble_eq_true rfl) (Nat.le_of_ble_eq_true rfl) (Nat.le_of_ble_eq_true rfl) rfl ?_
  refine a_putA (q := 28) dX1_init_25 fX1_18 (fun _ => ⟨rfl, by decide +kernel⟩) rfl (Nat.le_of_ble_eq_true rfl) rfl rfl rfl ?_
  refine a_aload_n (q := 29) dX1_init_28 rfl rfl rfl ?_
  refine a_bipush (q := 31) (nI 12) dX1_init_29 (by decide) rfl ?_
  refine a_newaA (q := 33) (atype := .int) (ty := .int) (t0 := 0) (N := 12) (12, .inl (fun _ => nI 0)) dX1_init_31 tw140 rfl (fun _ h => nomatch h) rfl (fun _ => rfl) (by decide) (by decide) (Nat.le_of_ble_eq_true rfl) (Nat.le_of_ble_eq_true rfl) (Nat.le_of_ble_eq_true rfl) rfl ?_
  refine a_putA (q := 36) dX1_init_33 fX1_21 (fun _ => ⟨rfl, by decide +kernel⟩) rfl (Nat.le_of_ble_eq_true rfl) rfl rfl rfl ?_
  refine a_aload_n (q := 37) dX1_init_36 rfl rfl rfl ?_
  refine a_aload_n (q := 38) dX1_init_37 rfl rfl rfl ?_
  refine a_putA (q := 41) dX1_init_38 fX1_24 (fun _ => ⟨rfl, by decide +kernel⟩) rfl (Nat.le_of_ble_eq_true rfl) rfl rfl rfl ?_
  refine a_aload_n (q := 42) dX1_init_41 rfl rfl rfl ?_
  refine a_aload_n (q := 43) dX1_init_42 rfl rfl rfl ?_
  refine a_putA (q := 46) dX1_init_43 fX1_28 (fun _ => ⟨rfl, by decide +kernel⟩) rfl (Nat.le_of_ble_eq_true rfl) rfl rfl rfl ?_
  exact a_ret dX1_init_46 rfl (Nat.le_of_ble_eq_true rfl) (Nat.le_of_ble_eq_true rfl) (⟨rfl, rfl, rfl, rfl⟩)
theorem i_tree : Ct g mX6_init [.ref (g.1 + 25), .ref (g.1 + 1), .ref (g.1 + 20)] 1 [c0, c1, c2, c3, c4, c5, c6, c7, c8, c9, c10, c11, c12, c13, c14, c15, c16, c17, c18, c19, c20, c21, c22, c23, c24, oB 6 [.null, .null, .null, .int 0, .int 0, .null, .int 0, .null, .null]] [] 4 168 (rZ 1 none [c0, c1, c2, c3, c4, c5, c6, c7, c8, c9, c10, c11, c12, c13, c14, c15, c16, c17, c18, c19, c20, c21, c22, c23, c24, oB 6 [.ref (g.1 + 1), .ref (g.1 + 20), .ref (g.1 + 26), .int (nI 0), .int (nI 0), .ref (g.1 + 27), .int (nI 0), .ref (g.1 + 28), .ref (g.1 + 29)], aI g 72 (fun _ => nI 0), aN g 72 (fun _ => 0), aN g 12 (fun _ => 0), aI g 12 (fun _ => nI 0)] []) noX := by
  refine Ct.of [some (.ref (g.1 + 25)), some (.ref (g.1 + 1)), some (.ref (g.1 + 20))] (by decide) rfl (Nat.le_of_ble_eq_true rfl) rfl ?_
  refine a_aload_n (q := 1) dX6_init_0 rfl rfl rfl ?_
  refine a_objInit (q := 4) dX6_init_1 oX6_3 ⟨(Nat.le_of_ble_eq_true rfl), (Nat.le_of_ble_eq_true rfl)⟩ rfl ?_
  refine a_aload_n (q := 5) dX6_init_4 rfl rfl rfl ?_
  refine a_bipush (q := 7) (nI 72) dX6_init_5 (by decide) rfl ?_
  refine a_newaA (q := 9) (atype := .int) (ty := .int) (t0 := 0) (N := 72) (72, .inl (fun _ => nI 0)) dX6_init_7 tw140 rfl (fun _ h => nomatch h) rfl (fun _ => rfl) (by decide) (by decide) (Nat.le_of_ble_eq_true rfl) (Nat.le_of_ble_eq_true rfl) (Nat.le_of_ble_eq_true rfl) rfl ?_
  refine a_putA (q := 12) dX6_init_9 fX6_9 (fun _ => ⟨rfl, by decide +kernel⟩) rfl (Nat.le_of_ble_eq_true rfl) rfl rfl rfl ?_
  refine a_aload_n (q := 13) dX6_init_12 rfl rfl rfl ?_
  refine a_iconst (q := 14) (nI 0) dX6_init_13 (by decide) rfl ?_
  refine a_putA (q := 17) dX6_init_14 fX6_15 (fun h => nomatch h) rfl (Nat.le_of_ble_eq_true rfl) rfl rfl rfl ?_
  refine a_aload_n (q := 18) dX6_init_17 rfl rfl rfl ?_
  refine a_iconst (q := 19) (nI 0) dX6_init_18 (by decide) rfl ?_
  refine a_putA (q := 22) dX6_init_19 fX6_19 (fun h => nomatch h) rfl (Nat.le_of_ble_eq_true rfl) rfl rfl rfl ?_
  refine a_aload_n (q := 23) dX6_init_22 rfl rfl rfl ?_
  refine a_bipush (q := 25) (nI 72) dX6_init_23 (by decide) rfl ?_
  refine a_newaA (q := 27) (atype := .int) (ty := .int) (t0 := 0) (N := 72) (72, .inl (fun _ => nI 0)) dX6_init_25 tw140 rfl (fun _ h => nomatch h) rfl (fun _ => rfl) (by decide) (by decide) (Nat.le_of_ble_eq_true rfl) (Nat.le_of_ble_eq_true rfl) (Nat.le_of_ble_eq_true rfl) rfl ?_
  refine a_putA (q := 30) dX6_init_27 fX6_22 (fun _ => ⟨rfl, by decide +kernel⟩) rfl (Nat.le_of_ble_eq_true rfl) rfl rfl rfl ?_
  refine a_aload_n (q := 31) dX6_init_30 rfl rfl rfl ?_
  refine a_iconst (q := 32) (nI 0) dX6_init_31 (by decide) rfl ?_
  refine a_putA (q := 35) dX6_init_32 fX6_25 (fun h => nomatch h) rfl (Nat.le_of_ble_eq_true rfl) rfl rfl rfl ?_
  refine a_aload_n (q := 36) dX6_init_35 rfl rfl rfl ?_
  refine a_bipush (q := 38) (nI 12) dX6_init_36 (by decide) rfl ?_
  refine a_newaA (q := 40) (atype := .int) (ty := .int) (t0 := 0) (N := 12) (12, .inl (fun _ => nI 0)) dX6_init_38 tw140 rfl (fun _ h => nomatch h) rfl (fun _ => rfl) (by decide) (by decide) (Nat.le_of_ble_eq_true rfl) (Nat.le_of_ble_eq_true rfl) (Nat.le_of_ble_eq_true rfl) rfl ?_
  refine a_putA (q := 43) dX6_init_40 fX6_28 (fun _ => ⟨rfl, by decide +kernel⟩) rfl (Nat.le_of_ble_eq_true rfl) rfl rfl rfl ?_
  refine a_aload_n (q := 44) dX6_init_43 rfl rfl rfl ?_
  refine a_bipush (q := 46) (nI 12) dX6_init_44 (by decide) rfl ?_
  refine a_newaA (q := 48) (atype := .int) (ty := .int) (t0 := 0) (N := 12) (12, .inl (fun _ => nI 0)) dX6_init_46 tw140 rfl (fun _ h => nomatch h) rfl (fun _ => rfl) (by decide) (by decide) (Nat.le_of_ble_eq_true rfl) (Nat.le_of_ble_eq_true rfl) (Nat.le_of_ble_eq_true rfl) rfl ?_
  refine a_putA (q := 51) dX6_init_48 fX6_31 (fun _ => ⟨rfl, by decide +kernel⟩) rfl (Nat.le_of_ble_eq_true rfl) rfl rfl rfl ?_
  refine a_aload_n (q := 52) dX6_init_51 rfl rfl rfl ?_
  refine a_aload_n (q := 53) dX6_init_52 rfl rfl rfl ?_
  refine a_putA (q := 56) dX6_init_53 fX6_34 (fun _ => ⟨rfl, by decide +kernel⟩) rfl (Nat.le_of_ble_eq_true rfl) rfl rfl rfl ?_
  refine a_aload_n (q := 57) dX6_init_56 rfl rfl rfl ?_
  refine a_aload_n (q := 58) dX6_init_57 rfl rfl rfl ?_
  refine a_putA (q := 61) dX6_init_58 fX6_38 (fun _ => ⟨rfl, by decide +kernel⟩) rfl (Nat.le_of_ble_eq_true rfl) rfl rfl rfl ?_
  exact a_ret dX6_init_61 rfl (Nat.le_of_ble_eq_true rfl) (Nat.le_of_ble_eq_true rfl) (⟨rfl, rfl, rfl, rfl⟩)
theorem i_paths : Ct g mX2_init [.ref (g.1 + 30), .ref (g.1 + 1), .ref (g.1 + 20)] 1 [c0, c1, c2, c3, c4, c5, c6, c7, c8, c9, c10, c11, c12, c13, c14, c15, c16, c17, c18, c19, c20, c21, c22, c23, c24, c25, c26, c27, c28, c29, oB 2 [.null, .null, .null, .int 0]] [] 1 12 (rZ 1 none [c0, c1, c2, c3, c4, c5, c6, c7, c8, c9, c10, c11, c12, c13, c14, c15, c16, c17, c18, c19, c20, c21, c22, c23, c24, c25, c26, c27, c28, c29, oB 2 [.ref (g.1 + 1), .ref (g.1 + 20), .ref (g.1 + 31), .int (nI 0)], aN g 12 (fun _ => 0)] []) noX := by
  refine Ct.of [some (.ref (g.1 + 30)), some (.ref (g.1 + 1)), some (.ref (g.1 + 20))] (by decide) rfl (Nat.le_of_ble_eq_true rfl) rfl ?_
  refine a_aload_n (q := 1) dX2_init_0 rfl rfl rfl ?_
  refine a_objInit (q := 4) dX2_init_1 oX2_3 ⟨(Nat.le_of_ble_eq_true rfl), (Nat.le_of_ble_eq_true rfl)⟩ rfl ?_
  refine a_aload_n (q := 5) dX2_init_4 rfl rfl rfl ?_
  refine a_bipush (q := 7) (nI 12) dX2_init_5 (by decide) rfl ?_
  refine a_newaA (q := 9) (atype := .int) (ty := .int) (t0 := 0) (N := 12) (12, .inl (fun _ => nI 0)) dX2_init_7 tw140 rfl (fun _ h => nomatch h) rfl (fun _ => rfl) (by decide) (by decide) (Nat.le_of_ble_eq_true rfl) (Nat.le_of_ble_eq_true rfl) (Nat.le_of_ble_eq_true rfl) rfl ?_
  refine a_putA (q := 12) dX2_init_9 fX2_9 (fun _ => ⟨rfl, by decide +kernel⟩) rfl (Nat.le_of_ble_eq_true rfl) rfl rfl rfl ?_
  refine a_aload_n (q := 13) dX2_init_12 rfl rfl rfl ?_
  refine a_iconst (q := 14) (nI 0) dX2_init_13 (by decide) rfl ?_
  refine a_putA (q := 17) dX2_init_14 fX2_15 (fun h => nomatch h) rfl (Nat.le_of_ble_eq_true rfl) rfl rfl rfl ?_
  refine a_aload_n (q := 18) dX2_init_17 rfl rfl rfl ?_
  refine a_aload_n (q := 19) dX2_init_18 rfl rfl rfl ?_
  refine a_putA (q := 22) dX2_init_19 fX2_19 (fun _ => ⟨rfl, by decide +kernel⟩) rfl (Nat.le_of_ble_eq_true rfl) rfl rfl rfl ?_
  refine a_aload_n (q := 23) dX2_init_22 rfl rfl rfl ?_
  refine a_aload_n (q := 24) dX2_init_23 rfl rfl rfl ?_
  refine a_putA (q := 27) dX2_init_24 fX2_23 (fun _ => ⟨rfl, by decide +kernel⟩) rfl (Nat.le_of_ble_eq_true rfl) rfl rfl rfl ?_
  exact a_ret dX2_init_27 rfl (Nat.le_of_ble_eq_true rfl) (Nat.le_of_ble_eq_true rfl) (⟨rfl, rfl, rfl, rfl⟩)
theorem i_walk : Ct g mX7_init [.ref (g.1 + 32)] 1 [c0, c1, c2, c3, c4, c5, c6, c7, c8, c9, c10, c11, c12, c13, c14, c15, c16, c17, c18, c19, c20, c21, c22, c23, c24, c25, c26, c27, c28, c29, c30, c31, oB 7 [.int 0, .int 0, .null, .int 0]] [] 1 200 (rZ 1 none [c0, c1, c2, c3, c4, c5, c6, c7, c8, c9, c10, c11, c12, c13, c14, c15, c16, c17, c18, c19, c20, c21, c22, c23, c24, c25, c26, c27, c28, c29, c30, c31, oB 7 [.int (-1), .int (nI 0), .ref (g.1 + 33), .int (nI 0)], aN g 200 (fun _ => 0)] []) noX := by
  refine Ct.of [some (.ref (g.1 + 32))] (by decide) rfl (Nat.le_of_ble_eq_true rfl) rfl ?_
  refine a_aload_n (q := 1) dX7_init_0 rfl rfl rfl ?_
  refine a_objInit (q := 4) dX7_init_1 oX7_3 ⟨(Nat.le_of_ble_eq_true rfl), (Nat.le_of_ble_eq_true rfl)⟩ rfl ?_
  refine a_aload_n (q := 5) dX7_init_4 rfl rfl rfl ?_
  refine a_iconst (q := 6) (-1) dX7_init_5 (by decide) rfl ?_
  refine a_putA (q := 9) dX7_init_6 fX7_9 (fun h => nomatch h) rfl (Nat.le_of_ble_eq_true rfl) rfl rfl rfl ?_
  refine a_aload_n (q := 10) dX7_init_9 rfl rfl rfl ?_
  refine a_iconst (q := 11) (nI 0) dX7_init_10 (by decide) rfl ?_
  refine a_putA (q := 14) dX7_init_11 fX7_15 (fun h => nomatch h) rfl (Nat.le_of_ble_eq_true rfl) rfl rfl rfl ?_
  refine a_aload_n (q := 15) dX7_init_14 rfl rfl rfl ?_
  refine a_sipush (q := 18) (nI 200) dX7_init_15 (by decide) rfl ?_
  refine a_newaA (q := 20) (atype := .int) (ty := .int) (t0 := 0) (N := 200) (200, .inl (fun _ => nI 0)) dX7_init_18 tw140 rfl (fun _ h => nomatch h) rfl (fun _ => rfl) (by decide) (by decide) (Nat.le_of_ble_eq_true rfl) (Nat.le_of_ble_eq_true rfl) (Nat.le_of_ble_eq_true rfl) rfl ?_
  refine a_putA (q := 23) dX7_init_20 fX7_18 (fun _ => ⟨rfl, by decide +kernel⟩) rfl (Nat.le_of_ble_eq_true rfl) rfl rfl rfl ?_
  refine a_aload_n (q := 24) dX7_init_23 rfl rfl rfl ?_
  refine a_iconst (q := 25) (nI 0) dX7_init_24 (by decide) rfl ?_
  refine a_putA (q := 28) dX7_init_25 fX7_22 (fun h => nomatch h) rfl (Nat.le_of_ble_eq_true rfl) rfl rfl rfl ?_
  exact a_ret dX7_init_28 rfl (Nat.le_of_ble_eq_true rfl) (Nat.le_of_ble_eq_true rfl) (⟨rfl, rfl, rfl, rfl⟩)
/-- a new object of the class -/
def G0 : Gr := (2, 0, (fun _ => 0), (fun _ => 0), fun _ => 0)
def T0 : Tx := (0, fun _ => 0)
def S0 : Se := ((fun _ => false), (fun _ => 0), 0, (fun _ => 0), 0, (fun _ => 0), (fun _ => false), (fun _ => false), fun _ => false)
def K0 : Lk := ((fun _ => nI 0), (fun _ => nI 0), (fun _ => nI 0), fun _ => nI 0)
def E0 : Tr := ((fun _ => nI 0), 0, 0, (fun _ => 0), 0, (fun _ => 0), fun _ => nI 0)
def Q0 : Pa := ((fun _ => 0), 0)
def V0 : Wk := (-1, nI 0, (fun _ => 0), 0)
theorem i_prof : Ct g mX8_init [.ref (g.1 + 0)] 1 [oB 8 [.null, .null, .null, .null, .null, .null, .null, .null, .int 0]] [] 33 955 (rZ 1 none (CA g G0 T0 (G0, 0) S0 K0 E0 Q0 V0 false) []) noX := by
  refine Ct.of [some (.ref (g.1 + 0))] (by decide) rfl (Nat.le_of_ble_eq_true rfl) rfl ?_
  refine a_aload_n (q := 1) dX8_init_0 rfl rfl rfl ?_
  refine a_objInit (q := 4) dX8_init_1 oX8_3 ⟨(Nat.le_of_ble_eq_true rfl), (Nat.le_of_ble_eq_true rfl)⟩ rfl ?_
  refine a_aload_n (q := 5) dX8_init_4 rfl rfl rfl ?_
  refine a_newA (q := 8) _ dX8_init_5 nX8_9 (Nat.le_of_ble_eq_true rfl) (Nat.le_of_ble_eq_true rfl) rfl ?_
  refine a_dup (q := 9) dX8_init_8 rfl rfl ?_
  refine a_callN (q := 12) _ dX8_init_9 kX8_11 (i_graph) rfl rfl (Nat.le_of_ble_eq_true rfl) ⟨(Nat.le_of_ble_eq_true rfl), (Nat.le_of_ble_eq_true rfl)⟩ ⟨(Nat.le_of_ble_eq_true rfl), (Nat.le_of_ble_eq_true rfl)⟩ rfl (fun v9 z9 A9 B9 h9 => ?_) (fun E9 z9 A9 B9 h9 => h9.elim)
  obtain ⟨rfl, rfl, rfl, rfl⟩ := h9
  show AW _ _ _ _ _ _ _ _ _ _ (_ :: _) _ _ _
  refine a_putA (q := 15) dX8_init_12 fX8_12 (fun _ => ⟨rfl, by decide +kernel⟩) rfl (Nat.le_of_ble_eq_true rfl) rfl rfl rfl ?_
  refine a_aload_n (q := 16) dX8_init_15 rfl rfl rfl ?_
  refine a_newA (q := 19) _ dX8_init_16 nX8_16 (Nat.le_of_ble_eq_true rfl) (Nat.le_of_ble_eq_true rfl) rfl ?_
  refine a_dup (q := 20) dX8_init_19 rfl rfl ?_
  refine a_callN (q := 23) _ dX8_init_20 kX8_18 (i_text) rfl rfl (Nat.le_of_ble_eq_true rfl) ⟨(Nat.le_of_ble_eq_true rfl), (Nat.le_of_ble_eq_true rfl)⟩ ⟨(Nat.le_of_ble_eq_true rfl), (Nat.le_of_ble_eq_true rfl)⟩ rfl (fun v9 z9 A9 B9 h9 => ?_) (fun E9 z9 A9 B9 h9 => h9.elim)
  obtain ⟨rfl, rfl, rfl, rfl⟩ := h9
  show AW _ _ _ _ _ _ _ _ _ _ (_ :: _) _ _ _
  refine a_putA (q := 26) dX8_init_23 fX8_19 (fun _ => ⟨rfl, by decide +kernel⟩) rfl (Nat.le_of_ble_eq_true rfl) rfl rfl rfl ?_
  refine a_aload_n (q := 27) dX8_init_26 rfl rfl rfl ?_
  refine a_newA (q := 30) _ dX8_init_27 nX8_23 (Nat.le_of_ble_eq_true rfl) (Nat.le_of_ble_eq_true rfl) rfl ?_
  refine a_dup (q := 31) dX8_init_30 rfl rfl ?_
  refine a_callN (q := 34) _ dX8_init_31 kX8_25 (i_reader) rfl rfl (Nat.le_of_ble_eq_true rfl) ⟨(Nat.le_of_ble_eq_true rfl), (Nat.le_of_ble_eq_true rfl)⟩ ⟨(Nat.le_of_ble_eq_true rfl), (Nat.le_of_ble_eq_true rfl)⟩ rfl (fun v9 z9 A9 B9 h9 => ?_) (fun E9 z9 A9 B9 h9 => h9.elim)
  obtain ⟨rfl, rfl, rfl, rfl⟩ := h9
  show AW _ _ _ _ _ _ _ _ _ _ (_ :: _) _ _ _
  refine a_putA (q := 37) dX8_init_34 fX8_26 (fun _ => ⟨rfl, by decide +kernel⟩) rfl (Nat.le_of_ble_eq_true rfl) rfl rfl rfl ?_
  refine a_aload_n (q := 38) dX8_init_37 rfl rfl rfl ?_
  refine a_newA (q := 41) _ dX8_init_38 nX8_30 (Nat.le_of_ble_eq_true rfl) (Nat.le_of_ble_eq_true rfl) rfl ?_
  refine a_dup (q := 42) dX8_init_41 rfl rfl ?_
  refine a_aload_n (q := 43) dX8_init_42 rfl rfl rfl ?_
  refine a_getA (q := 46) dX8_init_43 fX8_12 rfl rfl rfl ?_
  refine a_callI (q := 49) _ dX8_init_46 kX8_32 (i_search) rfl rfl (Nat.le_of_ble_eq_true rfl) ⟨(Nat.le_of_ble_eq_true rfl), (Nat.le_of_ble_eq_true rfl)⟩ ⟨(Nat.le_of_ble_eq_true rfl), (Nat.le_of_ble_eq_true rfl)⟩ rfl (fun v9 z9 A9 B9 h9 => ?_) (fun E9 z9 A9 B9 h9 => h9.elim)
  obtain ⟨rfl, rfl, rfl, rfl⟩ := h9
  show AW _ _ _ _ _ _ _ _ _ _ (_ :: _) _ _ _
  refine a_putA (q := 52) dX8_init_49 fX8_35 (fun _ => ⟨rfl, by decide +kernel⟩) rfl (Nat.le_of_ble_eq_true rfl) rfl rfl rfl ?_
  refine a_aload_n (q := 53) dX8_init_52 rfl rfl rfl ?_
  refine a_newA (q := 56) _ dX8_init_53 nX8_39 (Nat.le_of_ble_eq_true rfl) (Nat.le_of_ble_eq_true rfl) rfl ?_
  refine a_dup (q := 57) dX8_init_56 rfl rfl ?_
  refine a_aload_n (q := 58) dX8_init_57 rfl rfl rfl ?_
  refine a_getA (q := 61) dX8_init_58 fX8_12 rfl rfl rfl ?_
  refine a_aload_n (q := 62) dX8_init_61 rfl rfl rfl ?_
  refine a_getA (q := 65) dX8_init_62 fX8_35 rfl rfl rfl ?_
  refine a_callI (q := 68) _ dX8_init_65 kX8_41 (i_links) rfl rfl (Nat.le_of_ble_eq_true rfl) ⟨(Nat.le_of_ble_eq_true rfl), (Nat.le_of_ble_eq_true rfl)⟩ ⟨(Nat.le_of_ble_eq_true rfl), (Nat.le_of_ble_eq_true rfl)⟩ rfl (fun v9 z9 A9 B9 h9 => ?_) (fun E9 z9 A9 B9 h9 => h9.elim)
  obtain ⟨rfl, rfl, rfl, rfl⟩ := h9
  show AW _ _ _ _ _ _ _ _ _ _ (_ :: _) _ _ _
  refine a_putA (q := 71) dX8_init_68 fX8_44 (fun _ => ⟨rfl, by decide +kernel⟩) rfl (Nat.le_of_ble_eq_true rfl) rfl rfl rfl ?_
  refine a_aload_n (q := 72) dX8_init_71 rfl rfl rfl ?_
  refine a_newA (q := 75) _ dX8_init_72 nX8_48 (Nat.le_of_ble_eq_true rfl) (Nat.le_of_ble_eq_true rfl) rfl ?_
  refine a_dup (q := 76) dX8_init_75 rfl rfl ?_
  refine a_aload_n (q := 77) dX8_init_76 rfl rfl rfl ?_
  refine a_getA (q := 80) dX8_init_77 fX8_12 rfl rfl rfl ?_
  refine a_aload_n (q := 81) dX8_init_80 rfl rfl rfl ?_
  refine a_getA (q := 84) dX8_init_81 fX8_44 rfl rfl rfl ?_
  refine a_callI (q := 87) _ dX8_init_84 kX8_50 (i_tree) rfl rfl (Nat.le_of_ble_eq_true rfl) ⟨(Nat.le_of_ble_eq_true rfl), (Nat.le_of_ble_eq_true rfl)⟩ ⟨(Nat.le_of_ble_eq_true rfl), (Nat.le_of_ble_eq_true rfl)⟩ rfl (fun v9 z9 A9 B9 h9 => ?_) (fun E9 z9 A9 B9 h9 => h9.elim)
  obtain ⟨rfl, rfl, rfl, rfl⟩ := h9
  show AW _ _ _ _ _ _ _ _ _ _ (_ :: _) _ _ _
  refine a_putA (q := 90) dX8_init_87 fX8_53 (fun _ => ⟨rfl, by decide +kernel⟩) rfl (Nat.le_of_ble_eq_true rfl) rfl rfl rfl ?_
  refine a_aload_n (q := 91) dX8_init_90 rfl rfl rfl ?_
  refine a_newA (q := 94) _ dX8_init_91 nX8_57 (Nat.le_of_ble_eq_true rfl) (Nat.le_of_ble_eq_true rfl) rfl ?_
  refine a_dup (q := 95) dX8_init_94 rfl rfl ?_
  refine a_aload_n (q := 96) dX8_init_95 rfl rfl rfl ?_
  refine a_getA (q := 99) dX8_init_96 fX8_12 rfl rfl rfl ?_
  refine a_aload_n (q := 100) dX8_init_99 rfl rfl rfl ?_
  refine a_getA (q := 103) dX8_init_100 fX8_44 rfl rfl rfl ?_
  refine a_callI (q := 106) _ dX8_init_103 kX8_59 (i_paths) rfl rfl (Nat.le_of_ble_eq_true rfl) ⟨(Nat.le_of_ble_eq_true rfl), (Nat.le_of_ble_eq_true rfl)⟩ ⟨(Nat.le_of_ble_eq_true rfl), (Nat.le_of_ble_eq_true rfl)⟩ rfl (fun v9 z9 A9 B9 h9 => ?_) (fun E9 z9 A9 B9 h9 => h9.elim)
  obtain ⟨rfl, rfl, rfl, rfl⟩ := h9
  show AW _ _ _ _ _ _ _ _ _ _ (_ :: _) _ _ _
  refine a_putA (q := 109) dX8_init_106 fX8_60 (fun _ => ⟨rfl, by decide +kernel⟩) rfl (Nat.le_of_ble_eq_true rfl) rfl rfl rfl ?_
  refine a_aload_n (q := 110) dX8_init_109 rfl rfl rfl ?_
  refine a_newA (q := 113) _ dX8_init_110 nX8_64 (Nat.le_of_ble_eq_true rfl) (Nat.le_of_ble_eq_true rfl) rfl ?_
  refine a_dup (q := 114) dX8_init_113 rfl rfl ?_
  refine a_callN (q := 117) _ dX8_init_114 kX8_66 (i_walk) rfl rfl (Nat.le_of_ble_eq_true rfl) ⟨(Nat.le_of_ble_eq_true rfl), (Nat.le_of_ble_eq_true rfl)⟩ ⟨(Nat.le_of_ble_eq_true rfl), (Nat.le_of_ble_eq_true rfl)⟩ rfl (fun v9 z9 A9 B9 h9 => ?_) (fun E9 z9 A9 B9 h9 => h9.elim)
  obtain ⟨rfl, rfl, rfl, rfl⟩ := h9
  show AW _ _ _ _ _ _ _ _ _ _ (_ :: _) _ _ _
  refine a_putA (q := 120) dX8_init_117 fX8_67 (fun _ => ⟨rfl, by decide +kernel⟩) rfl (Nat.le_of_ble_eq_true rfl) rfl rfl rfl ?_
  refine a_aload_n (q := 121) dX8_init_120 rfl rfl rfl ?_
  refine a_iconst (q := 122) (b2 false) dX8_init_121 (by decide) rfl ?_
  refine a_putA (q := 125) dX8_init_122 fX8_71 (fun h => nomatch h) rfl (Nat.le_of_ble_eq_true rfl) (b2_narrow _) rfl rfl ?_
  exact a_ret dX8_init_125 rfl (Nat.le_of_ble_eq_true rfl) (Nat.le_of_ble_eq_true rfl) (⟨rfl, rfl, rfl, rfl⟩)
end Ctors
section MCtor
variable {g : gp_T} {A : List va_E}
def Y0 : Ya := (false, (fun _ => false), (fun _ => nI 0), (fun _ => nI 0), (fun _ => nI 0), fun _ => false)
def W0 : Wa := (false, false, 0, nI 0, fun _ => 0)
def R0 : Ra := (nI 0, 0, (fun _ => nI 0), (fun _ => nI 0), 0)
def Z0 : Za := ((fun _ => false), (fun _ => false), (fun _ => 0), (fun _ => 0), (fun _ => 0), 0)
def U0 : Ua := ((fun _ => 0), (fun _ => nI 0), (fun _ => false), fun _ => false)
def L0 : La := ((fun _ => 0), 0)
def O0 : Oa := ((fun _ => 0), fun _ => 0)
/-- the reference without the cells for the answers -/
def BM0 (g : gp_T) : List va_E := (BM g G0 T0 0 Y0 W0 R0 Z0 U0 L0 0 O0).take 23
theorem i_ref : Ct g mX9_init [.ref (g.2.1 + 0)] 2 A [oB 9 [.int 0, .int 0, .int 0, .null, .null, .null, .int 0, .null, .int 0, .null, .null, .null, .null, .null, .int 0, .int 0, .int 0, .int 0, .null, .int 0, .int 0, .null, .null, .int 0, .null, .null, .null, .null, .null, .int 0, .null, .null, .null, .null, .null, .int 0, .long 0]] 22 728 (rZ 2 none A (BM0 g)) noX := by
  refine Ct.of [some (.ref (g.2.1 + 0))] (by decide) rfl (Nat.le_of_ble_eq_true rfl) rfl ?_
  refine a_aload_n (q := 1) dX9_init_0 rfl rfl rfl ?_
  refine a_objInit (q := 4) dX9_init_1 oX9_1 ⟨(Nat.le_of_ble_eq_true rfl), (Nat.le_of_ble_eq_true rfl)⟩ rfl ?_
  refine a_aload_n (q := 5) dX9_init_4 rfl rfl rfl ?_
  refine a_iconst (q := 6) (nI 2) dX9_init_5 (by decide) rfl ?_
  refine a_putB (q := 9) dX9_init_6 fX9_7 (fun h => nomatch h) rfl (Nat.le_of_ble_eq_true rfl) rfl rfl rfl ?_
  refine a_aload_n (q := 10) dX9_init_9 rfl rfl rfl ?_
  refine a_bipush (q := 12) (nI 24) dX9_init_10 (by decide) rfl ?_
  refine a_newaB (q := 14) (atype := .int) (ty := .int) (t0 := 0) (N := 24) (24, .inl (fun _ => nI 0)) dX9_init_12 tw140 rfl (fun _ h => nomatch h) rfl (fun _ => rfl) (by decide) (by decide) (Nat.le_of_ble_eq_true rfl) (Nat.le_of_ble_eq_true rfl) (Nat.le_of_ble_eq_true rfl) rfl ?_
  refine a_putB (q := 17) dX9_init_14 fX9_13 (fun _ => ⟨rfl, by decide +kernel⟩) rfl (Nat.le_of_ble_eq_true rfl) rfl rfl rfl ?_
  refine a_aload_n (q := 18) dX9_init_17 rfl rfl rfl ?_
  refine a_bipush (q := 20) (nI 24) dX9_init_18 (by decide) rfl ?_
  refine a_newaB (q := 22) (atype := .int) (ty := .int) (t0 := 0) (N := 24) (24, .inl (fun _ => nI 0)) dX9_init_20 tw140 rfl (fun _ h => nomatch h) rfl (fun _ => rfl) (by decide) (by decide) (Nat.le_of_ble_eq_true rfl) (Nat.le_of_ble_eq_true rfl) (Nat.le_of_ble_eq_true rfl) rfl ?_
  refine a_putB (q := 25) dX9_init_22 fX9_17 (fun _ => ⟨rfl, by decide +kernel⟩) rfl (Nat.le_of_ble_eq_true rfl) rfl rfl rfl ?_
  refine a_aload_n (q := 26) dX9_init_25 rfl rfl rfl ?_
  refine a_bipush (q := 28) (nI 24) dX9_init_26 (by decide) rfl ?_
  refine a_newaB (q := 30) (atype := .int) (ty := .int) (t0 := 0) (N := 24) (24, .inl (fun _ => nI 0)) dX9_init_28 tw140 rfl (fun _ h => nomatch h) rfl (fun _ => rfl) (by decide) (by decide) (Nat.le_of_ble_eq_true rfl) (Nat.le_of_ble_eq_true rfl) (Nat.le_of_ble_eq_true rfl) rfl ?_
  refine a_putB (q := 33) dX9_init_30 fX9_20 (fun _ => ⟨rfl, by decide +kernel⟩) rfl (Nat.le_of_ble_eq_true rfl) rfl rfl rfl ?_
  refine a_aload_n (q := 34) dX9_init_33 rfl rfl rfl ?_
  refine a_bipush (q := 36) (nI 60) dX9_init_34 (by decide) rfl ?_
  refine a_newaB (q := 38) (atype := .int) (ty := .int) (t0 := 0) (N := 60) (60, .inl (fun _ => nI 0)) dX9_init_36 tw140 rfl (fun _ h => nomatch h) rfl (fun _ => rfl) (by decide) (by decide) (Nat.le_of_ble_eq_true rfl) (Nat.le_of_ble_eq_true rfl) (Nat.le_of_ble_eq_true rfl) rfl ?_
  refine a_putB (q := 41) dX9_init_38 fX9_23 (fun _ => ⟨rfl, by decide +kernel⟩) rfl (Nat.le_of_ble_eq_true rfl) rfl rfl rfl ?_
  refine a_aload_n (q := 42) dX9_init_41 rfl rfl rfl ?_
  refine a_bipush (q := 44) (nI 24) dX9_init_42 (by decide) rfl ?_
  refine a_newaB (q := 46) (atype := .boolean) (ty := .boolean) (t0 := 1) (N := 24) (24, .inl (fun _ => b2 false)) dX9_init_44 tw216 rfl (fun _ h => nomatch h) rfl (fun _ => rfl) (by decide) (by decide) (Nat.le_of_ble_eq_true rfl) (Nat.le_of_ble_eq_true rfl) (Nat.le_of_ble_eq_true rfl) rfl ?_
  refine a_putB (q := 49) dX9_init_46 fX9_26 (fun _ => ⟨rfl, by decide +kernel⟩) rfl (Nat.le_of_ble_eq_true rfl) rfl rfl rfl ?_
  refine a_aload_n (q := 50) dX9_init_49 rfl rfl rfl ?_
  refine a_bipush (q := 52) (nI 12) dX9_init_50 (by decide) rfl ?_
  refine a_newaB (q := 54) (atype := .int) (ty := .int) (t0 := 0) (N := 12) (12, .inl (fun _ => nI 0)) dX9_init_52 tw140 rfl (fun _ h => nomatch h) rfl (fun _ => rfl) (by decide) (by decide) (Nat.le_of_ble_eq_true rfl) (Nat.le_of_ble_eq_true rfl) (Nat.le_of_ble_eq_true rfl) rfl ?_
  refine a_putB (q := 57) dX9_init_54 fX9_30 (fun _ => ⟨rfl, by decide +kernel⟩) rfl (Nat.le_of_ble_eq_true rfl) rfl rfl rfl ?_
  refine a_aload_n (q := 58) dX9_init_57 rfl rfl rfl ?_
  refine a_bipush (q := 60) (nI 48) dX9_init_58 (by decide) rfl ?_
  refine a_newaB (q := 62) (atype := .int) (ty := .int) (t0 := 0) (N := 48) (48, .inl (fun _ => nI 0)) dX9_init_60 tw140 rfl (fun _ h => nomatch h) rfl (fun _ => rfl) (by decide) (by decide) (Nat.le_of_ble_eq_true rfl) (Nat.le_of_ble_eq_true rfl) (Nat.le_of_ble_eq_true rfl) rfl ?_
  refine a_putB (q := 65) dX9_init_62 fX9_33 (fun _ => ⟨rfl, by decide +kernel⟩) rfl (Nat.le_of_ble_eq_true rfl) rfl rfl rfl ?_
  refine a_aload_n (q := 66) dX9_init_65 rfl rfl rfl ?_
  refine a_bipush (q := 68) (nI 48) dX9_init_66 (by decide) rfl ?_
  refine a_newaB (q := 70) (atype := .int) (ty := .int) (t0 := 0) (N := 48) (48, .inl (fun _ => nI 0)) dX9_init_68 tw140 rfl (fun _ h => nomatch h) rfl (fun _ => rfl) (by decide) (by decide) (Nat.le_of_ble_eq_true rfl) (Nat.le_of_ble_eq_true rfl) (Nat.le_of_ble_eq_true rfl) rfl ?_
  refine a_putB (q := 73) dX9_init_70 fX9_36 (fun _ => ⟨rfl, by decide +kernel⟩) rfl (Nat.le_of_ble_eq_true rfl) rfl rfl rfl ?_
  refine a_aload_n (q := 74) dX9_init_73 rfl rfl rfl ?_
  refine a_bipush (q := 76) (nI 48) dX9_init_74 (by decide) rfl ?_
  refine a_newaB (q := 78) (atype := .boolean) (ty := .boolean) (t0 := 1) (N := 48) (48, .inl (fun _ => b2 false)) dX9_init_76 tw216 rfl (fun _ h => nomatch h) rfl (fun _ => rfl) (by decide) (by decide) (Nat.le_of_ble_eq_true rfl) (Nat.le_of_ble_eq_true rfl) (Nat.le_of_ble_eq_true rfl) rfl ?_
  refine a_putB (q := 81) dX9_init_78 fX9_39 (fun _ => ⟨rfl, by decide +kernel⟩) rfl (Nat.le_of_ble_eq_true rfl) rfl rfl rfl ?_
  refine a_aload_n (q := 82) dX9_init_81 rfl rfl rfl ?_
  refine a_sipush (q := 85) (nI 200) dX9_init_82 (by decide) rfl ?_
  refine a_newaB (q := 87) (atype := .int) (ty := .int) (t0 := 0) (N := 200) (200, .inl (fun _ => nI 0)) dX9_init_85 tw140 rfl (fun _ h => nomatch h) rfl (fun _ => rfl) (by decide) (by decide) (Nat.le_of_ble_eq_true rfl) (Nat.le_of_ble_eq_true rfl) (Nat.le_of_ble_eq_true rfl) rfl ?_
  refine a_putB (q := 90) dX9_init_87 fX9_42 (fun _ => ⟨rfl, by decide +kernel⟩) rfl (Nat.le_of_ble_eq_true rfl) rfl rfl rfl ?_
  refine a_aload_n (q := 91) dX9_init_90 rfl rfl rfl ?_
  refine a_bipush (q := 93) (nI 24) dX9_init_91 (by decide) rfl ?_
  refine a_newaB (q := 95) (atype := .int) (ty := .int) (t0 := 0) (N := 24) (24, .inl (fun _ => nI 0)) dX9_init_93 tw140 rfl (fun _ h => nomatch h) rfl (fun _ => rfl) (by decide) (by decide) (Nat.le_of_ble_eq_true rfl) (Nat.le_of_ble_eq_true rfl) (Nat.le_of_ble_eq_true rfl) rfl ?_
  refine a_putB (q := 98) dX9_init_95 fX9_45 (fun _ => ⟨rfl, by decide +kernel⟩) rfl (Nat.le_of_ble_eq_true rfl) rfl rfl rfl ?_
  refine a_aload_n (q := 99) dX9_init_98 rfl rfl rfl ?_
  refine a_bipush (q := 101) (nI 24) dX9_init_99 (by decide) rfl ?_
  refine a_newaB (q := 103) (atype := .int) (ty := .int) (t0 := 0) (N := 24) (24, .inl (fun _ => nI 0)) dX9_init_101 tw140 rfl (fun _ h => nomatch h) rfl (fun _ => rfl) (by decide) (by decide) (Nat.le_of_ble_eq_true rfl) (Nat.le_of_ble_eq_true rfl) (Nat.le_of_ble_eq_true rfl) rfl ?_
  refine a_putB (q := 106) dX9_init_103 fX9_48 (fun _ => ⟨rfl, by decide +kernel⟩) rfl (Nat.le_of_ble_eq_true rfl) rfl rfl rfl ?_
  refine a_aload_n (q := 107) dX9_init_106 rfl rfl rfl ?_
  refine a_bipush (q := 109) (nI 12) dX9_init_107 (by decide) rfl ?_
  refine a_newaB (q := 111) (atype := .boolean) (ty := .boolean) (t0 := 1) (N := 12) (12, .inl (fun _ => b2 false)) dX9_init_109 tw216 rfl (fun _ h => nomatch h) rfl (fun _ => rfl) (by decide) (by decide) (Nat.le_of_ble_eq_true rfl) (Nat.le_of_ble_eq_true rfl) (Nat.le_of_ble_eq_true rfl) rfl ?_
  refine a_putB (q := 114) dX9_init_111 fX9_51 (fun _ => ⟨rfl, by decide +kernel⟩) rfl (Nat.le_of_ble_eq_true rfl) rfl rfl rfl ?_
  refine a_aload_n (q := 115) dX9_init_114 rfl rfl rfl ?_
  refine a_bipush (q := 117) (nI 12) dX9_init_115 (by decide) rfl ?_
  refine a_newaB (q := 119) (atype := .boolean) (ty := .boolean) (t0 := 1) (N := 12) (12, .inl (fun _ => b2 false)) dX9_init_117 tw216 rfl (fun _ h => nomatch h) rfl (fun _ => rfl) (by decide) (by decide) (Nat.le_of_ble_eq_true rfl) (Nat.le_of_ble_eq_true rfl) (Nat.le_of_ble_eq_true rfl) rfl ?_
  refine a_putB (q := 122) dX9_init_119 fX9_54 (fun _ => ⟨rfl, by decide +kernel⟩) rfl (Nat.le_of_ble_eq_true rfl) rfl rfl rfl ?_
  refine a_aload_n (q := 123) dX9_init_122 rfl rfl rfl ?_
  refine a_bipush (q := 125) (nI 12) dX9_init_123 (by decide) rfl ?_
  refine a_newaB (q := 127) (atype := .int) (ty := .int) (t0 := 0) (N := 12) (12, .inl (fun _ => nI 0)) dX9_init_125 tw140 rfl (fun _ h => nomatch h) rfl (fun _ => rfl) (by decide) (by decide) (Nat.le_of_ble_eq_true rfl) (Nat.le_of_ble_eq_true rfl) (Nat.le_of_ble_eq_true rfl) rfl ?_
  refine a_putB (q := 130) dX9_init_127 fX9_57 (fun _ => ⟨rfl, by decide +kernel⟩) rfl (Nat.le_of_ble_eq_true rfl) rfl rfl rfl ?_
  refine a_aload_n (q := 131) dX9_init_130 rfl rfl rfl ?_
  refine a_bipush (q := 133) (nI 12) dX9_init_131 (by decide) rfl ?_
  refine a_newaB (q := 135) (atype := .int) (ty := .int) (t0 := 0) (N := 12) (12, .inl (fun _ => nI 0)) dX9_init_133 tw140 rfl (fun _ h => nomatch h) rfl (fun _ => rfl) (by decide) (by decide) (Nat.le_of_ble_eq_true rfl) (Nat.le_of_ble_eq_true rfl) (Nat.le_of_ble_eq_true rfl) rfl ?_
  refine a_putB (q := 138) dX9_init_135 fX9_60 (fun _ => ⟨rfl, by decide +kernel⟩) rfl (Nat.le_of_ble_eq_true rfl) rfl rfl rfl ?_
  refine a_aload_n (q := 139) dX9_init_138 rfl rfl rfl ?_
  refine a_bipush (q := 141) (nI 12) dX9_init_139 (by decide) rfl ?_
  refine a_newaB (q := 143) (atype := .int) (ty := .int) (t0 := 0) (N := 12) (12, .inl (fun _ => nI 0)) dX9_init_141 tw140 rfl (fun _ h => nomatch h) rfl (fun _ => rfl) (by decide) (by decide) (Nat.le_of_ble_eq_true rfl) (Nat.le_of_ble_eq_true rfl) (Nat.le_of_ble_eq_true rfl) rfl ?_
  refine a_putB (q := 146) dX9_init_143 fX9_63 (fun _ => ⟨rfl, by decide +kernel⟩) rfl (Nat.le_of_ble_eq_true rfl) rfl rfl rfl ?_
  refine a_aload_n (q := 147) dX9_init_146 rfl rfl rfl ?_
  refine a_bipush (q := 149) (nI 12) dX9_init_147 (by decide) rfl ?_
  refine a_newaB (q := 151) (atype := .int) (ty := .int) (t0 := 0) (N := 12) (12, .inl (fun _ => nI 0)) dX9_init_149 tw140 rfl (fun _ h => nomatch h) rfl (fun _ => rfl) (by decide) (by decide) (Nat.le_of_ble_eq_true rfl) (Nat.le_of_ble_eq_true rfl) (Nat.le_of_ble_eq_true rfl) rfl ?_
  refine a_putB (q := 154) dX9_init_151 fX9_66 (fun _ => ⟨rfl, by decide +kernel⟩) rfl (Nat.le_of_ble_eq_true rfl) rfl rfl rfl ?_
  refine a_aload_n (q := 155) dX9_init_154 rfl rfl rfl ?_
  refine a_bipush (q := 157) (nI 12) dX9_init_155 (by decide) rfl ?_
  refine a_newaB (q := 159) (atype := .int) (ty := .int) (t0 := 0) (N := 12) (12, .inl (fun _ => nI 0)) dX9_init_157 tw140 rfl (fun _ h => nomatch h) rfl (fun _ => rfl) (by decide) (by decide) (Nat.le_of_ble_eq_true rfl) (Nat.le_of_ble_eq_true rfl) (Nat.le_of_ble_eq_true rfl) rfl ?_
  refine a_putB (q := 162) dX9_init_159 fX9_69 (fun _ => ⟨rfl, by decide +kernel⟩) rfl (Nat.le_of_ble_eq_true rfl) rfl rfl rfl ?_
  refine a_aload_n (q := 163) dX9_init_162 rfl rfl rfl ?_
  refine a_bipush (q := 165) (nI 12) dX9_init_163 (by decide) rfl ?_
  refine a_newaB (q := 167) (atype := .boolean) (ty := .boolean) (t0 := 1) (N := 12) (12, .inl (fun _ => b2 false)) dX9_init_165 tw216 rfl (fun _ h => nomatch h) rfl (fun _ => rfl) (by decide) (by decide) (Nat.le_of_ble_eq_true rfl) (Nat.le_of_ble_eq_true rfl) (Nat.le_of_ble_eq_true rfl) rfl ?_
  refine a_putB (q := 170) dX9_init_167 fX9_72 (fun _ => ⟨rfl, by decide +kernel⟩) rfl (Nat.le_of_ble_eq_true rfl) rfl rfl rfl ?_
  refine a_aload_n (q := 171) dX9_init_170 rfl rfl rfl ?_
  refine a_bipush (q := 173) (nI 48) dX9_init_171 (by decide) rfl ?_
  refine a_newaB (q := 175) (atype := .boolean) (ty := .boolean) (t0 := 1) (N := 48) (48, .inl (fun _ => b2 false)) dX9_init_173 tw216 rfl (fun _ h => nomatch h) rfl (fun _ => rfl) (by decide) (by decide) (Nat.le_of_ble_eq_true rfl) (Nat.le_of_ble_eq_true rfl) (Nat.le_of_ble_eq_true rfl) rfl ?_
  refine a_putB (q := 178) dX9_init_175 fX9_75 (fun _ => ⟨rfl, by decide +kernel⟩) rfl (Nat.le_of_ble_eq_true rfl) rfl rfl rfl ?_
  refine a_aload_n (q := 179) dX9_init_178 rfl rfl rfl ?_
  refine a_bipush (q := 181) (nI 24) dX9_init_179 (by decide) rfl ?_
  refine a_newaB (q := 183) (atype := .int) (ty := .int) (t0 := 0) (N := 24) (24, .inl (fun _ => nI 0)) dX9_init_181 tw140 rfl (fun _ h => nomatch h) rfl (fun _ => rfl) (by decide) (by decide) (Nat.le_of_ble_eq_true rfl) (Nat.le_of_ble_eq_true rfl) (Nat.le_of_ble_eq_true rfl) rfl ?_
  refine a_putB (q := 186) dX9_init_183 fX9_78 (fun _ => ⟨rfl, by decide +kernel⟩) rfl (Nat.le_of_ble_eq_true rfl) rfl rfl rfl ?_
  exact a_ret dX9_init_186 rfl (Nat.le_of_ble_eq_true rfl) (Nat.le_of_ble_eq_true rfl) (⟨rfl, rfl, rfl, rfl⟩)
end MCtor

