/-! ===== PathProfiler: analysis, queries, walks, counts, digest ===== -/
/-- what the class holds of an analysis of G: values and numbers of paths, order, tree -/
def vpC (G : Gr) (S : Se) (p0 : Nat → Int32) : VP := bld G S.1 S.2.1 S.2.2.1 p0
def mx (h : Int64) (x : Int32) : Int64 := 31 * h + x.toInt64
def mgF (G : Gr) : Nat → Nat → Int64 → Int64
  | 0, _, h => h
  | m + 1, k, h => mgF G m (k + 1) (mx (mx (mx h (nI (G.2.2.1 k))) (nI (G.2.2.2.1 k))) (nI (G.2.2.2.2 k)))
def mg (G : Gr) (h : Int64) : Int64 := mgF G G.2.1 0 (mx (mx h (nI G.1)) (nI G.2.1))
def mpF (p : Nat → Int32) : Nat → Nat → Int64 → Int64
  | 0, _, h => h
  | m + 1, k, h => mpF p m (k + 1) (mx h (p k))
def mlk (vl inc : Nat → Int32) (l : Nat) (h : Int64) : Int64 := mx (mx h (vl l)) (inc l)
def meF (bk : Nat → Bool) (vl inc : Nat → Int32) : Nat → Nat → Int64 → Int64
  | 0, _, h => h
  | m + 1, k, h => meF bk vl inc m (k + 1) (mlk vl inc (lko bk k true) (mlk vl inc (lko bk k false) (mx h (b2 (bk k)))))
def ma (G : Gr) (bk : Nat → Bool) (vl p inc : Nat → Int32) (cn cw : Nat) (h : Int64) : Int64 := mx (mx (meF bk vl inc G.2.1 0 (mpF p G.1 0 h)) (nI cn)) (nI cw)
def mtF (f : Nat → Nat) : Nat → Nat → Int64 → Int64
  | 0, _, h => h
  | m + 1, k, h => mtF f m (k + 1) (mx h (nI (f k)))
section Prof1
variable {g : gp_T} {B : List va_E} {G : Gr} {T : Tx} {R : Rd} {S : Se} {K : Lk} {E : Tr} {Q : Pa} {V : Wk} {an : Bool}
theorem c_analyse1 (hg : gok G) (h : (dfs G S).2.2.1 ≠ G.1) : Ct g mX8_analyse [.ref (g.1 + 0)] 0 (CA g G T R S K E Q V an) B 0 0 (rP (some (.int (nI 0))) (CA g G T R (dfs G S) K E Q noW false) B) noX := by
  have hl := dI_le (dfs_inv hg S).1
  have h2 := hg.2.1
  refine Ct.of [some (.ref (g.1 + 0))] (by decide) rfl (Nat.le_of_ble_eq_true rfl) rfl ?_
  refine a_aload_n (q := 1) dX8_analyse_0 rfl rfl rfl ?_
  refine a_cVA0 (q := 4) _ dX8_analyse_1 kX8_86 (c_discard) rfl rfl rfl (Nat.le_of_ble_eq_true rfl) ⟨(Nat.le_of_ble_eq_true rfl), (Nat.le_of_ble_eq_true rfl)⟩ ⟨(Nat.le_of_ble_eq_true rfl), (Nat.le_of_ble_eq_true rfl)⟩ rfl ?_
  refine a_aload_n (q := 5) dX8_analyse_4 rfl rfl rfl ?_
  refine a_getA (q := 8) dX8_analyse_5 fX8_35 rfl rfl rfl ?_
  refine a_cVA0 (q := 11) _ dX8_analyse_8 kX8_147 (c_run hg) rfl rfl rfl (Nat.le_of_ble_eq_true rfl) ⟨(Nat.le_of_ble_eq_true rfl), (Nat.le_of_ble_eq_true rfl)⟩ ⟨(Nat.le_of_ble_eq_true rfl), (Nat.le_of_ble_eq_true rfl)⟩ rfl ?_
  refine a_aload_n (q := 12) dX8_analyse_11 rfl rfl rfl ?_
  refine a_getA (q := 15) dX8_analyse_12 fX8_35 rfl rfl rfl ?_
  refine a_cVAv (q := 18) _ dX8_analyse_15 kX8_150 (c_allNodes hg (by omega)) rfl rfl rfl (Nat.le_of_ble_eq_true rfl) ⟨(Nat.le_of_ble_eq_true rfl), (Nat.le_of_ble_eq_true rfl)⟩ ⟨(Nat.le_of_ble_eq_true rfl), (Nat.le_of_ble_eq_true rfl)⟩ rfl ?_
  refine a_if_eqZ (q := 21) 31 dX8_analyse_18 (by decide) rfl (fun c18 => ?_) (fun c18 => ?_)
  · skip
    refine a_iconst (q := 32) (nI 0) dX8_analyse_31 (by decide) rfl ?_
    exact a_iret dX8_analyse_32 rfl rfl (Nat.le_of_ble_eq_true rfl) (Nat.le_of_ble_eq_true rfl) (⟨rfl, rfl, rfl, rfl⟩)
  · exact absurd (of_decide_eq_true c18) h
theorem c_analyse2 (hg : gok G) (h : (dfs G S).2.2.1 = G.1) (h3 : allB G.1 (ldE G) = false) : Ct g mX8_analyse [.ref (g.1 + 0)] 0 (CA g G T R S K E Q V an) B 0 0 (fun v z A' B' => v = some (.int (nI 0)) ∧ z = 0 ∧ B' = B ∧ ∃ f, A' = CA g G T R (ldS (dfs G S) f) K E Q noW false) noX := by
  have hl := dI_le (dfs_inv hg S).1
  have h2 := hg.2.1
  refine Ct.of [some (.ref (g.1 + 0))] (by decide) rfl (Nat.le_of_ble_eq_true rfl) rfl ?_
  refine a_aload_n (q := 1) dX8_analyse_0 rfl rfl rfl ?_
  refine a_cVA0 (q := 4) _ dX8_analyse_1 kX8_86 (c_discard) rfl rfl rfl (Nat.le_of_ble_eq_true rfl) ⟨(Nat.le_of_ble_eq_true rfl), (Nat.le_of_ble_eq_true rfl)⟩ ⟨(Nat.le_of_ble_eq_true rfl), (Nat.le_of_ble_eq_true rfl)⟩ rfl ?_
  refine a_aload_n (q := 5) dX8_analyse_4 rfl rfl rfl ?_
  refine a_getA (q := 8) dX8_analyse_5 fX8_35 rfl rfl rfl ?_
  refine a_cVA0 (q := 11) _ dX8_analyse_8 kX8_147 (c_run hg) rfl rfl rfl (Nat.le_of_ble_eq_true rfl) ⟨(Nat.le_of_ble_eq_true rfl), (Nat.le_of_ble_eq_true rfl)⟩ ⟨(Nat.le_of_ble_eq_true rfl), (Nat.le_of_ble_eq_true rfl)⟩ rfl ?_
  refine a_aload_n (q := 12) dX8_analyse_11 rfl rfl rfl ?_
  refine a_getA (q := 15) dX8_analyse_12 fX8_35 rfl rfl rfl ?_
  refine a_cVAv (q := 18) _ dX8_analyse_15 kX8_150 (c_allNodes hg (by omega)) rfl rfl rfl (Nat.le_of_ble_eq_true rfl) ⟨(Nat.le_of_ble_eq_true rfl), (Nat.le_of_ble_eq_true rfl)⟩ ⟨(Nat.le_of_ble_eq_true rfl), (Nat.le_of_ble_eq_true rfl)⟩ rfl ?_
  refine a_if_eqZ (q := 21) 31 dX8_analyse_18 (by decide) rfl (fun c18 => ?_) (fun c18 => ?_)
  · exact absurd h (of_decide_eq_false c18)
  · skip
    refine a_aload_n (q := 22) dX8_analyse_21 rfl rfl rfl ?_
    refine a_getA (q := 25) dX8_analyse_22 fX8_35 rfl rfl rfl ?_
    refine a_callVA (q := 28) _ dX8_analyse_25 kX8_153 (c_exitReached hg) rfl rfl rfl (Nat.le_of_ble_eq_true rfl) ⟨(Nat.le_of_ble_eq_true rfl), (Nat.le_of_ble_eq_true rfl)⟩ ⟨(Nat.le_of_ble_eq_true rfl), (Nat.le_of_ble_eq_true rfl)⟩ rfl (fun v9 z9 A9 B9 h9 => ?_) (fun E9 z9 A9 B9 h9 => h9.elim)
    obtain ⟨rfl, rfl, rfl, f, rfl⟩ := h9
    show AW _ _ _ _ _ _ _ _ _ _ (_ :: _) _ _ _
    refine a_if_neZ (q := 31) 33 dX8_analyse_28 (by decide) rfl (fun c28 => ?_) (fun c28 => ?_)
    · rw [h3] at c28; cases c28
    · skip
      refine a_iconst (q := 32) (nI 0) dX8_analyse_31 (by decide) rfl ?_
      exact a_iret dX8_analyse_32 rfl rfl (Nat.le_of_ble_eq_true rfl) (Nat.le_of_ble_eq_true rfl) (⟨rfl, rfl, rfl, f, rfl⟩)
theorem c_analyse3 (hg : gok G) (hw : ∀ i, i < 24 → G.2.2.2.2 i < big) (h : (dfs G S).2.2.1 = G.1) (h3 : allB G.1 (ldE G) = true) : Ct g mX8_analyse [.ref (g.1 + 0)] 0 (CA g G T R S K E Q V an) B 0 0 (fun v z A' B' => v = some (.int ((vpC G (dfs G S) K.2.2.2).2 0)) ∧ z = 0 ∧ B' = B ∧ ∃ f t0, pl0 G t0 ∧ A' = CA g G T R (ldS (dfs G S) f) (lsr G (dfs G S).1, ltg G (dfs G S).1, vpC G (dfs G S) K.2.2.2) (mkE (ciF G (vpC G (dfs G S) K.2.2.2).1 (trF G (vpC G (dfs G S) K.2.2.2).1 (ord G (dfs G S).1 E.2.2.2.1).1 (ord G (dfs G S).1 E.2.2.2.1).2 0 t0).2.2.2 (ord G (dfs G S).1 E.2.2.2.1).1 (ord G (dfs G S).1 E.2.2.2.1).2 0 E.1) (ord G (dfs G S).1 E.2.2.2.1) (trF G (vpC G (dfs G S) K.2.2.2).1 (ord G (dfs G S).1 E.2.2.2.1).1 (ord G (dfs G S).1 E.2.2.2.1).2 0 t0)) Q noW true) noX := by
  have hi := (dfs_inv hg S).1
  have hl := dI_le hi
  have h2 := hg.2.1
  refine Ct.of [some (.ref (g.1 + 0))] (by decide) rfl (Nat.le_of_ble_eq_true rfl) rfl ?_
  refine a_aload_n (q := 1) dX8_analyse_0 rfl rfl rfl ?_
  refine a_cVA0 (q := 4) _ dX8_analyse_1 kX8_86 (c_discard) rfl rfl rfl (Nat.le_of_ble_eq_true rfl) ⟨(Nat.le_of_ble_eq_true rfl), (Nat.le_of_ble_eq_true rfl)⟩ ⟨(Nat.le_of_ble_eq_true rfl), (Nat.le_of_ble_eq_true rfl)⟩ rfl ?_
  refine a_aload_n (q := 5) dX8_analyse_4 rfl rfl rfl ?_
  refine a_getA (q := 8) dX8_analyse_5 fX8_35 rfl rfl rfl ?_
  refine a_cVA0 (q := 11) _ dX8_analyse_8 kX8_147 (c_run hg) rfl rfl rfl (Nat.le_of_ble_eq_true rfl) ⟨(Nat.le_of_ble_eq_true rfl), (Nat.le_of_ble_eq_true rfl)⟩ ⟨(Nat.le_of_ble_eq_true rfl), (Nat.le_of_ble_eq_true rfl)⟩ rfl ?_
  refine a_aload_n (q := 12) dX8_analyse_11 rfl rfl rfl ?_
  refine a_getA (q := 15) dX8_analyse_12 fX8_35 rfl rfl rfl ?_
  refine a_cVAv (q := 18) _ dX8_analyse_15 kX8_150 (c_allNodes hg (by omega)) rfl rfl rfl (Nat.le_of_ble_eq_true rfl) ⟨(Nat.le_of_ble_eq_true rfl), (Nat.le_of_ble_eq_true rfl)⟩ ⟨(Nat.le_of_ble_eq_true rfl), (Nat.le_of_ble_eq_true rfl)⟩ rfl ?_
  refine a_if_eqZ (q := 21) 31 dX8_analyse_18 (by decide) rfl (fun c18 => ?_) (fun c18 => ?_)
  · exact absurd h (of_decide_eq_false c18)
  · skip
    refine a_aload_n (q := 22) dX8_analyse_21 rfl rfl rfl ?_
    refine a_getA (q := 25) dX8_analyse_22 fX8_35 rfl rfl rfl ?_
    refine a_callVA (q := 28) _ dX8_analyse_25 kX8_153 (c_exitReached hg) rfl rfl rfl (Nat.le_of_ble_eq_true rfl) ⟨(Nat.le_of_ble_eq_true rfl), (Nat.le_of_ble_eq_true rfl)⟩ ⟨(Nat.le_of_ble_eq_true rfl), (Nat.le_of_ble_eq_true rfl)⟩ rfl (fun v9 z9 A9 B9 h9 => ?_) (fun E9 z9 A9 B9 h9 => h9.elim)
    obtain ⟨rfl, rfl, rfl, f, rfl⟩ := h9
    show AW _ _ _ _ _ _ _ _ _ _ (_ :: _) _ _ _
    refine a_if_neZ (q := 31) 33 dX8_analyse_28 (by decide) rfl (fun c28 => ?_) (fun c28 => ?_)
    · skip
      refine a_aload_n (q := 34) dX8_analyse_33 rfl rfl rfl ?_
      refine a_getA (q := 37) dX8_analyse_34 fX8_44 rfl rfl rfl ?_
      refine a_cVA0 (q := 40) _ dX8_analyse_37 kX8_156 (c_build (S := ldS (dfs G S) f) hg (by show (dfs G S).2.2.1 ≤ 12; omega) (fun i hi9 => (hi.2.2.1 i hi9).1)) rfl rfl rfl (Nat.le_of_ble_eq_true rfl) ⟨(Nat.le_of_ble_eq_true rfl), (Nat.le_of_ble_eq_true rfl)⟩ ⟨(Nat.le_of_ble_eq_true rfl), (Nat.le_of_ble_eq_true rfl)⟩ rfl ?_
      refine a_aload_n (q := 41) dX8_analyse_40 rfl rfl rfl ?_
      refine a_getA (q := 44) dX8_analyse_41 fX8_53 rfl rfl rfl ?_
      refine a_callVA (q := 47) _ dX8_analyse_44 kX8_159 (c_tree (S := ldS (dfs G S) f) hg hw (vpC G (dfs G S) K.2.2.2).1 (vpC G (dfs G S) K.2.2.2).2) rfl rfl rfl (Nat.le_of_ble_eq_true rfl) ⟨(Nat.le_of_ble_eq_true rfl), (Nat.le_of_ble_eq_true rfl)⟩ ⟨(Nat.le_of_ble_eq_true rfl), (Nat.le_of_ble_eq_true rfl)⟩ rfl (fun v9 z9 A9 B9 h9 => ?_) (fun E9 z9 A9 B9 h9 => h9.elim)
      obtain ⟨rfl, rfl, rfl, t0, ht0, rfl⟩ := h9
      show AW _ _ _ _ _ _ _ _ _ _ [] _ _ _
      refine a_aload_n (q := 48) dX8_analyse_47 rfl rfl rfl ?_
      refine a_iconst (q := 49) (b2 true) dX8_analyse_48 (by decide) rfl ?_
      refine a_putA (q := 52) dX8_analyse_49 fX8_71 (fun h => nomatch h) rfl (Nat.le_of_ble_eq_true rfl) (b2_narrow _) rfl rfl ?_
      refine a_aload_n (q := 53) dX8_analyse_52 rfl rfl rfl ?_
      refine a_getA (q := 56) dX8_analyse_53 fX8_44 rfl rfl rfl ?_
      refine a_cVAv (q := 59) _ dX8_analyse_56 kX8_160 (c_allPaths (K := (lsr G (dfs G S).1, ltg G (dfs G S).1, vpC G (dfs G S) K.2.2.2)) (an := true)) rfl rfl rfl (Nat.le_of_ble_eq_true rfl) ⟨(Nat.le_of_ble_eq_true rfl), (Nat.le_of_ble_eq_true rfl)⟩ ⟨(Nat.le_of_ble_eq_true rfl), (Nat.le_of_ble_eq_true rfl)⟩ rfl ?_
      exact a_iret dX8_analyse_59 rfl rfl (Nat.le_of_ble_eq_true rfl) (Nat.le_of_ble_eq_true rfl) (⟨rfl, rfl, rfl, f, t0, ht0, rfl⟩)
    · rw [h3] at c28; cases c28
theorem c_pathsFrom (k : Nat) (ha : an = true) (hn : G.1 ≤ 12) (hk : k < G.1) : Ct g mX8_pathsFrom [.ref (g.1 + 0), .int (nI k)] 0 (CA g G T R S K E Q V an) B 0 0 (rP (some (.int (K.2.2.2 k))) (CA g G T R S K E Q V an) B) noX := by
  have hi : inR (nI k) G.1 = true := by rw [inR_nI (by unfold big; omega) (by unfold big; omega)]; exact decide_eq_true hk
  refine Ct.of [some (.ref (g.1 + 0)), some (.int (nI k))] (by decide) rfl (Nat.le_of_ble_eq_true rfl) rfl ?_
  refine a_aload_n (q := 1) dX8_pathsFrom_0 rfl rfl rfl ?_
  refine a_cVA0 (q := 4) _ dX8_pathsFrom_1 kX8_164 (c_reqA ha) rfl rfl rfl (Nat.le_of_ble_eq_true rfl) ⟨(Nat.le_of_ble_eq_true rfl), (Nat.le_of_ble_eq_true rfl)⟩ ⟨(Nat.le_of_ble_eq_true rfl), (Nat.le_of_ble_eq_true rfl)⟩ rfl ?_
  refine a_aload_n (q := 5) dX8_pathsFrom_4 rfl rfl rfl ?_
  refine a_getA (q := 8) dX8_pathsFrom_5 fX8_12 rfl rfl rfl ?_
  refine a_iload_n (q := 9) dX8_pathsFrom_8 rfl rfl rfl ?_
  refine a_cVAv (q := 12) _ dX8_pathsFrom_9 kX8_167 (c_hasNode (G := G) _ rfl) rfl rfl rfl (Nat.le_of_ble_eq_true rfl) ⟨(Nat.le_of_ble_eq_true rfl), (Nat.le_of_ble_eq_true rfl)⟩ ⟨(Nat.le_of_ble_eq_true rfl), (Nat.le_of_ble_eq_true rfl)⟩ rfl ?_
  refine a_if_neZ (q := 15) 25 dX8_pathsFrom_12 (by decide) rfl (fun c12 => ?_) (fun c12 => ?_)
  · skip
    refine a_aload_n (q := 26) dX8_pathsFrom_25 rfl rfl rfl ?_
    refine a_getA (q := 29) dX8_pathsFrom_26 fX8_44 rfl rfl rfl ?_
    refine a_getA (q := 32) dX8_pathsFrom_29 fX8_176 rfl rfl rfl ?_
    refine a_iload_n (q := 33) dX8_pathsFrom_32 rfl rfl rfl ?_
    refine a_ialdAI (q := 34) dX8_pathsFrom_33 rfl (by omega) (by decide) rfl ?_
    exact a_iret dX8_pathsFrom_34 rfl rfl (Nat.le_of_ble_eq_true rfl) (Nat.le_of_ble_eq_true rfl) (⟨rfl, rfl, rfl, rfl⟩)
  · rw [hi] at c12; cases c12
theorem x_pathsFrom1 (x : Int32) (ha : an = false) : Ct g mX8_pathsFrom [.ref (g.1 + 0), .int x] 0 (CA g G T R S K E Q V an) B 1 6 noP (tX xIS (CA g G T R S K E Q V an) B) := by
  refine Ct.of [some (.ref (g.1 + 0)), some (.int x)] (by decide) rfl (Nat.le_of_ble_eq_true rfl) rfl ?_
  refine a_aload_n (q := 1) dX8_pathsFrom_0 rfl rfl rfl ?_
  exact a_xVA _ dX8_pathsFrom_1 kX8_164 (x_reqA ha) rfl rfl rfl (Nat.le_of_ble_eq_true rfl) ⟨(Nat.le_of_ble_eq_true rfl), (Nat.le_of_ble_eq_true rfl)⟩ ⟨(Nat.le_of_ble_eq_true rfl), (Nat.le_of_ble_eq_true rfl)⟩ (ax_out rfl (Nat.le_of_ble_eq_true rfl) (Nat.le_of_ble_eq_true rfl) ⟨rfl, rfl, rfl, rfl⟩)
theorem x_pathsFrom2 (x : Int32) (ha : an = true) (hi : inR x G.1 = false) : Ct g mX8_pathsFrom [.ref (g.1 + 0), .int x] 0 (CA g G T R S K E Q V an) B 1 6 noP (tX xIB (CA g G T R S K E Q V an) B) := by
  refine Ct.of [some (.ref (g.1 + 0)), some (.int x)] (by decide) rfl (Nat.le_of_ble_eq_true rfl) rfl ?_
  refine a_aload_n (q := 1) dX8_pathsFrom_0 rfl rfl rfl ?_
  refine a_cVA0 (q := 4) _ dX8_pathsFrom_1 kX8_164 (c_reqA ha) rfl rfl rfl (Nat.le_of_ble_eq_true rfl) ⟨(Nat.le_of_ble_eq_true rfl), (Nat.le_of_ble_eq_true rfl)⟩ ⟨(Nat.le_of_ble_eq_true rfl), (Nat.le_of_ble_eq_true rfl)⟩ rfl ?_
  refine a_aload_n (q := 5) dX8_pathsFrom_4 rfl rfl rfl ?_
  refine a_getA (q := 8) dX8_pathsFrom_5 fX8_12 rfl rfl rfl ?_
  refine a_iload_n (q := 9) dX8_pathsFrom_8 rfl rfl rfl ?_
  refine a_cVAv (q := 12) _ dX8_pathsFrom_9 kX8_167 (c_hasNode (G := G) _ rfl) rfl rfl rfl (Nat.le_of_ble_eq_true rfl) ⟨(Nat.le_of_ble_eq_true rfl), (Nat.le_of_ble_eq_true rfl)⟩ ⟨(Nat.le_of_ble_eq_true rfl), (Nat.le_of_ble_eq_true rfl)⟩ rfl ?_
  refine a_if_neZ (q := 15) 25 dX8_pathsFrom_12 (by decide) rfl (fun c12 => ?_) (fun c12 => ?_)
  · rw [hi] at c12; cases c12
  · skip
    exact a_throw dX8_pathsFrom_15 dX8_pathsFrom_18 dX8_pathsFrom_19 dX8_pathsFrom_21 dX8_pathsFrom_24 tX8_173 rfl ⟨(Nat.le_of_ble_eq_true rfl), (Nat.le_of_ble_eq_true rfl)⟩ ⟨(Nat.le_of_ble_eq_true rfl), (Nat.le_of_ble_eq_true rfl)⟩ (⟨rfl, rfl, rfl, rfl⟩)
theorem inE {k : Nat} (he : G.2.1 ≤ 24) (hk : k < G.2.1) : inR (nI k) G.2.1 = true := by rw [inR_nI (by unfold big; omega) (by unfold big; omega)]; exact decide_eq_true hk
theorem c_isBack (k : Nat) (ha : an = true) (he : G.2.1 ≤ 24) (hk : k < G.2.1) : Ct g mX8_isBack [.ref (g.1 + 0), .int (nI k)] 0 (CA g G T R S K E Q V an) B 0 0 (rP (some (.int (b2 (S.1 k)))) (CA g G T R S K E Q V an) B) noX := by
  refine Ct.of [some (.ref (g.1 + 0)), some (.int (nI k))] (by decide) rfl (Nat.le_of_ble_eq_true rfl) rfl ?_
  refine a_aload_n (q := 1) dX8_isBack_0 rfl rfl rfl ?_
  refine a_cVA0 (q := 4) _ dX8_isBack_1 kX8_164 (c_reqA ha) rfl rfl rfl (Nat.le_of_ble_eq_true rfl) ⟨(Nat.le_of_ble_eq_true rfl), (Nat.le_of_ble_eq_true rfl)⟩ ⟨(Nat.le_of_ble_eq_true rfl), (Nat.le_of_ble_eq_true rfl)⟩ rfl ?_
  refine a_aload_n (q := 5) dX8_isBack_4 rfl rfl rfl ?_
  refine a_iload_n (q := 6) dX8_isBack_5 rfl rfl rfl ?_
  refine a_cVA0 (q := 9) _ dX8_isBack_6 kX8_108 (c_reqE _ (inE he hk)) rfl rfl rfl (Nat.le_of_ble_eq_true rfl) ⟨(Nat.le_of_ble_eq_true rfl), (Nat.le_of_ble_eq_true rfl)⟩ ⟨(Nat.le_of_ble_eq_true rfl), (Nat.le_of_ble_eq_true rfl)⟩ rfl ?_
  refine a_aload_n (q := 10) dX8_isBack_9 rfl rfl rfl ?_
  refine a_getA (q := 13) dX8_isBack_10 fX8_35 rfl rfl rfl ?_
  refine a_getA (q := 16) dX8_isBack_13 fX8_179 rfl rfl rfl ?_
  refine a_iload_n (q := 17) dX8_isBack_16 rfl rfl rfl ?_
  refine a_zaldAN (q := 18) dX8_isBack_17 rfl (by omega) (by decide) rfl ?_
  exact a_iret dX8_isBack_18 rfl (b2_narrow _) (Nat.le_of_ble_eq_true rfl) (Nat.le_of_ble_eq_true rfl) (⟨rfl, rfl, rfl, rfl⟩)
theorem x_isBack1 (x : Int32) (ha : an = false) : Ct g mX8_isBack [.ref (g.1 + 0), .int x] 0 (CA g G T R S K E Q V an) B 1 6 noP (tX xIS (CA g G T R S K E Q V an) B) := by
  refine Ct.of [some (.ref (g.1 + 0)), some (.int x)] (by decide) rfl (Nat.le_of_ble_eq_true rfl) rfl ?_
  refine a_aload_n (q := 1) dX8_isBack_0 rfl rfl rfl ?_
  exact a_xVA _ dX8_isBack_1 kX8_164 (x_reqA ha) rfl rfl rfl (Nat.le_of_ble_eq_true rfl) ⟨(Nat.le_of_ble_eq_true rfl), (Nat.le_of_ble_eq_true rfl)⟩ ⟨(Nat.le_of_ble_eq_true rfl), (Nat.le_of_ble_eq_true rfl)⟩ (ax_out rfl (Nat.le_of_ble_eq_true rfl) (Nat.le_of_ble_eq_true rfl) ⟨rfl, rfl, rfl, rfl⟩)
theorem x_isBack2 (x : Int32) (ha : an = true) (hi : inR x G.2.1 = false) : Ct g mX8_isBack [.ref (g.1 + 0), .int x] 0 (CA g G T R S K E Q V an) B 1 6 noP (tX xIB (CA g G T R S K E Q V an) B) := by
  refine Ct.of [some (.ref (g.1 + 0)), some (.int x)] (by decide) rfl (Nat.le_of_ble_eq_true rfl) rfl ?_
  refine a_aload_n (q := 1) dX8_isBack_0 rfl rfl rfl ?_
  refine a_cVA0 (q := 4) _ dX8_isBack_1 kX8_164 (c_reqA ha) rfl rfl rfl (Nat.le_of_ble_eq_true rfl) ⟨(Nat.le_of_ble_eq_true rfl), (Nat.le_of_ble_eq_true rfl)⟩ ⟨(Nat.le_of_ble_eq_true rfl), (Nat.le_of_ble_eq_true rfl)⟩ rfl ?_
  refine a_aload_n (q := 5) dX8_isBack_4 rfl rfl rfl ?_
  refine a_iload_n (q := 6) dX8_isBack_5 rfl rfl rfl ?_
  exact a_xVA _ dX8_isBack_6 kX8_108 (x_reqE x hi) rfl rfl rfl (Nat.le_of_ble_eq_true rfl) ⟨(Nat.le_of_ble_eq_true rfl), (Nat.le_of_ble_eq_true rfl)⟩ ⟨(Nat.le_of_ble_eq_true rfl), (Nat.le_of_ble_eq_true rfl)⟩ (ax_out rfl (Nat.le_of_ble_eq_true rfl) (Nat.le_of_ble_eq_true rfl) ⟨rfl, rfl, rfl, rfl⟩)
theorem lko_lt {bk : Nat → Bool} {k : Nat} {b : Bool} (hk : k < 24) : lko bk k b < 72 := by
  unfold lko
  split
  · split <;> omega
  · omega
theorem c_value (k : Nat) (b : Bool) (ha : an = true) (he : G.2.1 ≤ 24) (hk : k < G.2.1) : Ct g mX8_value [.ref (g.1 + 0), .int (nI k), .int (b2 b)] 0 (CA g G T R S K E Q V an) B 0 0 (rP (some (.int (K.2.2.1 (lko S.1 k b)))) (CA g G T R S K E Q V an) B) noX := by
  have hl := lko_lt (bk := S.1) (b := b) (show k < 24 by omega)
  refine Ct.of [some (.ref (g.1 + 0)), some (.int (nI k)), some (.int (b2 b))] (by decide) rfl (Nat.le_of_ble_eq_true rfl) rfl ?_
  refine a_aload_n (q := 1) dX8_value_0 rfl rfl rfl ?_
  refine a_cVA0 (q := 4) _ dX8_value_1 kX8_164 (c_reqA ha) rfl rfl rfl (Nat.le_of_ble_eq_true rfl) ⟨(Nat.le_of_ble_eq_true rfl), (Nat.le_of_ble_eq_true rfl)⟩ ⟨(Nat.le_of_ble_eq_true rfl), (Nat.le_of_ble_eq_true rfl)⟩ rfl ?_
  refine a_aload_n (q := 5) dX8_value_4 rfl rfl rfl ?_
  refine a_iload_n (q := 6) dX8_value_5 rfl rfl rfl ?_
  refine a_cVA0 (q := 9) _ dX8_value_6 kX8_108 (c_reqE _ (inE he hk)) rfl rfl rfl (Nat.le_of_ble_eq_true rfl) ⟨(Nat.le_of_ble_eq_true rfl), (Nat.le_of_ble_eq_true rfl)⟩ ⟨(Nat.le_of_ble_eq_true rfl), (Nat.le_of_ble_eq_true rfl)⟩ rfl ?_
  refine a_aload_n (q := 10) dX8_value_9 rfl rfl rfl ?_
  refine a_getA (q := 13) dX8_value_10 fX8_44 rfl rfl rfl ?_
  refine a_getA (q := 16) dX8_value_13 fX8_183 rfl rfl rfl ?_
  refine a_aload_n (q := 17) dX8_value_16 rfl rfl rfl ?_
  refine a_getA (q := 20) dX8_value_17 fX8_44 rfl rfl rfl ?_
  refine a_iload_n (q := 21) dX8_value_20 rfl rfl rfl ?_
  refine a_iload_n (q := 22) dX8_value_21 rfl rfl rfl ?_
  refine a_cVAv (q := 25) _ dX8_value_22 kX8_186 (c_linkOf k b (by omega)) rfl rfl rfl (Nat.le_of_ble_eq_true rfl) ⟨(Nat.le_of_ble_eq_true rfl), (Nat.le_of_ble_eq_true rfl)⟩ ⟨(Nat.le_of_ble_eq_true rfl), (Nat.le_of_ble_eq_true rfl)⟩ rfl ?_
  refine a_ialdAI (q := 26) dX8_value_25 rfl (by omega) (by decide) rfl ?_
  exact a_iret dX8_value_26 rfl rfl (Nat.le_of_ble_eq_true rfl) (Nat.le_of_ble_eq_true rfl) (⟨rfl, rfl, rfl, rfl⟩)
theorem x_value1 (x : Int32) (b : Bool) (ha : an = false) : Ct g mX8_value [.ref (g.1 + 0), .int x, .int (b2 b)] 0 (CA g G T R S K E Q V an) B 1 6 noP (tX xIS (CA g G T R S K E Q V an) B) := by
  refine Ct.of [some (.ref (g.1 + 0)), some (.int x), some (.int (b2 b))] (by decide) rfl (Nat.le_of_ble_eq_true rfl) rfl ?_
  refine a_aload_n (q := 1) dX8_value_0 rfl rfl rfl ?_
  exact a_xVA _ dX8_value_1 kX8_164 (x_reqA ha) rfl rfl rfl (Nat.le_of_ble_eq_true rfl) ⟨(Nat.le_of_ble_eq_true rfl), (Nat.le_of_ble_eq_true rfl)⟩ ⟨(Nat.le_of_ble_eq_true rfl), (Nat.le_of_ble_eq_true rfl)⟩ (ax_out rfl (Nat.le_of_ble_eq_true rfl) (Nat.le_of_ble_eq_true rfl) ⟨rfl, rfl, rfl, rfl⟩)
theorem x_value2 (x : Int32) (b : Bool) (ha : an = true) (hi : inR x G.2.1 = false) : Ct g mX8_value [.ref (g.1 + 0), .int x, .int (b2 b)] 0 (CA g G T R S K E Q V an) B 1 6 noP (tX xIB (CA g G T R S K E Q V an) B) := by
  refine Ct.of [some (.ref (g.1 + 0)), some (.int x), some (.int (b2 b))] (by decide) rfl (Nat.le_of_ble_eq_true rfl) rfl ?_
  refine a_aload_n (q := 1) dX8_value_0 rfl rfl rfl ?_
  refine a_cVA0 (q := 4) _ dX8_value_1 kX8_164 (c_reqA ha) rfl rfl rfl (Nat.le_of_ble_eq_true rfl) ⟨(Nat.le_of_ble_eq_true rfl), (Nat.le_of_ble_eq_true rfl)⟩ ⟨(Nat.le_of_ble_eq_true rfl), (Nat.le_of_ble_eq_true rfl)⟩ rfl ?_
  refine a_aload_n (q := 5) dX8_value_4 rfl rfl rfl ?_
  refine a_iload_n (q := 6) dX8_value_5 rfl rfl rfl ?_
  exact a_xVA _ dX8_value_6 kX8_108 (x_reqE x hi) rfl rfl rfl (Nat.le_of_ble_eq_true rfl) ⟨(Nat.le_of_ble_eq_true rfl), (Nat.le_of_ble_eq_true rfl)⟩ ⟨(Nat.le_of_ble_eq_true rfl), (Nat.le_of_ble_eq_true rfl)⟩ (ax_out rfl (Nat.le_of_ble_eq_true rfl) (Nat.le_of_ble_eq_true rfl) ⟨rfl, rfl, rfl, rfl⟩)
theorem c_increment (k : Nat) (b : Bool) (ha : an = true) (he : G.2.1 ≤ 24) (hk : k < G.2.1) : Ct g mX8_increment [.ref (g.1 + 0), .int (nI k), .int (b2 b)] 0 (CA g G T R S K E Q V an) B 0 0 (rP (some (.int (E.1 (lko S.1 k b)))) (CA g G T R S K E Q V an) B) noX := by
  have hl := lko_lt (bk := S.1) (b := b) (show k < 24 by omega)
  refine Ct.of [some (.ref (g.1 + 0)), some (.int (nI k)), some (.int (b2 b))] (by decide) rfl (Nat.le_of_ble_eq_true rfl) rfl ?_
  refine a_aload_n (q := 1) dX8_increment_0 rfl rfl rfl ?_
  refine a_cVA0 (q := 4) _ dX8_increment_1 kX8_164 (c_reqA ha) rfl rfl rfl (Nat.le_of_ble_eq_true rfl) ⟨(Nat.le_of_ble_eq_true rfl), (Nat.le_of_ble_eq_true rfl)⟩ ⟨(Nat.le_of_ble_eq_true rfl), (Nat.le_of_ble_eq_true rfl)⟩ rfl ?_
  refine a_aload_n (q := 5) dX8_increment_4 rfl rfl rfl ?_
  refine a_iload_n (q := 6) dX8_increment_5 rfl rfl rfl ?_
  refine a_cVA0 (q := 9) _ dX8_increment_6 kX8_108 (c_reqE _ (inE he hk)) rfl rfl rfl (Nat.le_of_ble_eq_true rfl) ⟨(Nat.le_of_ble_eq_true rfl), (Nat.le_of_ble_eq_true rfl)⟩ ⟨(Nat.le_of_ble_eq_true rfl), (Nat.le_of_ble_eq_true rfl)⟩ rfl ?_
  refine a_aload_n (q := 10) dX8_increment_9 rfl rfl rfl ?_
  refine a_getA (q := 13) dX8_increment_10 fX8_53 rfl rfl rfl ?_
  refine a_getA (q := 16) dX8_increment_13 fX8_190 rfl rfl rfl ?_
  refine a_aload_n (q := 17) dX8_increment_16 rfl rfl rfl ?_
  refine a_getA (q := 20) dX8_increment_17 fX8_44 rfl rfl rfl ?_
  refine a_iload_n (q := 21) dX8_increment_20 rfl rfl rfl ?_
  refine a_iload_n (q := 22) dX8_increment_21 rfl rfl rfl ?_
  refine a_cVAv (q := 25) _ dX8_increment_22 kX8_186 (c_linkOf k b (by omega)) rfl rfl rfl (Nat.le_of_ble_eq_true rfl) ⟨(Nat.le_of_ble_eq_true rfl), (Nat.le_of_ble_eq_true rfl)⟩ ⟨(Nat.le_of_ble_eq_true rfl), (Nat.le_of_ble_eq_true rfl)⟩ rfl ?_
  refine a_ialdAI (q := 26) dX8_increment_25 rfl (by omega) (by decide) rfl ?_
  exact a_iret dX8_increment_26 rfl rfl (Nat.le_of_ble_eq_true rfl) (Nat.le_of_ble_eq_true rfl) (⟨rfl, rfl, rfl, rfl⟩)
theorem x_increment1 (x : Int32) (b : Bool) (ha : an = false) : Ct g mX8_increment [.ref (g.1 + 0), .int x, .int (b2 b)] 0 (CA g G T R S K E Q V an) B 1 6 noP (tX xIS (CA g G T R S K E Q V an) B) := by
  refine Ct.of [some (.ref (g.1 + 0)), some (.int x), some (.int (b2 b))] (by decide) rfl (Nat.le_of_ble_eq_true rfl) rfl ?_
  refine a_aload_n (q := 1) dX8_increment_0 rfl rfl rfl ?_
  exact a_xVA _ dX8_increment_1 kX8_164 (x_reqA ha) rfl rfl rfl (Nat.le_of_ble_eq_true rfl) ⟨(Nat.le_of_ble_eq_true rfl), (Nat.le_of_ble_eq_true rfl)⟩ ⟨(Nat.le_of_ble_eq_true rfl), (Nat.le_of_ble_eq_true rfl)⟩ (ax_out rfl (Nat.le_of_ble_eq_true rfl) (Nat.le_of_ble_eq_true rfl) ⟨rfl, rfl, rfl, rfl⟩)
theorem x_increment2 (x : Int32) (b : Bool) (ha : an = true) (hi : inR x G.2.1 = false) : Ct g mX8_increment [.ref (g.1 + 0), .int x, .int (b2 b)] 0 (CA g G T R S K E Q V an) B 1 6 noP (tX xIB (CA g G T R S K E Q V an) B) := by
  refine Ct.of [some (.ref (g.1 + 0)), some (.int x), some (.int (b2 b))] (by decide) rfl (Nat.le_of_ble_eq_true rfl) rfl ?_
  refine a_aload_n (q := 1) dX8_increment_0 rfl rfl rfl ?_
  refine a_cVA0 (q := 4) _ dX8_increment_1 kX8_164 (c_reqA ha) rfl rfl rfl (Nat.le_of_ble_eq_true rfl) ⟨(Nat.le_of_ble_eq_true rfl), (Nat.le_of_ble_eq_true rfl)⟩ ⟨(Nat.le_of_ble_eq_true rfl), (Nat.le_of_ble_eq_true rfl)⟩ rfl ?_
  refine a_aload_n (q := 5) dX8_increment_4 rfl rfl rfl ?_
  refine a_iload_n (q := 6) dX8_increment_5 rfl rfl rfl ?_
  exact a_xVA _ dX8_increment_6 kX8_108 (x_reqE x hi) rfl rfl rfl (Nat.le_of_ble_eq_true rfl) ⟨(Nat.le_of_ble_eq_true rfl), (Nat.le_of_ble_eq_true rfl)⟩ ⟨(Nat.le_of_ble_eq_true rfl), (Nat.le_of_ble_eq_true rfl)⟩ (ax_out rfl (Nat.le_of_ble_eq_true rfl) (Nat.le_of_ble_eq_true rfl) ⟨rfl, rfl, rfl, rfl⟩)
theorem c_chords (b : Bool) (ha : an = true) : Ct g mX8_chords [.ref (g.1 + 0), .int (b2 b)] 0 (CA g G T R S K E Q V an) B 0 0 (rP (some (.int (nI (if b = true then E.2.2.1 else E.2.1)))) (CA g G T R S K E Q V an) B) noX := by
  refine Ct.of [some (.ref (g.1 + 0)), some (.int (b2 b))] (by decide) rfl (Nat.le_of_ble_eq_true rfl) rfl ?_
  refine a_aload_n (q := 1) dX8_chords_0 rfl rfl rfl ?_
  refine a_cVA0 (q := 4) _ dX8_chords_1 kX8_164 (c_reqA ha) rfl rfl rfl (Nat.le_of_ble_eq_true rfl) ⟨(Nat.le_of_ble_eq_true rfl), (Nat.le_of_ble_eq_true rfl)⟩ ⟨(Nat.le_of_ble_eq_true rfl), (Nat.le_of_ble_eq_true rfl)⟩ rfl ?_
  refine a_iload_n (q := 5) dX8_chords_4 rfl rfl rfl ?_
  refine a_if_eqZ (q := 8) 18 dX8_chords_5 (by decide) rfl (fun c5 => ?_) (fun c5 => ?_)
  · skip
    refine a_aload_n (q := 19) dX8_chords_18 rfl rfl rfl ?_
    refine a_getA (q := 22) dX8_chords_19 fX8_53 rfl rfl rfl ?_
    refine a_getA (q := 25) dX8_chords_22 fX8_196 rfl rfl rfl ?_
    exact a_iret dX8_chords_25 rfl rfl (Nat.le_of_ble_eq_true rfl) (Nat.le_of_ble_eq_true rfl) (⟨by first | rw [if_neg (by rw [c5]; decide)] | rw [if_pos c5], rfl, rfl, rfl⟩)
  · skip
    refine a_aload_n (q := 9) dX8_chords_8 rfl rfl rfl ?_
    refine a_getA (q := 12) dX8_chords_9 fX8_53 rfl rfl rfl ?_
    refine a_getA (q := 15) dX8_chords_12 fX8_193 rfl rfl rfl ?_
    refine a_goto 25 dX8_chords_15 (by decide) ?_
    exact a_iret dX8_chords_25 rfl rfl (Nat.le_of_ble_eq_true rfl) (Nat.le_of_ble_eq_true rfl) (⟨by first | rw [if_neg (by rw [c5]; decide)] | rw [if_pos c5], rfl, rfl, rfl⟩)
theorem x_chords (b : Bool) (ha : an = false) : Ct g mX8_chords [.ref (g.1 + 0), .int (b2 b)] 0 (CA g G T R S K E Q V an) B 1 6 noP (tX xIS (CA g G T R S K E Q V an) B) := by
  refine Ct.of [some (.ref (g.1 + 0)), some (.int (b2 b))] (by decide) rfl (Nat.le_of_ble_eq_true rfl) rfl ?_
  refine a_aload_n (q := 1) dX8_chords_0 rfl rfl rfl ?_
  exact a_xVA _ dX8_chords_1 kX8_164 (x_reqA ha) rfl rfl rfl (Nat.le_of_ble_eq_true rfl) ⟨(Nat.le_of_ble_eq_true rfl), (Nat.le_of_ble_eq_true rfl)⟩ ⟨(Nat.le_of_ble_eq_true rfl), (Nat.le_of_ble_eq_true rfl)⟩ (ax_out rfl (Nat.le_of_ble_eq_true rfl) (Nat.le_of_ble_eq_true rfl) ⟨rfl, rfl, rfl, rfl⟩)
end Prof1
section Prof2
variable {g : gp_T} {B : List va_E} {G : Gr} {T : Tx} {R : Rd} {S : Se} {vl pt : Nat → Int32} {K : Lk} {E : Tr} {Q : Pa} {V : Wk} {an : Bool}
/-- the traced path is sound: some links, each below 72 -/
def tok (q : Pa) : Prop := q.2 ≤ 12 ∧ ∀ i, i < q.2 → q.1 i < 72
theorem tcF_ok {G : Gr} {K : Lk} : ∀ (m v : Nat) (r : Int32) (q : Pa), q.2 + m ≤ 12 → (∀ i, i < q.2 → q.1 i < 72) → tok (tcF G K m v r q) := by
  intro m
  induction m with
  | zero => intro v r q h1 h2; exact ⟨by show q.2 ≤ 12; omega, h2⟩
  | succ m ih =>
    intro v r q h1 h2
    unfold tcF
    split
    · exact ⟨by omega, h2⟩
    · split
      · exact ⟨by omega, h2⟩
      · rename_i hno
        refine ih _ _ _ (by show q.2 + 1 + m ≤ 12; omega) (fun i hi => ?_)
        have hi' : i < q.2 + 1 := hi
        rcases own_or (K := K) (v := v) (r := r) with ho | ⟨l, hl, ho, -⟩
        · exact absurd ho hno
        · show va_up q.1 q.2 (own K v r).toNatClampNeg i < 72
          by_cases e : i = q.2
          · rw [e, va_same, ho, nI_clamp (by omega)]; exact hl
          · rw [va_other e]; exact h2 i (by omega)
theorem trc_ok {G : Gr} {K : Lk} {p : Int32} {q : Pa} : tok (trc G K p q) := tcF_ok 12 0 p (q.1, 0) (by show 0 + 12 ≤ 12; omega) (fun i hi => absurd hi (Nat.not_lt_zero i))
abbrev kT (G : Gr) (S : Se) (vl pt : Nat → Int32) : Lk := (lsr G S.1, ltg G S.1, vl, pt)
theorem c_pathLength (x : Int32) (hg : gok G) (ha : an = true) (h : ptk x (pt 0) = true) : Ct g mX8_pathLength [.ref (g.1 + 0), .int x] 0 (CA g G T R S (kT G S vl pt) E Q V an) B 0 0 (rP (some (.int (nnR (trc G (kT G S vl pt) x Q)))) (CA g G T R S (kT G S vl pt) E (trc G (kT G S vl pt) x Q) V an) B) noX := by
  refine Ct.of [some (.ref (g.1 + 0)), some (.int x)] (by decide) rfl (Nat.le_of_ble_eq_true rfl) rfl ?_
  refine a_aload_n (q := 1) dX8_pathLength_0 rfl rfl rfl ?_
  refine a_cVA0 (q := 4) _ dX8_pathLength_1 kX8_164 (c_reqA ha) rfl rfl rfl (Nat.le_of_ble_eq_true rfl) ⟨(Nat.le_of_ble_eq_true rfl), (Nat.le_of_ble_eq_true rfl)⟩ ⟨(Nat.le_of_ble_eq_true rfl), (Nat.le_of_ble_eq_true rfl)⟩ rfl ?_
  refine a_aload_n (q := 5) dX8_pathLength_4 rfl rfl rfl ?_
  refine a_iload_n (q := 6) dX8_pathLength_5 rfl rfl rfl ?_
  refine a_cVA0 (q := 9) _ dX8_pathLength_6 kX8_199 (c_reqP x h) rfl rfl rfl (Nat.le_of_ble_eq_true rfl) ⟨(Nat.le_of_ble_eq_true rfl), (Nat.le_of_ble_eq_true rfl)⟩ ⟨(Nat.le_of_ble_eq_true rfl), (Nat.le_of_ble_eq_true rfl)⟩ rfl ?_
  refine a_aload_n (q := 10) dX8_pathLength_9 rfl rfl rfl ?_
  refine a_getA (q := 13) dX8_pathLength_10 fX8_60 rfl rfl rfl ?_
  refine a_iload_n (q := 14) dX8_pathLength_13 rfl rfl rfl ?_
  refine a_cVA0 (q := 17) _ dX8_pathLength_14 kX8_202 (c_trace hg vl pt x) rfl rfl rfl (Nat.le_of_ble_eq_true rfl) ⟨(Nat.le_of_ble_eq_true rfl), (Nat.le_of_ble_eq_true rfl)⟩ ⟨(Nat.le_of_ble_eq_true rfl), (Nat.le_of_ble_eq_true rfl)⟩ rfl ?_
  refine a_aload_n (q := 18) dX8_pathLength_17 rfl rfl rfl ?_
  refine a_getA (q := 21) dX8_pathLength_18 fX8_60 rfl rfl rfl ?_
  refine a_cVAv (q := 24) _ dX8_pathLength_21 kX8_205 (c_nodeNumber trc_ok.1 trc_ok.2) rfl rfl rfl (Nat.le_of_ble_eq_true rfl) ⟨(Nat.le_of_ble_eq_true rfl), (Nat.le_of_ble_eq_true rfl)⟩ ⟨(Nat.le_of_ble_eq_true rfl), (Nat.le_of_ble_eq_true rfl)⟩ rfl ?_
  exact a_iret dX8_pathLength_24 rfl rfl (Nat.le_of_ble_eq_true rfl) (Nat.le_of_ble_eq_true rfl) (⟨rfl, rfl, rfl, rfl⟩)
theorem x_pathLength1 (x : Int32) (ha : an = false) : Ct g mX8_pathLength [.ref (g.1 + 0), .int x] 0 (CA g G T R S K E Q V an) B 1 6 noP (tX xIS (CA g G T R S K E Q V an) B) := by
  refine Ct.of [some (.ref (g.1 + 0)), some (.int x)] (by decide) rfl (Nat.le_of_ble_eq_true rfl) rfl ?_
  refine a_aload_n (q := 1) dX8_pathLength_0 rfl rfl rfl ?_
  exact a_xVA _ dX8_pathLength_1 kX8_164 (x_reqA ha) rfl rfl rfl (Nat.le_of_ble_eq_true rfl) ⟨(Nat.le_of_ble_eq_true rfl), (Nat.le_of_ble_eq_true rfl)⟩ ⟨(Nat.le_of_ble_eq_true rfl), (Nat.le_of_ble_eq_true rfl)⟩ (ax_out rfl (Nat.le_of_ble_eq_true rfl) (Nat.le_of_ble_eq_true rfl) ⟨rfl, rfl, rfl, rfl⟩)
theorem x_pathLength2 (x : Int32) (ha : an = true) (h : ptk x (pt 0) = false) : Ct g mX8_pathLength [.ref (g.1 + 0), .int x] 0 (CA g G T R S (kT G S vl pt) E Q V an) B 1 6 noP (tX xIB (CA g G T R S (kT G S vl pt) E Q V an) B) := by
  refine Ct.of [some (.ref (g.1 + 0)), some (.int x)] (by decide) rfl (Nat.le_of_ble_eq_true rfl) rfl ?_
  refine a_aload_n (q := 1) dX8_pathLength_0 rfl rfl rfl ?_
  refine a_cVA0 (q := 4) _ dX8_pathLength_1 kX8_164 (c_reqA ha) rfl rfl rfl (Nat.le_of_ble_eq_true rfl) ⟨(Nat.le_of_ble_eq_true rfl), (Nat.le_of_ble_eq_true rfl)⟩ ⟨(Nat.le_of_ble_eq_true rfl), (Nat.le_of_ble_eq_true rfl)⟩ rfl ?_
  refine a_aload_n (q := 5) dX8_pathLength_4 rfl rfl rfl ?_
  refine a_iload_n (q := 6) dX8_pathLength_5 rfl rfl rfl ?_
  exact a_xVA _ dX8_pathLength_6 kX8_199 (x_reqP x h) rfl rfl rfl (Nat.le_of_ble_eq_true rfl) ⟨(Nat.le_of_ble_eq_true rfl), (Nat.le_of_ble_eq_true rfl)⟩ ⟨(Nat.le_of_ble_eq_true rfl), (Nat.le_of_ble_eq_true rfl)⟩ (ax_out rfl (Nat.le_of_ble_eq_true rfl) (Nat.le_of_ble_eq_true rfl) ⟨rfl, rfl, rfl, rfl⟩)
theorem c_pathNode (x : Int32) (k : Nat) (hg : gok G) (ha : an = true) (h : ptk x (pt 0) = true) (hk : nI k < nnR (trc G (kT G S vl pt) x Q)) (hk0 : k < big) (hk1 : k ≤ (trc G (kT G S vl pt) x Q).2) (hk2 : stE (trc G (kT G S vl pt) x Q) ≠ -1 → k < (trc G (kT G S vl pt) x Q).2) : Ct g mX8_pathNode [.ref (g.1 + 0), .int x, .int (nI k)] 0 (CA g G T R S (kT G S vl pt) E Q V an) B 0 0 (rP (some (.int (pnd (kT G S vl pt) (trc G (kT G S vl pt) x Q) k))) (CA g G T R S (kT G S vl pt) E (trc G (kT G S vl pt) x Q) V an) B) noX := by
  unfold big at hk0
  refine Ct.of [some (.ref (g.1 + 0)), some (.int x), some (.int (nI k))] (by decide) rfl (Nat.le_of_ble_eq_true rfl) rfl ?_
  refine a_aload_n (q := 1) dX8_pathNode_0 rfl rfl rfl ?_
  refine a_cVA0 (q := 4) _ dX8_pathNode_1 kX8_164 (c_reqA ha) rfl rfl rfl (Nat.le_of_ble_eq_true rfl) ⟨(Nat.le_of_ble_eq_true rfl), (Nat.le_of_ble_eq_true rfl)⟩ ⟨(Nat.le_of_ble_eq_true rfl), (Nat.le_of_ble_eq_true rfl)⟩ rfl ?_
  refine a_aload_n (q := 5) dX8_pathNode_4 rfl rfl rfl ?_
  refine a_iload_n (q := 6) dX8_pathNode_5 rfl rfl rfl ?_
  refine a_cVA0 (q := 9) _ dX8_pathNode_6 kX8_199 (c_reqP x h) rfl rfl rfl (Nat.le_of_ble_eq_true rfl) ⟨(Nat.le_of_ble_eq_true rfl), (Nat.le_of_ble_eq_true rfl)⟩ ⟨(Nat.le_of_ble_eq_true rfl), (Nat.le_of_ble_eq_true rfl)⟩ rfl ?_
  refine a_aload_n (q := 10) dX8_pathNode_9 rfl rfl rfl ?_
  refine a_getA (q := 13) dX8_pathNode_10 fX8_60 rfl rfl rfl ?_
  refine a_iload_n (q := 14) dX8_pathNode_13 rfl rfl rfl ?_
  refine a_cVA0 (q := 17) _ dX8_pathNode_14 kX8_202 (c_trace hg vl pt x) rfl rfl rfl (Nat.le_of_ble_eq_true rfl) ⟨(Nat.le_of_ble_eq_true rfl), (Nat.le_of_ble_eq_true rfl)⟩ ⟨(Nat.le_of_ble_eq_true rfl), (Nat.le_of_ble_eq_true rfl)⟩ rfl ?_
  refine a_iload_n (q := 18) dX8_pathNode_17 rfl rfl rfl ?_
  refine a_if_ltN (q := 21) 32 dX8_pathNode_18 (by decide) (by omega) rfl ?_
  refine a_iload_n (q := 22) dX8_pathNode_21 rfl rfl rfl ?_
  refine a_aload_n (q := 23) dX8_pathNode_22 rfl rfl rfl ?_
  refine a_getA (q := 26) dX8_pathNode_23 fX8_60 rfl rfl rfl ?_
  refine a_cVAv (q := 29) _ dX8_pathNode_26 kX8_205 (c_nodeNumber trc_ok.1 trc_ok.2) rfl rfl rfl (Nat.le_of_ble_eq_true rfl) ⟨(Nat.le_of_ble_eq_true rfl), (Nat.le_of_ble_eq_true rfl)⟩ ⟨(Nat.le_of_ble_eq_true rfl), (Nat.le_of_ble_eq_true rfl)⟩ rfl ?_
  refine a_icmp_lt (q := 32) 42 dX8_pathNode_29 (by decide) rfl (fun c29 => ?_) (fun c29 => ?_)
  · skip
    refine a_aload_n (q := 43) dX8_pathNode_42 rfl rfl rfl ?_
    refine a_getA (q := 46) dX8_pathNode_43 fX8_60 rfl rfl rfl ?_
    refine a_iload_n (q := 47) dX8_pathNode_46 rfl rfl rfl ?_
    refine a_cVAv (q := 50) _ dX8_pathNode_47 kX8_210 (c_nodeAt k trc_ok.1 trc_ok.2 hk1 hk2) rfl rfl rfl (Nat.le_of_ble_eq_true rfl) ⟨(Nat.le_of_ble_eq_true rfl), (Nat.le_of_ble_eq_true rfl)⟩ ⟨(Nat.le_of_ble_eq_true rfl), (Nat.le_of_ble_eq_true rfl)⟩ rfl ?_
    exact a_iret dX8_pathNode_50 rfl rfl (Nat.le_of_ble_eq_true rfl) (Nat.le_of_ble_eq_true rfl) (⟨rfl, rfl, rfl, rfl⟩)
  · exact absurd hk c29
theorem x_pathNode1 (x y : Int32) (ha : an = false) : Ct g mX8_pathNode [.ref (g.1 + 0), .int x, .int y] 0 (CA g G T R S K E Q V an) B 1 6 noP (tX xIS (CA g G T R S K E Q V an) B) := by
  refine Ct.of [some (.ref (g.1 + 0)), some (.int x), some (.int y)] (by decide) rfl (Nat.le_of_ble_eq_true rfl) rfl ?_
  refine a_aload_n (q := 1) dX8_pathNode_0 rfl rfl rfl ?_
  exact a_xVA _ dX8_pathNode_1 kX8_164 (x_reqA ha) rfl rfl rfl (Nat.le_of_ble_eq_true rfl) ⟨(Nat.le_of_ble_eq_true rfl), (Nat.le_of_ble_eq_true rfl)⟩ ⟨(Nat.le_of_ble_eq_true rfl), (Nat.le_of_ble_eq_true rfl)⟩ (ax_out rfl (Nat.le_of_ble_eq_true rfl) (Nat.le_of_ble_eq_true rfl) ⟨rfl, rfl, rfl, rfl⟩)
theorem x_pathNode2 (x y : Int32) (ha : an = true) (h : ptk x (pt 0) = false) : Ct g mX8_pathNode [.ref (g.1 + 0), .int x, .int y] 0 (CA g G T R S (kT G S vl pt) E Q V an) B 1 6 noP (tX xIB (CA g G T R S (kT G S vl pt) E Q V an) B) := by
  refine Ct.of [some (.ref (g.1 + 0)), some (.int x), some (.int y)] (by decide) rfl (Nat.le_of_ble_eq_true rfl) rfl ?_
  refine a_aload_n (q := 1) dX8_pathNode_0 rfl rfl rfl ?_
  refine a_cVA0 (q := 4) _ dX8_pathNode_1 kX8_164 (c_reqA ha) rfl rfl rfl (Nat.le_of_ble_eq_true rfl) ⟨(Nat.le_of_ble_eq_true rfl), (Nat.le_of_ble_eq_true rfl)⟩ ⟨(Nat.le_of_ble_eq_true rfl), (Nat.le_of_ble_eq_true rfl)⟩ rfl ?_
  refine a_aload_n (q := 5) dX8_pathNode_4 rfl rfl rfl ?_
  refine a_iload_n (q := 6) dX8_pathNode_5 rfl rfl rfl ?_
  exact a_xVA _ dX8_pathNode_6 kX8_199 (x_reqP x h) rfl rfl rfl (Nat.le_of_ble_eq_true rfl) ⟨(Nat.le_of_ble_eq_true rfl), (Nat.le_of_ble_eq_true rfl)⟩ ⟨(Nat.le_of_ble_eq_true rfl), (Nat.le_of_ble_eq_true rfl)⟩ (ax_out rfl (Nat.le_of_ble_eq_true rfl) (Nat.le_of_ble_eq_true rfl) ⟨rfl, rfl, rfl, rfl⟩)
theorem x_pathNode3 (x y : Int32) (hg : gok G) (ha : an = true) (h : ptk x (pt 0) = true) (hy : y < 0 ∨ ¬ y < nnR (trc G (kT G S vl pt) x Q)) : Ct g mX8_pathNode [.ref (g.1 + 0), .int x, .int y] 0 (CA g G T R S (kT G S vl pt) E Q V an) B 1 6 noP (tX xIB (CA g G T R S (kT G S vl pt) E (trc G (kT G S vl pt) x Q) V an) B) := by
  refine Ct.of [some (.ref (g.1 + 0)), some (.int x), some (.int y)] (by decide) rfl (Nat.le_of_ble_eq_true rfl) rfl ?_
  refine a_aload_n (q := 1) dX8_pathNode_0 rfl rfl rfl ?_
  refine a_cVA0 (q := 4) _ dX8_pathNode_1 kX8_164 (c_reqA ha) rfl rfl rfl (Nat.le_of_ble_eq_true rfl) ⟨(Nat.le_of_ble_eq_true rfl), (Nat.le_of_ble_eq_true rfl)⟩ ⟨(Nat.le_of_ble_eq_true rfl), (Nat.le_of_ble_eq_true rfl)⟩ rfl ?_
  refine a_aload_n (q := 5) dX8_pathNode_4 rfl rfl rfl ?_
  refine a_iload_n (q := 6) dX8_pathNode_5 rfl rfl rfl ?_
  refine a_cVA0 (q := 9) _ dX8_pathNode_6 kX8_199 (c_reqP x h) rfl rfl rfl (Nat.le_of_ble_eq_true rfl) ⟨(Nat.le_of_ble_eq_true rfl), (Nat.le_of_ble_eq_true rfl)⟩ ⟨(Nat.le_of_ble_eq_true rfl), (Nat.le_of_ble_eq_true rfl)⟩ rfl ?_
  refine a_aload_n (q := 10) dX8_pathNode_9 rfl rfl rfl ?_
  refine a_getA (q := 13) dX8_pathNode_10 fX8_60 rfl rfl rfl ?_
  refine a_iload_n (q := 14) dX8_pathNode_13 rfl rfl rfl ?_
  refine a_cVA0 (q := 17) _ dX8_pathNode_14 kX8_202 (c_trace hg vl pt x) rfl rfl rfl (Nat.le_of_ble_eq_true rfl) ⟨(Nat.le_of_ble_eq_true rfl), (Nat.le_of_ble_eq_true rfl)⟩ ⟨(Nat.le_of_ble_eq_true rfl), (Nat.le_of_ble_eq_true rfl)⟩ rfl ?_
  refine a_iload_n (q := 18) dX8_pathNode_17 rfl rfl rfl ?_
  refine a_if_lt (q := 21) 32 dX8_pathNode_18 (by decide) rfl (fun c18 => ?_) (fun c18 => ?_)
  · skip
    exact a_throw dX8_pathNode_32 dX8_pathNode_35 dX8_pathNode_36 dX8_pathNode_38 dX8_pathNode_41 tX8_208 rfl ⟨(Nat.le_of_ble_eq_true rfl), (Nat.le_of_ble_eq_true rfl)⟩ ⟨(Nat.le_of_ble_eq_true rfl), (Nat.le_of_ble_eq_true rfl)⟩ (⟨rfl, rfl, rfl, rfl⟩)
  · skip
    refine a_iload_n (q := 22) dX8_pathNode_21 rfl rfl rfl ?_
    refine a_aload_n (q := 23) dX8_pathNode_22 rfl rfl rfl ?_
    refine a_getA (q := 26) dX8_pathNode_23 fX8_60 rfl rfl rfl ?_
    refine a_cVAv (q := 29) _ dX8_pathNode_26 kX8_205 (c_nodeNumber trc_ok.1 trc_ok.2) rfl rfl rfl (Nat.le_of_ble_eq_true rfl) ⟨(Nat.le_of_ble_eq_true rfl), (Nat.le_of_ble_eq_true rfl)⟩ ⟨(Nat.le_of_ble_eq_true rfl), (Nat.le_of_ble_eq_true rfl)⟩ rfl ?_
    refine a_icmp_lt (q := 32) 42 dX8_pathNode_29 (by decide) rfl (fun c29 => ?_) (fun c29 => ?_)
    · exact absurd hy (by rintro (q | q); exact c18 q; exact q c29)
    · skip
      exact a_throw dX8_pathNode_32 dX8_pathNode_35 dX8_pathNode_36 dX8_pathNode_38 dX8_pathNode_41 tX8_208 rfl ⟨(Nat.le_of_ble_eq_true rfl), (Nat.le_of_ble_eq_true rfl)⟩ ⟨(Nat.le_of_ble_eq_true rfl), (Nat.le_of_ble_eq_true rfl)⟩ (⟨rfl, rfl, rfl, rfl⟩)
theorem c_pathEdge (x : Int32) (b : Bool) (hg : gok G) (ha : an = true) (h : ptk x (pt 0) = true) : Ct g mX8_pathEdge [.ref (g.1 + 0), .int x, .int (b2 b)] 0 (CA g G T R S (kT G S vl pt) E Q V an) B 0 0 (rP (some (.int (if b = true then enE (trc G (kT G S vl pt) x Q) else stE (trc G (kT G S vl pt) x Q)))) (CA g G T R S (kT G S vl pt) E (trc G (kT G S vl pt) x Q) V an) B) noX := by
  refine Ct.of [some (.ref (g.1 + 0)), some (.int x), some (.int (b2 b))] (by decide) rfl (Nat.le_of_ble_eq_true rfl) rfl ?_
  refine a_aload_n (q := 1) dX8_pathEdge_0 rfl rfl rfl ?_
  refine a_cVA0 (q := 4) _ dX8_pathEdge_1 kX8_164 (c_reqA ha) rfl rfl rfl (Nat.le_of_ble_eq_true rfl) ⟨(Nat.le_of_ble_eq_true rfl), (Nat.le_of_ble_eq_true rfl)⟩ ⟨(Nat.le_of_ble_eq_true rfl), (Nat.le_of_ble_eq_true rfl)⟩ rfl ?_
  refine a_aload_n (q := 5) dX8_pathEdge_4 rfl rfl rfl ?_
  refine a_iload_n (q := 6) dX8_pathEdge_5 rfl rfl rfl ?_
  refine a_cVA0 (q := 9) _ dX8_pathEdge_6 kX8_199 (c_reqP x h) rfl rfl rfl (Nat.le_of_ble_eq_true rfl) ⟨(Nat.le_of_ble_eq_true rfl), (Nat.le_of_ble_eq_true rfl)⟩ ⟨(Nat.le_of_ble_eq_true rfl), (Nat.le_of_ble_eq_true rfl)⟩ rfl ?_
  refine a_aload_n (q := 10) dX8_pathEdge_9 rfl rfl rfl ?_
  refine a_getA (q := 13) dX8_pathEdge_10 fX8_60 rfl rfl rfl ?_
  refine a_iload_n (q := 14) dX8_pathEdge_13 rfl rfl rfl ?_
  refine a_cVA0 (q := 17) _ dX8_pathEdge_14 kX8_202 (c_trace hg vl pt x) rfl rfl rfl (Nat.le_of_ble_eq_true rfl) ⟨(Nat.le_of_ble_eq_true rfl), (Nat.le_of_ble_eq_true rfl)⟩ ⟨(Nat.le_of_ble_eq_true rfl), (Nat.le_of_ble_eq_true rfl)⟩ rfl ?_
  refine a_iload_n (q := 18) dX8_pathEdge_17 rfl rfl rfl ?_
  refine a_if_eqZ (q := 21) 31 dX8_pathEdge_18 (by decide) rfl (fun c18 => ?_) (fun c18 => ?_)
  · skip
    refine a_aload_n (q := 32) dX8_pathEdge_31 rfl rfl rfl ?_
    refine a_getA (q := 35) dX8_pathEdge_32 fX8_60 rfl rfl rfl ?_
    refine a_cVAv (q := 38) _ dX8_pathEdge_35 kX8_217 (c_startEdge trc_ok.1 trc_ok.2) rfl rfl rfl (Nat.le_of_ble_eq_true rfl) ⟨(Nat.le_of_ble_eq_true rfl), (Nat.le_of_ble_eq_true rfl)⟩ ⟨(Nat.le_of_ble_eq_true rfl), (Nat.le_of_ble_eq_true rfl)⟩ rfl ?_
    exact a_iret dX8_pathEdge_38 rfl rfl (Nat.le_of_ble_eq_true rfl) (Nat.le_of_ble_eq_true rfl) (⟨by first | rw [if_neg (by rw [c18]; decide)] | rw [if_pos c18], rfl, rfl, rfl⟩)
  · skip
    refine a_aload_n (q := 22) dX8_pathEdge_21 rfl rfl rfl ?_
    refine a_getA (q := 25) dX8_pathEdge_22 fX8_60 rfl rfl rfl ?_
    refine a_cVAv (q := 28) _ dX8_pathEdge_25 kX8_214 (c_endEdge trc_ok.1 trc_ok.2) rfl rfl rfl (Nat.le_of_ble_eq_true rfl) ⟨(Nat.le_of_ble_eq_true rfl), (Nat.le_of_ble_eq_true rfl)⟩ ⟨(Nat.le_of_ble_eq_true rfl), (Nat.le_of_ble_eq_true rfl)⟩ rfl ?_
    refine a_goto 38 dX8_pathEdge_28 (by decide) ?_
    exact a_iret dX8_pathEdge_38 rfl rfl (Nat.le_of_ble_eq_true rfl) (Nat.le_of_ble_eq_true rfl) (⟨by first | rw [if_neg (by rw [c18]; decide)] | rw [if_pos c18], rfl, rfl, rfl⟩)
theorem x_pathEdge1 (x : Int32) (b : Bool) (ha : an = false) : Ct g mX8_pathEdge [.ref (g.1 + 0), .int x, .int (b2 b)] 0 (CA g G T R S K E Q V an) B 1 6 noP (tX xIS (CA g G T R S K E Q V an) B) := by
  refine Ct.of [some (.ref (g.1 + 0)), some (.int x), some (.int (b2 b))] (by decide) rfl (Nat.le_of_ble_eq_true rfl) rfl ?_
  refine a_aload_n (q := 1) dX8_pathEdge_0 rfl rfl rfl ?_
  exact a_xVA _ dX8_pathEdge_1 kX8_164 (x_reqA ha) rfl rfl rfl (Nat.le_of_ble_eq_true rfl) ⟨(Nat.le_of_ble_eq_true rfl), (Nat.le_of_ble_eq_true rfl)⟩ ⟨(Nat.le_of_ble_eq_true rfl), (Nat.le_of_ble_eq_true rfl)⟩ (ax_out rfl (Nat.le_of_ble_eq_true rfl) (Nat.le_of_ble_eq_true rfl) ⟨rfl, rfl, rfl, rfl⟩)
theorem x_pathEdge2 (x : Int32) (b : Bool) (ha : an = true) (h : ptk x (pt 0) = false) : Ct g mX8_pathEdge [.ref (g.1 + 0), .int x, .int (b2 b)] 0 (CA g G T R S (kT G S vl pt) E Q V an) B 1 6 noP (tX xIB (CA g G T R S (kT G S vl pt) E Q V an) B) := by
  refine Ct.of [some (.ref (g.1 + 0)), some (.int x), some (.int (b2 b))] (by decide) rfl (Nat.le_of_ble_eq_true rfl) rfl ?_
  refine a_aload_n (q := 1) dX8_pathEdge_0 rfl rfl rfl ?_
  refine a_cVA0 (q := 4) _ dX8_pathEdge_1 kX8_164 (c_reqA ha) rfl rfl rfl (Nat.le_of_ble_eq_true rfl) ⟨(Nat.le_of_ble_eq_true rfl), (Nat.le_of_ble_eq_true rfl)⟩ ⟨(Nat.le_of_ble_eq_true rfl), (Nat.le_of_ble_eq_true rfl)⟩ rfl ?_
  refine a_aload_n (q := 5) dX8_pathEdge_4 rfl rfl rfl ?_
  refine a_iload_n (q := 6) dX8_pathEdge_5 rfl rfl rfl ?_
  exact a_xVA _ dX8_pathEdge_6 kX8_199 (x_reqP x h) rfl rfl rfl (Nat.le_of_ble_eq_true rfl) ⟨(Nat.le_of_ble_eq_true rfl), (Nat.le_of_ble_eq_true rfl)⟩ ⟨(Nat.le_of_ble_eq_true rfl), (Nat.le_of_ble_eq_true rfl)⟩ (ax_out rfl (Nat.le_of_ble_eq_true rfl) (Nat.le_of_ble_eq_true rfl) ⟨rfl, rfl, rfl, rfl⟩)
theorem c_findPath (hg : gok G) (hT : T.1 ≤ 60) (ha : an = true) : Ct g mX8_findPath [.ref (g.1 + 0)] 0 (CA g G T R S (kT G S vl pt) E Q V an) B 0 0 (rP (some (.int (fnd G (kT G S vl pt) T))) (CA g G T R S (kT G S vl pt) E Q V an) B) noX := by
  refine Ct.of [some (.ref (g.1 + 0))] (by decide) rfl (Nat.le_of_ble_eq_true rfl) rfl ?_
  refine a_aload_n (q := 1) dX8_findPath_0 rfl rfl rfl ?_
  refine a_cVA0 (q := 4) _ dX8_findPath_1 kX8_164 (c_reqA ha) rfl rfl rfl (Nat.le_of_ble_eq_true rfl) ⟨(Nat.le_of_ble_eq_true rfl), (Nat.le_of_ble_eq_true rfl)⟩ ⟨(Nat.le_of_ble_eq_true rfl), (Nat.le_of_ble_eq_true rfl)⟩ rfl ?_
  refine a_aload_n (q := 5) dX8_findPath_4 rfl rfl rfl ?_
  refine a_getA (q := 8) dX8_findPath_5 fX8_60 rfl rfl rfl ?_
  refine a_aload_n (q := 9) dX8_findPath_8 rfl rfl rfl ?_
  refine a_getA (q := 12) dX8_findPath_9 fX8_19 rfl rfl rfl ?_
  refine a_cVAv (q := 15) _ dX8_findPath_12 kX8_220 (c_numberOf hg hT) rfl rfl rfl (Nat.le_of_ble_eq_true rfl) ⟨(Nat.le_of_ble_eq_true rfl), (Nat.le_of_ble_eq_true rfl)⟩ ⟨(Nat.le_of_ble_eq_true rfl), (Nat.le_of_ble_eq_true rfl)⟩ rfl ?_
  exact a_iret dX8_findPath_15 rfl rfl (Nat.le_of_ble_eq_true rfl) (Nat.le_of_ble_eq_true rfl) (⟨rfl, rfl, rfl, rfl⟩)
theorem x_findPath (ha : an = false) : Ct g mX8_findPath [.ref (g.1 + 0)] 0 (CA g G T R S K E Q V an) B 1 6 noP (tX xIS (CA g G T R S K E Q V an) B) := by
  refine Ct.of [some (.ref (g.1 + 0))] (by decide) rfl (Nat.le_of_ble_eq_true rfl) rfl ?_
  refine a_aload_n (q := 1) dX8_findPath_0 rfl rfl rfl ?_
  exact a_xVA _ dX8_findPath_1 kX8_164 (x_reqA ha) rfl rfl rfl (Nat.le_of_ble_eq_true rfl) ⟨(Nat.le_of_ble_eq_true rfl), (Nat.le_of_ble_eq_true rfl)⟩ ⟨(Nat.le_of_ble_eq_true rfl), (Nat.le_of_ble_eq_true rfl)⟩ (ax_out rfl (Nat.le_of_ble_eq_true rfl) (Nat.le_of_ble_eq_true rfl) ⟨rfl, rfl, rfl, rfl⟩)
end Prof2

