/-! ===== the reference: the analysis and what it tells ===== -/
def nuR (G : Gr) (bk : Nat → Bool) (Z : Za) (V : Nat → Int32) : Nu := nuF G bk Z.2.2.2.2.1 Z.2.2.2.2.2 0 (nu0 G V)
def gtR (G : Gr) (bk : Nat → Bool) (x : Gt) : Gt := gtF G bk 48 (hvy G bk x.2.2) x
theorem gtF_I {G : Gr} {bk : Nat → Bool} (hg : gok G) : ∀ (m : Nat) (o : Option Nat) (x : Gt), (∀ k, o = some k → mIs G bk k = true) → gtI G bk x → gtI G bk (gtF G bk m o x) := by
  intro m
  induction m with
  | zero => intro o x _ h; exact h
  | succ m ih =>
    intro o x ho h
    cases o with
    | none => exact h
    | some k =>
      unfold gtF
      exact ih _ _ (fun j hj => (hvy_spec hj).2.1) (gtS_I hg (ho k rfl) h)
theorem gtR_I {G : Gr} {bk : Nat → Bool} {x : Gt} (hg : gok G) (h : gt0 G x) : gtI G bk (gtR G bk x) := gtF_I hg _ _ _ (fun j hj => (hvy_spec hj).2.1) (gt0_I hg h)
/-- the analysis: what is known of the reference then -/
def anY (G : Gr) (bk : Nat → Bool) (Z : Za) (V inc : Nat → Int32) (x : Gt) (y : Lp) : Ya := (true, bk, (nuR G bk Z V).1, (nuR G bk Z V).2, icF G bk (nuR G bk Z V).2 (lpR G bk (gtR G bk x).2.1 (nuR G bk Z V).2 y).1 (2 * G.2.1) 0 inc, (gtR G bk x).2.1)
def anU (G : Gr) (bk : Nat → Bool) (Z : Za) (V : Nat → Int32) (x : Gt) (y : Lp) : Ua := ((gtR G bk x).1, (lpR G bk (gtR G bk x).2.1 (nuR G bk Z V).2 y).1, (lpR G bk (gtR G bk x).2.1 (nuR G bk Z V).2 y).2, (gtR G bk x).2.2)
/-- what lacks: nothing, the analysis, the number -/
def lkN (an ok : Bool) : Nat := if an = true then (if ok = true then 0 else 2) else 1
theorem lkN_le {an ok : Bool} : lkN an ok ≤ 2 := by cases an <;> cases ok <;> decide
section MFace
variable {g : gp_T} {A : List va_E} {G : Gr} {T : Tx} {th : Nat} {Y : Ya} {W : Wa} {R : Ra} {Z : Za} {U : Ua} {L : La} {h : Int64} {O : Oa}
theorem m_analyse (S0 : Se) (hg : gok G) (hw : ∀ i, i < 24 → G.2.2.2.2 i < big) (hS : ∀ i, i < (dfs G S0).2.2.1 → (dfs G S0).2.1 i < G.1) (hS2 : (dfs G S0).2.2.1 ≤ G.1) : Ct g mX9_analyse [.ref (g.2.1 + 0)] 0 A (BM g G T th Y W R Z U L h O) 0 0 (fun v z A' B' => z = 0 ∧ A' = A ∧ ∃ bk' Z', dR G (dfs G S0) bk' Z' ∧ ((((dfs G S0).2.2.1 = G.1 ∧ aeA G = true) ∧ ∃ x, gt0 G x ∧ v = some (.int ((nuR G bk' Z' Y.2.2.2.1).1 0)) ∧ B' = BM g G T 0 (anY G bk' Z' Y.2.2.2.1 Y.2.2.2.2.1 x (U.2.1, U.2.2.1)) (noWa W) R Z' (anU G bk' Z' Y.2.2.2.1 x (U.2.1, U.2.2.1)) L h O) ∨ (¬ ((dfs G S0).2.2.1 = G.1 ∧ aeA G = true) ∧ v = some (.int (nI 0)) ∧ B' = BM g G T 0 (false, bk', Y.2.2) (noWa W) R Z' U L h O))) noX := by
  obtain ⟨g1, g2, g3, g4, g5⟩ := id hg
  refine Ct.of [some (.ref (g.2.1 + 0))] (by decide) rfl (Nat.le_of_ble_eq_true rfl) rfl ?_
  refine a_aload_n (q := 1) dX9_analyse_0 rfl rfl rfl ?_
  refine a_iconst (q := 2) (nI 0) dX9_analyse_1 (by decide) rfl ?_
  refine a_putB (q := 5) dX9_analyse_2 fX9_81 (fun h => nomatch h) rfl (Nat.le_of_ble_eq_true rfl) rfl rfl rfl ?_
  refine a_aload_n (q := 6) dX9_analyse_5 rfl rfl rfl ?_
  refine a_cVB0 (q := 9) _ dX9_analyse_6 kX9_104 (m_discard (G := G) (th := 0)) rfl rfl rfl (Nat.le_of_ble_eq_true rfl) ⟨(Nat.le_of_ble_eq_true rfl), (Nat.le_of_ble_eq_true rfl)⟩ ⟨(Nat.le_of_ble_eq_true rfl), (Nat.le_of_ble_eq_true rfl)⟩ rfl ?_
  refine a_aload_n (q := 10) dX9_analyse_9 rfl rfl rfl ?_
  refine a_callVB (q := 13) _ dX9_analyse_10 kX9_177 (m_search (G := G) (th := 0) (Y := (false, Y.2)) (W := noWa W) S0 hg) rfl rfl rfl (Nat.le_of_ble_eq_true rfl) ⟨(Nat.le_of_ble_eq_true rfl), (Nat.le_of_ble_eq_true rfl)⟩ ⟨(Nat.le_of_ble_eq_true rfl), (Nat.le_of_ble_eq_true rfl)⟩ rfl (fun v9 z9 A9 B9 h9 => ?_) (fun E9 z9 A9 B9 h9 => h9.elim)
  obtain ⟨rfl, rfl, rfl, bk', Z', hz, rfl⟩ := h9
  have hz2 := hz.2.2.1
  have hz3 : ∀ i, i < Z'.2.2.2.2.2 → Z'.2.2.2.2.1 i < G.1 := fun i hi => by
    rw [hz.2.2.2.2.1 i (by omega)]; exact hS i (by omega)
  refine a_aload_n (q := 14) dX9_analyse_13 rfl rfl rfl ?_
  refine a_getB (q := 17) dX9_analyse_14 fX9_145 rfl rfl rfl ?_
  refine a_aload_n (q := 18) dX9_analyse_17 rfl rfl rfl ?_
  refine a_getB (q := 21) dX9_analyse_18 fX9_7 rfl rfl rfl ?_
  refine a_icmp_ltN (q := 24) 31 dX9_analyse_21 (by decide) (by omega) (by omega) rfl (fun c21 => ?_) (fun c21 => ?_)
  · skip
    refine a_iconst (q := 32) (nI 0) dX9_analyse_31 (by decide) rfl ?_
    exact a_iret dX9_analyse_32 rfl rfl (Nat.le_of_ble_eq_true rfl) (Nat.le_of_ble_eq_true rfl) (⟨rfl, rfl, bk', Z', hz, Or.inr ⟨fun q => by first | omega | (rw [q.2] at c28; cases c28), rfl, rfl⟩⟩)
  · skip
    refine a_aload_n (q := 25) dX9_analyse_24 rfl rfl rfl ?_
    refine a_cVBv (q := 28) _ dX9_analyse_25 kX9_180 (m_allEnd (G := G) (th := 0) (Y := (false, bk', Y.2.2)) (W := noWa W) (Z := Z') hg) rfl rfl rfl (Nat.le_of_ble_eq_true rfl) ⟨(Nat.le_of_ble_eq_true rfl), (Nat.le_of_ble_eq_true rfl)⟩ ⟨(Nat.le_of_ble_eq_true rfl), (Nat.le_of_ble_eq_true rfl)⟩ rfl ?_
    refine a_if_neZ (q := 31) 33 dX9_analyse_28 (by decide) rfl (fun c28 => ?_) (fun c28 => ?_)
    · skip
      refine a_aload_n (q := 34) dX9_analyse_33 rfl rfl rfl ?_
      refine a_cVB0 (q := 37) _ dX9_analyse_34 kX9_183 (m_number (G := G) (th := 0) (Y := (false, bk', Y.2.2)) (W := noWa W) (Z := Z') hg hz3 (by omega)) rfl rfl rfl (Nat.le_of_ble_eq_true rfl) ⟨(Nat.le_of_ble_eq_true rfl), (Nat.le_of_ble_eq_true rfl)⟩ ⟨(Nat.le_of_ble_eq_true rfl), (Nat.le_of_ble_eq_true rfl)⟩ rfl ?_
      refine a_aload_n (q := 38) dX9_analyse_37 rfl rfl rfl ?_
      refine a_callVB (q := 41) _ dX9_analyse_38 kX9_186 (m_growTree (G := G) (th := 0) (Y := (false, bk', (nuR G bk' Z' Y.2.2.2.1).1, (nuR G bk' Z' Y.2.2.2.1).2, Y.2.2.2.2)) (W := noWa W) (Z := Z') hg hw) rfl rfl rfl (Nat.le_of_ble_eq_true rfl) ⟨(Nat.le_of_ble_eq_true rfl), (Nat.le_of_ble_eq_true rfl)⟩ ⟨(Nat.le_of_ble_eq_true rfl), (Nat.le_of_ble_eq_true rfl)⟩ rfl (fun v9 z9 A9 B9 h9 => ?_) (fun E9 z9 A9 B9 h9 => h9.elim)
      obtain ⟨rfl, rfl, rfl, x, hx, rfl⟩ := h9
      refine a_aload_n (q := 42) dX9_analyse_41 rfl rfl rfl ?_
      refine a_cVB0 (q := 45) _ dX9_analyse_42 kX9_189 (m_layPotentials (G := G) (th := 0) (Y := (false, bk', (nuR G bk' Z' Y.2.2.2.1).1, (nuR G bk' Z' Y.2.2.2.1).2, Y.2.2.2.2.1, (gtR G bk' x).2.1)) (W := noWa W) (Z := Z') (U := ((gtR G bk' x).1, U.2.1, U.2.2.1, (gtR G bk' x).2.2)) hg (gtR_I hg hx).2) rfl rfl rfl (Nat.le_of_ble_eq_true rfl) ⟨(Nat.le_of_ble_eq_true rfl), (Nat.le_of_ble_eq_true rfl)⟩ ⟨(Nat.le_of_ble_eq_true rfl), (Nat.le_of_ble_eq_true rfl)⟩ rfl ?_
      refine a_aload_n (q := 46) dX9_analyse_45 rfl rfl rfl ?_
      refine a_iconst (q := 47) (b2 true) dX9_analyse_46 (by decide) rfl ?_
      refine a_putB (q := 50) dX9_analyse_47 fX9_84 (fun h => nomatch h) rfl (Nat.le_of_ble_eq_true rfl) (b2_narrow _) rfl rfl ?_
      refine a_aload_n (q := 51) dX9_analyse_50 rfl rfl rfl ?_
      refine a_getB (q := 54) dX9_analyse_51 fX9_30 rfl rfl rfl ?_
      refine a_iconst (q := 55) (nI 0) dX9_analyse_54 (by decide) rfl ?_
      refine a_ialdBI (q := 56) dX9_analyse_55 rfl (by omega) (by decide) rfl ?_
      exact a_iret dX9_analyse_56 rfl rfl (Nat.le_of_ble_eq_true rfl) (Nat.le_of_ble_eq_true rfl) (⟨rfl, rfl, bk', Z', hz, Or.inl ⟨⟨by omega, c28⟩, x, hx, rfl, rfl⟩⟩)
    · skip
      refine a_iconst (q := 32) (nI 0) dX9_analyse_31 (by decide) rfl ?_
      exact a_iret dX9_analyse_32 rfl rfl (Nat.le_of_ble_eq_true rfl) (Nat.le_of_ble_eq_true rfl) (⟨rfl, rfl, bk', Z', hz, Or.inr ⟨fun q => by first | omega | (rw [q.2] at c28; cases c28), rfl, rfl⟩⟩)
theorem m_lack (q : Bool) : Ct g mX9_lack [.ref (g.2.1 + 0), .int (b2 q)] 0 A (BM g G T th Y W R Z U L h O) 0 0 (rP (some (.int (nI (lkN Y.1 q)))) A (BM g G T th Y W R Z U L h O)) noX := by
  refine Ct.of [some (.ref (g.2.1 + 0)), some (.int (b2 q))] (by decide) rfl (Nat.le_of_ble_eq_true rfl) rfl ?_
  unfold lkN
  refine a_aload_n (q := 1) dX9_lack_0 rfl rfl rfl ?_
  refine a_getB (q := 4) dX9_lack_1 fX9_84 rfl rfl rfl ?_
  refine a_if_neZ (q := 7) 11 dX9_lack_4 (by decide) rfl (fun c4 => ?_) (fun c4 => ?_)
  · rw [if_pos c4]
    refine a_iload_n (q := 12) dX9_lack_11 rfl rfl rfl ?_
    refine a_if_eqZ (q := 15) 19 dX9_lack_12 (by decide) rfl (fun c12 => ?_) (fun c12 => ?_)
    · rw [if_neg (by rw [c12]; decide)]
      refine a_iconst (q := 20) (nI 2) dX9_lack_19 (by decide) rfl ?_
      exact a_iret dX9_lack_20 rfl rfl (Nat.le_of_ble_eq_true rfl) (Nat.le_of_ble_eq_true rfl) (⟨rfl, rfl, rfl, rfl⟩)
    · rw [if_pos c12]
      refine a_iconst (q := 16) (nI 0) dX9_lack_15 (by decide) rfl ?_
      refine a_goto 20 dX9_lack_16 (by decide) ?_
      exact a_iret dX9_lack_20 rfl rfl (Nat.le_of_ble_eq_true rfl) (Nat.le_of_ble_eq_true rfl) (⟨rfl, rfl, rfl, rfl⟩)
  · rw [if_neg (by rw [c4]; decide)]
    refine a_iconst (q := 8) (nI 1) dX9_lack_7 (by decide) rfl ?_
    refine a_goto 20 dX9_lack_8 (by decide) ?_
    exact a_iret dX9_lack_20 rfl rfl (Nat.le_of_ble_eq_true rfl) (Nat.le_of_ble_eq_true rfl) (⟨rfl, rfl, rfl, rfl⟩)
theorem m_pathsFrom (k : Nat) (hg : gok G) (hk : k < G.1) (ha : Y.1 = true) : Ct g mX9_pathsFrom [.ref (g.2.1 + 0), .int (nI k)] 0 A (BM g G T th Y W R Z U L h O) 0 0 (rP (some (.int (Y.2.2.1 k))) A (BM g G T 0 Y W R Z U L h O)) noX := by
  obtain ⟨g1, g2, g3, g4, g5⟩ := hg
  have hi : inR (nI k) G.1 = true := by rw [inR_nI (by unfold big; omega) (by unfold big; omega)]; exact decide_eq_true hk
  have hl : lkN Y.1 (inR (nI k) G.1) = 0 := by rw [ha, hi]; rfl
  refine Ct.of [some (.ref (g.2.1 + 0)), some (.int (nI k))] (by decide) rfl (Nat.le_of_ble_eq_true rfl) rfl ?_
  refine a_aload_n (q := 1) dX9_pathsFrom_0 rfl rfl rfl ?_
  refine a_aload_n (q := 2) dX9_pathsFrom_1 rfl rfl rfl ?_
  refine a_aload_n (q := 3) dX9_pathsFrom_2 rfl rfl rfl ?_
  refine a_iload_n (q := 4) dX9_pathsFrom_3 rfl rfl rfl ?_
  refine a_cVBv (q := 7) _ dX9_pathsFrom_4 kX9_107 (m_isNode _ (by omega) g2) rfl rfl rfl (Nat.le_of_ble_eq_true rfl) ⟨(Nat.le_of_ble_eq_true rfl), (Nat.le_of_ble_eq_true rfl)⟩ ⟨(Nat.le_of_ble_eq_true rfl), (Nat.le_of_ble_eq_true rfl)⟩ rfl ?_
  refine a_cVBv (q := 10) _ dX9_pathsFrom_7 kX9_192 (m_lack _) rfl rfl rfl (Nat.le_of_ble_eq_true rfl) ⟨(Nat.le_of_ble_eq_true rfl), (Nat.le_of_ble_eq_true rfl)⟩ ⟨(Nat.le_of_ble_eq_true rfl), (Nat.le_of_ble_eq_true rfl)⟩ rfl ?_
  rw [hl]
  refine a_putB (q := 13) dX9_pathsFrom_10 fX9_81 (fun h => nomatch h) rfl (Nat.le_of_ble_eq_true rfl) rfl rfl rfl ?_
  refine a_aload_n (q := 14) dX9_pathsFrom_13 rfl rfl rfl ?_
  refine a_getB (q := 17) dX9_pathsFrom_14 fX9_81 rfl rfl rfl ?_
  refine a_if_leN (q := 20) 24 dX9_pathsFrom_17 (by decide) (by omega) rfl (fun c17 => ?_) (fun c17 => ?_)
  · skip
    refine a_aload_n (q := 25) dX9_pathsFrom_24 rfl rfl rfl ?_
    refine a_getB (q := 28) dX9_pathsFrom_25 fX9_30 rfl rfl rfl ?_
    refine a_iload_n (q := 29) dX9_pathsFrom_28 rfl rfl rfl ?_
    refine a_ialdBI (q := 30) dX9_pathsFrom_29 rfl (by omega) (by decide) rfl ?_
    exact a_iret dX9_pathsFrom_30 rfl rfl (Nat.le_of_ble_eq_true rfl) (Nat.le_of_ble_eq_true rfl) (⟨rfl, rfl, rfl, rfl⟩)
  · exact absurd c17 (by decide)
theorem mx_pathsFrom (x : Int32) (hg : gok G) (hl : 0 < lkN Y.1 (inR x G.1)) : Ct g mX9_pathsFrom [.ref (g.2.1 + 0), .int x] 0 A (BM g G T th Y W R Z U L h O) 0 0 (rP (some (.int (nI 0))) A (BM g G T (lkN Y.1 (inR x G.1)) Y W R Z U L h O)) noX := by
  obtain ⟨g1, g2, g3, g4, g5⟩ := hg
  have h9 := lkN_le (an := Y.1) (ok := inR x G.1)
  refine Ct.of [some (.ref (g.2.1 + 0)), some (.int x)] (by decide) rfl (Nat.le_of_ble_eq_true rfl) rfl ?_
  refine a_aload_n (q := 1) dX9_pathsFrom_0 rfl rfl rfl ?_
  refine a_aload_n (q := 2) dX9_pathsFrom_1 rfl rfl rfl ?_
  refine a_aload_n (q := 3) dX9_pathsFrom_2 rfl rfl rfl ?_
  refine a_iload_n (q := 4) dX9_pathsFrom_3 rfl rfl rfl ?_
  refine a_cVBv (q := 7) _ dX9_pathsFrom_4 kX9_107 (m_isNode _ (by omega) g2) rfl rfl rfl (Nat.le_of_ble_eq_true rfl) ⟨(Nat.le_of_ble_eq_true rfl), (Nat.le_of_ble_eq_true rfl)⟩ ⟨(Nat.le_of_ble_eq_true rfl), (Nat.le_of_ble_eq_true rfl)⟩ rfl ?_
  refine a_cVBv (q := 10) _ dX9_pathsFrom_7 kX9_192 (m_lack _) rfl rfl rfl (Nat.le_of_ble_eq_true rfl) ⟨(Nat.le_of_ble_eq_true rfl), (Nat.le_of_ble_eq_true rfl)⟩ ⟨(Nat.le_of_ble_eq_true rfl), (Nat.le_of_ble_eq_true rfl)⟩ rfl ?_
  refine a_putB (q := 13) dX9_pathsFrom_10 fX9_81 (fun h => nomatch h) rfl (Nat.le_of_ble_eq_true rfl) rfl rfl rfl ?_
  refine a_aload_n (q := 14) dX9_pathsFrom_13 rfl rfl rfl ?_
  refine a_getB (q := 17) dX9_pathsFrom_14 fX9_81 rfl rfl rfl ?_
  refine a_if_leN (q := 20) 24 dX9_pathsFrom_17 (by decide) (by omega) rfl (fun c17 => ?_) (fun c17 => ?_)
  · omega
  · skip
    refine a_iconst (q := 21) (nI 0) dX9_pathsFrom_20 (by decide) rfl ?_
    refine a_goto 30 dX9_pathsFrom_21 (by decide) ?_
    exact a_iret dX9_pathsFrom_30 rfl rfl (Nat.le_of_ble_eq_true rfl) (Nat.le_of_ble_eq_true rfl) (⟨rfl, rfl, rfl, rfl⟩)
theorem m_isBack (k : Nat) (hg : gok G) (hk : k < G.2.1) (ha : Y.1 = true) : Ct g mX9_isBack [.ref (g.2.1 + 0), .int (nI k)] 0 A (BM g G T th Y W R Z U L h O) 0 0 (rP (some (.int (b2 (Y.2.1 k)))) A (BM g G T 0 Y W R Z U L h O)) noX := by
  obtain ⟨g1, g2, g3, g4, g5⟩ := hg
  have hi : inR (nI k) G.2.1 = true := by rw [inR_nI (by unfold big; omega) (by unfold big; omega)]; exact decide_eq_true hk
  have hl : lkN Y.1 (inR (nI k) G.2.1) = 0 := by rw [ha, hi]; rfl
  refine Ct.of [some (.ref (g.2.1 + 0)), some (.int (nI k))] (by decide) rfl (Nat.le_of_ble_eq_true rfl) rfl ?_
  refine a_aload_n (q := 1) dX9_isBack_0 rfl rfl rfl ?_
  refine a_aload_n (q := 2) dX9_isBack_1 rfl rfl rfl ?_
  refine a_aload_n (q := 3) dX9_isBack_2 rfl rfl rfl ?_
  refine a_iload_n (q := 4) dX9_isBack_3 rfl rfl rfl ?_
  refine a_cVBv (q := 7) _ dX9_isBack_4 kX9_119 (m_isEdge _ g3) rfl rfl rfl (Nat.le_of_ble_eq_true rfl) ⟨(Nat.le_of_ble_eq_true rfl), (Nat.le_of_ble_eq_true rfl)⟩ ⟨(Nat.le_of_ble_eq_true rfl), (Nat.le_of_ble_eq_true rfl)⟩ rfl ?_
  refine a_cVBv (q := 10) _ dX9_isBack_7 kX9_192 (m_lack _) rfl rfl rfl (Nat.le_of_ble_eq_true rfl) ⟨(Nat.le_of_ble_eq_true rfl), (Nat.le_of_ble_eq_true rfl)⟩ ⟨(Nat.le_of_ble_eq_true rfl), (Nat.le_of_ble_eq_true rfl)⟩ rfl ?_
  rw [hl]
  refine a_putB (q := 13) dX9_isBack_10 fX9_81 (fun h => nomatch h) rfl (Nat.le_of_ble_eq_true rfl) rfl rfl rfl ?_
  refine a_aload_n (q := 14) dX9_isBack_13 rfl rfl rfl ?_
  refine a_getB (q := 17) dX9_isBack_14 fX9_81 rfl rfl rfl ?_
  refine a_if_neN (q := 20) 33 dX9_isBack_17 (by decide) (by omega) rfl (fun c17 => ?_) (fun c17 => ?_)
  · exact absurd c17 (Nat.lt_irrefl 0)
  · skip
    refine a_aload_n (q := 21) dX9_isBack_20 rfl rfl rfl ?_
    refine a_getB (q := 24) dX9_isBack_21 fX9_26 rfl rfl rfl ?_
    refine a_iload_n (q := 25) dX9_isBack_24 rfl rfl rfl ?_
    refine a_zaldBN (q := 26) dX9_isBack_25 rfl (by omega) (by decide) rfl ?_
    refine a_if_eqZ (q := 29) 33 dX9_isBack_26 (by decide) rfl (fun c26 => ?_) (fun c26 => ?_)
    · skip
      refine a_iconst (q := 34) (b2 false) dX9_isBack_33 (by decide) rfl ?_
      exact a_iret dX9_isBack_34 rfl (b2_narrow _) (Nat.le_of_ble_eq_true rfl) (Nat.le_of_ble_eq_true rfl) (⟨by rw [show Y.2.1 k = _ from c26], rfl, rfl, rfl⟩)
    · skip
      refine a_iconst (q := 30) (b2 true) dX9_isBack_29 (by decide) rfl ?_
      refine a_goto 34 dX9_isBack_30 (by decide) ?_
      exact a_iret dX9_isBack_34 rfl (b2_narrow _) (Nat.le_of_ble_eq_true rfl) (Nat.le_of_ble_eq_true rfl) (⟨by rw [show Y.2.1 k = _ from c26], rfl, rfl, rfl⟩)
theorem mx_isBack (x : Int32) (hg : gok G) (hl : 0 < lkN Y.1 (inR x G.2.1)) : Ct g mX9_isBack [.ref (g.2.1 + 0), .int x] 0 A (BM g G T th Y W R Z U L h O) 0 0 (rP (some (.int (nI 0))) A (BM g G T (lkN Y.1 (inR x G.2.1)) Y W R Z U L h O)) noX := by
  obtain ⟨g1, g2, g3, g4, g5⟩ := hg
  have h9 := lkN_le (an := Y.1) (ok := inR x G.2.1)
  refine Ct.of [some (.ref (g.2.1 + 0)), some (.int x)] (by decide) rfl (Nat.le_of_ble_eq_true rfl) rfl ?_
  refine a_aload_n (q := 1) dX9_isBack_0 rfl rfl rfl ?_
  refine a_aload_n (q := 2) dX9_isBack_1 rfl rfl rfl ?_
  refine a_aload_n (q := 3) dX9_isBack_2 rfl rfl rfl ?_
  refine a_iload_n (q := 4) dX9_isBack_3 rfl rfl rfl ?_
  refine a_cVBv (q := 7) _ dX9_isBack_4 kX9_119 (m_isEdge _ g3) rfl rfl rfl (Nat.le_of_ble_eq_true rfl) ⟨(Nat.le_of_ble_eq_true rfl), (Nat.le_of_ble_eq_true rfl)⟩ ⟨(Nat.le_of_ble_eq_true rfl), (Nat.le_of_ble_eq_true rfl)⟩ rfl ?_
  refine a_cVBv (q := 10) _ dX9_isBack_7 kX9_192 (m_lack _) rfl rfl rfl (Nat.le_of_ble_eq_true rfl) ⟨(Nat.le_of_ble_eq_true rfl), (Nat.le_of_ble_eq_true rfl)⟩ ⟨(Nat.le_of_ble_eq_true rfl), (Nat.le_of_ble_eq_true rfl)⟩ rfl ?_
  refine a_putB (q := 13) dX9_isBack_10 fX9_81 (fun h => nomatch h) rfl (Nat.le_of_ble_eq_true rfl) rfl rfl rfl ?_
  refine a_aload_n (q := 14) dX9_isBack_13 rfl rfl rfl ?_
  refine a_getB (q := 17) dX9_isBack_14 fX9_81 rfl rfl rfl ?_
  refine a_if_neN (q := 20) 33 dX9_isBack_17 (by decide) (by omega) rfl (fun c17 => ?_) (fun c17 => ?_)
  · skip
    refine a_iconst (q := 34) (b2 false) dX9_isBack_33 (by decide) rfl ?_
    exact a_iret dX9_isBack_34 rfl (b2_narrow _) (Nat.le_of_ble_eq_true rfl) (Nat.le_of_ble_eq_true rfl) (⟨rfl, rfl, rfl, rfl⟩)
  · omega
def mLo (bk : Nat → Bool) (k : Nat) (b : Bool) : Nat := if bk k = true ∧ b = false then 2 * k + 1 else 2 * k
theorem mLo_lt {bk : Nat → Bool} {k : Nat} {b : Bool} (hk : k < 24) : mLo bk k b < 48 := by unfold mLo; split <;> omega
theorem m_linkOf (k : Nat) (b : Bool) (hk : k < 24) : Ct g mX9_linkOf [.ref (g.2.1 + 0), .int (nI k), .int (b2 b)] 0 A (BM g G T th Y W R Z U L h O) 0 0 (rP (some (.int (nI (mLo Y.2.1 k b)))) A (BM g G T th Y W R Z U L h O)) noX := by
  refine Ct.of [some (.ref (g.2.1 + 0)), some (.int (nI k)), some (.int (b2 b))] (by decide) rfl (Nat.le_of_ble_eq_true rfl) rfl ?_
  refine a_aload_n (q := 1) dX9_linkOf_0 rfl rfl rfl ?_
  refine a_getB (q := 4) dX9_linkOf_1 fX9_26 rfl rfl rfl ?_
  refine a_iload_n (q := 5) dX9_linkOf_4 rfl rfl rfl ?_
  refine a_zaldBN (q := 6) dX9_linkOf_5 rfl (by omega) (by decide) rfl ?_
  refine a_if_eqZ (q := 9) 21 dX9_linkOf_6 (by decide) rfl (fun c6 => ?_) (fun c6 => ?_)
  · have hs : mLo Y.2.1 k b = 2 * k := by unfold mLo; rw [if_neg (fun q => by rw [c6] at q; cases q.1)]
    refine a_iconst (q := 22) (nI 2) dX9_linkOf_21 (by decide) rfl ?_
    refine a_iload_n (q := 23) dX9_linkOf_22 rfl rfl rfl ?_
    refine a_imulN (q := 24) dX9_linkOf_23 rfl ?_
    exact a_iret dX9_linkOf_24 rfl rfl (Nat.le_of_ble_eq_true rfl) (Nat.le_of_ble_eq_true rfl) (⟨by rw [hs], rfl, rfl, rfl⟩)
  · skip
    refine a_iload_n (q := 10) dX9_linkOf_9 rfl rfl rfl ?_
    refine a_if_neZ (q := 13) 21 dX9_linkOf_10 (by decide) rfl (fun c10 => ?_) (fun c10 => ?_)
    · have hs : mLo Y.2.1 k b = 2 * k := by unfold mLo; rw [if_neg (fun q => by rw [c10] at q; cases q.2)]
      refine a_iconst (q := 22) (nI 2) dX9_linkOf_21 (by decide) rfl ?_
      refine a_iload_n (q := 23) dX9_linkOf_22 rfl rfl rfl ?_
      refine a_imulN (q := 24) dX9_linkOf_23 rfl ?_
      exact a_iret dX9_linkOf_24 rfl rfl (Nat.le_of_ble_eq_true rfl) (Nat.le_of_ble_eq_true rfl) (⟨by rw [hs], rfl, rfl, rfl⟩)
    · have hs : mLo Y.2.1 k b = 2 * k + 1 := by unfold mLo; rw [if_pos ⟨c6, c10⟩]
      refine a_iconst (q := 14) (nI 2) dX9_linkOf_13 (by decide) rfl ?_
      refine a_iload_n (q := 15) dX9_linkOf_14 rfl rfl rfl ?_
      refine a_imulN (q := 16) dX9_linkOf_15 rfl ?_
      refine a_iconst (q := 17) (nI 1) dX9_linkOf_16 (by decide) rfl ?_
      refine a_iaddN (q := 18) dX9_linkOf_17 rfl ?_
      refine a_goto 24 dX9_linkOf_18 (by decide) ?_
      exact a_iret dX9_linkOf_24 rfl rfl (Nat.le_of_ble_eq_true rfl) (Nat.le_of_ble_eq_true rfl) (⟨by rw [hs], rfl, rfl, rfl⟩)
theorem m_value (k : Nat) (b : Bool) (hg : gok G) (hk : k < G.2.1) (ha : Y.1 = true) : Ct g mX9_value [.ref (g.2.1 + 0), .int (nI k), .int (b2 b)] 0 A (BM g G T th Y W R Z U L h O) 0 0 (rP (some (.int (Y.2.2.2.1 (mLo Y.2.1 k b)))) A (BM g G T 0 Y W R Z U L h O)) noX := by
  obtain ⟨g1, g2, g3, g4, g5⟩ := hg
  have hi : inR (nI k) G.2.1 = true := by rw [inR_nI (by unfold big; omega) (by unfold big; omega)]; exact decide_eq_true hk
  have hl : lkN Y.1 (inR (nI k) G.2.1) = 0 := by rw [ha, hi]; rfl
  have h3 := mLo_lt (bk := Y.2.1) (b := b) (show k < 24 by omega)
  refine Ct.of [some (.ref (g.2.1 + 0)), some (.int (nI k)), some (.int (b2 b))] (by decide) rfl (Nat.le_of_ble_eq_true rfl) rfl ?_
  refine a_aload_n (q := 1) dX9_value_0 rfl rfl rfl ?_
  refine a_aload_n (q := 2) dX9_value_1 rfl rfl rfl ?_
  refine a_aload_n (q := 3) dX9_value_2 rfl rfl rfl ?_
  refine a_iload_n (q := 4) dX9_value_3 rfl rfl rfl ?_
  refine a_cVBv (q := 7) _ dX9_value_4 kX9_119 (m_isEdge _ g3) rfl rfl rfl (Nat.le_of_ble_eq_true rfl) ⟨(Nat.le_of_ble_eq_true rfl), (Nat.le_of_ble_eq_true rfl)⟩ ⟨(Nat.le_of_ble_eq_true rfl), (Nat.le_of_ble_eq_true rfl)⟩ rfl ?_
  refine a_cVBv (q := 10) _ dX9_value_7 kX9_192 (m_lack _) rfl rfl rfl (Nat.le_of_ble_eq_true rfl) ⟨(Nat.le_of_ble_eq_true rfl), (Nat.le_of_ble_eq_true rfl)⟩ ⟨(Nat.le_of_ble_eq_true rfl), (Nat.le_of_ble_eq_true rfl)⟩ rfl ?_
  rw [hl]
  refine a_putB (q := 13) dX9_value_10 fX9_81 (fun h => nomatch h) rfl (Nat.le_of_ble_eq_true rfl) rfl rfl rfl ?_
  refine a_aload_n (q := 14) dX9_value_13 rfl rfl rfl ?_
  refine a_getB (q := 17) dX9_value_14 fX9_81 rfl rfl rfl ?_
  refine a_if_leN (q := 20) 24 dX9_value_17 (by decide) (by omega) rfl (fun c17 => ?_) (fun c17 => ?_)
  · skip
    refine a_aload_n (q := 25) dX9_value_24 rfl rfl rfl ?_
    refine a_getB (q := 28) dX9_value_25 fX9_33 rfl rfl rfl ?_
    refine a_aload_n (q := 29) dX9_value_28 rfl rfl rfl ?_
    refine a_iload_n (q := 30) dX9_value_29 rfl rfl rfl ?_
    refine a_iload_n (q := 31) dX9_value_30 rfl rfl rfl ?_
    refine a_cVBv (q := 34) _ dX9_value_31 kX9_196 (m_linkOf (G := G) (th := 0) k b (by omega)) rfl rfl rfl (Nat.le_of_ble_eq_true rfl) ⟨(Nat.le_of_ble_eq_true rfl), (Nat.le_of_ble_eq_true rfl)⟩ ⟨(Nat.le_of_ble_eq_true rfl), (Nat.le_of_ble_eq_true rfl)⟩ rfl ?_
    refine a_ialdBI (q := 35) dX9_value_34 rfl (by omega) (by decide) rfl ?_
    exact a_iret dX9_value_35 rfl rfl (Nat.le_of_ble_eq_true rfl) (Nat.le_of_ble_eq_true rfl) (⟨rfl, rfl, rfl, rfl⟩)
  · exact absurd c17 (by decide)
theorem mx_value (x : Int32) (b : Bool) (hg : gok G) (hl : 0 < lkN Y.1 (inR x G.2.1)) : Ct g mX9_value [.ref (g.2.1 + 0), .int x, .int (b2 b)] 0 A (BM g G T th Y W R Z U L h O) 0 0 (rP (some (.int (nI 0))) A (BM g G T (lkN Y.1 (inR x G.2.1)) Y W R Z U L h O)) noX := by
  obtain ⟨g1, g2, g3, g4, g5⟩ := hg
  have h9 := lkN_le (an := Y.1) (ok := inR x G.2.1)
  refine Ct.of [some (.ref (g.2.1 + 0)), some (.int x), some (.int (b2 b))] (by decide) rfl (Nat.le_of_ble_eq_true rfl) rfl ?_
  refine a_aload_n (q := 1) dX9_value_0 rfl rfl rfl ?_
  refine a_aload_n (q := 2) dX9_value_1 rfl rfl rfl ?_
  refine a_aload_n (q := 3) dX9_value_2 rfl rfl rfl ?_
  refine a_iload_n (q := 4) dX9_value_3 rfl rfl rfl ?_
  refine a_cVBv (q := 7) _ dX9_value_4 kX9_119 (m_isEdge _ g3) rfl rfl rfl (Nat.le_of_ble_eq_true rfl) ⟨(Nat.le_of_ble_eq_true rfl), (Nat.le_of_ble_eq_true rfl)⟩ ⟨(Nat.le_of_ble_eq_true rfl), (Nat.le_of_ble_eq_true rfl)⟩ rfl ?_
  refine a_cVBv (q := 10) _ dX9_value_7 kX9_192 (m_lack _) rfl rfl rfl (Nat.le_of_ble_eq_true rfl) ⟨(Nat.le_of_ble_eq_true rfl), (Nat.le_of_ble_eq_true rfl)⟩ ⟨(Nat.le_of_ble_eq_true rfl), (Nat.le_of_ble_eq_true rfl)⟩ rfl ?_
  refine a_putB (q := 13) dX9_value_10 fX9_81 (fun h => nomatch h) rfl (Nat.le_of_ble_eq_true rfl) rfl rfl rfl ?_
  refine a_aload_n (q := 14) dX9_value_13 rfl rfl rfl ?_
  refine a_getB (q := 17) dX9_value_14 fX9_81 rfl rfl rfl ?_
  refine a_if_leN (q := 20) 24 dX9_value_17 (by decide) (by omega) rfl (fun c17 => ?_) (fun c17 => ?_)
  · omega
  · skip
    refine a_iconst (q := 21) (nI 0) dX9_value_20 (by decide) rfl ?_
    refine a_goto 35 dX9_value_21 (by decide) ?_
    exact a_iret dX9_value_35 rfl rfl (Nat.le_of_ble_eq_true rfl) (Nat.le_of_ble_eq_true rfl) (⟨rfl, rfl, rfl, rfl⟩)
theorem m_increment (k : Nat) (b : Bool) (hg : gok G) (hk : k < G.2.1) (ha : Y.1 = true) : Ct g mX9_increment [.ref (g.2.1 + 0), .int (nI k), .int (b2 b)] 0 A (BM g G T th Y W R Z U L h O) 0 0 (rP (some (.int (Y.2.2.2.2.1 (mLo Y.2.1 k b)))) A (BM g G T 0 Y W R Z U L h O)) noX := by
  obtain ⟨g1, g2, g3, g4, g5⟩ := hg
  have hi : inR (nI k) G.2.1 = true := by rw [inR_nI (by unfold big; omega) (by unfold big; omega)]; exact decide_eq_true hk
  have hl : lkN Y.1 (inR (nI k) G.2.1) = 0 := by rw [ha, hi]; rfl
  have h3 := mLo_lt (bk := Y.2.1) (b := b) (show k < 24 by omega)
  refine Ct.of [some (.ref (g.2.1 + 0)), some (.int (nI k)), some (.int (b2 b))] (by decide) rfl (Nat.le_of_ble_eq_true rfl) rfl ?_
  refine a_aload_n (q := 1) dX9_increment_0 rfl rfl rfl ?_
  refine a_aload_n (q := 2) dX9_increment_1 rfl rfl rfl ?_
  refine a_aload_n (q := 3) dX9_increment_2 rfl rfl rfl ?_
  refine a_iload_n (q := 4) dX9_increment_3 rfl rfl rfl ?_
  refine a_cVBv (q := 7) _ dX9_increment_4 kX9_119 (m_isEdge _ g3) rfl rfl rfl (Nat.le_of_ble_eq_true rfl) ⟨(Nat.le_of_ble_eq_true rfl), (Nat.le_of_ble_eq_true rfl)⟩ ⟨(Nat.le_of_ble_eq_true rfl), (Nat.le_of_ble_eq_true rfl)⟩ rfl ?_
  refine a_cVBv (q := 10) _ dX9_increment_7 kX9_192 (m_lack _) rfl rfl rfl (Nat.le_of_ble_eq_true rfl) ⟨(Nat.le_of_ble_eq_true rfl), (Nat.le_of_ble_eq_true rfl)⟩ ⟨(Nat.le_of_ble_eq_true rfl), (Nat.le_of_ble_eq_true rfl)⟩ rfl ?_
  rw [hl]
  refine a_putB (q := 13) dX9_increment_10 fX9_81 (fun h => nomatch h) rfl (Nat.le_of_ble_eq_true rfl) rfl rfl rfl ?_
  refine a_aload_n (q := 14) dX9_increment_13 rfl rfl rfl ?_
  refine a_getB (q := 17) dX9_increment_14 fX9_81 rfl rfl rfl ?_
  refine a_if_leN (q := 20) 24 dX9_increment_17 (by decide) (by omega) rfl (fun c17 => ?_) (fun c17 => ?_)
  · skip
    refine a_aload_n (q := 25) dX9_increment_24 rfl rfl rfl ?_
    refine a_getB (q := 28) dX9_increment_25 fX9_36 rfl rfl rfl ?_
    refine a_aload_n (q := 29) dX9_increment_28 rfl rfl rfl ?_
    refine a_iload_n (q := 30) dX9_increment_29 rfl rfl rfl ?_
    refine a_iload_n (q := 31) dX9_increment_30 rfl rfl rfl ?_
    refine a_cVBv (q := 34) _ dX9_increment_31 kX9_196 (m_linkOf (G := G) (th := 0) k b (by omega)) rfl rfl rfl (Nat.le_of_ble_eq_true rfl) ⟨(Nat.le_of_ble_eq_true rfl), (Nat.le_of_ble_eq_true rfl)⟩ ⟨(Nat.le_of_ble_eq_true rfl), (Nat.le_of_ble_eq_true rfl)⟩ rfl ?_
    refine a_ialdBI (q := 35) dX9_increment_34 rfl (by omega) (by decide) rfl ?_
    exact a_iret dX9_increment_35 rfl rfl (Nat.le_of_ble_eq_true rfl) (Nat.le_of_ble_eq_true rfl) (⟨rfl, rfl, rfl, rfl⟩)
  · exact absurd c17 (by decide)
theorem mx_increment (x : Int32) (b : Bool) (hg : gok G) (hl : 0 < lkN Y.1 (inR x G.2.1)) : Ct g mX9_increment [.ref (g.2.1 + 0), .int x, .int (b2 b)] 0 A (BM g G T th Y W R Z U L h O) 0 0 (rP (some (.int (nI 0))) A (BM g G T (lkN Y.1 (inR x G.2.1)) Y W R Z U L h O)) noX := by
  obtain ⟨g1, g2, g3, g4, g5⟩ := hg
  have h9 := lkN_le (an := Y.1) (ok := inR x G.2.1)
  refine Ct.of [some (.ref (g.2.1 + 0)), some (.int x), some (.int (b2 b))] (by decide) rfl (Nat.le_of_ble_eq_true rfl) rfl ?_
  refine a_aload_n (q := 1) dX9_increment_0 rfl rfl rfl ?_
  refine a_aload_n (q := 2) dX9_increment_1 rfl rfl rfl ?_
  refine a_aload_n (q := 3) dX9_increment_2 rfl rfl rfl ?_
  refine a_iload_n (q := 4) dX9_increment_3 rfl rfl rfl ?_
  refine a_cVBv (q := 7) _ dX9_increment_4 kX9_119 (m_isEdge _ g3) rfl rfl rfl (Nat.le_of_ble_eq_true rfl) ⟨(Nat.le_of_ble_eq_true rfl), (Nat.le_of_ble_eq_true rfl)⟩ ⟨(Nat.le_of_ble_eq_true rfl), (Nat.le_of_ble_eq_true rfl)⟩ rfl ?_
  refine a_cVBv (q := 10) _ dX9_increment_7 kX9_192 (m_lack _) rfl rfl rfl (Nat.le_of_ble_eq_true rfl) ⟨(Nat.le_of_ble_eq_true rfl), (Nat.le_of_ble_eq_true rfl)⟩ ⟨(Nat.le_of_ble_eq_true rfl), (Nat.le_of_ble_eq_true rfl)⟩ rfl ?_
  refine a_putB (q := 13) dX9_increment_10 fX9_81 (fun h => nomatch h) rfl (Nat.le_of_ble_eq_true rfl) rfl rfl rfl ?_
  refine a_aload_n (q := 14) dX9_increment_13 rfl rfl rfl ?_
  refine a_getB (q := 17) dX9_increment_14 fX9_81 rfl rfl rfl ?_
  refine a_if_leN (q := 20) 24 dX9_increment_17 (by decide) (by omega) rfl (fun c17 => ?_) (fun c17 => ?_)
  · omega
  · skip
    refine a_iconst (q := 21) (nI 0) dX9_increment_20 (by decide) rfl ?_
    refine a_goto 35 dX9_increment_21 (by decide) ?_
    exact a_iret dX9_increment_35 rfl rfl (Nat.le_of_ble_eq_true rfl) (Nat.le_of_ble_eq_true rfl) (⟨rfl, rfl, rfl, rfl⟩)
/-- the chords: their number, or their weight -/
def chS (G : Gr) (bk it : Nat → Bool) (b : Bool) (k : Nat) : Nat := if mIs G bk k = true ∧ it k = false then (if b = true then G.2.2.2.2 (k / 2) else 1) else 0
def chF (G : Gr) (bk it : Nat → Bool) (b : Bool) : Nat → Nat → Nat → Nat
  | 0, _, s => s
  | m + 1, k, s => chF G bk it b m (k + 1) (s + chS G bk it b k)
theorem l_ch (P : ps_T) (b : Bool) (hg : gok G) (hw : ∀ i, i < 24 → G.2.2.2.2 i ≤ 99) : ∀ (m k s : Nat), 2 * G.2.1 - k = m → k ≤ 2 * G.2.1 → s ≤ 99 * k → P (some (.int (nI (chF G Y.2.1 Y.2.2.2.2.2 b m k s)))) 0 A (BM g G T th Y W R Z U L h O) → AW g mX9_chordSum 0 0 P noX 0 0 4 [some (.ref (g.2.1 + 0)), some (.int (b2 b)), some (.int (nI s)), some (.int (nI k))] [] 0 A (BM g G T th Y W R Z U L h O) := by
  intro m
  obtain ⟨g1, g2, g3, g4, g5⟩ := id hg
  induction m with
  | zero =>
    intro k s hm hk hs hp
    refine a_iload_n (q := 5) dX9_chordSum_4 rfl rfl rfl ?_
    refine a_iconst (q := 6) (nI 2) dX9_chordSum_5 (by decide) rfl ?_
    refine a_aload_n (q := 7) dX9_chordSum_6 rfl rfl rfl ?_
    refine a_getB (q := 10) dX9_chordSum_7 fX9_101 rfl rfl rfl ?_
    refine a_imulN (q := 11) dX9_chordSum_10 rfl ?_
    refine a_icmp_geN (q := 14) 60 dX9_chordSum_11 (by decide) (by omega) (by omega) rfl (fun c11 => ?_) (fun c11 => ?_)
    · skip
      refine a_iload_n (q := 61) dX9_chordSum_60 rfl rfl rfl ?_
      exact a_iret dX9_chordSum_61 rfl rfl (Nat.le_of_ble_eq_true rfl) (Nat.le_of_ble_eq_true rfl) (hp)
    · omega
  | succ m ih =>
    intro k s hm hk hs hp
    unfold chF at hp
    have h3 := hw (k / 2) (by omega)
    refine a_iload_n (q := 5) dX9_chordSum_4 rfl rfl rfl ?_
    refine a_iconst (q := 6) (nI 2) dX9_chordSum_5 (by decide) rfl ?_
    refine a_aload_n (q := 7) dX9_chordSum_6 rfl rfl rfl ?_
    refine a_getB (q := 10) dX9_chordSum_7 fX9_101 rfl rfl rfl ?_
    refine a_imulN (q := 11) dX9_chordSum_10 rfl ?_
    refine a_icmp_geN (q := 14) 60 dX9_chordSum_11 (by decide) (by omega) (by omega) rfl (fun c11 => ?_) (fun c11 => ?_)
    · omega
    · skip
      refine a_iload_n (q := 15) dX9_chordSum_14 rfl rfl rfl ?_
      refine a_aload_n (q := 16) dX9_chordSum_15 rfl rfl rfl ?_
      refine a_iload_n (q := 17) dX9_chordSum_16 rfl rfl rfl ?_
      refine a_cVBv (q := 20) _ dX9_chordSum_17 kX9_148 (m_isLink k (by omega) g3) rfl rfl rfl (Nat.le_of_ble_eq_true rfl) ⟨(Nat.le_of_ble_eq_true rfl), (Nat.le_of_ble_eq_true rfl)⟩ ⟨(Nat.le_of_ble_eq_true rfl), (Nat.le_of_ble_eq_true rfl)⟩ rfl ?_
      refine a_if_eqZ (q := 23) 51 dX9_chordSum_20 (by decide) rfl (fun c20 => ?_) (fun c20 => ?_)
      · rw [show chS G Y.2.1 Y.2.2.2.2.2 b k = 0 from if_neg (fun q => by rw [c20] at q; cases q.1)] at hp
        refine a_iconst (q := 52) (nI 0) dX9_chordSum_51 (by decide) rfl ?_
        refine a_iaddN (q := 53) dX9_chordSum_52 rfl ?_
        refine a_istore_n (q := 54) dX9_chordSum_53 rfl (Nat.le_of_ble_eq_true rfl) rfl rfl ?_
        refine a_iincN (q := 57) (c := 1) dX9_chordSum_54 rfl (by decide) rfl rfl ?_
        refine a_goto 4 dX9_chordSum_57 (by decide) ?_
        exact ih (k + 1) _ (by omega) (by omega) (by omega) hp
      · skip
        refine a_aload_n (q := 24) dX9_chordSum_23 rfl rfl rfl ?_
        refine a_getB (q := 27) dX9_chordSum_24 fX9_39 rfl rfl rfl ?_
        refine a_iload_n (q := 28) dX9_chordSum_27 rfl rfl rfl ?_
        refine a_zaldBN (q := 29) dX9_chordSum_28 rfl (by omega) (by decide) rfl ?_
        refine a_if_neZ (q := 32) 51 dX9_chordSum_29 (by decide) rfl (fun c29 => ?_) (fun c29 => ?_)
        · rw [show chS G Y.2.1 Y.2.2.2.2.2 b k = 0 from if_neg (fun q => by rw [c29] at q; cases q.2)] at hp
          refine a_iconst (q := 52) (nI 0) dX9_chordSum_51 (by decide) rfl ?_
          refine a_iaddN (q := 53) dX9_chordSum_52 rfl ?_
          refine a_istore_n (q := 54) dX9_chordSum_53 rfl (Nat.le_of_ble_eq_true rfl) rfl rfl ?_
          refine a_iincN (q := 57) (c := 1) dX9_chordSum_54 rfl (by decide) rfl rfl ?_
          refine a_goto 4 dX9_chordSum_57 (by decide) ?_
          exact ih (k + 1) _ (by omega) (by omega) (by omega) hp
        · skip
          refine a_iload_n (q := 33) dX9_chordSum_32 rfl rfl rfl ?_
          refine a_if_eqZ (q := 36) 47 dX9_chordSum_33 (by decide) rfl (fun c33 => ?_) (fun c33 => ?_)
          · rw [show chS G Y.2.1 Y.2.2.2.2.2 b k = 1 by unfold chS; rw [if_pos ⟨c20, c29⟩, if_neg (by rw [c33]; decide)]] at hp
            refine a_iconst (q := 48) (nI 1) dX9_chordSum_47 (by decide) rfl ?_
            refine a_goto 52 dX9_chordSum_48 (by decide) ?_
            refine a_iaddN (q := 53) dX9_chordSum_52 rfl ?_
            refine a_istore_n (q := 54) dX9_chordSum_53 rfl (Nat.le_of_ble_eq_true rfl) rfl rfl ?_
            refine a_iincN (q := 57) (c := 1) dX9_chordSum_54 rfl (by decide) rfl rfl ?_
            refine a_goto 4 dX9_chordSum_57 (by decide) ?_
            exact ih (k + 1) _ (by omega) (by omega) (by omega) hp
          · rw [show chS G Y.2.1 Y.2.2.2.2.2 b k = G.2.2.2.2 (k / 2) by unfold chS; rw [if_pos ⟨c20, c29⟩, if_pos c33]] at hp
            refine a_aload_n (q := 37) dX9_chordSum_36 rfl rfl rfl ?_
            refine a_getB (q := 40) dX9_chordSum_37 fX9_20 rfl rfl rfl ?_
            refine a_iload_n (q := 41) dX9_chordSum_40 rfl rfl rfl ?_
            refine a_iconst (q := 42) (nI 2) dX9_chordSum_41 (by decide) rfl ?_
            refine a_idivN (q := 43) dX9_chordSum_42 (by omega) ⟨by omega, by decide⟩ rfl ?_
            refine a_ialdBN (q := 44) dX9_chordSum_43 rfl (by omega) (by decide) rfl ?_
            refine a_goto 52 dX9_chordSum_44 (by decide) ?_
            refine a_iaddN (q := 53) dX9_chordSum_52 rfl ?_
            refine a_istore_n (q := 54) dX9_chordSum_53 rfl (Nat.le_of_ble_eq_true rfl) rfl rfl ?_
            refine a_iincN (q := 57) (c := 1) dX9_chordSum_54 rfl (by decide) rfl rfl ?_
            refine a_goto 4 dX9_chordSum_57 (by decide) ?_
            exact ih (k + 1) _ (by omega) (by omega) (by omega) hp
theorem m_chordSum (b : Bool) (hg : gok G) (hw : ∀ i, i < 24 → G.2.2.2.2 i ≤ 99) : Ct g mX9_chordSum [.ref (g.2.1 + 0), .int (b2 b)] 0 A (BM g G T th Y W R Z U L h O) 0 0 (rP (some (.int (nI (chF G Y.2.1 Y.2.2.2.2.2 b (2 * G.2.1) 0 0)))) A (BM g G T th Y W R Z U L h O)) noX := by
  refine Ct.of [some (.ref (g.2.1 + 0)), some (.int (b2 b)), none, none] (by decide) rfl (Nat.le_of_ble_eq_true rfl) rfl ?_
  refine a_iconst (q := 1) (nI 0) dX9_chordSum_0 (by decide) rfl ?_
  refine a_istore_n (q := 2) dX9_chordSum_1 rfl (Nat.le_of_ble_eq_true rfl) rfl rfl ?_
  refine a_iconst (q := 3) (nI 0) dX9_chordSum_2 (by decide) rfl ?_
  refine a_istore_n (q := 4) dX9_chordSum_3 rfl (Nat.le_of_ble_eq_true rfl) rfl rfl ?_
  exact l_ch _ b hg hw _ 0 0 rfl (Nat.zero_le _) (Nat.zero_le _) ⟨rfl, rfl, rfl, rfl⟩
theorem m_chords (b : Bool) (hg : gok G) (hw : ∀ i, i < 24 → G.2.2.2.2 i ≤ 99) (ha : Y.1 = true) : Ct g mX9_chords [.ref (g.2.1 + 0), .int (b2 b)] 0 A (BM g G T th Y W R Z U L h O) 0 0 (rP (some (.int (nI (chF G Y.2.1 Y.2.2.2.2.2 b (2 * G.2.1) 0 0)))) A (BM g G T 0 Y W R Z U L h O)) noX := by
  refine Ct.of [some (.ref (g.2.1 + 0)), some (.int (b2 b))] (by decide) rfl (Nat.le_of_ble_eq_true rfl) rfl ?_
  refine a_aload_n (q := 1) dX9_chords_0 rfl rfl rfl ?_
  refine a_aload_n (q := 2) dX9_chords_1 rfl rfl rfl ?_
  refine a_getB (q := 5) dX9_chords_2 fX9_84 rfl rfl rfl ?_
  refine a_if_eqZ (q := 8) 12 dX9_chords_5 (by decide) rfl (fun c5 => ?_) (fun c5 => ?_)
  · rw [ha] at c5; cases c5
  · skip
    refine a_iconst (q := 9) (nI 0) dX9_chords_8 (by decide) rfl ?_
    refine a_goto 13 dX9_chords_9 (by decide) ?_
    refine a_putB (q := 16) dX9_chords_13 fX9_81 (fun h => nomatch h) rfl (Nat.le_of_ble_eq_true rfl) rfl rfl rfl ?_
    refine a_aload_n (q := 17) dX9_chords_16 rfl rfl rfl ?_
    refine a_getB (q := 20) dX9_chords_17 fX9_81 rfl rfl rfl ?_
    refine a_if_leN (q := 23) 27 dX9_chords_20 (by decide) (by omega) rfl (fun c20 => ?_) (fun c20 => ?_)
    · skip
      refine a_aload_n (q := 28) dX9_chords_27 rfl rfl rfl ?_
      refine a_iload_n (q := 29) dX9_chords_28 rfl rfl rfl ?_
      refine a_cVBv (q := 32) _ dX9_chords_29 kX9_200 (m_chordSum (G := G) (th := 0) b hg hw) rfl rfl rfl (Nat.le_of_ble_eq_true rfl) ⟨(Nat.le_of_ble_eq_true rfl), (Nat.le_of_ble_eq_true rfl)⟩ ⟨(Nat.le_of_ble_eq_true rfl), (Nat.le_of_ble_eq_true rfl)⟩ rfl ?_
      exact a_iret dX9_chords_32 rfl rfl (Nat.le_of_ble_eq_true rfl) (Nat.le_of_ble_eq_true rfl) (⟨rfl, rfl, rfl, rfl⟩)
    · exact absurd c20 (by decide)
theorem mx_chords (b : Bool) (ha : Y.1 = false) : Ct g mX9_chords [.ref (g.2.1 + 0), .int (b2 b)] 0 A (BM g G T th Y W R Z U L h O) 0 0 (rP (some (.int (nI 0))) A (BM g G T 1 Y W R Z U L h O)) noX := by
  refine Ct.of [some (.ref (g.2.1 + 0)), some (.int (b2 b))] (by decide) rfl (Nat.le_of_ble_eq_true rfl) rfl ?_
  refine a_aload_n (q := 1) dX9_chords_0 rfl rfl rfl ?_
  refine a_aload_n (q := 2) dX9_chords_1 rfl rfl rfl ?_
  refine a_getB (q := 5) dX9_chords_2 fX9_84 rfl rfl rfl ?_
  refine a_if_eqZ (q := 8) 12 dX9_chords_5 (by decide) rfl (fun c5 => ?_) (fun c5 => ?_)
  · skip
    refine a_iconst (q := 13) (nI 1) dX9_chords_12 (by decide) rfl ?_
    refine a_putB (q := 16) dX9_chords_13 fX9_81 (fun h => nomatch h) rfl (Nat.le_of_ble_eq_true rfl) rfl rfl rfl ?_
    refine a_aload_n (q := 17) dX9_chords_16 rfl rfl rfl ?_
    refine a_getB (q := 20) dX9_chords_17 fX9_81 rfl rfl rfl ?_
    refine a_if_leN (q := 23) 27 dX9_chords_20 (by decide) (by omega) rfl (fun c20 => ?_) (fun c20 => ?_)
    · exact absurd c20 (by decide)
    · skip
      refine a_iconst (q := 24) (nI 0) dX9_chords_23 (by decide) rfl ?_
      refine a_goto 32 dX9_chords_24 (by decide) ?_
      exact a_iret dX9_chords_32 rfl rfl (Nat.le_of_ble_eq_true rfl) (Nat.le_of_ble_eq_true rfl) (⟨rfl, rfl, rfl, rfl⟩)
  · rw [ha] at c5; cases c5
/-- a path's number -/
def mPt (an : Bool) (x p0 : Int32) : Bool := an && wi x (nI 0) (p0 - nI 1)
theorem m_isPath (x : Int32) : Ct g mX9_isPath [.ref (g.2.1 + 0), .int x] 0 A (BM g G T th Y W R Z U L h O) 0 0 (rP (some (.int (b2 (mPt Y.1 x (Y.2.2.1 0))))) A (BM g G T th Y W R Z U L h O)) noX := by
  refine Ct.of [some (.ref (g.2.1 + 0)), some (.int x)] (by decide) rfl (Nat.le_of_ble_eq_true rfl) rfl ?_
  refine a_aload_n (q := 1) dX9_isPath_0 rfl rfl rfl ?_
  refine a_getB (q := 4) dX9_isPath_1 fX9_84 rfl rfl rfl ?_
  refine a_if_eqZ (q := 7) 27 dX9_isPath_4 (by decide) rfl (fun c4 => ?_) (fun c4 => ?_)
  · skip
    refine a_iconst (q := 28) (b2 false) dX9_isPath_27 (by decide) rfl ?_
    exact a_iret dX9_isPath_28 rfl (b2_narrow _) (Nat.le_of_ble_eq_true rfl) (Nat.le_of_ble_eq_true rfl) (⟨by unfold mPt; simp [*], rfl, rfl, rfl⟩)
  · skip
    refine a_iload_n (q := 8) dX9_isPath_7 rfl rfl rfl ?_
    refine a_iconst (q := 9) (nI 0) dX9_isPath_8 (by decide) rfl ?_
    refine a_aload_n (q := 10) dX9_isPath_9 rfl rfl rfl ?_
    refine a_getB (q := 13) dX9_isPath_10 fX9_30 rfl rfl rfl ?_
    refine a_iconst (q := 14) (nI 0) dX9_isPath_13 (by decide) rfl ?_
    refine a_ialdBI (q := 15) dX9_isPath_14 rfl (by omega) (by decide) rfl ?_
    refine a_iconst (q := 16) (nI 1) dX9_isPath_15 (by decide) rfl ?_
    refine a_isub (q := 17) dX9_isPath_16 rfl ?_
    refine a_cSv (q := 20) _ dX9_isPath_17 kX9_97 (m_within _ _ _) rfl rfl (Nat.le_of_ble_eq_true rfl) ⟨(Nat.le_of_ble_eq_true rfl), (Nat.le_of_ble_eq_true rfl)⟩ ⟨(Nat.le_of_ble_eq_true rfl), (Nat.le_of_ble_eq_true rfl)⟩ rfl ?_
    refine a_if_eqZ (q := 23) 27 dX9_isPath_20 (by decide) rfl (fun c20 => ?_) (fun c20 => ?_)
    · skip
      refine a_iconst (q := 28) (b2 false) dX9_isPath_27 (by decide) rfl ?_
      exact a_iret dX9_isPath_28 rfl (b2_narrow _) (Nat.le_of_ble_eq_true rfl) (Nat.le_of_ble_eq_true rfl) (⟨by unfold mPt; simp [*], rfl, rfl, rfl⟩)
    · skip
      refine a_iconst (q := 24) (b2 true) dX9_isPath_23 (by decide) rfl ?_
      refine a_goto 28 dX9_isPath_24 (by decide) ?_
      exact a_iret dX9_isPath_28 rfl (b2_narrow _) (Nat.le_of_ble_eq_true rfl) (Nat.le_of_ble_eq_true rfl) (⟨by unfold mPt; simp [*], rfl, rfl, rfl⟩)
end MFace

