/-! ===== calls that always throw ===== -/
abbrev noP : ps_T := fun _ _ _ _ => False
abbrev tX (E : String) (A1 B1 : List va_E) : xs_T := fun E' z A B => E' = E ∧ z = 0 ∧ A = A1 ∧ B = B1
section ThrowCalls
variable {g : gp_T} {M : md_T} {mc ms : Nat} {P : ps_T} {X : xs_T} {kc ns pc : Nat} {L : List (Option Value)} {S S0 : List Value} {z : Nat} {A B A1 B1 : List va_E} {y : md_T} {index ci j n : Nat} {fs : List Value} {E : String}
theorem a_xVA (As : List Value) (d : decode M.2.1 pc = .ok (.invokevirtual index, 3)) (cv : cVw M.1.cls index ci y n) (hM : Ct g y (.ref (g.1 + j) :: As) z A B 1 6 noP (tX E A1 B1)) (hA : A[j]? = some (.inr (ci, fs))) (hn : As.length = n) (hS0 : S0 = As.reverse ++ .ref (g.1 + j) :: S) (hcat : (S.map fun v => v.category).sum ≤ 8) (hR : y.2.2.2.2.1 + 1 ≤ M.2.2.2.2.1 ∧ 8 + (y.2.2.1 + 11) + y.2.2.2.2.2.1 ≤ M.2.2.2.2.2.1) (hf : kc + 1 ≤ mc ∧ ns + 6 ≤ ms) (kx : AX g M mc ms P X (kc + 1) (ns + 6) pc L E 0 A1 B1) : AW g M mc ms P X kc ns pc L S0 z A B :=
  a_callVA As d cv hM hA hn hS0 hcat hR hf rfl (fun v z9 A9 B9 h => h.elim) (fun E9 z9 A9 B9 h => by obtain ⟨rfl, rfl, rfl, rfl⟩ := h; exact kx)
theorem a_widen {k n : Nat} (hk : kc ≤ k) (hn : ns ≤ n) (kk : AW g M mc ms P X k n pc L S z A B) : AW g M mc ms P X kc ns pc L S z A B :=
  fun p l e s m args below meth c H locs ls C hH hS hl => W.widen hk hn (kk p l e s m args below meth c H locs ls C hH hS hl)
end ThrowCalls
/-! ===== PathProfiler: the small ones ===== -/
def cbl (an : Bool) (p0 : Int32) : Bool := an && decide (¬ nI 200 < p0)
def ptk (p p0 : Int32) : Bool := decide (¬ p < 0 ∧ p < p0)
section Prof0
variable {g : gp_T} {B : List va_E} {G : Gr} {T : Tx} {R : Rd} {S : Se} {K : Lk} {E : Tr} {Q : Pa} {V : Wk} {an : Bool}
theorem c_discard : Ct g mX8_discardAnalysis [.ref (g.1 + 0)] 0 (CA g G T R S K E Q V an) B 0 0 (rP none (CA g G T R S K E Q noW false) B) noX := by
  refine Ct.of [some (.ref (g.1 + 0))] (by decide) rfl (Nat.le_of_ble_eq_true rfl) rfl ?_
  refine a_aload_n (q := 1) dX8_discardAnalysis_0 rfl rfl rfl ?_
  refine a_iconst (q := 2) (b2 false) dX8_discardAnalysis_1 (by decide) rfl ?_
  refine a_putA (q := 5) dX8_discardAnalysis_2 fX8_71 (fun h => nomatch h) rfl (Nat.le_of_ble_eq_true rfl) (b2_narrow _) rfl rfl ?_
  refine a_aload_n (q := 6) dX8_discardAnalysis_5 rfl rfl rfl ?_
  refine a_getA (q := 9) dX8_discardAnalysis_6 fX8_67 rfl rfl rfl ?_
  refine a_cVA0 (q := 12) _ dX8_discardAnalysis_9 kX8_279 (c_forget) rfl rfl rfl (Nat.le_of_ble_eq_true rfl) ⟨(Nat.le_of_ble_eq_true rfl), (Nat.le_of_ble_eq_true rfl)⟩ ⟨(Nat.le_of_ble_eq_true rfl), (Nat.le_of_ble_eq_true rfl)⟩ rfl ?_
  exact a_ret dX8_discardAnalysis_12 rfl (Nat.le_of_ble_eq_true rfl) (Nat.le_of_ble_eq_true rfl) (⟨rfl, rfl, rfl, rfl⟩)
theorem c_isCountable : Ct g mX8_isCountable [.ref (g.1 + 0)] 0 (CA g G T R S K E Q V an) B 0 0 (rP (some (.int (b2 (cbl an (K.2.2.2 0))))) (CA g G T R S K E Q V an) B) noX := by
  refine Ct.of [some (.ref (g.1 + 0))] (by decide) rfl (Nat.le_of_ble_eq_true rfl) rfl ?_
  unfold cbl
  refine a_aload_n (q := 1) dX8_isCountable_0 rfl rfl rfl ?_
  refine a_getA (q := 4) dX8_isCountable_1 fX8_71 rfl rfl rfl ?_
  refine a_if_eqZ (q := 7) 24 dX8_isCountable_4 (by decide) rfl (fun c4 => ?_) (fun c4 => ?_)
  · skip
    refine a_iconst (q := 25) (b2 false) dX8_isCountable_24 (by decide) rfl ?_
    exact a_iret dX8_isCountable_25 rfl (b2_narrow _) (Nat.le_of_ble_eq_true rfl) (Nat.le_of_ble_eq_true rfl) (⟨by simp [*], rfl, rfl, rfl⟩)
  · skip
    refine a_aload_n (q := 8) dX8_isCountable_7 rfl rfl rfl ?_
    refine a_getA (q := 11) dX8_isCountable_8 fX8_44 rfl rfl rfl ?_
    refine a_cVAv (q := 14) _ dX8_isCountable_11 kX8_160 (c_allPaths) rfl rfl rfl (Nat.le_of_ble_eq_true rfl) ⟨(Nat.le_of_ble_eq_true rfl), (Nat.le_of_ble_eq_true rfl)⟩ ⟨(Nat.le_of_ble_eq_true rfl), (Nat.le_of_ble_eq_true rfl)⟩ rfl ?_
    refine a_sipush (q := 17) (nI 200) dX8_isCountable_14 (by decide) rfl ?_
    refine a_icmp_gt (q := 20) 24 dX8_isCountable_17 (by decide) rfl (fun c17 => ?_) (fun c17 => ?_)
    · skip
      refine a_iconst (q := 25) (b2 false) dX8_isCountable_24 (by decide) rfl ?_
      exact a_iret dX8_isCountable_25 rfl (b2_narrow _) (Nat.le_of_ble_eq_true rfl) (Nat.le_of_ble_eq_true rfl) (⟨by simp [*], rfl, rfl, rfl⟩)
    · skip
      refine a_iconst (q := 21) (b2 true) dX8_isCountable_20 (by decide) rfl ?_
      refine a_goto 25 dX8_isCountable_21 (by decide) ?_
      exact a_iret dX8_isCountable_25 rfl (b2_narrow _) (Nat.le_of_ble_eq_true rfl) (Nat.le_of_ble_eq_true rfl) (⟨by simp [*], rfl, rfl, rfl⟩)
theorem c_reqA (h : an = true) : Ct g mX8_requireAnalysis [.ref (g.1 + 0)] 0 (CA g G T R S K E Q V an) B 0 0 (rP none (CA g G T R S K E Q V an) B) noX := by
  refine Ct.of [some (.ref (g.1 + 0))] (by decide) rfl (Nat.le_of_ble_eq_true rfl) rfl ?_
  refine a_aload_n (q := 1) dX8_requireAnalysis_0 rfl rfl rfl ?_
  refine a_getA (q := 4) dX8_requireAnalysis_1 fX8_71 rfl rfl rfl ?_
  refine a_if_neZ (q := 7) 18 dX8_requireAnalysis_4 (by decide) rfl (fun c4 => ?_) (fun c4 => ?_)
  · skip
    exact a_ret dX8_requireAnalysis_18 rfl (Nat.le_of_ble_eq_true rfl) (Nat.le_of_ble_eq_true rfl) (⟨rfl, rfl, rfl, rfl⟩)
  · rw [h] at c4; cases c4
theorem x_reqA (h : an = false) : Ct g mX8_requireAnalysis [.ref (g.1 + 0)] 0 (CA g G T R S K E Q V an) B 1 6 noP (tX xIS (CA g G T R S K E Q V an) B) := by
  refine Ct.of [some (.ref (g.1 + 0))] (by decide) rfl (Nat.le_of_ble_eq_true rfl) rfl ?_
  refine a_aload_n (q := 1) dX8_requireAnalysis_0 rfl rfl rfl ?_
  refine a_getA (q := 4) dX8_requireAnalysis_1 fX8_71 rfl rfl rfl ?_
  refine a_if_neZ (q := 7) 18 dX8_requireAnalysis_4 (by decide) rfl (fun c4 => ?_) (fun c4 => ?_)
  · rw [h] at c4; cases c4
  · skip
    exact a_throwW dX8_requireAnalysis_7 dX8_requireAnalysis_10 dX8_requireAnalysis_11 dX8_requireAnalysis_14 dX8_requireAnalysis_17 tX8_282 rfl ⟨(Nat.le_of_ble_eq_true rfl), (Nat.le_of_ble_eq_true rfl)⟩ ⟨(Nat.le_of_ble_eq_true rfl), (Nat.le_of_ble_eq_true rfl)⟩ (⟨rfl, rfl, rfl, rfl⟩)
theorem c_reqC (h : cbl an (K.2.2.2 0) = true) : Ct g mX8_requireCounts [.ref (g.1 + 0)] 0 (CA g G T R S K E Q V an) B 0 0 (rP none (CA g G T R S K E Q V an) B) noX := by
  refine Ct.of [some (.ref (g.1 + 0))] (by decide) rfl (Nat.le_of_ble_eq_true rfl) rfl ?_
  refine a_aload_n (q := 1) dX8_requireCounts_0 rfl rfl rfl ?_
  refine a_cVAv (q := 4) _ dX8_requireCounts_1 kX8_284 (c_isCountable) rfl rfl rfl (Nat.le_of_ble_eq_true rfl) ⟨(Nat.le_of_ble_eq_true rfl), (Nat.le_of_ble_eq_true rfl)⟩ ⟨(Nat.le_of_ble_eq_true rfl), (Nat.le_of_ble_eq_true rfl)⟩ rfl ?_
  refine a_if_neZ (q := 7) 18 dX8_requireCounts_4 (by decide) rfl (fun c4 => ?_) (fun c4 => ?_)
  · skip
    exact a_ret dX8_requireCounts_18 rfl (Nat.le_of_ble_eq_true rfl) (Nat.le_of_ble_eq_true rfl) (⟨rfl, rfl, rfl, rfl⟩)
  · rw [h] at c4; cases c4
theorem x_reqC (h : cbl an (K.2.2.2 0) = false) : Ct g mX8_requireCounts [.ref (g.1 + 0)] 0 (CA g G T R S K E Q V an) B 1 6 noP (tX xIS (CA g G T R S K E Q V an) B) := by
  refine Ct.of [some (.ref (g.1 + 0))] (by decide) rfl (Nat.le_of_ble_eq_true rfl) rfl ?_
  refine a_aload_n (q := 1) dX8_requireCounts_0 rfl rfl rfl ?_
  refine a_cVAv (q := 4) _ dX8_requireCounts_1 kX8_284 (c_isCountable) rfl rfl rfl (Nat.le_of_ble_eq_true rfl) ⟨(Nat.le_of_ble_eq_true rfl), (Nat.le_of_ble_eq_true rfl)⟩ ⟨(Nat.le_of_ble_eq_true rfl), (Nat.le_of_ble_eq_true rfl)⟩ rfl ?_
  refine a_if_neZ (q := 7) 18 dX8_requireCounts_4 (by decide) rfl (fun c4 => ?_) (fun c4 => ?_)
  · rw [h] at c4; cases c4
  · skip
    exact a_throwW dX8_requireCounts_7 dX8_requireCounts_10 dX8_requireCounts_11 dX8_requireCounts_14 dX8_requireCounts_17 tX8_287 rfl ⟨(Nat.le_of_ble_eq_true rfl), (Nat.le_of_ble_eq_true rfl)⟩ ⟨(Nat.le_of_ble_eq_true rfl), (Nat.le_of_ble_eq_true rfl)⟩ (⟨rfl, rfl, rfl, rfl⟩)
theorem c_reqE (x : Int32) (h : inR x G.2.1 = true) : Ct g mX8_requireEdge [.ref (g.1 + 0), .int x] 0 (CA g G T R S K E Q V an) B 0 0 (rP none (CA g G T R S K E Q V an) B) noX := by
  refine Ct.of [some (.ref (g.1 + 0)), some (.int x)] (by decide) rfl (Nat.le_of_ble_eq_true rfl) rfl ?_
  refine a_aload_n (q := 1) dX8_requireEdge_0 rfl rfl rfl ?_
  refine a_getA (q := 4) dX8_requireEdge_1 fX8_12 rfl rfl rfl ?_
  refine a_iload_n (q := 5) dX8_requireEdge_4 rfl rfl rfl ?_
  refine a_cVAv (q := 8) _ dX8_requireEdge_5 kX8_289 (c_hasEdge (G := G) x rfl) rfl rfl rfl (Nat.le_of_ble_eq_true rfl) ⟨(Nat.le_of_ble_eq_true rfl), (Nat.le_of_ble_eq_true rfl)⟩ ⟨(Nat.le_of_ble_eq_true rfl), (Nat.le_of_ble_eq_true rfl)⟩ rfl ?_
  refine a_if_neZ (q := 11) 22 dX8_requireEdge_8 (by decide) rfl (fun c8 => ?_) (fun c8 => ?_)
  · skip
    exact a_ret dX8_requireEdge_22 rfl (Nat.le_of_ble_eq_true rfl) (Nat.le_of_ble_eq_true rfl) (⟨rfl, rfl, rfl, rfl⟩)
  · rw [h] at c8; cases c8
theorem x_reqE (x : Int32) (h : inR x G.2.1 = false) : Ct g mX8_requireEdge [.ref (g.1 + 0), .int x] 0 (CA g G T R S K E Q V an) B 1 6 noP (tX xIB (CA g G T R S K E Q V an) B) := by
  refine Ct.of [some (.ref (g.1 + 0)), some (.int x)] (by decide) rfl (Nat.le_of_ble_eq_true rfl) rfl ?_
  refine a_aload_n (q := 1) dX8_requireEdge_0 rfl rfl rfl ?_
  refine a_getA (q := 4) dX8_requireEdge_1 fX8_12 rfl rfl rfl ?_
  refine a_iload_n (q := 5) dX8_requireEdge_4 rfl rfl rfl ?_
  refine a_cVAv (q := 8) _ dX8_requireEdge_5 kX8_289 (c_hasEdge (G := G) x rfl) rfl rfl rfl (Nat.le_of_ble_eq_true rfl) ⟨(Nat.le_of_ble_eq_true rfl), (Nat.le_of_ble_eq_true rfl)⟩ ⟨(Nat.le_of_ble_eq_true rfl), (Nat.le_of_ble_eq_true rfl)⟩ rfl ?_
  refine a_if_neZ (q := 11) 22 dX8_requireEdge_8 (by decide) rfl (fun c8 => ?_) (fun c8 => ?_)
  · rw [h] at c8; cases c8
  · skip
    exact a_throwW dX8_requireEdge_11 dX8_requireEdge_14 dX8_requireEdge_15 dX8_requireEdge_18 dX8_requireEdge_21 tX8_292 rfl ⟨(Nat.le_of_ble_eq_true rfl), (Nat.le_of_ble_eq_true rfl)⟩ ⟨(Nat.le_of_ble_eq_true rfl), (Nat.le_of_ble_eq_true rfl)⟩ (⟨rfl, rfl, rfl, rfl⟩)
theorem c_reqP (x : Int32) (h : ptk x (K.2.2.2 0) = true) : Ct g mX8_requirePath [.ref (g.1 + 0), .int x] 0 (CA g G T R S K E Q V an) B 0 0 (rP none (CA g G T R S K E Q V an) B) noX := by
  obtain ⟨h1, h2⟩ := of_decide_eq_true h
  refine Ct.of [some (.ref (g.1 + 0)), some (.int x)] (by decide) rfl (Nat.le_of_ble_eq_true rfl) rfl ?_
  refine a_iload_n (q := 1) dX8_requirePath_0 rfl rfl rfl ?_
  refine a_if_lt (q := 4) 15 dX8_requirePath_1 (by decide) rfl (fun c1 => ?_) (fun c1 => ?_)
  · exact absurd c1 h1
  · skip
    refine a_iload_n (q := 5) dX8_requirePath_4 rfl rfl rfl ?_
    refine a_aload_n (q := 6) dX8_requirePath_5 rfl rfl rfl ?_
    refine a_getA (q := 9) dX8_requirePath_6 fX8_44 rfl rfl rfl ?_
    refine a_cVAv (q := 12) _ dX8_requirePath_9 kX8_160 (c_allPaths) rfl rfl rfl (Nat.le_of_ble_eq_true rfl) ⟨(Nat.le_of_ble_eq_true rfl), (Nat.le_of_ble_eq_true rfl)⟩ ⟨(Nat.le_of_ble_eq_true rfl), (Nat.le_of_ble_eq_true rfl)⟩ rfl ?_
    refine a_icmp_lt (q := 15) 26 dX8_requirePath_12 (by decide) rfl (fun c12 => ?_) (fun c12 => ?_)
    · skip
      exact a_ret dX8_requirePath_26 rfl (Nat.le_of_ble_eq_true rfl) (Nat.le_of_ble_eq_true rfl) (⟨rfl, rfl, rfl, rfl⟩)
    · exact absurd h2 c12
theorem x_reqP (x : Int32) (h : ptk x (K.2.2.2 0) = false) : Ct g mX8_requirePath [.ref (g.1 + 0), .int x] 0 (CA g G T R S K E Q V an) B 1 6 noP (tX xIB (CA g G T R S K E Q V an) B) := by
  have h1 := of_decide_eq_false h
  refine Ct.of [some (.ref (g.1 + 0)), some (.int x)] (by decide) rfl (Nat.le_of_ble_eq_true rfl) rfl ?_
  refine a_iload_n (q := 1) dX8_requirePath_0 rfl rfl rfl ?_
  refine a_if_lt (q := 4) 15 dX8_requirePath_1 (by decide) rfl (fun c1 => ?_) (fun c1 => ?_)
  · skip
    exact a_throwW dX8_requirePath_15 dX8_requirePath_18 dX8_requirePath_19 dX8_requirePath_22 dX8_requirePath_25 tX8_294 rfl ⟨(Nat.le_of_ble_eq_true rfl), (Nat.le_of_ble_eq_true rfl)⟩ ⟨(Nat.le_of_ble_eq_true rfl), (Nat.le_of_ble_eq_true rfl)⟩ (⟨rfl, rfl, rfl, rfl⟩)
  · skip
    refine a_iload_n (q := 5) dX8_requirePath_4 rfl rfl rfl ?_
    refine a_aload_n (q := 6) dX8_requirePath_5 rfl rfl rfl ?_
    refine a_getA (q := 9) dX8_requirePath_6 fX8_44 rfl rfl rfl ?_
    refine a_cVAv (q := 12) _ dX8_requirePath_9 kX8_160 (c_allPaths) rfl rfl rfl (Nat.le_of_ble_eq_true rfl) ⟨(Nat.le_of_ble_eq_true rfl), (Nat.le_of_ble_eq_true rfl)⟩ ⟨(Nat.le_of_ble_eq_true rfl), (Nat.le_of_ble_eq_true rfl)⟩ rfl ?_
    refine a_icmp_lt (q := 15) 26 dX8_requirePath_12 (by decide) rfl (fun c12 => ?_) (fun c12 => ?_)
    · exact absurd ⟨c1, c12⟩ h1
    · skip
      exact a_throwW dX8_requirePath_15 dX8_requirePath_18 dX8_requirePath_19 dX8_requirePath_22 dX8_requirePath_25 tX8_294 rfl ⟨(Nat.le_of_ble_eq_true rfl), (Nat.le_of_ble_eq_true rfl)⟩ ⟨(Nat.le_of_ble_eq_true rfl), (Nat.le_of_ble_eq_true rfl)⟩ (⟨rfl, rfl, rfl, rfl⟩)
theorem c_setNodes (n : Nat) (h : 2 ≤ n ∧ n ≤ 12) : Ct g mX8_setNodes [.ref (g.1 + 0), .int (nI n)] 0 (CA g G T R S K E Q V an) B 0 0 (rP none (CA g (n, 0, G.2.2) T R S K E Q noW false) B) noX := by
  refine Ct.of [some (.ref (g.1 + 0)), some (.int (nI n))] (by decide) rfl (Nat.le_of_ble_eq_true rfl) rfl ?_
  refine a_iload_n (q := 1) dX8_setNodes_0 rfl rfl rfl ?_
  refine a_iconst (q := 2) (nI 2) dX8_setNodes_1 (by decide) rfl ?_
  refine a_icmp_ltN (q := 5) 11 dX8_setNodes_2 (by decide) (by omega) (by omega) rfl (fun c2 => ?_) (fun c2 => ?_)
  · omega
  · skip
    refine a_iload_n (q := 6) dX8_setNodes_5 rfl rfl rfl ?_
    refine a_bipush (q := 8) (nI 12) dX8_setNodes_6 (by decide) rfl ?_
    refine a_icmp_leN (q := 11) 21 dX8_setNodes_8 (by decide) (by omega) (by omega) rfl (fun c8 => ?_) (fun c8 => ?_)
    · skip
      refine a_aload_n (q := 22) dX8_setNodes_21 rfl rfl rfl ?_
      refine a_getA (q := 25) dX8_setNodes_22 fX8_12 rfl rfl rfl ?_
      refine a_iload_n (q := 26) dX8_setNodes_25 rfl rfl rfl ?_
      refine a_cVA0 (q := 29) _ dX8_setNodes_26 kX8_82 (c_resetG n) rfl rfl rfl (Nat.le_of_ble_eq_true rfl) ⟨(Nat.le_of_ble_eq_true rfl), (Nat.le_of_ble_eq_true rfl)⟩ ⟨(Nat.le_of_ble_eq_true rfl), (Nat.le_of_ble_eq_true rfl)⟩ rfl ?_
      refine a_aload_n (q := 30) dX8_setNodes_29 rfl rfl rfl ?_
      refine a_cVA0 (q := 33) _ dX8_setNodes_30 kX8_86 (c_discard) rfl rfl rfl (Nat.le_of_ble_eq_true rfl) ⟨(Nat.le_of_ble_eq_true rfl), (Nat.le_of_ble_eq_true rfl)⟩ ⟨(Nat.le_of_ble_eq_true rfl), (Nat.le_of_ble_eq_true rfl)⟩ rfl ?_
      exact a_ret dX8_setNodes_33 rfl (Nat.le_of_ble_eq_true rfl) (Nat.le_of_ble_eq_true rfl) (⟨rfl, rfl, rfl, rfl⟩)
    · omega
theorem x_setNodes (x : Int32) (h : x < nI 2 ∨ nI 12 < x) : Ct g mX8_setNodes [.ref (g.1 + 0), .int x] 0 (CA g G T R S K E Q V an) B 1 6 noP (tX xIA (CA g G T R S K E Q V an) B) := by
  refine Ct.of [some (.ref (g.1 + 0)), some (.int x)] (by decide) rfl (Nat.le_of_ble_eq_true rfl) rfl ?_
  refine a_iload_n (q := 1) dX8_setNodes_0 rfl rfl rfl ?_
  refine a_iconst (q := 2) (nI 2) dX8_setNodes_1 (by decide) rfl ?_
  refine a_icmp_lt (q := 5) 11 dX8_setNodes_2 (by decide) rfl (fun c2 => ?_) (fun c2 => ?_)
  · skip
    exact a_throw dX8_setNodes_11 dX8_setNodes_14 dX8_setNodes_15 dX8_setNodes_17 dX8_setNodes_20 tX8_77 rfl ⟨(Nat.le_of_ble_eq_true rfl), (Nat.le_of_ble_eq_true rfl)⟩ ⟨(Nat.le_of_ble_eq_true rfl), (Nat.le_of_ble_eq_true rfl)⟩ (⟨rfl, rfl, rfl, rfl⟩)
  · skip
    refine a_iload_n (q := 6) dX8_setNodes_5 rfl rfl rfl ?_
    refine a_bipush (q := 8) (nI 12) dX8_setNodes_6 (by decide) rfl ?_
    refine a_icmp_le (q := 11) 21 dX8_setNodes_8 (by decide) rfl (fun c8 => ?_) (fun c8 => ?_)
    · exact absurd h (by rintro (q | q); exact c2 q; exact Int32.not_lt.mpr c8 q)
    · skip
      exact a_throw dX8_setNodes_11 dX8_setNodes_14 dX8_setNodes_15 dX8_setNodes_17 dX8_setNodes_20 tX8_77 rfl ⟨(Nat.le_of_ble_eq_true rfl), (Nat.le_of_ble_eq_true rfl)⟩ ⟨(Nat.le_of_ble_eq_true rfl), (Nat.le_of_ble_eq_true rfl)⟩ (⟨rfl, rfl, rfl, rfl⟩)
theorem c_addEdge (a b : Nat) (hn : 1 ≤ G.1) (h : alw G (nI a) (nI b) = true) (he : G.2.1 < 24) : Ct g mX8_addEdge [.ref (g.1 + 0), .int (nI a), .int (nI b)] 0 (CA g G T R S K E Q V an) B 0 0 (rP (some (.int (nI G.2.1))) (CA g (gadd G a b) T R S K E Q noW false) B) noX := by
  refine Ct.of [some (.ref (g.1 + 0)), some (.int (nI a)), some (.int (nI b))] (by decide) rfl (Nat.le_of_ble_eq_true rfl) rfl ?_
  refine a_aload_n (q := 1) dX8_addEdge_0 rfl rfl rfl ?_
  refine a_getA (q := 4) dX8_addEdge_1 fX8_12 rfl rfl rfl ?_
  refine a_iload_n (q := 5) dX8_addEdge_4 rfl rfl rfl ?_
  refine a_iload_n (q := 6) dX8_addEdge_5 rfl rfl rfl ?_
  refine a_cVAv (q := 9) _ dX8_addEdge_6 kX8_89 (c_allows (G := G) _ _ rfl rfl rfl hn (by omega)) rfl rfl rfl (Nat.le_of_ble_eq_true rfl) ⟨(Nat.le_of_ble_eq_true rfl), (Nat.le_of_ble_eq_true rfl)⟩ ⟨(Nat.le_of_ble_eq_true rfl), (Nat.le_of_ble_eq_true rfl)⟩ rfl ?_
  refine a_if_neZ (q := 12) 22 dX8_addEdge_9 (by decide) rfl (fun c9 => ?_) (fun c9 => ?_)
  · skip
    refine a_aload_n (q := 23) dX8_addEdge_22 rfl rfl rfl ?_
    refine a_getA (q := 26) dX8_addEdge_23 fX8_12 rfl rfl rfl ?_
    refine a_cVAv (q := 29) _ dX8_addEdge_26 kX8_95 (c_isFull (G := G) rfl (by omega)) rfl rfl rfl (Nat.le_of_ble_eq_true rfl) ⟨(Nat.le_of_ble_eq_true rfl), (Nat.le_of_ble_eq_true rfl)⟩ ⟨(Nat.le_of_ble_eq_true rfl), (Nat.le_of_ble_eq_true rfl)⟩ rfl ?_
    refine a_if_eqZ (q := 32) 42 dX8_addEdge_29 (by decide) rfl (fun c29 => ?_) (fun c29 => ?_)
    · skip
      refine a_aload_n (q := 43) dX8_addEdge_42 rfl rfl rfl ?_
      refine a_cVA0 (q := 46) _ dX8_addEdge_43 kX8_86 (c_discard) rfl rfl rfl (Nat.le_of_ble_eq_true rfl) ⟨(Nat.le_of_ble_eq_true rfl), (Nat.le_of_ble_eq_true rfl)⟩ ⟨(Nat.le_of_ble_eq_true rfl), (Nat.le_of_ble_eq_true rfl)⟩ rfl ?_
      refine a_aload_n (q := 47) dX8_addEdge_46 rfl rfl rfl ?_
      refine a_getA (q := 50) dX8_addEdge_47 fX8_12 rfl rfl rfl ?_
      refine a_iload_n (q := 51) dX8_addEdge_50 rfl rfl rfl ?_
      refine a_iload_n (q := 52) dX8_addEdge_51 rfl rfl rfl ?_
      refine a_cVAv (q := 55) _ dX8_addEdge_52 kX8_104 (c_addG a b he) rfl rfl rfl (Nat.le_of_ble_eq_true rfl) ⟨(Nat.le_of_ble_eq_true rfl), (Nat.le_of_ble_eq_true rfl)⟩ ⟨(Nat.le_of_ble_eq_true rfl), (Nat.le_of_ble_eq_true rfl)⟩ rfl ?_
      exact a_iret dX8_addEdge_55 rfl rfl (Nat.le_of_ble_eq_true rfl) (Nat.le_of_ble_eq_true rfl) (⟨rfl, rfl, rfl, rfl⟩)
    · exact absurd (of_decide_eq_true c29) (by omega)
  · rw [h] at c9; cases c9
theorem x_addEdge1 (x y : Int32) (hn : 1 ≤ G.1) (he : G.2.1 ≤ 24) (h : alw G x y = false) : Ct g mX8_addEdge [.ref (g.1 + 0), .int x, .int y] 0 (CA g G T R S K E Q V an) B 1 6 noP (tX xIA (CA g G T R S K E Q V an) B) := by
  refine Ct.of [some (.ref (g.1 + 0)), some (.int x), some (.int y)] (by decide) rfl (Nat.le_of_ble_eq_true rfl) rfl ?_
  refine a_aload_n (q := 1) dX8_addEdge_0 rfl rfl rfl ?_
  refine a_getA (q := 4) dX8_addEdge_1 fX8_12 rfl rfl rfl ?_
  refine a_iload_n (q := 5) dX8_addEdge_4 rfl rfl rfl ?_
  refine a_iload_n (q := 6) dX8_addEdge_5 rfl rfl rfl ?_
  refine a_cVAv (q := 9) _ dX8_addEdge_6 kX8_89 (c_allows (G := G) _ _ rfl rfl rfl hn he) rfl rfl rfl (Nat.le_of_ble_eq_true rfl) ⟨(Nat.le_of_ble_eq_true rfl), (Nat.le_of_ble_eq_true rfl)⟩ ⟨(Nat.le_of_ble_eq_true rfl), (Nat.le_of_ble_eq_true rfl)⟩ rfl ?_
  refine a_if_neZ (q := 12) 22 dX8_addEdge_9 (by decide) rfl (fun c9 => ?_) (fun c9 => ?_)
  · rw [h] at c9; cases c9
  · skip
    exact a_throw dX8_addEdge_12 dX8_addEdge_15 dX8_addEdge_16 dX8_addEdge_18 dX8_addEdge_21 tX8_93 rfl ⟨(Nat.le_of_ble_eq_true rfl), (Nat.le_of_ble_eq_true rfl)⟩ ⟨(Nat.le_of_ble_eq_true rfl), (Nat.le_of_ble_eq_true rfl)⟩ (⟨rfl, rfl, rfl, rfl⟩)
theorem x_addEdge2 (x y : Int32) (hn : 1 ≤ G.1) (he : G.2.1 = 24) (h : alw G x y = true) : Ct g mX8_addEdge [.ref (g.1 + 0), .int x, .int y] 0 (CA g G T R S K E Q V an) B 1 6 noP (tX xIS (CA g G T R S K E Q V an) B) := by
  refine Ct.of [some (.ref (g.1 + 0)), some (.int x), some (.int y)] (by decide) rfl (Nat.le_of_ble_eq_true rfl) rfl ?_
  refine a_aload_n (q := 1) dX8_addEdge_0 rfl rfl rfl ?_
  refine a_getA (q := 4) dX8_addEdge_1 fX8_12 rfl rfl rfl ?_
  refine a_iload_n (q := 5) dX8_addEdge_4 rfl rfl rfl ?_
  refine a_iload_n (q := 6) dX8_addEdge_5 rfl rfl rfl ?_
  refine a_cVAv (q := 9) _ dX8_addEdge_6 kX8_89 (c_allows (G := G) _ _ rfl rfl rfl hn (by omega)) rfl rfl rfl (Nat.le_of_ble_eq_true rfl) ⟨(Nat.le_of_ble_eq_true rfl), (Nat.le_of_ble_eq_true rfl)⟩ ⟨(Nat.le_of_ble_eq_true rfl), (Nat.le_of_ble_eq_true rfl)⟩ rfl ?_
  refine a_if_neZ (q := 12) 22 dX8_addEdge_9 (by decide) rfl (fun c9 => ?_) (fun c9 => ?_)
  · skip
    refine a_aload_n (q := 23) dX8_addEdge_22 rfl rfl rfl ?_
    refine a_getA (q := 26) dX8_addEdge_23 fX8_12 rfl rfl rfl ?_
    refine a_cVAv (q := 29) _ dX8_addEdge_26 kX8_95 (c_isFull (G := G) rfl (by omega)) rfl rfl rfl (Nat.le_of_ble_eq_true rfl) ⟨(Nat.le_of_ble_eq_true rfl), (Nat.le_of_ble_eq_true rfl)⟩ ⟨(Nat.le_of_ble_eq_true rfl), (Nat.le_of_ble_eq_true rfl)⟩ rfl ?_
    refine a_if_eqZ (q := 32) 42 dX8_addEdge_29 (by decide) rfl (fun c29 => ?_) (fun c29 => ?_)
    · exact absurd (of_decide_eq_false c29) (by omega)
    · skip
      exact a_throw dX8_addEdge_32 dX8_addEdge_35 dX8_addEdge_36 dX8_addEdge_38 dX8_addEdge_41 tX8_101 rfl ⟨(Nat.le_of_ble_eq_true rfl), (Nat.le_of_ble_eq_true rfl)⟩ ⟨(Nat.le_of_ble_eq_true rfl), (Nat.le_of_ble_eq_true rfl)⟩ (⟨rfl, rfl, rfl, rfl⟩)
  · rw [h] at c9; cases c9
theorem c_setWeight (k w : Nat) (hk : k < G.2.1) (he : G.2.1 ≤ 24) (hw : w ≤ 99) : Ct g mX8_setWeight [.ref (g.1 + 0), .int (nI k), .int (nI w)] 0 (CA g G T R S K E Q V an) B 0 0 (rP (some (.int (nI (G.2.2.2.2 k)))) (CA g (G.1, G.2.1, G.2.2.1, G.2.2.2.1, va_up G.2.2.2.2 k w) T R S K E Q noW false) B) noX := by
  refine Ct.of [some (.ref (g.1 + 0)), some (.int (nI k)), some (.int (nI w)), none] (by decide) rfl (Nat.le_of_ble_eq_true rfl) rfl ?_
  refine a_aload_n (q := 1) dX8_setWeight_0 rfl rfl rfl ?_
  refine a_iload_n (q := 2) dX8_setWeight_1 rfl rfl rfl ?_
  refine a_cVA0 (q := 5) _ dX8_setWeight_2 kX8_108 (c_reqE _ (by rw [inR_nI (by unfold big; omega) (by unfold big; omega)]; exact decide_eq_true hk)) rfl rfl rfl (Nat.le_of_ble_eq_true rfl) ⟨(Nat.le_of_ble_eq_true rfl), (Nat.le_of_ble_eq_true rfl)⟩ ⟨(Nat.le_of_ble_eq_true rfl), (Nat.le_of_ble_eq_true rfl)⟩ rfl ?_
  refine a_iload_n (q := 6) dX8_setWeight_5 rfl rfl rfl ?_
  refine a_if_ltN (q := 9) 15 dX8_setWeight_6 (by decide) (by omega) rfl ?_
  refine a_iload_n (q := 10) dX8_setWeight_9 rfl rfl rfl ?_
  refine a_bipush (q := 12) (nI 99) dX8_setWeight_10 (by decide) rfl ?_
  refine a_icmp_leN (q := 15) 25 dX8_setWeight_12 (by decide) (by omega) (by omega) rfl (fun c12 => ?_) (fun c12 => ?_)
  · skip
    refine a_aload_n (q := 26) dX8_setWeight_25 rfl rfl rfl ?_
    refine a_getA (q := 29) dX8_setWeight_26 fX8_12 rfl rfl rfl ?_
    refine a_getA (q := 32) dX8_setWeight_29 fX8_113 rfl rfl rfl ?_
    refine a_iload_n (q := 33) dX8_setWeight_32 rfl rfl rfl ?_
    refine a_ialdAN (q := 34) dX8_setWeight_33 rfl (by omega) (by decide) rfl ?_
    refine a_istore_n (q := 35) dX8_setWeight_34 rfl (Nat.le_of_ble_eq_true rfl) rfl rfl ?_
    refine a_aload_n (q := 36) dX8_setWeight_35 rfl rfl rfl ?_
    refine a_getA (q := 39) dX8_setWeight_36 fX8_12 rfl rfl rfl ?_
    refine a_getA (q := 42) dX8_setWeight_39 fX8_113 rfl rfl rfl ?_
    refine a_iload_n (q := 43) dX8_setWeight_42 rfl rfl rfl ?_
    refine a_iload_n (q := 44) dX8_setWeight_43 rfl rfl rfl ?_
    refine a_iastAN (q := 45) dX8_setWeight_44 rfl (by omega) (by decide) rfl ?_
    refine a_aload_n (q := 46) dX8_setWeight_45 rfl rfl rfl ?_
    refine a_cVA0 (q := 49) _ dX8_setWeight_46 kX8_86 (c_discard (G := (G.1, G.2.1, G.2.2.1, G.2.2.2.1, va_up G.2.2.2.2 k w))) rfl rfl rfl (Nat.le_of_ble_eq_true rfl) ⟨(Nat.le_of_ble_eq_true rfl), (Nat.le_of_ble_eq_true rfl)⟩ ⟨(Nat.le_of_ble_eq_true rfl), (Nat.le_of_ble_eq_true rfl)⟩ rfl ?_
    refine a_iload_n (q := 50) dX8_setWeight_49 rfl rfl rfl ?_
    exact a_iret dX8_setWeight_50 rfl rfl (Nat.le_of_ble_eq_true rfl) (Nat.le_of_ble_eq_true rfl) (⟨rfl, rfl, rfl, rfl⟩)
  · omega
theorem x_setWeight1 (x w : Int32) (h : inR x G.2.1 = false) : Ct g mX8_setWeight [.ref (g.1 + 0), .int x, .int w] 0 (CA g G T R S K E Q V an) B 1 6 noP (tX xIB (CA g G T R S K E Q V an) B) := by
  refine Ct.of [some (.ref (g.1 + 0)), some (.int x), some (.int w), none] (by decide) rfl (Nat.le_of_ble_eq_true rfl) rfl ?_
  refine a_aload_n (q := 1) dX8_setWeight_0 rfl rfl rfl ?_
  refine a_iload_n (q := 2) dX8_setWeight_1 rfl rfl rfl ?_
  exact a_xVA _ dX8_setWeight_2 kX8_108 (x_reqE x h) rfl rfl rfl (Nat.le_of_ble_eq_true rfl) ⟨(Nat.le_of_ble_eq_true rfl), (Nat.le_of_ble_eq_true rfl)⟩ ⟨(Nat.le_of_ble_eq_true rfl), (Nat.le_of_ble_eq_true rfl)⟩ (ax_out rfl (Nat.le_of_ble_eq_true rfl) (Nat.le_of_ble_eq_true rfl) ⟨rfl, rfl, rfl, rfl⟩)
theorem x_setWeight2 (x w : Int32) (h : inR x G.2.1 = true) (hw : w < 0 ∨ nI 99 < w) : Ct g mX8_setWeight [.ref (g.1 + 0), .int x, .int w] 0 (CA g G T R S K E Q V an) B 1 6 noP (tX xIA (CA g G T R S K E Q V an) B) := by
  refine Ct.of [some (.ref (g.1 + 0)), some (.int x), some (.int w), none] (by decide) rfl (Nat.le_of_ble_eq_true rfl) rfl ?_
  refine a_aload_n (q := 1) dX8_setWeight_0 rfl rfl rfl ?_
  refine a_iload_n (q := 2) dX8_setWeight_1 rfl rfl rfl ?_
  refine a_cVA0 (q := 5) _ dX8_setWeight_2 kX8_108 (c_reqE x h) rfl rfl rfl (Nat.le_of_ble_eq_true rfl) ⟨(Nat.le_of_ble_eq_true rfl), (Nat.le_of_ble_eq_true rfl)⟩ ⟨(Nat.le_of_ble_eq_true rfl), (Nat.le_of_ble_eq_true rfl)⟩ rfl ?_
  refine a_iload_n (q := 6) dX8_setWeight_5 rfl rfl rfl ?_
  refine a_if_lt (q := 9) 15 dX8_setWeight_6 (by decide) rfl (fun c6 => ?_) (fun c6 => ?_)
  · skip
    exact a_throw dX8_setWeight_15 dX8_setWeight_18 dX8_setWeight_19 dX8_setWeight_21 dX8_setWeight_24 tX8_111 rfl ⟨(Nat.le_of_ble_eq_true rfl), (Nat.le_of_ble_eq_true rfl)⟩ ⟨(Nat.le_of_ble_eq_true rfl), (Nat.le_of_ble_eq_true rfl)⟩ (⟨rfl, rfl, rfl, rfl⟩)
  · skip
    refine a_iload_n (q := 10) dX8_setWeight_9 rfl rfl rfl ?_
    refine a_bipush (q := 12) (nI 99) dX8_setWeight_10 (by decide) rfl ?_
    refine a_icmp_le (q := 15) 25 dX8_setWeight_12 (by decide) rfl (fun c12 => ?_) (fun c12 => ?_)
    · exact absurd hw (by rintro (q | q); exact c6 q; exact Int32.not_lt.mpr c12 q)
    · skip
      exact a_throw dX8_setWeight_15 dX8_setWeight_18 dX8_setWeight_19 dX8_setWeight_21 dX8_setWeight_24 tX8_111 rfl ⟨(Nat.le_of_ble_eq_true rfl), (Nat.le_of_ble_eq_true rfl)⟩ ⟨(Nat.le_of_ble_eq_true rfl), (Nat.le_of_ble_eq_true rfl)⟩ (⟨rfl, rfl, rfl, rfl⟩)
theorem c_edgeCount : Ct g mX8_edgeCount [.ref (g.1 + 0)] 0 (CA g G T R S K E Q V an) B 0 0 (rP (some (.int (nI G.2.1))) (CA g G T R S K E Q V an) B) noX := by
  refine Ct.of [some (.ref (g.1 + 0))] (by decide) rfl (Nat.le_of_ble_eq_true rfl) rfl ?_
  refine a_aload_n (q := 1) dX8_edgeCount_0 rfl rfl rfl ?_
  refine a_getA (q := 4) dX8_edgeCount_1 fX8_12 rfl rfl rfl ?_
  refine a_getA (q := 7) dX8_edgeCount_4 fX8_117 rfl rfl rfl ?_
  exact a_iret dX8_edgeCount_7 rfl rfl (Nat.le_of_ble_eq_true rfl) (Nat.le_of_ble_eq_true rfl) (⟨rfl, rfl, rfl, rfl⟩)
theorem c_append (c : Nat) (hc : 32 ≤ c ∧ c ≤ 126) (ht : T.1 < 60) : Ct g mX8_append [.ref (g.1 + 0), .int (nI c)] 0 (CA g G T R S K E Q V an) B 0 0 (rP (some (.int (nI (T.1 + 1)))) (CA g G (tadd T c) R S K E Q V an) B) noX := by
  refine Ct.of [some (.ref (g.1 + 0)), some (.int (nI c))] (by decide) rfl (Nat.le_of_ble_eq_true rfl) rfl ?_
  refine a_iload_n (q := 1) dX8_append_0 rfl rfl rfl ?_
  refine a_bipush (q := 3) (nI 32) dX8_append_1 (by decide) rfl ?_
  refine a_icmp_ltN (q := 6) 12 dX8_append_3 (by decide) (by omega) (by omega) rfl (fun c3 => ?_) (fun c3 => ?_)
  · omega
  · skip
    refine a_iload_n (q := 7) dX8_append_6 rfl rfl rfl ?_
    refine a_bipush (q := 9) (nI 126) dX8_append_7 (by decide) rfl ?_
    refine a_icmp_leN (q := 12) 22 dX8_append_9 (by decide) (by omega) (by omega) rfl (fun c9 => ?_) (fun c9 => ?_)
    · skip
      refine a_aload_n (q := 23) dX8_append_22 rfl rfl rfl ?_
      refine a_getA (q := 26) dX8_append_23 fX8_19 rfl rfl rfl ?_
      refine a_cVAv (q := 29) _ dX8_append_26 kX8_123 (c_tFull (by omega)) rfl rfl rfl (Nat.le_of_ble_eq_true rfl) ⟨(Nat.le_of_ble_eq_true rfl), (Nat.le_of_ble_eq_true rfl)⟩ ⟨(Nat.le_of_ble_eq_true rfl), (Nat.le_of_ble_eq_true rfl)⟩ rfl ?_
      refine a_if_eqZ (q := 32) 42 dX8_append_29 (by decide) rfl (fun c29 => ?_) (fun c29 => ?_)
      · skip
        refine a_aload_n (q := 43) dX8_append_42 rfl rfl rfl ?_
        refine a_getA (q := 46) dX8_append_43 fX8_19 rfl rfl rfl ?_
        refine a_iload_n (q := 47) dX8_append_46 rfl rfl rfl ?_
        refine a_cVA0 (q := 50) _ dX8_append_47 kX8_126 (c_tAdd c ht) rfl rfl rfl (Nat.le_of_ble_eq_true rfl) ⟨(Nat.le_of_ble_eq_true rfl), (Nat.le_of_ble_eq_true rfl)⟩ ⟨(Nat.le_of_ble_eq_true rfl), (Nat.le_of_ble_eq_true rfl)⟩ rfl ?_
        refine a_aload_n (q := 51) dX8_append_50 rfl rfl rfl ?_
        refine a_getA (q := 54) dX8_append_51 fX8_19 rfl rfl rfl ?_
        refine a_getA (q := 57) dX8_append_54 fX8_128 rfl rfl rfl ?_
        exact a_iret dX8_append_57 rfl rfl (Nat.le_of_ble_eq_true rfl) (Nat.le_of_ble_eq_true rfl) (⟨rfl, rfl, rfl, rfl⟩)
      · exact absurd (of_decide_eq_true c29) (by omega)
    · omega
theorem x_append1 (x : Int32) (h : x < nI 32 ∨ nI 126 < x) : Ct g mX8_append [.ref (g.1 + 0), .int x] 0 (CA g G T R S K E Q V an) B 1 6 noP (tX xIA (CA g G T R S K E Q V an) B) := by
  refine Ct.of [some (.ref (g.1 + 0)), some (.int x)] (by decide) rfl (Nat.le_of_ble_eq_true rfl) rfl ?_
  refine a_iload_n (q := 1) dX8_append_0 rfl rfl rfl ?_
  refine a_bipush (q := 3) (nI 32) dX8_append_1 (by decide) rfl ?_
  refine a_icmp_lt (q := 6) 12 dX8_append_3 (by decide) rfl (fun c3 => ?_) (fun c3 => ?_)
  · skip
    exact a_throw dX8_append_12 dX8_append_15 dX8_append_16 dX8_append_18 dX8_append_21 tX8_121 rfl ⟨(Nat.le_of_ble_eq_true rfl), (Nat.le_of_ble_eq_true rfl)⟩ ⟨(Nat.le_of_ble_eq_true rfl), (Nat.le_of_ble_eq_true rfl)⟩ (⟨rfl, rfl, rfl, rfl⟩)
  · skip
    refine a_iload_n (q := 7) dX8_append_6 rfl rfl rfl ?_
    refine a_bipush (q := 9) (nI 126) dX8_append_7 (by decide) rfl ?_
    refine a_icmp_le (q := 12) 22 dX8_append_9 (by decide) rfl (fun c9 => ?_) (fun c9 => ?_)
    · exact absurd h (by rintro (q | q); exact c3 q; exact Int32.not_lt.mpr c9 q)
    · skip
      exact a_throw dX8_append_12 dX8_append_15 dX8_append_16 dX8_append_18 dX8_append_21 tX8_121 rfl ⟨(Nat.le_of_ble_eq_true rfl), (Nat.le_of_ble_eq_true rfl)⟩ ⟨(Nat.le_of_ble_eq_true rfl), (Nat.le_of_ble_eq_true rfl)⟩ (⟨rfl, rfl, rfl, rfl⟩)
theorem x_append2 (x : Int32) (h : ¬ x < nI 32 ∧ ¬ nI 126 < x) (ht : T.1 = 60) : Ct g mX8_append [.ref (g.1 + 0), .int x] 0 (CA g G T R S K E Q V an) B 1 6 noP (tX xIS (CA g G T R S K E Q V an) B) := by
  refine Ct.of [some (.ref (g.1 + 0)), some (.int x)] (by decide) rfl (Nat.le_of_ble_eq_true rfl) rfl ?_
  refine a_iload_n (q := 1) dX8_append_0 rfl rfl rfl ?_
  refine a_bipush (q := 3) (nI 32) dX8_append_1 (by decide) rfl ?_
  refine a_icmp_lt (q := 6) 12 dX8_append_3 (by decide) rfl (fun c3 => ?_) (fun c3 => ?_)
  · exact absurd c3 h.1
  · skip
    refine a_iload_n (q := 7) dX8_append_6 rfl rfl rfl ?_
    refine a_bipush (q := 9) (nI 126) dX8_append_7 (by decide) rfl ?_
    refine a_icmp_le (q := 12) 22 dX8_append_9 (by decide) rfl (fun c9 => ?_) (fun c9 => ?_)
    · skip
      refine a_aload_n (q := 23) dX8_append_22 rfl rfl rfl ?_
      refine a_getA (q := 26) dX8_append_23 fX8_19 rfl rfl rfl ?_
      refine a_cVAv (q := 29) _ dX8_append_26 kX8_123 (c_tFull (by omega)) rfl rfl rfl (Nat.le_of_ble_eq_true rfl) ⟨(Nat.le_of_ble_eq_true rfl), (Nat.le_of_ble_eq_true rfl)⟩ ⟨(Nat.le_of_ble_eq_true rfl), (Nat.le_of_ble_eq_true rfl)⟩ rfl ?_
      refine a_if_eqZ (q := 32) 42 dX8_append_29 (by decide) rfl (fun c29 => ?_) (fun c29 => ?_)
      · exact absurd (of_decide_eq_false c29) (by omega)
      · skip
        exact a_throw dX8_append_32 dX8_append_35 dX8_append_36 dX8_append_38 dX8_append_41 tX8_124 rfl ⟨(Nat.le_of_ble_eq_true rfl), (Nat.le_of_ble_eq_true rfl)⟩ ⟨(Nat.le_of_ble_eq_true rfl), (Nat.le_of_ble_eq_true rfl)⟩ (⟨rfl, rfl, rfl, rfl⟩)
    · exact absurd (Int32.not_le.mp c9) h.2
theorem c_clearInput : Ct g mX8_clearInput [.ref (g.1 + 0)] 0 (CA g G T R S K E Q V an) B 0 0 (rP (some (.int (nI T.1))) (CA g G (0, T.2) R S K E Q V an) B) noX := by
  refine Ct.of [some (.ref (g.1 + 0)), none] (by decide) rfl (Nat.le_of_ble_eq_true rfl) rfl ?_
  refine a_aload_n (q := 1) dX8_clearInput_0 rfl rfl rfl ?_
  refine a_getA (q := 4) dX8_clearInput_1 fX8_19 rfl rfl rfl ?_
  refine a_getA (q := 7) dX8_clearInput_4 fX8_128 rfl rfl rfl ?_
  refine a_istore_n (q := 8) dX8_clearInput_7 rfl (Nat.le_of_ble_eq_true rfl) rfl rfl ?_
  refine a_aload_n (q := 9) dX8_clearInput_8 rfl rfl rfl ?_
  refine a_getA (q := 12) dX8_clearInput_9 fX8_19 rfl rfl rfl ?_
  refine a_iconst (q := 13) (nI 0) dX8_clearInput_12 (by decide) rfl ?_
  refine a_putA (q := 16) dX8_clearInput_13 fX8_128 (fun h => nomatch h) rfl (Nat.le_of_ble_eq_true rfl) rfl rfl rfl ?_
  refine a_iload_n (q := 17) dX8_clearInput_16 rfl rfl rfl ?_
  exact a_iret dX8_clearInput_17 rfl rfl (Nat.le_of_ble_eq_true rfl) (Nat.le_of_ble_eq_true rfl) (⟨rfl, rfl, rfl, rfl⟩)
theorem c_firstError (hT : T.1 ≤ 60) (hc : ∀ i, i < T.1 → T.2 i < 127) : Ct g mX8_firstError [.ref (g.1 + 0)] 0 (CA g G T R S K E Q V an) B 0 0 (rP (some (.int (nI (rd T R).1))) (CA g G T (rd T R).2 S K E Q V an) B) noX := by
  refine Ct.of [some (.ref (g.1 + 0))] (by decide) rfl (Nat.le_of_ble_eq_true rfl) rfl ?_
  refine a_aload_n (q := 1) dX8_firstError_0 rfl rfl rfl ?_
  refine a_getA (q := 4) dX8_firstError_1 fX8_26 rfl rfl rfl ?_
  refine a_aload_n (q := 5) dX8_firstError_4 rfl rfl rfl ?_
  refine a_getA (q := 8) dX8_firstError_5 fX8_19 rfl rfl rfl ?_
  refine a_cVAv (q := 11) _ dX8_firstError_8 kX8_131 (c_read hT hc) rfl rfl rfl (Nat.le_of_ble_eq_true rfl) ⟨(Nat.le_of_ble_eq_true rfl), (Nat.le_of_ble_eq_true rfl)⟩ ⟨(Nat.le_of_ble_eq_true rfl), (Nat.le_of_ble_eq_true rfl)⟩ rfl ?_
  exact a_iret dX8_firstError_11 rfl rfl (Nat.le_of_ble_eq_true rfl) (Nat.le_of_ble_eq_true rfl) (⟨rfl, rfl, rfl, rfl⟩)
/-- the graph that is loaded -/
def ldG (G : Gr) (D : Gr) : Gr := beF D D.2.1 0 (D.1, 0, G.2.2)
theorem beF_e {D : Gr} : ∀ (m k : Nat) (G : Gr), (beF D m k G).2.1 = G.2.1 + m
  | 0, _, _ => rfl
  | m + 1, k, G => by
    unfold beF
    rw [beF_e m (k + 1)]
    show G.2.1 + 1 + m = _
    omega
theorem c_load (hT : T.1 ≤ 60) (hc : ∀ i, i < T.1 → T.2 i < 127) (h : isGr T R = true) (hd : (rdG T R).1.2.1 ≤ 24) : Ct g mX8_load [.ref (g.1 + 0)] 0 (CA g G T R S K E Q V an) B 0 0 (rP (some (.int (nI (rdG T R).1.2.1))) (CA g (ldG G (rdG T R).1) (0, T.2) (rdG T R) S K E Q noW false) B) noX := by
  refine Ct.of [some (.ref (g.1 + 0))] (by decide) rfl (Nat.le_of_ble_eq_true rfl) rfl ?_
  refine a_aload_n (q := 1) dX8_load_0 rfl rfl rfl ?_
  refine a_getA (q := 4) dX8_load_1 fX8_26 rfl rfl rfl ?_
  refine a_aload_n (q := 5) dX8_load_4 rfl rfl rfl ?_
  refine a_getA (q := 8) dX8_load_5 fX8_19 rfl rfl rfl ?_
  refine a_cVAv (q := 11) _ dX8_load_8 kX8_135 (c_readsGraph hT hc) rfl rfl rfl (Nat.le_of_ble_eq_true rfl) ⟨(Nat.le_of_ble_eq_true rfl), (Nat.le_of_ble_eq_true rfl)⟩ ⟨(Nat.le_of_ble_eq_true rfl), (Nat.le_of_ble_eq_true rfl)⟩ rfl ?_
  refine a_if_neZ (q := 14) 24 dX8_load_11 (by decide) rfl (fun c11 => ?_) (fun c11 => ?_)
  · skip
    refine a_aload_n (q := 25) dX8_load_24 rfl rfl rfl ?_
    refine a_getA (q := 28) dX8_load_25 fX8_12 rfl rfl rfl ?_
    refine a_aload_n (q := 29) dX8_load_28 rfl rfl rfl ?_
    refine a_getA (q := 32) dX8_load_29 fX8_26 rfl rfl rfl ?_
    refine a_getA (q := 35) dX8_load_32 fX8_141 rfl rfl rfl ?_
    refine a_cVA0 (q := 38) _ dX8_load_35 kX8_144 (c_become hd) rfl rfl rfl (Nat.le_of_ble_eq_true rfl) ⟨(Nat.le_of_ble_eq_true rfl), (Nat.le_of_ble_eq_true rfl)⟩ ⟨(Nat.le_of_ble_eq_true rfl), (Nat.le_of_ble_eq_true rfl)⟩ rfl ?_
    refine a_aload_n (q := 39) dX8_load_38 rfl rfl rfl ?_
    refine a_getA (q := 42) dX8_load_39 fX8_19 rfl rfl rfl ?_
    refine a_iconst (q := 43) (nI 0) dX8_load_42 (by decide) rfl ?_
    refine a_putA (q := 46) dX8_load_43 fX8_128 (fun h => nomatch h) rfl (Nat.le_of_ble_eq_true rfl) rfl rfl rfl ?_
    refine a_aload_n (q := 47) dX8_load_46 rfl rfl rfl ?_
    refine a_cVA0 (q := 50) _ dX8_load_47 kX8_86 (c_discard (T := (0, T.2))) rfl rfl rfl (Nat.le_of_ble_eq_true rfl) ⟨(Nat.le_of_ble_eq_true rfl), (Nat.le_of_ble_eq_true rfl)⟩ ⟨(Nat.le_of_ble_eq_true rfl), (Nat.le_of_ble_eq_true rfl)⟩ rfl ?_
    refine a_aload_n (q := 51) dX8_load_50 rfl rfl rfl ?_
    refine a_getA (q := 54) dX8_load_51 fX8_12 rfl rfl rfl ?_
    refine a_getA (q := 57) dX8_load_54 fX8_117 rfl rfl rfl ?_
    exact a_iret dX8_load_57 rfl rfl (Nat.le_of_ble_eq_true rfl) (Nat.le_of_ble_eq_true rfl) (⟨by rw [beF_e]; show _ = some (Value.int (nI (rdG T R).1.2.1)); rw [show (0 : Nat) + (rdG T R).1.2.1 = (rdG T R).1.2.1 from Nat.zero_add _], rfl, rfl, rfl⟩)
  · rw [h] at c11; cases c11
theorem x_load (hT : T.1 ≤ 60) (hc : ∀ i, i < T.1 → T.2 i < 127) (h : isGr T R = false) : Ct g mX8_load [.ref (g.1 + 0)] 0 (CA g G T R S K E Q V an) B 1 6 noP (tX xIS (CA g G T (rdG T R) S K E Q V an) B) := by
  refine Ct.of [some (.ref (g.1 + 0))] (by decide) rfl (Nat.le_of_ble_eq_true rfl) rfl ?_
  refine a_aload_n (q := 1) dX8_load_0 rfl rfl rfl ?_
  refine a_getA (q := 4) dX8_load_1 fX8_26 rfl rfl rfl ?_
  refine a_aload_n (q := 5) dX8_load_4 rfl rfl rfl ?_
  refine a_getA (q := 8) dX8_load_5 fX8_19 rfl rfl rfl ?_
  refine a_cVAv (q := 11) _ dX8_load_8 kX8_135 (c_readsGraph hT hc) rfl rfl rfl (Nat.le_of_ble_eq_true rfl) ⟨(Nat.le_of_ble_eq_true rfl), (Nat.le_of_ble_eq_true rfl)⟩ ⟨(Nat.le_of_ble_eq_true rfl), (Nat.le_of_ble_eq_true rfl)⟩ rfl ?_
  refine a_if_neZ (q := 14) 24 dX8_load_11 (by decide) rfl (fun c11 => ?_) (fun c11 => ?_)
  · rw [h] at c11; cases c11
  · skip
    exact a_throw dX8_load_14 dX8_load_17 dX8_load_18 dX8_load_20 dX8_load_23 tX8_139 rfl ⟨(Nat.le_of_ble_eq_true rfl), (Nat.le_of_ble_eq_true rfl)⟩ ⟨(Nat.le_of_ble_eq_true rfl), (Nat.le_of_ble_eq_true rfl)⟩ (⟨rfl, rfl, rfl, rfl⟩)
end Prof0

