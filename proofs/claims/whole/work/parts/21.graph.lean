/-! ===== PathProfiler$Graph: reads, over any cells that hold a graph ===== -/
section GraphReads
variable {g : gp_T} {A B : List va_E} {j : Nat} {G : Gr} {s t w : Nat}
theorem c_exit (h0 : A[j]? = some (oB 0 [.int (nI G.1), .int (nI G.2.1), .ref (g.1 + s), .ref (g.1 + t), .ref (g.1 + w)])) (hn : 1 ≤ G.1) : Ct g mX0_exit [.ref (g.1 + j)] 0 A B 0 0 (rP (some (.int (nI (G.1 - 1)))) A B) noX := by
  refine Ct.of [some (.ref (g.1 + j))] (by decide) rfl (Nat.le_of_ble_eq_true rfl) rfl ?_
  refine a_aload_n (q := 1) dX0_exit_0 rfl rfl rfl ?_
  refine a_getA (q := 4) dX0_exit_1 fX0_9 h0 rfl rfl ?_
  refine a_iconst (q := 5) (nI 1) dX0_exit_4 (by decide) rfl ?_
  refine a_isubN (q := 6) dX0_exit_5 (by omega) rfl ?_
  exact a_iret dX0_exit_6 rfl rfl (Nat.le_of_ble_eq_true rfl) (Nat.le_of_ble_eq_true rfl) (⟨rfl, rfl, rfl, rfl⟩)
theorem c_hasNode (x : Int32) (h0 : A[j]? = some (oB 0 [.int (nI G.1), .int (nI G.2.1), .ref (g.1 + s), .ref (g.1 + t), .ref (g.1 + w)])) : Ct g mX0_hasNode [.ref (g.1 + j), .int x] 0 A B 0 0 (rP (some (.int (b2 (inR x G.1)))) A B) noX := by
  refine Ct.of [some (.ref (g.1 + j)), some (.int x)] (by decide) rfl (Nat.le_of_ble_eq_true rfl) rfl ?_
  refine a_iload_n (q := 1) dX0_hasNode_0 rfl rfl rfl ?_
  refine a_if_lt (q := 4) 16 dX0_hasNode_1 (by decide) rfl (fun c1 => ?_) (fun c1 => ?_)
  · skip
    refine a_iconst (q := 17) (b2 false) dX0_hasNode_16 (by decide) rfl ?_
    exact a_iret dX0_hasNode_17 rfl (b2_narrow _) (Nat.le_of_ble_eq_true rfl) (Nat.le_of_ble_eq_true rfl) (⟨by unfold inR; simp [*], rfl, rfl, rfl⟩)
  · skip
    refine a_iload_n (q := 5) dX0_hasNode_4 rfl rfl rfl ?_
    refine a_aload_n (q := 6) dX0_hasNode_5 rfl rfl rfl ?_
    refine a_getA (q := 9) dX0_hasNode_6 fX0_9 h0 rfl rfl ?_
    refine a_icmp_ge (q := 12) 16 dX0_hasNode_9 (by decide) rfl (fun c9 => ?_) (fun c9 => ?_)
    · skip
      refine a_iconst (q := 17) (b2 false) dX0_hasNode_16 (by decide) rfl ?_
      exact a_iret dX0_hasNode_17 rfl (b2_narrow _) (Nat.le_of_ble_eq_true rfl) (Nat.le_of_ble_eq_true rfl) (⟨by unfold inR; simp [*], rfl, rfl, rfl⟩)
    · skip
      refine a_iconst (q := 13) (b2 true) dX0_hasNode_12 (by decide) rfl ?_
      refine a_goto 17 dX0_hasNode_13 (by decide) ?_
      exact a_iret dX0_hasNode_17 rfl (b2_narrow _) (Nat.le_of_ble_eq_true rfl) (Nat.le_of_ble_eq_true rfl) (⟨by unfold inR; simp [*], rfl, rfl, rfl⟩)
theorem c_hasEdge (x : Int32) (h0 : A[j]? = some (oB 0 [.int (nI G.1), .int (nI G.2.1), .ref (g.1 + s), .ref (g.1 + t), .ref (g.1 + w)])) : Ct g mX0_hasEdge [.ref (g.1 + j), .int x] 0 A B 0 0 (rP (some (.int (b2 (inR x G.2.1)))) A B) noX := by
  refine Ct.of [some (.ref (g.1 + j)), some (.int x)] (by decide) rfl (Nat.le_of_ble_eq_true rfl) rfl ?_
  refine a_iload_n (q := 1) dX0_hasEdge_0 rfl rfl rfl ?_
  refine a_if_lt (q := 4) 16 dX0_hasEdge_1 (by decide) rfl (fun c1 => ?_) (fun c1 => ?_)
  · skip
    refine a_iconst (q := 17) (b2 false) dX0_hasEdge_16 (by decide) rfl ?_
    exact a_iret dX0_hasEdge_17 rfl (b2_narrow _) (Nat.le_of_ble_eq_true rfl) (Nat.le_of_ble_eq_true rfl) (⟨by unfold inR; simp [*], rfl, rfl, rfl⟩)
  · skip
    refine a_iload_n (q := 5) dX0_hasEdge_4 rfl rfl rfl ?_
    refine a_aload_n (q := 6) dX0_hasEdge_5 rfl rfl rfl ?_
    refine a_getA (q := 9) dX0_hasEdge_6 fX0_15 h0 rfl rfl ?_
    refine a_icmp_ge (q := 12) 16 dX0_hasEdge_9 (by decide) rfl (fun c9 => ?_) (fun c9 => ?_)
    · skip
      refine a_iconst (q := 17) (b2 false) dX0_hasEdge_16 (by decide) rfl ?_
      exact a_iret dX0_hasEdge_17 rfl (b2_narrow _) (Nat.le_of_ble_eq_true rfl) (Nat.le_of_ble_eq_true rfl) (⟨by unfold inR; simp [*], rfl, rfl, rfl⟩)
    · skip
      refine a_iconst (q := 13) (b2 true) dX0_hasEdge_12 (by decide) rfl ?_
      refine a_goto 17 dX0_hasEdge_13 (by decide) ?_
      exact a_iret dX0_hasEdge_17 rfl (b2_narrow _) (Nat.le_of_ble_eq_true rfl) (Nat.le_of_ble_eq_true rfl) (⟨by unfold inR; simp [*], rfl, rfl, rfl⟩)
theorem c_isFull (h0 : A[j]? = some (oB 0 [.int (nI G.1), .int (nI G.2.1), .ref (g.1 + s), .ref (g.1 + t), .ref (g.1 + w)])) (he : G.2.1 ≤ 24) : Ct g mX0_isFull [.ref (g.1 + j)] 0 A B 0 0 (rP (some (.int (b2 (decide (24 ≤ G.2.1))))) A B) noX := by
  refine Ct.of [some (.ref (g.1 + j))] (by decide) rfl (Nat.le_of_ble_eq_true rfl) rfl ?_
  refine a_aload_n (q := 1) dX0_isFull_0 rfl rfl rfl ?_
  refine a_getA (q := 4) dX0_isFull_1 fX0_15 h0 rfl rfl ?_
  refine a_bipush (q := 6) (nI 24) dX0_isFull_4 (by decide) rfl ?_
  refine a_icmp_ltN (q := 9) 13 dX0_isFull_6 (by decide) (by omega) (by omega) rfl (fun c6 => ?_) (fun c6 => ?_)
  · skip
    refine a_iconst (q := 14) (b2 false) dX0_isFull_13 (by decide) rfl ?_
    exact a_iret dX0_isFull_14 rfl (b2_narrow _) (Nat.le_of_ble_eq_true rfl) (Nat.le_of_ble_eq_true rfl) (⟨by rw [show decide (24 ≤ G.2.1) = _ from by first | exact decide_eq_true c6 | exact decide_eq_false (by omega)], rfl, rfl, rfl⟩)
  · skip
    refine a_iconst (q := 10) (b2 true) dX0_isFull_9 (by decide) rfl ?_
    refine a_goto 14 dX0_isFull_10 (by decide) ?_
    exact a_iret dX0_isFull_14 rfl (b2_narrow _) (Nat.le_of_ble_eq_true rfl) (Nat.le_of_ble_eq_true rfl) (⟨by rw [show decide (24 ≤ G.2.1) = _ from by first | exact decide_eq_true c6 | exact decide_eq_false (by omega)], rfl, rfl, rfl⟩)
/-- whether an edge joins x to y -/
def jn (G : Gr) (x y : Int32) : Bool := anyR G.2.1 (fun i => decide (nI (G.2.2.1 i) = x ∧ nI (G.2.2.2.1 i) = y))
theorem l_joins (x y : Int32) (h0 : A[j]? = some (oB 0 [.int (nI G.1), .int (nI G.2.1), .ref (g.1 + s), .ref (g.1 + t), .ref (g.1 + w)])) (hs : A[s]? = some (aN g 24 G.2.2.1)) (ht : A[t]? = some (aN g 24 G.2.2.2.1)) (he : G.2.1 ≤ 24) : ∀ m k : Nat, G.2.1 - k = m → k ≤ G.2.1 → (∀ i, i < k → ¬ (nI (G.2.2.1 i) = x ∧ nI (G.2.2.2.1 i) = y)) → AW g mX0_joins 0 0 (rP (some (.int (b2 (jn G x y)))) A B) noX 0 0 2 [some (.ref (g.1 + j)), some (.int x), some (.int y), some (.int (nI k))] [] 0 A B := by
  intro m
  induction m with
  | zero =>
    intro k hm hk hall
    refine a_iload_n (q := 3) dX0_joins_2 rfl rfl rfl ?_
    refine a_aload_n (q := 4) dX0_joins_3 rfl rfl rfl ?_
    refine a_getA (q := 7) dX0_joins_4 fX0_15 h0 rfl rfl ?_
    refine a_icmp_geN (q := 10) 38 dX0_joins_7 (by decide) (by omega) (by omega) rfl (fun c7 => ?_) (fun c7 => ?_)
    · skip
      refine a_iconst (q := 39) (b2 false) dX0_joins_38 (by decide) rfl ?_
      exact a_iret dX0_joins_39 rfl (b2_narrow _) (Nat.le_of_ble_eq_true rfl) (Nat.le_of_ble_eq_true rfl) (⟨by rw [show jn G x y = false from anyR_f (fun i hi => decide_eq_false (hall i (by omega)))], rfl, rfl, rfl⟩)
    · omega
  | succ m ih =>
    intro k hm hk hall
    refine a_iload_n (q := 3) dX0_joins_2 rfl rfl rfl ?_
    refine a_aload_n (q := 4) dX0_joins_3 rfl rfl rfl ?_
    refine a_getA (q := 7) dX0_joins_4 fX0_15 h0 rfl rfl ?_
    refine a_icmp_geN (q := 10) 38 dX0_joins_7 (by decide) (by omega) (by omega) rfl (fun c7 => ?_) (fun c7 => ?_)
    · omega
    · skip
      refine a_aload_n (q := 11) dX0_joins_10 rfl rfl rfl ?_
      refine a_getA (q := 14) dX0_joins_11 fX0_18 h0 rfl rfl ?_
      refine a_iload_n (q := 15) dX0_joins_14 rfl rfl rfl ?_
      refine a_ialdAN (q := 16) dX0_joins_15 hs (by omega) (by decide) rfl ?_
      refine a_iload_n (q := 17) dX0_joins_16 rfl rfl rfl ?_
      refine a_icmp_ne (q := 20) 32 dX0_joins_17 (by decide) rfl (fun c17 => ?_) (fun c17 => ?_)
      · skip
        refine a_iincN (q := 35) (c := 1) dX0_joins_32 rfl (by decide) rfl rfl ?_
        refine a_goto 2 dX0_joins_35 (by decide) ?_
        exact ih (k + 1) (by omega) (by omega) (fun i hi => by
        rcases Nat.lt_or_ge i k with h | h
        · exact hall i h
        · have : i = k := by omega
          subst this
          intro hh
          first | exact c17 hh.1 | exact c27 hh.2)
      · skip
        refine a_aload_n (q := 21) dX0_joins_20 rfl rfl rfl ?_
        refine a_getA (q := 24) dX0_joins_21 fX0_22 h0 rfl rfl ?_
        refine a_iload_n (q := 25) dX0_joins_24 rfl rfl rfl ?_
        refine a_ialdAN (q := 26) dX0_joins_25 ht (by omega) (by decide) rfl ?_
        refine a_iload_n (q := 27) dX0_joins_26 rfl rfl rfl ?_
        refine a_icmp_ne (q := 30) 32 dX0_joins_27 (by decide) rfl (fun c27 => ?_) (fun c27 => ?_)
        · skip
          refine a_iincN (q := 35) (c := 1) dX0_joins_32 rfl (by decide) rfl rfl ?_
          refine a_goto 2 dX0_joins_35 (by decide) ?_
          exact ih (k + 1) (by omega) (by omega) (fun i hi => by
          rcases Nat.lt_or_ge i k with h | h
          · exact hall i h
          · have : i = k := by omega
            subst this
            intro hh
            first | exact c17 hh.1 | exact c27 hh.2)
        · skip
          refine a_iconst (q := 31) (b2 true) dX0_joins_30 (by decide) rfl ?_
          exact a_iret dX0_joins_31 rfl (b2_narrow _) (Nat.le_of_ble_eq_true rfl) (Nat.le_of_ble_eq_true rfl) (⟨by rw [show jn G x y = true from anyR_t (k := k) (by omega) (decide_eq_true ⟨c17, c27⟩)], rfl, rfl, rfl⟩)
theorem c_joins (x y : Int32) (h0 : A[j]? = some (oB 0 [.int (nI G.1), .int (nI G.2.1), .ref (g.1 + s), .ref (g.1 + t), .ref (g.1 + w)])) (hs : A[s]? = some (aN g 24 G.2.2.1)) (ht : A[t]? = some (aN g 24 G.2.2.2.1)) (he : G.2.1 ≤ 24) : Ct g mX0_joins [.ref (g.1 + j), .int x, .int y] 0 A B 0 0 (rP (some (.int (b2 (jn G x y)))) A B) noX := by
  refine Ct.of [some (.ref (g.1 + j)), some (.int x), some (.int y), none] (by decide) rfl (Nat.le_of_ble_eq_true rfl) rfl ?_
  refine a_iconst (q := 1) (nI 0) dX0_joins_0 (by decide) rfl ?_
  refine a_istore_n (q := 2) dX0_joins_1 rfl (Nat.le_of_ble_eq_true rfl) rfl rfl ?_
  exact l_joins x y h0 hs ht he _ 0 rfl (Nat.zero_le _) (fun i hi => absurd hi (Nat.not_lt_zero i))
/-- whether the graph allows the edge -/
def alw (G : Gr) (x y : Int32) : Bool := inR x G.1 && inR y G.1 && decide (¬ x = nI (G.1 - 1)) && decide (¬ y = 0) && !jn G x y
theorem c_allows (x y : Int32) (h0 : A[j]? = some (oB 0 [.int (nI G.1), .int (nI G.2.1), .ref (g.1 + s), .ref (g.1 + t), .ref (g.1 + w)])) (hs : A[s]? = some (aN g 24 G.2.2.1)) (ht : A[t]? = some (aN g 24 G.2.2.2.1)) (hn : 1 ≤ G.1) (he : G.2.1 ≤ 24) : Ct g mX0_allows [.ref (g.1 + j), .int x, .int y] 0 A B 0 0 (rP (some (.int (b2 (alw G x y)))) A B) noX := by
  refine Ct.of [some (.ref (g.1 + j)), some (.int x), some (.int y)] (by decide) rfl (Nat.le_of_ble_eq_true rfl) rfl ?_
  refine a_aload_n (q := 1) dX0_allows_0 rfl rfl rfl ?_
  refine a_iload_n (q := 2) dX0_allows_1 rfl rfl rfl ?_
  refine a_cVAv (q := 5) _ dX0_allows_2 kX0_28 (c_hasNode x h0) h0 rfl rfl (Nat.le_of_ble_eq_true rfl) ⟨(Nat.le_of_ble_eq_true rfl), (Nat.le_of_ble_eq_true rfl)⟩ ⟨(Nat.le_of_ble_eq_true rfl), (Nat.le_of_ble_eq_true rfl)⟩ rfl ?_
  refine a_if_eqZ (q := 8) 41 dX0_allows_5 (by decide) rfl (fun c5 => ?_) (fun c5 => ?_)
  · skip
    refine a_iconst (q := 42) (b2 false) dX0_allows_41 (by decide) rfl ?_
    exact a_iret dX0_allows_42 rfl (b2_narrow _) (Nat.le_of_ble_eq_true rfl) (Nat.le_of_ble_eq_true rfl) (⟨by unfold alw; simp [*], rfl, rfl, rfl⟩)
  · skip
    refine a_aload_n (q := 9) dX0_allows_8 rfl rfl rfl ?_
    refine a_iload_n (q := 10) dX0_allows_9 rfl rfl rfl ?_
    refine a_cVAv (q := 13) _ dX0_allows_10 kX0_28 (c_hasNode y h0) h0 rfl rfl (Nat.le_of_ble_eq_true rfl) ⟨(Nat.le_of_ble_eq_true rfl), (Nat.le_of_ble_eq_true rfl)⟩ ⟨(Nat.le_of_ble_eq_true rfl), (Nat.le_of_ble_eq_true rfl)⟩ rfl ?_
    refine a_if_eqZ (q := 16) 41 dX0_allows_13 (by decide) rfl (fun c13 => ?_) (fun c13 => ?_)
    · skip
      refine a_iconst (q := 42) (b2 false) dX0_allows_41 (by decide) rfl ?_
      exact a_iret dX0_allows_42 rfl (b2_narrow _) (Nat.le_of_ble_eq_true rfl) (Nat.le_of_ble_eq_true rfl) (⟨by unfold alw; simp [*], rfl, rfl, rfl⟩)
    · skip
      refine a_iload_n (q := 17) dX0_allows_16 rfl rfl rfl ?_
      refine a_aload_n (q := 18) dX0_allows_17 rfl rfl rfl ?_
      refine a_cVAv (q := 21) _ dX0_allows_18 kX0_32 (c_exit h0 hn) h0 rfl rfl (Nat.le_of_ble_eq_true rfl) ⟨(Nat.le_of_ble_eq_true rfl), (Nat.le_of_ble_eq_true rfl)⟩ ⟨(Nat.le_of_ble_eq_true rfl), (Nat.le_of_ble_eq_true rfl)⟩ rfl ?_
      refine a_icmp_eq (q := 24) 41 dX0_allows_21 (by decide) rfl (fun c21 => ?_) (fun c21 => ?_)
      · skip
        refine a_iconst (q := 42) (b2 false) dX0_allows_41 (by decide) rfl ?_
        exact a_iret dX0_allows_42 rfl (b2_narrow _) (Nat.le_of_ble_eq_true rfl) (Nat.le_of_ble_eq_true rfl) (⟨by unfold alw; simp [*], rfl, rfl, rfl⟩)
      · skip
        refine a_iload_n (q := 25) dX0_allows_24 rfl rfl rfl ?_
        refine a_if_eq (q := 28) 41 dX0_allows_25 (by decide) rfl (fun c25 => ?_) (fun c25 => ?_)
        · skip
          refine a_iconst (q := 42) (b2 false) dX0_allows_41 (by decide) rfl ?_
          exact a_iret dX0_allows_42 rfl (b2_narrow _) (Nat.le_of_ble_eq_true rfl) (Nat.le_of_ble_eq_true rfl) (⟨by unfold alw; simp [*], rfl, rfl, rfl⟩)
        · skip
          refine a_aload_n (q := 29) dX0_allows_28 rfl rfl rfl ?_
          refine a_iload_n (q := 30) dX0_allows_29 rfl rfl rfl ?_
          refine a_iload_n (q := 31) dX0_allows_30 rfl rfl rfl ?_
          refine a_cVAv (q := 34) _ dX0_allows_31 kX0_36 (c_joins x y h0 hs ht he) h0 rfl rfl (Nat.le_of_ble_eq_true rfl) ⟨(Nat.le_of_ble_eq_true rfl), (Nat.le_of_ble_eq_true rfl)⟩ ⟨(Nat.le_of_ble_eq_true rfl), (Nat.le_of_ble_eq_true rfl)⟩ rfl ?_
          refine a_if_neZ (q := 37) 41 dX0_allows_34 (by decide) rfl (fun c34 => ?_) (fun c34 => ?_)
          · skip
            refine a_iconst (q := 42) (b2 false) dX0_allows_41 (by decide) rfl ?_
            exact a_iret dX0_allows_42 rfl (b2_narrow _) (Nat.le_of_ble_eq_true rfl) (Nat.le_of_ble_eq_true rfl) (⟨by unfold alw; simp [*], rfl, rfl, rfl⟩)
          · skip
            refine a_iconst (q := 38) (b2 true) dX0_allows_37 (by decide) rfl ?_
            refine a_goto 42 dX0_allows_38 (by decide) ?_
            exact a_iret dX0_allows_42 rfl (b2_narrow _) (Nat.le_of_ble_eq_true rfl) (Nat.le_of_ble_eq_true rfl) (⟨by unfold alw; simp [*], rfl, rfl, rfl⟩)
end GraphReads

