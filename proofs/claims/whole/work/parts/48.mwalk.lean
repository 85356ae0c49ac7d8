/-! ===== the reference: the walk, the counts ===== -/
section MWalk
variable {g : gp_T} {A : List va_E} {G : Gr} {T : Tx} {th : Nat} {Y : Ya} {W : Wa} {R : Ra} {Z : Za} {U : Ua} {L : La} {h : Int64} {O : Oa}
theorem m_counts : Ct g mX9_counts [.ref (g.2.1 + 0)] 0 A (BM g G T th Y W R Z U L h O) 0 0 (rP (some (.int (b2 (cbl Y.1 (Y.2.2.1 0))))) A (BM g G T th Y W R Z U L h O)) noX := by
  refine Ct.of [some (.ref (g.2.1 + 0))] (by decide) rfl (Nat.le_of_ble_eq_true rfl) rfl ?_
  refine a_aload_n (q := 1) dX9_counts_0 rfl rfl rfl ?_
  refine a_getB (q := 4) dX9_counts_1 fX9_84 rfl rfl rfl ?_
  refine a_if_eqZ (q := 7) 23 dX9_counts_4 (by decide) rfl (fun c4 => ?_) (fun c4 => ?_)
  · skip
    refine a_iconst (q := 24) (b2 false) dX9_counts_23 (by decide) rfl ?_
    exact a_iret dX9_counts_24 rfl (b2_narrow _) (Nat.le_of_ble_eq_true rfl) (Nat.le_of_ble_eq_true rfl) (⟨by unfold cbl; simp [*], rfl, rfl, rfl⟩)
  · skip
    refine a_aload_n (q := 8) dX9_counts_7 rfl rfl rfl ?_
    refine a_getB (q := 11) dX9_counts_8 fX9_30 rfl rfl rfl ?_
    refine a_iconst (q := 12) (nI 0) dX9_counts_11 (by decide) rfl ?_
    refine a_ialdBI (q := 13) dX9_counts_12 rfl (by omega) (by decide) rfl ?_
    refine a_sipush (q := 16) (nI 200) dX9_counts_13 (by decide) rfl ?_
    refine a_icmp_gt (q := 19) 23 dX9_counts_16 (by decide) rfl (fun c16 => ?_) (fun c16 => ?_)
    · skip
      refine a_iconst (q := 24) (b2 false) dX9_counts_23 (by decide) rfl ?_
      exact a_iret dX9_counts_24 rfl (b2_narrow _) (Nat.le_of_ble_eq_true rfl) (Nat.le_of_ble_eq_true rfl) (⟨by unfold cbl; simp [*], rfl, rfl, rfl⟩)
    · skip
      refine a_iconst (q := 20) (b2 true) dX9_counts_19 (by decide) rfl ?_
      refine a_goto 24 dX9_counts_20 (by decide) ?_
      exact a_iret dX9_counts_24 rfl (b2_narrow _) (Nat.le_of_ble_eq_true rfl) (Nat.le_of_ble_eq_true rfl) (⟨by unfold cbl; simp [*], rfl, rfl, rfl⟩)
theorem m_start (hc : cbl Y.1 (Y.2.2.1 0) = true) : Ct g mX9_start [.ref (g.2.1 + 0)] 0 A (BM g G T th Y W R Z U L h O) 0 0 (rP none A (BM g G T 0 Y (true, false, 0, nI 0, W.2.2.2.2) R Z U L h O)) noX := by
  refine Ct.of [some (.ref (g.2.1 + 0))] (by decide) rfl (Nat.le_of_ble_eq_true rfl) rfl ?_
  refine a_aload_n (q := 1) dX9_start_0 rfl rfl rfl ?_
  refine a_aload_n (q := 2) dX9_start_1 rfl rfl rfl ?_
  refine a_cVBv (q := 5) _ dX9_start_2 kX9_237 (m_counts) rfl rfl rfl (Nat.le_of_ble_eq_true rfl) ⟨(Nat.le_of_ble_eq_true rfl), (Nat.le_of_ble_eq_true rfl)⟩ ⟨(Nat.le_of_ble_eq_true rfl), (Nat.le_of_ble_eq_true rfl)⟩ rfl ?_
  refine a_if_eqZ (q := 8) 12 dX9_start_5 (by decide) rfl (fun c5 => ?_) (fun c5 => ?_)
  · rw [hc] at c5; cases c5
  · skip
    refine a_iconst (q := 9) (nI 0) dX9_start_8 (by decide) rfl ?_
    refine a_goto 13 dX9_start_9 (by decide) ?_
    refine a_putB (q := 16) dX9_start_13 fX9_81 (fun h => nomatch h) rfl (Nat.le_of_ble_eq_true rfl) rfl rfl rfl ?_
    refine a_aload_n (q := 17) dX9_start_16 rfl rfl rfl ?_
    refine a_getB (q := 20) dX9_start_17 fX9_81 rfl rfl rfl ?_
    refine a_if_neN (q := 23) 43 dX9_start_20 (by decide) (by omega) rfl (fun c20 => ?_) (fun c20 => ?_)
    · exact absurd c20 (Nat.lt_irrefl 0)
    · skip
      refine a_aload_n (q := 24) dX9_start_23 rfl rfl rfl ?_
      refine a_iconst (q := 25) (b2 true) dX9_start_24 (by decide) rfl ?_
      refine a_putB (q := 28) dX9_start_25 fX9_88 (fun h => nomatch h) rfl (Nat.le_of_ble_eq_true rfl) (b2_narrow _) rfl rfl ?_
      refine a_aload_n (q := 29) dX9_start_28 rfl rfl rfl ?_
      refine a_iconst (q := 30) (b2 false) dX9_start_29 (by decide) rfl ?_
      refine a_putB (q := 33) dX9_start_30 fX9_91 (fun h => nomatch h) rfl (Nat.le_of_ble_eq_true rfl) (b2_narrow _) rfl rfl ?_
      refine a_aload_n (q := 34) dX9_start_33 rfl rfl rfl ?_
      refine a_iconst (q := 35) (nI 0) dX9_start_34 (by decide) rfl ?_
      refine a_putB (q := 38) dX9_start_35 fX9_239 (fun h => nomatch h) rfl (Nat.le_of_ble_eq_true rfl) rfl rfl rfl ?_
      refine a_aload_n (q := 39) dX9_start_38 rfl rfl rfl ?_
      refine a_iconst (q := 40) (nI 0) dX9_start_39 (by decide) rfl ?_
      refine a_putB (q := 43) dX9_start_40 fX9_94 (fun h => nomatch h) rfl (Nat.le_of_ble_eq_true rfl) rfl rfl rfl ?_
      exact a_ret dX9_start_43 rfl (Nat.le_of_ble_eq_true rfl) (Nat.le_of_ble_eq_true rfl) (⟨rfl, rfl, rfl, rfl⟩)
theorem mx_start (hc : cbl Y.1 (Y.2.2.1 0) = false) : Ct g mX9_start [.ref (g.2.1 + 0)] 0 A (BM g G T th Y W R Z U L h O) 0 0 (rP none A (BM g G T 1 Y W R Z U L h O)) noX := by
  refine Ct.of [some (.ref (g.2.1 + 0))] (by decide) rfl (Nat.le_of_ble_eq_true rfl) rfl ?_
  refine a_aload_n (q := 1) dX9_start_0 rfl rfl rfl ?_
  refine a_aload_n (q := 2) dX9_start_1 rfl rfl rfl ?_
  refine a_cVBv (q := 5) _ dX9_start_2 kX9_237 (m_counts) rfl rfl rfl (Nat.le_of_ble_eq_true rfl) ⟨(Nat.le_of_ble_eq_true rfl), (Nat.le_of_ble_eq_true rfl)⟩ ⟨(Nat.le_of_ble_eq_true rfl), (Nat.le_of_ble_eq_true rfl)⟩ rfl ?_
  refine a_if_eqZ (q := 8) 12 dX9_start_5 (by decide) rfl (fun c5 => ?_) (fun c5 => ?_)
  · skip
    refine a_iconst (q := 13) (nI 1) dX9_start_12 (by decide) rfl ?_
    refine a_putB (q := 16) dX9_start_13 fX9_81 (fun h => nomatch h) rfl (Nat.le_of_ble_eq_true rfl) rfl rfl rfl ?_
    refine a_aload_n (q := 17) dX9_start_16 rfl rfl rfl ?_
    refine a_getB (q := 20) dX9_start_17 fX9_81 rfl rfl rfl ?_
    refine a_if_neN (q := 23) 43 dX9_start_20 (by decide) (by omega) rfl (fun c20 => ?_) (fun c20 => ?_)
    · skip
      exact a_ret dX9_start_43 rfl (Nat.le_of_ble_eq_true rfl) (Nat.le_of_ble_eq_true rfl) (⟨rfl, rfl, rfl, rfl⟩)
    · exact absurd c20 (by decide)
  · rw [hc] at c5; cases c5
/-- the edge of a node of this place -/
def emF (G : Gr) (v : Nat) : Nat → Nat → Nat → Option Nat
  | 0, _, _ => none
  | m + 1, k, r => if G.2.2.1 k = v then (if r = 0 then some k else emF G v m (k + 1) (r - 1)) else emF G v m (k + 1) r
theorem emF_lt {G : Gr} {v : Nat} : ∀ (m k r j : Nat), emF G v m k r = some j → j < k + m ∧ G.2.2.1 j = v := by
  intro m
  induction m with
  | zero => intro k r j hj; cases hj
  | succ m ih =>
    intro k r j hj
    unfold emF at hj
    split at hj
    · rename_i e
      split at hj
      · cases hj; exact ⟨by omega, e⟩
      · have := ih _ _ _ hj; exact ⟨by omega, this.2⟩
    · have := ih _ _ _ hj; exact ⟨by omega, this.2⟩
theorem l_ea (P : ps_T) (hg : gok G) (v : Nat) (hv : v < 12) (x : Int32) (hx : ¬ x < 0) : ∀ (m k r : Nat), G.2.1 - k = m → k ≤ G.2.1 → r < big → P (some (.int (oI (emF G v m k r)))) 0 A (BM g G T th Y W R Z U L h O) → AW g mX9_edgeAt 0 0 P noX 0 0 5 [some (.ref (g.2.1 + 0)), some (.int (nI v)), some (.int x), some (.int (nI r)), some (.int (nI k))] [] 0 A (BM g G T th Y W R Z U L h O) := by
  intro m
  obtain ⟨g1, g2, g3, g4, g5⟩ := id hg
  induction m with
  | zero =>
    intro k r hm hk hr hp
    refine a_iload (q := 7) dX9_edgeAt_5 rfl rfl ?_
    refine a_aload_n (q := 8) dX9_edgeAt_7 rfl rfl rfl ?_
    refine a_getB (q := 11) dX9_edgeAt_8 fX9_101 rfl rfl rfl ?_
    refine a_icmp_geN (q := 14) 45 dX9_edgeAt_11 (by decide) (by omega) (by omega) rfl (fun c11 => ?_) (fun c11 => ?_)
    · skip
      refine a_iconst (q := 46) (-1) dX9_edgeAt_45 (by decide) rfl ?_
      exact a_iret dX9_edgeAt_46 rfl rfl (Nat.le_of_ble_eq_true rfl) (Nat.le_of_ble_eq_true rfl) (hp)
    · omega
  | succ m ih =>
    intro k r hm hk hr hp
    unfold emF at hp
    unfold big at hr
    have h3 := (g4 k (by omega)).1
    cases r with
    | zero =>
      refine a_iload (q := 7) dX9_edgeAt_5 rfl rfl ?_
      refine a_aload_n (q := 8) dX9_edgeAt_7 rfl rfl rfl ?_
      refine a_getB (q := 11) dX9_edgeAt_8 fX9_101 rfl rfl rfl ?_
      refine a_icmp_geN (q := 14) 45 dX9_edgeAt_11 (by decide) (by omega) (by omega) rfl (fun c11 => ?_) (fun c11 => ?_)
      · omega
      · skip
        refine a_iload_n (q := 15) dX9_edgeAt_14 rfl rfl rfl ?_
        refine a_if_lt (q := 18) 45 dX9_edgeAt_15 (by decide) rfl (fun c15 => ?_) (fun c15 => ?_)
        · exact absurd c15 hx
        · skip
          refine a_aload_n (q := 19) dX9_edgeAt_18 rfl rfl rfl ?_
          refine a_getB (q := 22) dX9_edgeAt_19 fX9_13 rfl rfl rfl ?_
          refine a_iload (q := 24) dX9_edgeAt_22 rfl rfl ?_
          refine a_ialdBN (q := 25) dX9_edgeAt_24 rfl (by omega) (by decide) rfl ?_
          refine a_iload_n (q := 26) dX9_edgeAt_25 rfl rfl rfl ?_
          refine a_icmp_neN (q := 29) 39 dX9_edgeAt_26 (by decide) (by omega) (by omega) rfl (fun c26 => ?_) (fun c26 => ?_)
          · rw [if_neg c26] at hp
            refine a_iincN (q := 42) (c := 1) dX9_edgeAt_39 rfl (by decide) rfl rfl ?_
            refine a_goto 5 dX9_edgeAt_42 (by decide) ?_
            exact ih (k + 1) 0 (by omega) (by omega) (by unfold big; omega) hp
          · rw [if_pos c26, if_pos rfl] at hp
            refine a_iload_n (q := 30) dX9_edgeAt_29 rfl rfl rfl ?_
            refine a_if_neN (q := 33) 36 dX9_edgeAt_30 (by decide) (by omega) rfl (fun c30 => ?_) (fun c30 => ?_)
            · exact absurd c30 (Nat.lt_irrefl 0)
            · skip
              refine a_iload (q := 35) dX9_edgeAt_33 rfl rfl ?_
              exact a_iret dX9_edgeAt_35 rfl rfl (Nat.le_of_ble_eq_true rfl) (Nat.le_of_ble_eq_true rfl) (hp)
    | succ r =>
      refine a_iload (q := 7) dX9_edgeAt_5 rfl rfl ?_
      refine a_aload_n (q := 8) dX9_edgeAt_7 rfl rfl rfl ?_
      refine a_getB (q := 11) dX9_edgeAt_8 fX9_101 rfl rfl rfl ?_
      refine a_icmp_geN (q := 14) 45 dX9_edgeAt_11 (by decide) (by omega) (by omega) rfl (fun c11 => ?_) (fun c11 => ?_)
      · omega
      · skip
        refine a_iload_n (q := 15) dX9_edgeAt_14 rfl rfl rfl ?_
        refine a_if_lt (q := 18) 45 dX9_edgeAt_15 (by decide) rfl (fun c15 => ?_) (fun c15 => ?_)
        · exact absurd c15 hx
        · skip
          refine a_aload_n (q := 19) dX9_edgeAt_18 rfl rfl rfl ?_
          refine a_getB (q := 22) dX9_edgeAt_19 fX9_13 rfl rfl rfl ?_
          refine a_iload (q := 24) dX9_edgeAt_22 rfl rfl ?_
          refine a_ialdBN (q := 25) dX9_edgeAt_24 rfl (by omega) (by decide) rfl ?_
          refine a_iload_n (q := 26) dX9_edgeAt_25 rfl rfl rfl ?_
          refine a_icmp_neN (q := 29) 39 dX9_edgeAt_26 (by decide) (by omega) (by omega) rfl (fun c26 => ?_) (fun c26 => ?_)
          · rw [if_neg c26] at hp
            have hq := ih (k + 1) (r + 1) (by omega) (by omega) (by unfold big; omega) hp
            refine a_iincN (q := 42) (c := 1) dX9_edgeAt_39 rfl (by decide) rfl rfl ?_
            refine a_goto 5 dX9_edgeAt_42 (by decide) ?_
            exact hq
          · rw [if_pos c26, if_neg (by omega)] at hp
            have hq := ih (k + 1) r (by omega) (by omega) (by unfold big; omega) hp
            refine a_iload_n (q := 30) dX9_edgeAt_29 rfl rfl rfl ?_
            refine a_if_neN (q := 33) 36 dX9_edgeAt_30 (by decide) (by omega) rfl (fun c30 => ?_) (fun c30 => ?_)
            · skip
              refine a_iincD (q := 39) dX9_edgeAt_36 rfl (by decide) rfl rfl ?_
              refine a_iincN (q := 42) (c := 1) dX9_edgeAt_39 rfl (by decide) rfl rfl ?_
              refine a_goto 5 dX9_edgeAt_42 (by decide) ?_
              exact hq
            · omega
theorem m_edgeAt (v : Nat) (hv : v < 12) (k : Nat) (hk : k < big) (hg : gok G) : Ct g mX9_edgeAt [.ref (g.2.1 + 0), .int (nI v), .int (nI k)] 0 A (BM g G T th Y W R Z U L h O) 0 0 (rP (some (.int (oI (emF G v G.2.1 0 k)))) A (BM g G T th Y W R Z U L h O)) noX := by
  refine Ct.of [some (.ref (g.2.1 + 0)), some (.int (nI v)), some (.int (nI k)), none, none] (by decide) rfl (Nat.le_of_ble_eq_true rfl) rfl ?_
  refine a_iload_n (q := 1) dX9_edgeAt_0 rfl rfl rfl ?_
  refine a_istore_n (q := 2) dX9_edgeAt_1 rfl (Nat.le_of_ble_eq_true rfl) rfl rfl ?_
  refine a_iconst (q := 3) (nI 0) dX9_edgeAt_2 (by decide) rfl ?_
  refine a_istore (q := 5) dX9_edgeAt_3 (Nat.le_of_ble_eq_true rfl) rfl rfl ?_
  exact l_ea _ hg v hv (nI k) (show ¬ nI k < nI 0 from nI_nlt (Nat.zero_le k) (by unfold big at hk; omega)) _ 0 k rfl (Nat.zero_le _) hk ⟨rfl, rfl, rfl, rfl⟩
theorem mx_edgeAt (v : Nat) (x : Int32) (hx : x < 0) (hg : gok G) : Ct g mX9_edgeAt [.ref (g.2.1 + 0), .int (nI v), .int x] 0 A (BM g G T th Y W R Z U L h O) 0 0 (rP (some (.int (-1))) A (BM g G T th Y W R Z U L h O)) noX := by
  obtain ⟨g1, g2, g3, g4, g5⟩ := id hg
  refine Ct.of [some (.ref (g.2.1 + 0)), some (.int (nI v)), some (.int x), none, none] (by decide) rfl (Nat.le_of_ble_eq_true rfl) rfl ?_
  refine a_iload_n (q := 1) dX9_edgeAt_0 rfl rfl rfl ?_
  refine a_istore_n (q := 2) dX9_edgeAt_1 rfl (Nat.le_of_ble_eq_true rfl) rfl rfl ?_
  refine a_iconst (q := 3) (nI 0) dX9_edgeAt_2 (by decide) rfl ?_
  refine a_istore (q := 5) dX9_edgeAt_3 (Nat.le_of_ble_eq_true rfl) rfl rfl ?_
  refine a_iload (q := 7) dX9_edgeAt_5 rfl rfl ?_
  refine a_aload_n (q := 8) dX9_edgeAt_7 rfl rfl rfl ?_
  refine a_getB (q := 11) dX9_edgeAt_8 fX9_101 rfl rfl rfl ?_
  refine a_icmp_geN (q := 14) 45 dX9_edgeAt_11 (by decide) (by omega) (by omega) rfl (fun c11 => ?_) (fun c11 => ?_)
  · skip
    refine a_iconst (q := 46) (-1) dX9_edgeAt_45 (by decide) rfl ?_
    exact a_iret dX9_edgeAt_46 rfl rfl (Nat.le_of_ble_eq_true rfl) (Nat.le_of_ble_eq_true rfl) (⟨rfl, rfl, rfl, rfl⟩)
  · skip
    refine a_iload_n (q := 15) dX9_edgeAt_14 rfl rfl rfl ?_
    refine a_if_lt (q := 18) 45 dX9_edgeAt_15 (by decide) rfl (fun c15 => ?_) (fun c15 => ?_)
    · skip
      refine a_iconst (q := 46) (-1) dX9_edgeAt_45 (by decide) rfl ?_
      exact a_iret dX9_edgeAt_46 rfl rfl (Nat.le_of_ble_eq_true rfl) (Nat.le_of_ble_eq_true rfl) (⟨rfl, rfl, rfl, rfl⟩)
    · exact absurd hx c15
theorem mx_step1 (x : Int32) (hw : (W.1 && !W.2.1) = false) : Ct g mX9_step [.ref (g.2.1 + 0), .int x] 0 A (BM g G T th Y W R Z U L h O) 0 0 (rP (some (.int (nI 0))) A (BM g G T 1 Y W R Z U L h O)) noX := by
  refine Ct.of [some (.ref (g.2.1 + 0)), some (.int x), none, none] (by decide) rfl (Nat.le_of_ble_eq_true rfl) rfl ?_
  refine a_aload_n (q := 1) dX9_step_0 rfl rfl rfl ?_
  refine a_getB (q := 4) dX9_step_1 fX9_88 rfl rfl rfl ?_
  refine a_if_eqZ (q := 7) 18 dX9_step_4 (by decide) rfl (fun c4 => ?_) (fun c4 => ?_)
  · skip
    refine a_iconst (q := 19) (b2 false) dX9_step_18 (by decide) rfl ?_
    refine a_istore_n (q := 20) dX9_step_19 rfl (Nat.le_of_ble_eq_true rfl) rfl rfl ?_
    refine a_iload_n (q := 21) dX9_step_20 rfl rfl rfl ?_
    refine a_if_eqZ (q := 24) 36 dX9_step_21 (by decide) rfl (fun c21 => ?_) (fun c21 => ?_)
    · skip
      refine a_iconst (q := 37) (-1) dX9_step_36 (by decide) rfl ?_
      refine a_istore_n (q := 38) dX9_step_37 rfl (Nat.le_of_ble_eq_true rfl) rfl rfl ?_
      refine a_aload_n (q := 39) dX9_step_38 rfl rfl rfl ?_
      refine a_iload_n (q := 40) dX9_step_39 rfl rfl rfl ?_
      refine a_if_neZ (q := 43) 47 dX9_step_40 (by decide) rfl (fun c40 => ?_) (fun c40 => ?_)
      · cases c40
      · skip
        refine a_iconst (q := 44) (nI 1) dX9_step_43 (by decide) rfl ?_
        refine a_goto 57 dX9_step_44 (by decide) ?_
        refine a_putB (q := 60) dX9_step_57 fX9_81 (fun h => nomatch h) rfl (Nat.le_of_ble_eq_true rfl) rfl rfl rfl ?_
        refine a_aload_n (q := 61) dX9_step_60 rfl rfl rfl ?_
        refine a_getB (q := 64) dX9_step_61 fX9_81 rfl rfl rfl ?_
        refine a_if_leN (q := 67) 69 dX9_step_64 (by decide) (by omega) rfl (fun c64 => ?_) (fun c64 => ?_)
        · exact absurd c64 (by decide)
        · skip
          refine a_iconst (q := 68) (nI 0) dX9_step_67 (by decide) rfl ?_
          exact a_iret dX9_step_68 rfl rfl (Nat.le_of_ble_eq_true rfl) (Nat.le_of_ble_eq_true rfl) (⟨rfl, rfl, rfl, rfl⟩)
    · cases c21
  · skip
    refine a_aload_n (q := 8) dX9_step_7 rfl rfl rfl ?_
    refine a_getB (q := 11) dX9_step_8 fX9_91 rfl rfl rfl ?_
    refine a_if_neZ (q := 14) 18 dX9_step_11 (by decide) rfl (fun c11 => ?_) (fun c11 => ?_)
    · skip
      refine a_iconst (q := 19) (b2 false) dX9_step_18 (by decide) rfl ?_
      refine a_istore_n (q := 20) dX9_step_19 rfl (Nat.le_of_ble_eq_true rfl) rfl rfl ?_
      refine a_iload_n (q := 21) dX9_step_20 rfl rfl rfl ?_
      refine a_if_eqZ (q := 24) 36 dX9_step_21 (by decide) rfl (fun c21 => ?_) (fun c21 => ?_)
      · skip
        refine a_iconst (q := 37) (-1) dX9_step_36 (by decide) rfl ?_
        refine a_istore_n (q := 38) dX9_step_37 rfl (Nat.le_of_ble_eq_true rfl) rfl rfl ?_
        refine a_aload_n (q := 39) dX9_step_38 rfl rfl rfl ?_
        refine a_iload_n (q := 40) dX9_step_39 rfl rfl rfl ?_
        refine a_if_neZ (q := 43) 47 dX9_step_40 (by decide) rfl (fun c40 => ?_) (fun c40 => ?_)
        · cases c40
        · skip
          refine a_iconst (q := 44) (nI 1) dX9_step_43 (by decide) rfl ?_
          refine a_goto 57 dX9_step_44 (by decide) ?_
          refine a_putB (q := 60) dX9_step_57 fX9_81 (fun h => nomatch h) rfl (Nat.le_of_ble_eq_true rfl) rfl rfl rfl ?_
          refine a_aload_n (q := 61) dX9_step_60 rfl rfl rfl ?_
          refine a_getB (q := 64) dX9_step_61 fX9_81 rfl rfl rfl ?_
          refine a_if_leN (q := 67) 69 dX9_step_64 (by decide) (by omega) rfl (fun c64 => ?_) (fun c64 => ?_)
          · exact absurd c64 (by decide)
          · skip
            refine a_iconst (q := 68) (nI 0) dX9_step_67 (by decide) rfl ?_
            exact a_iret dX9_step_68 rfl rfl (Nat.le_of_ble_eq_true rfl) (Nat.le_of_ble_eq_true rfl) (⟨rfl, rfl, rfl, rfl⟩)
      · cases c21
    · rw [c4, c11] at hw; cases hw
theorem mx_step2 (x : Int32) (h1 : W.1 = true) (h2 : W.2.1 = false) (hM : Ct g mX9_edgeAt [.ref (g.2.1 + 0), .int (nI W.2.2.1), .int x] 0 A (BM g G T th Y W R Z U L h O) 0 0 (rP (some (.int (-1))) A (BM g G T th Y W R Z U L h O)) noX) : Ct g mX9_step [.ref (g.2.1 + 0), .int x] 0 A (BM g G T th Y W R Z U L h O) 0 0 (rP (some (.int (nI 0))) A (BM g G T 2 Y W R Z U L h O)) noX := by
  refine Ct.of [some (.ref (g.2.1 + 0)), some (.int x), none, none] (by decide) rfl (Nat.le_of_ble_eq_true rfl) rfl ?_
  refine a_aload_n (q := 1) dX9_step_0 rfl rfl rfl ?_
  refine a_getB (q := 4) dX9_step_1 fX9_88 rfl rfl rfl ?_
  refine a_if_eqZ (q := 7) 18 dX9_step_4 (by decide) rfl (fun c4 => ?_) (fun c4 => ?_)
  · rw [h1] at c4; cases c4
  · skip
    refine a_aload_n (q := 8) dX9_step_7 rfl rfl rfl ?_
    refine a_getB (q := 11) dX9_step_8 fX9_91 rfl rfl rfl ?_
    refine a_if_neZ (q := 14) 18 dX9_step_11 (by decide) rfl (fun c11 => ?_) (fun c11 => ?_)
    · rw [h2] at c11; cases c11
    · skip
      refine a_iconst (q := 15) (b2 true) dX9_step_14 (by decide) rfl ?_
      refine a_goto 19 dX9_step_15 (by decide) ?_
      refine a_istore_n (q := 20) dX9_step_19 rfl (Nat.le_of_ble_eq_true rfl) rfl rfl ?_
      refine a_iload_n (q := 21) dX9_step_20 rfl rfl rfl ?_
      refine a_if_eqZ (q := 24) 36 dX9_step_21 (by decide) rfl (fun c21 => ?_) (fun c21 => ?_)
      · cases c21
      · skip
        refine a_aload_n (q := 25) dX9_step_24 rfl rfl rfl ?_
        refine a_aload_n (q := 26) dX9_step_25 rfl rfl rfl ?_
        refine a_getB (q := 29) dX9_step_26 fX9_239 rfl rfl rfl ?_
        refine a_iload_n (q := 30) dX9_step_29 rfl rfl rfl ?_
        refine a_cVBv (q := 33) _ dX9_step_30 kX9_242 (hM) rfl rfl rfl (Nat.le_of_ble_eq_true rfl) ⟨(Nat.le_of_ble_eq_true rfl), (Nat.le_of_ble_eq_true rfl)⟩ ⟨(Nat.le_of_ble_eq_true rfl), (Nat.le_of_ble_eq_true rfl)⟩ rfl ?_
        refine a_goto 37 dX9_step_33 (by decide) ?_
        refine a_istore_n (q := 38) dX9_step_37 rfl (Nat.le_of_ble_eq_true rfl) rfl rfl ?_
        refine a_aload_n (q := 39) dX9_step_38 rfl rfl rfl ?_
        refine a_iload_n (q := 40) dX9_step_39 rfl rfl rfl ?_
        refine a_if_neZ (q := 43) 47 dX9_step_40 (by decide) rfl (fun c40 => ?_) (fun c40 => ?_)
        · skip
          refine a_iload_n (q := 48) dX9_step_47 rfl rfl rfl ?_
          refine a_iconst (q := 49) (-1) dX9_step_48 (by decide) rfl ?_
          refine a_icmp_ne (q := 52) 56 dX9_step_49 (by decide) rfl (fun c49 => ?_) (fun c49 => ?_)
          · exact absurd rfl c49
          · skip
            refine a_iconst (q := 53) (nI 2) dX9_step_52 (by decide) rfl ?_
            refine a_goto 57 dX9_step_53 (by decide) ?_
            refine a_putB (q := 60) dX9_step_57 fX9_81 (fun h => nomatch h) rfl (Nat.le_of_ble_eq_true rfl) rfl rfl rfl ?_
            refine a_aload_n (q := 61) dX9_step_60 rfl rfl rfl ?_
            refine a_getB (q := 64) dX9_step_61 fX9_81 rfl rfl rfl ?_
            refine a_if_leN (q := 67) 69 dX9_step_64 (by decide) (by omega) rfl (fun c64 => ?_) (fun c64 => ?_)
            · exact absurd c64 (by decide)
            · skip
              refine a_iconst (q := 68) (nI 0) dX9_step_67 (by decide) rfl ?_
              exact a_iret dX9_step_68 rfl rfl (Nat.le_of_ble_eq_true rfl) (Nat.le_of_ble_eq_true rfl) (⟨rfl, rfl, rfl, rfl⟩)
        · cases c40
/-- the walk goes along edge k -/
def wS (W : Wa) (G : Gr) (Y : Ya) (k c : Nat) : Wa :=
  if Y.2.1 k = true then (W.1, W.2.1, G.2.2.2.1 k, Y.2.2.2.2.1 (2 * k + 1), va_up W.2.2.2.2 c (W.2.2.2.2 c + 1))
  else if G.2.2.2.1 k = G.1 - 1 then (W.1, true, G.2.2.2.1 k, W.2.2.2.1 + Y.2.2.2.2.1 (2 * k), va_up W.2.2.2.2 c (W.2.2.2.2 c + 1))
  else (W.1, W.2.1, G.2.2.2.1 k, W.2.2.2.1 + Y.2.2.2.2.1 (2 * k), W.2.2.2.2)
theorem m_step (x : Int32) (k c : Nat) (hg : gok G) (hk : k < G.2.1) (h1 : W.1 = true) (h2 : W.2.1 = false) (hc : (Y.2.1 k = true ∨ G.2.2.2.1 k = G.1 - 1) → c < 200 ∧ W.2.2.2.1 + Y.2.2.2.2.1 (2 * k) = nI c) (hM : Ct g mX9_edgeAt [.ref (g.2.1 + 0), .int (nI W.2.2.1), .int x] 0 A (BM g G T th Y W R Z U L h O) 0 0 (rP (some (.int (nI k))) A (BM g G T th Y W R Z U L h O)) noX) : Ct g mX9_step [.ref (g.2.1 + 0), .int x] 0 A (BM g G T th Y W R Z U L h O) 0 0 (rP (some (.int (nI (G.2.2.2.1 k)))) A (BM g G T 0 Y (wS W G Y k c) R Z U L h O)) noX := by
  obtain ⟨g1, g2, g3, g4, g5⟩ := id hg
  have h4 := (g4 k hk).2.2.1
  refine Ct.of [some (.ref (g.2.1 + 0)), some (.int x), none, none] (by decide) rfl (Nat.le_of_ble_eq_true rfl) rfl ?_
  unfold wS
  refine a_aload_n (q := 1) dX9_step_0 rfl rfl rfl ?_
  refine a_getB (q := 4) dX9_step_1 fX9_88 rfl rfl rfl ?_
  refine a_if_eqZ (q := 7) 18 dX9_step_4 (by decide) rfl (fun c4 => ?_) (fun c4 => ?_)
  · rw [h1] at c4; cases c4
  · skip
    refine a_aload_n (q := 8) dX9_step_7 rfl rfl rfl ?_
    refine a_getB (q := 11) dX9_step_8 fX9_91 rfl rfl rfl ?_
    refine a_if_neZ (q := 14) 18 dX9_step_11 (by decide) rfl (fun c11 => ?_) (fun c11 => ?_)
    · rw [h2] at c11; cases c11
    · skip
      refine a_iconst (q := 15) (b2 true) dX9_step_14 (by decide) rfl ?_
      refine a_goto 19 dX9_step_15 (by decide) ?_
      refine a_istore_n (q := 20) dX9_step_19 rfl (Nat.le_of_ble_eq_true rfl) rfl rfl ?_
      refine a_iload_n (q := 21) dX9_step_20 rfl rfl rfl ?_
      refine a_if_eqZ (q := 24) 36 dX9_step_21 (by decide) rfl (fun c21 => ?_) (fun c21 => ?_)
      · cases c21
      · skip
        refine a_aload_n (q := 25) dX9_step_24 rfl rfl rfl ?_
        refine a_aload_n (q := 26) dX9_step_25 rfl rfl rfl ?_
        refine a_getB (q := 29) dX9_step_26 fX9_239 rfl rfl rfl ?_
        refine a_iload_n (q := 30) dX9_step_29 rfl rfl rfl ?_
        refine a_cVBv (q := 33) _ dX9_step_30 kX9_242 (hM) rfl rfl rfl (Nat.le_of_ble_eq_true rfl) ⟨(Nat.le_of_ble_eq_true rfl), (Nat.le_of_ble_eq_true rfl)⟩ ⟨(Nat.le_of_ble_eq_true rfl), (Nat.le_of_ble_eq_true rfl)⟩ rfl ?_
        refine a_goto 37 dX9_step_33 (by decide) ?_
        refine a_istore_n (q := 38) dX9_step_37 rfl (Nat.le_of_ble_eq_true rfl) rfl rfl ?_
        refine a_aload_n (q := 39) dX9_step_38 rfl rfl rfl ?_
        refine a_iload_n (q := 40) dX9_step_39 rfl rfl rfl ?_
        refine a_if_neZ (q := 43) 47 dX9_step_40 (by decide) rfl (fun c40 => ?_) (fun c40 => ?_)
        · skip
          refine a_iload_n (q := 48) dX9_step_47 rfl rfl rfl ?_
          refine a_iconst (q := 49) (-1) dX9_step_48 (by decide) rfl ?_
          refine a_icmp_ne (q := 52) 56 dX9_step_49 (by decide) rfl (fun c49 => ?_) (fun c49 => ?_)
          · skip
            refine a_iconst (q := 57) (nI 0) dX9_step_56 (by decide) rfl ?_
            refine a_putB (q := 60) dX9_step_57 fX9_81 (fun h => nomatch h) rfl (Nat.le_of_ble_eq_true rfl) rfl rfl rfl ?_
            refine a_aload_n (q := 61) dX9_step_60 rfl rfl rfl ?_
            refine a_getB (q := 64) dX9_step_61 fX9_81 rfl rfl rfl ?_
            refine a_if_leN (q := 67) 69 dX9_step_64 (by decide) (by omega) rfl (fun c64 => ?_) (fun c64 => ?_)
            · skip
              refine a_aload_n (q := 70) dX9_step_69 rfl rfl rfl ?_
              refine a_dup (q := 71) dX9_step_70 rfl rfl ?_
              refine a_getB (q := 74) dX9_step_71 fX9_94 rfl rfl rfl ?_
              refine a_aload_n (q := 75) dX9_step_74 rfl rfl rfl ?_
              refine a_getB (q := 78) dX9_step_75 fX9_36 rfl rfl rfl ?_
              refine a_iconst (q := 79) (nI 2) dX9_step_78 (by decide) rfl ?_
              refine a_iload_n (q := 80) dX9_step_79 rfl rfl rfl ?_
              refine a_imulN (q := 81) dX9_step_80 rfl ?_
              refine a_ialdBI (q := 82) dX9_step_81 rfl (by omega) (by decide) rfl ?_
              refine a_iadd (q := 83) dX9_step_82 rfl ?_
              refine a_putB (q := 86) dX9_step_83 fX9_94 (fun h => nomatch h) rfl (Nat.le_of_ble_eq_true rfl) rfl rfl rfl ?_
              refine a_aload_n (q := 87) dX9_step_86 rfl rfl rfl ?_
              refine a_aload_n (q := 88) dX9_step_87 rfl rfl rfl ?_
              refine a_getB (q := 91) dX9_step_88 fX9_17 rfl rfl rfl ?_
              refine a_iload_n (q := 92) dX9_step_91 rfl rfl rfl ?_
              refine a_ialdBN (q := 93) dX9_step_92 rfl (by omega) (by decide) rfl ?_
              refine a_putB (q := 96) dX9_step_93 fX9_239 (fun h => nomatch h) rfl (Nat.le_of_ble_eq_true rfl) rfl rfl rfl ?_
              refine a_aload_n (q := 97) dX9_step_96 rfl rfl rfl ?_
              refine a_getB (q := 100) dX9_step_97 fX9_26 rfl rfl rfl ?_
              refine a_iload_n (q := 101) dX9_step_100 rfl rfl rfl ?_
              refine a_zaldBN (q := 102) dX9_step_101 rfl (by omega) (by decide) rfl ?_
              refine a_if_eqZ (q := 105) 135 dX9_step_102 (by decide) rfl (fun c102 => ?_) (fun c102 => ?_)
              · rw [if_neg (show ¬ Y.2.1 k = true by rw [show Y.2.1 k = false from c102]; decide)]
                refine a_aload_n (q := 136) dX9_step_135 rfl rfl rfl ?_
                refine a_getB (q := 139) dX9_step_136 fX9_239 rfl rfl rfl ?_
                refine a_aload_n (q := 140) dX9_step_139 rfl rfl rfl ?_
                refine a_getB (q := 143) dX9_step_140 fX9_7 rfl rfl rfl ?_
                refine a_iconst (q := 144) (nI 1) dX9_step_143 (by decide) rfl ?_
                refine a_isubN (q := 145) dX9_step_144 (by omega) rfl ?_
                refine a_icmp_neN (q := 148) 166 dX9_step_145 (by decide) (by omega) (by omega) rfl (fun c145 => ?_) (fun c145 => ?_)
                · rw [if_neg (show ¬ G.2.2.2.1 k = G.1 - 1 from c145)]
                  refine a_aload_n (q := 167) dX9_step_166 rfl rfl rfl ?_
                  refine a_getB (q := 170) dX9_step_167 fX9_239 rfl rfl rfl ?_
                  exact a_iret dX9_step_170 rfl rfl (Nat.le_of_ble_eq_true rfl) (Nat.le_of_ble_eq_true rfl) (⟨rfl, rfl, rfl, rfl⟩)
                · rw [if_pos (show G.2.2.2.1 k = G.1 - 1 from c145)]
                  obtain ⟨hc1, hc2⟩ := hc (Or.inr c145)
                  refine a_aload_n (q := 149) dX9_step_148 rfl rfl rfl ?_
                  refine a_getB (q := 152) dX9_step_149 fX9_42 rfl rfl rfl ?_
                  refine a_aload_n (q := 153) dX9_step_152 rfl rfl rfl ?_
                  refine a_getB (q := 156) dX9_step_153 fX9_94 rfl rfl rfl ?_
                  show AW _ _ _ _ _ _ _ _ _ _ (.int (W.2.2.2.1 + Y.2.2.2.2.1 (2 * k)) :: _) _ _ _
                  rw [hc2]
                  refine a_dup2 (q := 157) dX9_step_156 rfl rfl rfl ?_
                  refine a_ialdBN (q := 158) dX9_step_157 rfl (by omega) (by decide) rfl ?_
                  refine a_iconst (q := 159) (nI 1) dX9_step_158 (by decide) rfl ?_
                  refine a_iaddN (q := 160) dX9_step_159 rfl ?_
                  refine a_iastBN (q := 161) dX9_step_160 rfl (by omega) (by decide) rfl ?_
                  refine a_aload_n (q := 162) dX9_step_161 rfl rfl rfl ?_
                  refine a_iconst (q := 163) (b2 true) dX9_step_162 (by decide) rfl ?_
                  refine a_putB (q := 166) dX9_step_163 fX9_91 (fun h => nomatch h) rfl (Nat.le_of_ble_eq_true rfl) (b2_narrow _) rfl rfl ?_
                  refine a_aload_n (q := 167) dX9_step_166 rfl rfl rfl ?_
                  refine a_getB (q := 170) dX9_step_167 fX9_239 rfl rfl rfl ?_
                  exact a_iret dX9_step_170 rfl rfl (Nat.le_of_ble_eq_true rfl) (Nat.le_of_ble_eq_true rfl) (⟨rfl, rfl, rfl, rfl⟩)
              · rw [if_pos (show Y.2.1 k = true from c102)]
                obtain ⟨hc1, hc2⟩ := hc (Or.inl c102)
                refine a_aload_n (q := 106) dX9_step_105 rfl rfl rfl ?_
                refine a_getB (q := 109) dX9_step_106 fX9_42 rfl rfl rfl ?_
                refine a_aload_n (q := 110) dX9_step_109 rfl rfl rfl ?_
                refine a_getB (q := 113) dX9_step_110 fX9_94 rfl rfl rfl ?_
                show AW _ _ _ _ _ _ _ _ _ _ (.int (W.2.2.2.1 + Y.2.2.2.2.1 (2 * k)) :: _) _ _ _
                rw [hc2]
                refine a_dup2 (q := 114) dX9_step_113 rfl rfl rfl ?_
                refine a_ialdBN (q := 115) dX9_step_114 rfl (by omega) (by decide) rfl ?_
                refine a_iconst (q := 116) (nI 1) dX9_step_115 (by decide) rfl ?_
                refine a_iaddN (q := 117) dX9_step_116 rfl ?_
                refine a_iastBN (q := 118) dX9_step_117 rfl (by omega) (by decide) rfl ?_
                refine a_aload_n (q := 119) dX9_step_118 rfl rfl rfl ?_
                refine a_aload_n (q := 120) dX9_step_119 rfl rfl rfl ?_
                refine a_getB (q := 123) dX9_step_120 fX9_36 rfl rfl rfl ?_
                refine a_iconst (q := 124) (nI 2) dX9_step_123 (by decide) rfl ?_
                refine a_iload_n (q := 125) dX9_step_124 rfl rfl rfl ?_
                refine a_imulN (q := 126) dX9_step_125 rfl ?_
                refine a_iconst (q := 127) (nI 1) dX9_step_126 (by decide) rfl ?_
                refine a_iaddN (q := 128) dX9_step_127 rfl ?_
                refine a_ialdBI (q := 129) dX9_step_128 rfl (by omega) (by decide) rfl ?_
                refine a_putB (q := 132) dX9_step_129 fX9_94 (fun h => nomatch h) rfl (Nat.le_of_ble_eq_true rfl) rfl rfl rfl ?_
                refine a_goto 166 dX9_step_132 (by decide) ?_
                refine a_aload_n (q := 167) dX9_step_166 rfl rfl rfl ?_
                refine a_getB (q := 170) dX9_step_167 fX9_239 rfl rfl rfl ?_
                exact a_iret dX9_step_170 rfl rfl (Nat.le_of_ble_eq_true rfl) (Nat.le_of_ble_eq_true rfl) (⟨rfl, rfl, rfl, rfl⟩)
            · exact absurd c64 (by decide)
          · exact absurd c49 (nI_m1 (by omega))
        · cases c40
def cuN (W : Wa) : Int32 := if W.1 = true then nI W.2.2.1 else -1
theorem m_currentNow : Ct g mX9_currentNow [.ref (g.2.1 + 0)] 0 A (BM g G T th Y W R Z U L h O) 0 0 (rP (some (.int (cuN W))) A (BM g G T th Y W R Z U L h O)) noX := by
  refine Ct.of [some (.ref (g.2.1 + 0))] (by decide) rfl (Nat.le_of_ble_eq_true rfl) rfl ?_
  unfold cuN
  refine a_aload_n (q := 1) dX9_currentNow_0 rfl rfl rfl ?_
  refine a_getB (q := 4) dX9_currentNow_1 fX9_88 rfl rfl rfl ?_
  refine a_if_eqZ (q := 7) 14 dX9_currentNow_4 (by decide) rfl (fun c4 => ?_) (fun c4 => ?_)
  · rw [if_neg (by rw [c4]; decide)]
    refine a_iconst (q := 15) (-1) dX9_currentNow_14 (by decide) rfl ?_
    exact a_iret dX9_currentNow_15 rfl rfl (Nat.le_of_ble_eq_true rfl) (Nat.le_of_ble_eq_true rfl) (⟨rfl, rfl, rfl, rfl⟩)
  · rw [if_pos c4]
    refine a_aload_n (q := 8) dX9_currentNow_7 rfl rfl rfl ?_
    refine a_getB (q := 11) dX9_currentNow_8 fX9_239 rfl rfl rfl ?_
    refine a_goto 15 dX9_currentNow_11 (by decide) ?_
    exact a_iret dX9_currentNow_15 rfl rfl (Nat.le_of_ble_eq_true rfl) (Nat.le_of_ble_eq_true rfl) (⟨rfl, rfl, rfl, rfl⟩)
theorem m_current : Ct g mX9_current [.ref (g.2.1 + 0)] 0 A (BM g G T th Y W R Z U L h O) 0 0 (rP (some (.int (cuN W))) A (BM g G T 0 Y W R Z U L h O)) noX := by
  refine Ct.of [some (.ref (g.2.1 + 0))] (by decide) rfl (Nat.le_of_ble_eq_true rfl) rfl ?_
  refine a_aload_n (q := 1) dX9_current_0 rfl rfl rfl ?_
  refine a_iconst (q := 2) (nI 0) dX9_current_1 (by decide) rfl ?_
  refine a_putB (q := 5) dX9_current_2 fX9_81 (fun h => nomatch h) rfl (Nat.le_of_ble_eq_true rfl) rfl rfl rfl ?_
  refine a_aload_n (q := 6) dX9_current_5 rfl rfl rfl ?_
  refine a_cVBv (q := 9) _ dX9_current_6 kX9_245 (m_currentNow (G := G) (th := 0)) rfl rfl rfl (Nat.le_of_ble_eq_true rfl) ⟨(Nat.le_of_ble_eq_true rfl), (Nat.le_of_ble_eq_true rfl)⟩ ⟨(Nat.le_of_ble_eq_true rfl), (Nat.le_of_ble_eq_true rfl)⟩ rfl ?_
  exact a_iret dX9_current_9 rfl rfl (Nat.le_of_ble_eq_true rfl) (Nat.le_of_ble_eq_true rfl) (⟨rfl, rfl, rfl, rfl⟩)
theorem m_register : Ct g mX9_register [.ref (g.2.1 + 0)] 0 A (BM g G T th Y W R Z U L h O) 0 0 (rP (some (.int W.2.2.2.1)) A (BM g G T 0 Y W R Z U L h O)) noX := by
  refine Ct.of [some (.ref (g.2.1 + 0))] (by decide) rfl (Nat.le_of_ble_eq_true rfl) rfl ?_
  refine a_aload_n (q := 1) dX9_register_0 rfl rfl rfl ?_
  refine a_iconst (q := 2) (nI 0) dX9_register_1 (by decide) rfl ?_
  refine a_putB (q := 5) dX9_register_2 fX9_81 (fun h => nomatch h) rfl (Nat.le_of_ble_eq_true rfl) rfl rfl rfl ?_
  refine a_aload_n (q := 6) dX9_register_5 rfl rfl rfl ?_
  refine a_getB (q := 9) dX9_register_6 fX9_94 rfl rfl rfl ?_
  exact a_iret dX9_register_9 rfl rfl (Nat.le_of_ble_eq_true rfl) (Nat.le_of_ble_eq_true rfl) (⟨rfl, rfl, rfl, rfl⟩)
theorem m_lackC (q : Bool) : Ct g mX9_lackOfCounts [.ref (g.2.1 + 0), .int (b2 q)] 0 A (BM g G T th Y W R Z U L h O) 0 0 (rP (some (.int (nI (lkN (cbl Y.1 (Y.2.2.1 0)) q)))) A (BM g G T th Y W R Z U L h O)) noX := by
  refine Ct.of [some (.ref (g.2.1 + 0)), some (.int (b2 q))] (by decide) rfl (Nat.le_of_ble_eq_true rfl) rfl ?_
  unfold lkN
  refine a_aload_n (q := 1) dX9_lackOfCounts_0 rfl rfl rfl ?_
  refine a_cVBv (q := 4) _ dX9_lackOfCounts_1 kX9_237 (m_counts) rfl rfl rfl (Nat.le_of_ble_eq_true rfl) ⟨(Nat.le_of_ble_eq_true rfl), (Nat.le_of_ble_eq_true rfl)⟩ ⟨(Nat.le_of_ble_eq_true rfl), (Nat.le_of_ble_eq_true rfl)⟩ rfl ?_
  refine a_if_neZ (q := 7) 11 dX9_lackOfCounts_4 (by decide) rfl (fun c4 => ?_) (fun c4 => ?_)
  · rw [if_pos c4]
    refine a_iload_n (q := 12) dX9_lackOfCounts_11 rfl rfl rfl ?_
    refine a_if_eqZ (q := 15) 19 dX9_lackOfCounts_12 (by decide) rfl (fun c12 => ?_) (fun c12 => ?_)
    · rw [if_neg (by rw [c12]; decide)]
      refine a_iconst (q := 20) (nI 2) dX9_lackOfCounts_19 (by decide) rfl ?_
      exact a_iret dX9_lackOfCounts_20 rfl rfl (Nat.le_of_ble_eq_true rfl) (Nat.le_of_ble_eq_true rfl) (⟨rfl, rfl, rfl, rfl⟩)
    · rw [if_pos c12]
      refine a_iconst (q := 16) (nI 0) dX9_lackOfCounts_15 (by decide) rfl ?_
      refine a_goto 20 dX9_lackOfCounts_16 (by decide) ?_
      exact a_iret dX9_lackOfCounts_20 rfl rfl (Nat.le_of_ble_eq_true rfl) (Nat.le_of_ble_eq_true rfl) (⟨rfl, rfl, rfl, rfl⟩)
  · rw [if_neg (by rw [c4]; decide)]
    refine a_iconst (q := 8) (nI 1) dX9_lackOfCounts_7 (by decide) rfl ?_
    refine a_goto 20 dX9_lackOfCounts_8 (by decide) ?_
    exact a_iret dX9_lackOfCounts_20 rfl rfl (Nat.le_of_ble_eq_true rfl) (Nat.le_of_ble_eq_true rfl) (⟨rfl, rfl, rfl, rfl⟩)
theorem m_count (k : Nat) (hk : k < 200) (hc : cbl Y.1 (Y.2.2.1 0) = true) (hp : mPt Y.1 (nI k) (Y.2.2.1 0) = true) : Ct g mX9_count [.ref (g.2.1 + 0), .int (nI k)] 0 A (BM g G T th Y W R Z U L h O) 0 0 (rP (some (.int (nI (W.2.2.2.2 k)))) A (BM g G T 0 Y W R Z U L h O)) noX := by
  have hl : lkN (cbl Y.1 (Y.2.2.1 0)) (mPt Y.1 (nI k) (Y.2.2.1 0)) = 0 := by rw [hc, hp]; rfl
  refine Ct.of [some (.ref (g.2.1 + 0)), some (.int (nI k))] (by decide) rfl (Nat.le_of_ble_eq_true rfl) rfl ?_
  refine a_aload_n (q := 1) dX9_count_0 rfl rfl rfl ?_
  refine a_aload_n (q := 2) dX9_count_1 rfl rfl rfl ?_
  refine a_aload_n (q := 3) dX9_count_2 rfl rfl rfl ?_
  refine a_iload_n (q := 4) dX9_count_3 rfl rfl rfl ?_
  refine a_cVBv (q := 7) _ dX9_count_4 kX9_219 (m_isPath _) rfl rfl rfl (Nat.le_of_ble_eq_true rfl) ⟨(Nat.le_of_ble_eq_true rfl), (Nat.le_of_ble_eq_true rfl)⟩ ⟨(Nat.le_of_ble_eq_true rfl), (Nat.le_of_ble_eq_true rfl)⟩ rfl ?_
  refine a_cVBv (q := 10) _ dX9_count_7 kX9_248 (m_lackC _) rfl rfl rfl (Nat.le_of_ble_eq_true rfl) ⟨(Nat.le_of_ble_eq_true rfl), (Nat.le_of_ble_eq_true rfl)⟩ ⟨(Nat.le_of_ble_eq_true rfl), (Nat.le_of_ble_eq_true rfl)⟩ rfl ?_
  rw [hl]
  refine a_putB (q := 13) dX9_count_10 fX9_81 (fun h => nomatch h) rfl (Nat.le_of_ble_eq_true rfl) rfl rfl rfl ?_
  refine a_aload_n (q := 14) dX9_count_13 rfl rfl rfl ?_
  refine a_getB (q := 17) dX9_count_14 fX9_81 rfl rfl rfl ?_
  refine a_if_leN (q := 20) 24 dX9_count_17 (by decide) (by omega) rfl (fun c17 => ?_) (fun c17 => ?_)
  · skip
    refine a_aload_n (q := 25) dX9_count_24 rfl rfl rfl ?_
    refine a_getB (q := 28) dX9_count_25 fX9_42 rfl rfl rfl ?_
    refine a_iload_n (q := 29) dX9_count_28 rfl rfl rfl ?_
    refine a_ialdBN (q := 30) dX9_count_29 rfl (by omega) (by decide) rfl ?_
    exact a_iret dX9_count_30 rfl rfl (Nat.le_of_ble_eq_true rfl) (Nat.le_of_ble_eq_true rfl) (⟨rfl, rfl, rfl, rfl⟩)
  · exact absurd c17 (by decide)
theorem mx_count (x : Int32) (hl : 0 < lkN (cbl Y.1 (Y.2.2.1 0)) (mPt Y.1 x (Y.2.2.1 0))) : Ct g mX9_count [.ref (g.2.1 + 0), .int x] 0 A (BM g G T th Y W R Z U L h O) 0 0 (rP (some (.int (nI 0))) A (BM g G T (lkN (cbl Y.1 (Y.2.2.1 0)) (mPt Y.1 x (Y.2.2.1 0))) Y W R Z U L h O)) noX := by
  have h9 := lkN_le (an := cbl Y.1 (Y.2.2.1 0)) (ok := mPt Y.1 x (Y.2.2.1 0))
  refine Ct.of [some (.ref (g.2.1 + 0)), some (.int x)] (by decide) rfl (Nat.le_of_ble_eq_true rfl) rfl ?_
  refine a_aload_n (q := 1) dX9_count_0 rfl rfl rfl ?_
  refine a_aload_n (q := 2) dX9_count_1 rfl rfl rfl ?_
  refine a_aload_n (q := 3) dX9_count_2 rfl rfl rfl ?_
  refine a_iload_n (q := 4) dX9_count_3 rfl rfl rfl ?_
  refine a_cVBv (q := 7) _ dX9_count_4 kX9_219 (m_isPath _) rfl rfl rfl (Nat.le_of_ble_eq_true rfl) ⟨(Nat.le_of_ble_eq_true rfl), (Nat.le_of_ble_eq_true rfl)⟩ ⟨(Nat.le_of_ble_eq_true rfl), (Nat.le_of_ble_eq_true rfl)⟩ rfl ?_
  refine a_cVBv (q := 10) _ dX9_count_7 kX9_248 (m_lackC _) rfl rfl rfl (Nat.le_of_ble_eq_true rfl) ⟨(Nat.le_of_ble_eq_true rfl), (Nat.le_of_ble_eq_true rfl)⟩ ⟨(Nat.le_of_ble_eq_true rfl), (Nat.le_of_ble_eq_true rfl)⟩ rfl ?_
  refine a_putB (q := 13) dX9_count_10 fX9_81 (fun h => nomatch h) rfl (Nat.le_of_ble_eq_true rfl) rfl rfl rfl ?_
  refine a_aload_n (q := 14) dX9_count_13 rfl rfl rfl ?_
  refine a_getB (q := 17) dX9_count_14 fX9_81 rfl rfl rfl ?_
  refine a_if_leN (q := 20) 24 dX9_count_17 (by decide) (by omega) rfl (fun c17 => ?_) (fun c17 => ?_)
  · omega
  · skip
    refine a_iconst (q := 21) (nI 0) dX9_count_20 (by decide) rfl ?_
    refine a_goto 30 dX9_count_21 (by decide) ?_
    exact a_iret dX9_count_30 rfl rfl (Nat.le_of_ble_eq_true rfl) (Nat.le_of_ble_eq_true rfl) (⟨rfl, rfl, rfl, rfl⟩)
/-- the sum of the counts -/
def smF (f : Nat → Nat) : Nat → Nat → Nat → Nat
  | 0, _, s => s
  | m + 1, k, s => smF f m (k + 1) (s + f k)
def sm (f : Nat → Nat) : Nat := smF f 200 0 0
theorem l_ac (P : ps_T) : ∀ (m k s : Nat), 200 - k = m → k ≤ 200 → P (some (.int (nI (smF W.2.2.2.2 m k s)))) 0 A (BM g G T th Y W R Z U L h O) → AW g mX9_allCounts 0 0 P noX 0 0 4 [some (.ref (g.2.1 + 0)), some (.int (nI s)), some (.int (nI k))] [] 0 A (BM g G T th Y W R Z U L h O) := by
  intro m
  induction m with
  | zero =>
    intro k s hm hk hp
    refine a_iload_n (q := 5) dX9_allCounts_4 rfl rfl rfl ?_
    refine a_sipush (q := 8) (nI 200) dX9_allCounts_5 (by decide) rfl ?_
    refine a_icmp_geN (q := 11) 26 dX9_allCounts_8 (by decide) (by omega) (by omega) rfl (fun c8 => ?_) (fun c8 => ?_)
    · skip
      refine a_iload_n (q := 27) dX9_allCounts_26 rfl rfl rfl ?_
      exact a_iret dX9_allCounts_27 rfl rfl (Nat.le_of_ble_eq_true rfl) (Nat.le_of_ble_eq_true rfl) (hp)
    · omega
  | succ m ih =>
    intro k s hm hk hp
    unfold smF at hp
    refine a_iload_n (q := 5) dX9_allCounts_4 rfl rfl rfl ?_
    refine a_sipush (q := 8) (nI 200) dX9_allCounts_5 (by decide) rfl ?_
    refine a_icmp_geN (q := 11) 26 dX9_allCounts_8 (by decide) (by omega) (by omega) rfl (fun c8 => ?_) (fun c8 => ?_)
    · omega
    · skip
      refine a_iload_n (q := 12) dX9_allCounts_11 rfl rfl rfl ?_
      refine a_aload_n (q := 13) dX9_allCounts_12 rfl rfl rfl ?_
      refine a_getB (q := 16) dX9_allCounts_13 fX9_42 rfl rfl rfl ?_
      refine a_iload_n (q := 17) dX9_allCounts_16 rfl rfl rfl ?_
      refine a_ialdBN (q := 18) dX9_allCounts_17 rfl (by omega) (by decide) rfl ?_
      refine a_iaddN (q := 19) dX9_allCounts_18 rfl ?_
      refine a_istore_n (q := 20) dX9_allCounts_19 rfl (Nat.le_of_ble_eq_true rfl) rfl rfl ?_
      refine a_iincN (q := 23) (c := 1) dX9_allCounts_20 rfl (by decide) rfl rfl ?_
      refine a_goto 4 dX9_allCounts_23 (by decide) ?_
      exact ih (k + 1) _ (by omega) (by omega) hp
theorem m_allCounts : Ct g mX9_allCounts [.ref (g.2.1 + 0)] 0 A (BM g G T th Y W R Z U L h O) 0 0 (rP (some (.int (nI (sm W.2.2.2.2)))) A (BM g G T th Y W R Z U L h O)) noX := by
  refine Ct.of [some (.ref (g.2.1 + 0)), none, none] (by decide) rfl (Nat.le_of_ble_eq_true rfl) rfl ?_
  refine a_iconst (q := 1) (nI 0) dX9_allCounts_0 (by decide) rfl ?_
  refine a_istore_n (q := 2) dX9_allCounts_1 rfl (Nat.le_of_ble_eq_true rfl) rfl rfl ?_
  refine a_iconst (q := 3) (nI 0) dX9_allCounts_2 (by decide) rfl ?_
  refine a_istore_n (q := 4) dX9_allCounts_3 rfl (Nat.le_of_ble_eq_true rfl) rfl rfl ?_
  exact l_ac _ _ 0 0 rfl (Nat.zero_le _) ⟨rfl, rfl, rfl, rfl⟩
theorem m_share (k : Nat) (hk : k < 200) (hc : cbl Y.1 (Y.2.2.1 0) = true) (hp : mPt Y.1 (nI k) (Y.2.2.1 0) = true) (hs : sm W.2.2.2.2 < big) (hd : sm W.2.2.2.2 ≠ 0 → vf_n64 (FP.ddiv (FP.i2d (nI (W.2.2.2.2 k))) (FP.i2d (nI (sm W.2.2.2.2))))) : Ct g mX9_share [.ref (g.2.1 + 0), .int (nI k)] 0 A (BM g G T th Y W R Z U L h O) 0 0 (rP (some (.double (if sm W.2.2.2.2 = 0 then FP.dconst0 else FP.ddiv (FP.i2d (nI (W.2.2.2.2 k))) (FP.i2d (nI (sm W.2.2.2.2)))))) A (BM g G T 0 Y W R Z U L h O)) noX := by
  have hl : lkN (cbl Y.1 (Y.2.2.1 0)) (mPt Y.1 (nI k) (Y.2.2.1 0)) = 0 := by rw [hc, hp]; rfl
  unfold big at hs
  refine Ct.of [some (.ref (g.2.1 + 0)), some (.int (nI k))] (by decide) rfl (Nat.le_of_ble_eq_true rfl) rfl ?_
  refine a_aload_n (q := 1) dX9_share_0 rfl rfl rfl ?_
  refine a_aload_n (q := 2) dX9_share_1 rfl rfl rfl ?_
  refine a_aload_n (q := 3) dX9_share_2 rfl rfl rfl ?_
  refine a_iload_n (q := 4) dX9_share_3 rfl rfl rfl ?_
  refine a_cVBv (q := 7) _ dX9_share_4 kX9_219 (m_isPath _) rfl rfl rfl (Nat.le_of_ble_eq_true rfl) ⟨(Nat.le_of_ble_eq_true rfl), (Nat.le_of_ble_eq_true rfl)⟩ ⟨(Nat.le_of_ble_eq_true rfl), (Nat.le_of_ble_eq_true rfl)⟩ rfl ?_
  refine a_cVBv (q := 10) _ dX9_share_7 kX9_248 (m_lackC _) rfl rfl rfl (Nat.le_of_ble_eq_true rfl) ⟨(Nat.le_of_ble_eq_true rfl), (Nat.le_of_ble_eq_true rfl)⟩ ⟨(Nat.le_of_ble_eq_true rfl), (Nat.le_of_ble_eq_true rfl)⟩ rfl ?_
  rw [hl]
  refine a_putB (q := 13) dX9_share_10 fX9_81 (fun h => nomatch h) rfl (Nat.le_of_ble_eq_true rfl) rfl rfl rfl ?_
  refine a_aload_n (q := 14) dX9_share_13 rfl rfl rfl ?_
  refine a_getB (q := 17) dX9_share_14 fX9_81 rfl rfl rfl ?_
  refine a_if_gtN (q := 20) 27 dX9_share_17 (by decide) (by omega) rfl (fun c17 => ?_) (fun c17 => ?_)
  · exact absurd c17 (by decide)
  · skip
    refine a_aload_n (q := 21) dX9_share_20 rfl rfl rfl ?_
    refine a_cVBv (q := 24) _ dX9_share_21 kX9_251 (m_allCounts (G := G) (th := 0)) rfl rfl rfl (Nat.le_of_ble_eq_true rfl) ⟨(Nat.le_of_ble_eq_true rfl), (Nat.le_of_ble_eq_true rfl)⟩ ⟨(Nat.le_of_ble_eq_true rfl), (Nat.le_of_ble_eq_true rfl)⟩ rfl ?_
    refine a_if_neN (q := 27) 31 dX9_share_24 (by decide) (by omega) rfl (fun c24 => ?_) (fun c24 => ?_)
    · rw [if_neg (show ¬ sm W.2.2.2.2 = 0 by omega)]
      refine a_aload_n (q := 32) dX9_share_31 rfl rfl rfl ?_
      refine a_getB (q := 35) dX9_share_32 fX9_42 rfl rfl rfl ?_
      refine a_iload_n (q := 36) dX9_share_35 rfl rfl rfl ?_
      refine a_ialdBN (q := 37) dX9_share_36 rfl (by omega) (by decide) rfl ?_
      refine a_i2d (q := 38) dX9_share_37 rfl ?_
      refine a_aload_n (q := 39) dX9_share_38 rfl rfl rfl ?_
      refine a_cVBv (q := 42) _ dX9_share_39 kX9_251 (m_allCounts (G := G) (th := 0)) rfl rfl rfl (Nat.le_of_ble_eq_true rfl) ⟨(Nat.le_of_ble_eq_true rfl), (Nat.le_of_ble_eq_true rfl)⟩ ⟨(Nat.le_of_ble_eq_true rfl), (Nat.le_of_ble_eq_true rfl)⟩ rfl ?_
      refine a_i2d (q := 43) dX9_share_42 rfl ?_
      refine a_ddiv (q := 44) dX9_share_43 (hd (by omega)) rfl ?_
      exact a_dret dX9_share_44 rfl (Nat.le_of_ble_eq_true rfl) (Nat.le_of_ble_eq_true rfl) (⟨rfl, rfl, rfl, rfl⟩)
    · rw [if_pos (show sm W.2.2.2.2 = 0 by omega)]
      refine a_dconst0 (q := 28) dX9_share_27 rfl ?_
      refine a_goto 44 dX9_share_28 (by decide) ?_
      exact a_dret dX9_share_44 rfl (Nat.le_of_ble_eq_true rfl) (Nat.le_of_ble_eq_true rfl) (⟨rfl, rfl, rfl, rfl⟩)
theorem mx_share (x : Int32) (hl : 0 < lkN (cbl Y.1 (Y.2.2.1 0)) (mPt Y.1 x (Y.2.2.1 0))) : Ct g mX9_share [.ref (g.2.1 + 0), .int x] 0 A (BM g G T th Y W R Z U L h O) 0 0 (rP (some (.double FP.dconst0)) A (BM g G T (lkN (cbl Y.1 (Y.2.2.1 0)) (mPt Y.1 x (Y.2.2.1 0))) Y W R Z U L h O)) noX := by
  have h9 := lkN_le (an := cbl Y.1 (Y.2.2.1 0)) (ok := mPt Y.1 x (Y.2.2.1 0))
  refine Ct.of [some (.ref (g.2.1 + 0)), some (.int x)] (by decide) rfl (Nat.le_of_ble_eq_true rfl) rfl ?_
  refine a_aload_n (q := 1) dX9_share_0 rfl rfl rfl ?_
  refine a_aload_n (q := 2) dX9_share_1 rfl rfl rfl ?_
  refine a_aload_n (q := 3) dX9_share_2 rfl rfl rfl ?_
  refine a_iload_n (q := 4) dX9_share_3 rfl rfl rfl ?_
  refine a_cVBv (q := 7) _ dX9_share_4 kX9_219 (m_isPath _) rfl rfl rfl (Nat.le_of_ble_eq_true rfl) ⟨(Nat.le_of_ble_eq_true rfl), (Nat.le_of_ble_eq_true rfl)⟩ ⟨(Nat.le_of_ble_eq_true rfl), (Nat.le_of_ble_eq_true rfl)⟩ rfl ?_
  refine a_cVBv (q := 10) _ dX9_share_7 kX9_248 (m_lackC _) rfl rfl rfl (Nat.le_of_ble_eq_true rfl) ⟨(Nat.le_of_ble_eq_true rfl), (Nat.le_of_ble_eq_true rfl)⟩ ⟨(Nat.le_of_ble_eq_true rfl), (Nat.le_of_ble_eq_true rfl)⟩ rfl ?_
  refine a_putB (q := 13) dX9_share_10 fX9_81 (fun h => nomatch h) rfl (Nat.le_of_ble_eq_true rfl) rfl rfl rfl ?_
  refine a_aload_n (q := 14) dX9_share_13 rfl rfl rfl ?_
  refine a_getB (q := 17) dX9_share_14 fX9_81 rfl rfl rfl ?_
  refine a_if_gtN (q := 20) 27 dX9_share_17 (by decide) (by omega) rfl (fun c17 => ?_) (fun c17 => ?_)
  · skip
    refine a_dconst0 (q := 28) dX9_share_27 rfl ?_
    refine a_goto 44 dX9_share_28 (by decide) ?_
    exact a_dret dX9_share_44 rfl (Nat.le_of_ble_eq_true rfl) (Nat.le_of_ble_eq_true rfl) (⟨rfl, rfl, rfl, rfl⟩)
  · omega
/-- the path counted most -/
def htB (f : Nat → Nat) (k : Nat) : Option Nat → Bool
  | none => true
  | some i => decide (f i < f k)
def htF (f : Nat → Nat) : Nat → Nat → Option Nat → Option Nat
  | 0, _, b => b
  | m + 1, k, b => htF f m (k + 1) (if (decide (0 < f k) && htB f k b) = true then some k else b)
def hot (f : Nat → Nat) : Option Nat := htF f 200 0 none
theorem l_ht (P : ps_T) (hf : ∀ i, i < 200 → W.2.2.2.2 i < big) : ∀ (m k : Nat) (b : Option Nat), 200 - k = m → k ≤ 200 → (∀ j, b = some j → j < 200) → P (some (.int (oI (htF W.2.2.2.2 m k b)))) 0 A (BM g G T th Y W R Z U L h O) → AW g mX9_hottestNow 0 0 P noX 0 0 4 [some (.ref (g.2.1 + 0)), some (.int (oI b)), some (.int (nI k))] [] 0 A (BM g G T th Y W R Z U L h O) := by
  intro m
  induction m with
  | zero =>
    intro k b hm hk hb hp
    refine a_iload_n (q := 5) dX9_hottestNow_4 rfl rfl rfl ?_
    refine a_sipush (q := 8) (nI 200) dX9_hottestNow_5 (by decide) rfl ?_
    refine a_icmp_geN (q := 11) 52 dX9_hottestNow_8 (by decide) (by omega) (by omega) rfl (fun c8 => ?_) (fun c8 => ?_)
    · skip
      refine a_iload_n (q := 53) dX9_hottestNow_52 rfl rfl rfl ?_
      exact a_iret dX9_hottestNow_53 rfl rfl (Nat.le_of_ble_eq_true rfl) (Nat.le_of_ble_eq_true rfl) (hp)
    · omega
  | succ m ih =>
    intro k b hm hk hb hp
    unfold htF at hp
    have h1 := hf k (by omega)
    unfold big at h1
    have hno : (decide (0 < W.2.2.2.2 k) && htB W.2.2.2.2 k b) = false → AW g mX9_hottestNow 0 0 P noX 0 0 4 [some (.ref (g.2.1 + 0)), some (.int (oI b)), some (.int (nI (k + 1)))] [] 0 A (BM g G T th Y W R Z U L h O) := fun q => by
      rw [q, if_neg (by decide)] at hp
      exact ih (k + 1) b (by omega) (by omega) hb hp
    have hyes : (decide (0 < W.2.2.2.2 k) && htB W.2.2.2.2 k b) = true → AW g mX9_hottestNow 0 0 P noX 0 0 4 [some (.ref (g.2.1 + 0)), some (.int (oI (some k))), some (.int (nI (k + 1)))] [] 0 A (BM g G T th Y W R Z U L h O) := fun q => by
      rw [q, if_pos rfl] at hp
      exact ih (k + 1) (some k) (by omega) (by omega) (fun j hj => by cases hj; omega) hp
    cases b with
    | none =>
      refine a_iload_n (q := 5) dX9_hottestNow_4 rfl rfl rfl ?_
      refine a_sipush (q := 8) (nI 200) dX9_hottestNow_5 (by decide) rfl ?_
      refine a_icmp_geN (q := 11) 52 dX9_hottestNow_8 (by decide) (by omega) (by omega) rfl (fun c8 => ?_) (fun c8 => ?_)
      · omega
      · skip
        refine a_aload_n (q := 12) dX9_hottestNow_11 rfl rfl rfl ?_
        refine a_getB (q := 15) dX9_hottestNow_12 fX9_42 rfl rfl rfl ?_
        refine a_iload_n (q := 16) dX9_hottestNow_15 rfl rfl rfl ?_
        refine a_ialdBN (q := 17) dX9_hottestNow_16 rfl (by omega) (by decide) rfl ?_
        refine a_if_leN (q := 20) 44 dX9_hottestNow_17 (by decide) (by omega) rfl (fun c17 => ?_) (fun c17 => ?_)
        · have hq := hno (by rw [decide_eq_false (by omega)]; rfl)
          refine a_iload_n (q := 45) dX9_hottestNow_44 rfl rfl rfl ?_
          refine a_istore_n (q := 46) dX9_hottestNow_45 rfl (Nat.le_of_ble_eq_true rfl) rfl rfl ?_
          refine a_iincN (q := 49) (c := 1) dX9_hottestNow_46 rfl (by decide) rfl rfl ?_
          refine a_goto 4 dX9_hottestNow_49 (by decide) ?_
          exact hq
        · have hq := hyes (by rw [decide_eq_true (by omega)]; rfl)
          refine a_iload_n (q := 21) dX9_hottestNow_20 rfl rfl rfl ?_
          refine a_iconst (q := 22) (-1) dX9_hottestNow_21 (by decide) rfl ?_
          refine a_icmp_eq (q := 25) 40 dX9_hottestNow_22 (by decide) rfl (fun c22 => ?_) (fun c22 => ?_)
          · skip
            refine a_iload_n (q := 41) dX9_hottestNow_40 rfl rfl rfl ?_
            refine a_goto 45 dX9_hottestNow_41 (by decide) ?_
            refine a_istore_n (q := 46) dX9_hottestNow_45 rfl (Nat.le_of_ble_eq_true rfl) rfl rfl ?_
            refine a_iincN (q := 49) (c := 1) dX9_hottestNow_46 rfl (by decide) rfl rfl ?_
            refine a_goto 4 dX9_hottestNow_49 (by decide) ?_
            exact hq
          · exact absurd rfl c22
    | some i =>
      have hi := hb i rfl
      have h2 := hf i hi
      unfold big at h2
      refine a_iload_n (q := 5) dX9_hottestNow_4 rfl rfl rfl ?_
      refine a_sipush (q := 8) (nI 200) dX9_hottestNow_5 (by decide) rfl ?_
      refine a_icmp_geN (q := 11) 52 dX9_hottestNow_8 (by decide) (by omega) (by omega) rfl (fun c8 => ?_) (fun c8 => ?_)
      · omega
      · skip
        refine a_aload_n (q := 12) dX9_hottestNow_11 rfl rfl rfl ?_
        refine a_getB (q := 15) dX9_hottestNow_12 fX9_42 rfl rfl rfl ?_
        refine a_iload_n (q := 16) dX9_hottestNow_15 rfl rfl rfl ?_
        refine a_ialdBN (q := 17) dX9_hottestNow_16 rfl (by omega) (by decide) rfl ?_
        refine a_if_leN (q := 20) 44 dX9_hottestNow_17 (by decide) (by omega) rfl (fun c17 => ?_) (fun c17 => ?_)
        · have hq := hno (by rw [decide_eq_false (by omega)]; rfl)
          refine a_iload_n (q := 45) dX9_hottestNow_44 rfl rfl rfl ?_
          refine a_istore_n (q := 46) dX9_hottestNow_45 rfl (Nat.le_of_ble_eq_true rfl) rfl rfl ?_
          refine a_iincN (q := 49) (c := 1) dX9_hottestNow_46 rfl (by decide) rfl rfl ?_
          refine a_goto 4 dX9_hottestNow_49 (by decide) ?_
          exact hq
        · skip
          refine a_iload_n (q := 21) dX9_hottestNow_20 rfl rfl rfl ?_
          show AW _ _ _ _ _ _ _ _ _ _ (.int (nI i) :: _) _ _ _
          refine a_iconst (q := 22) (-1) dX9_hottestNow_21 (by decide) rfl ?_
          refine a_icmp_eq (q := 25) 40 dX9_hottestNow_22 (by decide) rfl (fun c22 => ?_) (fun c22 => ?_)
          · exact absurd c22 (nI_m1 (by omega))
          · skip
            refine a_aload_n (q := 26) dX9_hottestNow_25 rfl rfl rfl ?_
            refine a_getB (q := 29) dX9_hottestNow_26 fX9_42 rfl rfl rfl ?_
            refine a_iload_n (q := 30) dX9_hottestNow_29 rfl rfl rfl ?_
            refine a_ialdBN (q := 31) dX9_hottestNow_30 rfl (by omega) (by decide) rfl ?_
            refine a_aload_n (q := 32) dX9_hottestNow_31 rfl rfl rfl ?_
            refine a_getB (q := 35) dX9_hottestNow_32 fX9_42 rfl rfl rfl ?_
            refine a_iload_n (q := 36) dX9_hottestNow_35 rfl rfl rfl ?_
            show AW _ _ _ _ _ _ _ _ _ _ (.int (nI i) :: _) _ _ _
            refine a_ialdBN (q := 37) dX9_hottestNow_36 rfl (by omega) (by decide) rfl ?_
            refine a_icmp_leN (q := 40) 44 dX9_hottestNow_37 (by decide) (by omega) (by omega) rfl (fun c37 => ?_) (fun c37 => ?_)
            · have hq := hno (by rw [show htB W.2.2.2.2 k (some i) = false from decide_eq_false (by omega), Bool.and_false])
              refine a_iload_n (q := 45) dX9_hottestNow_44 rfl rfl rfl ?_
              refine a_istore_n (q := 46) dX9_hottestNow_45 rfl (Nat.le_of_ble_eq_true rfl) rfl rfl ?_
              refine a_iincN (q := 49) (c := 1) dX9_hottestNow_46 rfl (by decide) rfl rfl ?_
              refine a_goto 4 dX9_hottestNow_49 (by decide) ?_
              exact hq
            · have hq := hyes (by rw [decide_eq_true (by omega), show htB W.2.2.2.2 k (some i) = true from decide_eq_true (by omega)]; rfl)
              refine a_iload_n (q := 41) dX9_hottestNow_40 rfl rfl rfl ?_
              refine a_goto 45 dX9_hottestNow_41 (by decide) ?_
              refine a_istore_n (q := 46) dX9_hottestNow_45 rfl (Nat.le_of_ble_eq_true rfl) rfl rfl ?_
              refine a_iincN (q := 49) (c := 1) dX9_hottestNow_46 rfl (by decide) rfl rfl ?_
              refine a_goto 4 dX9_hottestNow_49 (by decide) ?_
              exact hq
theorem m_hottestNow (hf : ∀ i, i < 200 → W.2.2.2.2 i < big) : Ct g mX9_hottestNow [.ref (g.2.1 + 0)] 0 A (BM g G T th Y W R Z U L h O) 0 0 (rP (some (.int (oI (hot W.2.2.2.2)))) A (BM g G T th Y W R Z U L h O)) noX := by
  refine Ct.of [some (.ref (g.2.1 + 0)), none, none] (by decide) rfl (Nat.le_of_ble_eq_true rfl) rfl ?_
  refine a_iconst (q := 1) (-1) dX9_hottestNow_0 (by decide) rfl ?_
  refine a_istore_n (q := 2) dX9_hottestNow_1 rfl (Nat.le_of_ble_eq_true rfl) rfl rfl ?_
  refine a_iconst (q := 3) (nI 0) dX9_hottestNow_2 (by decide) rfl ?_
  refine a_istore_n (q := 4) dX9_hottestNow_3 rfl (Nat.le_of_ble_eq_true rfl) rfl rfl ?_
  exact l_ht _ hf _ 0 none rfl (Nat.zero_le _) (fun j hj => by cases hj) ⟨rfl, rfl, rfl, rfl⟩
theorem m_hottest (hf : ∀ i, i < 200 → W.2.2.2.2 i < big) : Ct g mX9_hottest [.ref (g.2.1 + 0)] 0 A (BM g G T th Y W R Z U L h O) 0 0 (rP (some (.int (oI (hot W.2.2.2.2)))) A (BM g G T 0 Y W R Z U L h O)) noX := by
  refine Ct.of [some (.ref (g.2.1 + 0))] (by decide) rfl (Nat.le_of_ble_eq_true rfl) rfl ?_
  refine a_aload_n (q := 1) dX9_hottest_0 rfl rfl rfl ?_
  refine a_iconst (q := 2) (nI 0) dX9_hottest_1 (by decide) rfl ?_
  refine a_putB (q := 5) dX9_hottest_2 fX9_81 (fun h => nomatch h) rfl (Nat.le_of_ble_eq_true rfl) rfl rfl rfl ?_
  refine a_aload_n (q := 6) dX9_hottest_5 rfl rfl rfl ?_
  refine a_cVBv (q := 9) _ dX9_hottest_6 kX9_254 (m_hottestNow (G := G) (th := 0) hf) rfl rfl rfl (Nat.le_of_ble_eq_true rfl) ⟨(Nat.le_of_ble_eq_true rfl), (Nat.le_of_ble_eq_true rfl)⟩ ⟨(Nat.le_of_ble_eq_true rfl), (Nat.le_of_ble_eq_true rfl)⟩ rfl ?_
  exact a_iret dX9_hottest_9 rfl rfl (Nat.le_of_ble_eq_true rfl) (Nat.le_of_ble_eq_true rfl) (⟨rfl, rfl, rfl, rfl⟩)
end MWalk

