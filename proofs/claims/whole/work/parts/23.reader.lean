/-! ===== PathProfiler$Reader ===== -/
/-- the reader takes the character c at place k, or does not -/
def tk (k c : Nat) (R : Rd) : Option Rd :=
  if k = 0 then (if 98 ≤ c ∧ c ≤ 108 then some ((c - 96, 0, R.1.2.2), R.2) else none)
  else if k = 1 then (if c = 58 then some R else none)
  else if k % 3 = 0 then (if 97 ≤ c ∧ alw R.1 (nI R.2) (nI (c - 97)) = true then some (gadd R.1 R.2 (c - 97), R.2) else none)
  else if k % 3 = 1 then (if c = 44 ∧ R.1.2.1 < 24 then some R else none)
  else (if 97 ≤ c ∧ c - 97 + 1 < R.1.1 then some (R.1, c - 97) else none)
/-- the reader reads on from place k: where it stops, and what it has -/
def rdF (T : Tx) : Nat → Nat → Rd → Nat × Rd
  | 0, k, R => (k, R)
  | m + 1, k, R => match tk k (T.2 k) R with
    | none => (k, R)
    | some R' => rdF T m (k + 1) R'
def rok (k : Nat) (R : Rd) : Prop := 1 ≤ R.1.1 ∧ R.1.1 ≤ 12 ∧ R.1.2.1 = (k - 1) / 3
theorem tk_ok {k c : Nat} {R R' : Rd} (h : rok k R) (ht : tk k c R = some R') : rok (k + 1) R' := by
  obtain ⟨h1, h2, h3⟩ := h
  unfold tk at ht
  split at ht
  · split at ht
    · cases ht; subst_vars; refine ⟨?_, ?_, ?_⟩ <;> simp <;> omega
    · cases ht
  · split at ht
    · split at ht
      · cases ht; refine ⟨h1, h2, ?_⟩; rw [h3]; omega
      · cases ht
    · split at ht
      · split at ht
        · cases ht; refine ⟨h1, h2, ?_⟩; show R.1.2.1 + 1 = _; rw [h3]; omega
        · cases ht
      · split at ht
        · split at ht
          · cases ht; refine ⟨h1, h2, ?_⟩; rw [h3]; omega
          · cases ht
        · split at ht
          · cases ht; refine ⟨h1, h2, ?_⟩; show R.1.2.1 = _; rw [h3]; omega
          · cases ht
section ReaderC
variable {g : gp_T} {B : List va_E} {G : Gr} {T : Tx} {R : Rd} {S : Se} {K : Lk} {E : Tr} {Q : Pa} {V : Wk} {an : Bool}
theorem c_tkE (k : Nat) (hk : k < big) : Ct g mX3_takesExit [.ref (g.1 + 7), .int (nI k)] 0 (CA g G T R S K E Q V an) B 0 0 (rP (some (.int (b2 (decide (1 ≤ k ∧ k < 12))))) (CA g G T (if 1 ≤ k ∧ k < 12 then ((k + 1, 0, R.1.2.2), R.2) else R) S K E Q V an) B) noX := by
  unfold big at hk
  refine Ct.of [some (.ref (g.1 + 7)), some (.int (nI k))] (by decide) rfl (Nat.le_of_ble_eq_true rfl) rfl ?_
  refine a_iload_n (q := 1) dX3_takesExit_0 rfl rfl rfl ?_
  refine a_iconst (q := 2) (nI 1) dX3_takesExit_1 (by decide) rfl ?_
  refine a_icmp_ltN (q := 5) 11 dX3_takesExit_2 (by decide) (by omega) (by omega) rfl (fun c2 => ?_) (fun c2 => ?_)
  · skip
    refine a_iconst (q := 12) (b2 false) dX3_takesExit_11 (by decide) rfl ?_
    exact a_iret dX3_takesExit_12 rfl (b2_narrow _) (Nat.le_of_ble_eq_true rfl) (Nat.le_of_ble_eq_true rfl) (by
        have h : ¬ (1 ≤ k ∧ k < 12) := by omega
        rw [if_neg h, decide_eq_false h]
        exact ⟨rfl, rfl, rfl, rfl⟩)
  · skip
    refine a_iload_n (q := 6) dX3_takesExit_5 rfl rfl rfl ?_
    refine a_bipush (q := 8) (nI 12) dX3_takesExit_6 (by decide) rfl ?_
    refine a_icmp_ltN (q := 11) 13 dX3_takesExit_8 (by decide) (by omega) (by omega) rfl (fun c8 => ?_) (fun c8 => ?_)
    · skip
      refine a_aload_n (q := 14) dX3_takesExit_13 rfl rfl rfl ?_
      refine a_getA (q := 17) dX3_takesExit_14 fX3_12 rfl rfl rfl ?_
      refine a_iload_n (q := 18) dX3_takesExit_17 rfl rfl rfl ?_
      refine a_iconst (q := 19) (nI 1) dX3_takesExit_18 (by decide) rfl ?_
      refine a_iaddN (q := 20) dX3_takesExit_19 rfl ?_
      refine a_cVA0 (q := 23) _ dX3_takesExit_20 kX3_22 (c_resetD _) rfl rfl rfl (Nat.le_of_ble_eq_true rfl) ⟨(Nat.le_of_ble_eq_true rfl), (Nat.le_of_ble_eq_true rfl)⟩ ⟨(Nat.le_of_ble_eq_true rfl), (Nat.le_of_ble_eq_true rfl)⟩ rfl ?_
      refine a_iconst (q := 24) (b2 true) dX3_takesExit_23 (by decide) rfl ?_
      exact a_iret dX3_takesExit_24 rfl (b2_narrow _) (Nat.le_of_ble_eq_true rfl) (Nat.le_of_ble_eq_true rfl) (by
          have h : 1 ≤ k ∧ k < 12 := by omega
          rw [if_pos h, decide_eq_true h]
          exact ⟨rfl, rfl, rfl, rfl⟩)
    · skip
      refine a_iconst (q := 12) (b2 false) dX3_takesExit_11 (by decide) rfl ?_
      exact a_iret dX3_takesExit_12 rfl (b2_narrow _) (Nat.le_of_ble_eq_true rfl) (Nat.le_of_ble_eq_true rfl) (by
          have h : ¬ (1 ≤ k ∧ k < 12) := by omega
          rw [if_neg h, decide_eq_false h]
          exact ⟨rfl, rfl, rfl, rfl⟩)
theorem c_tkEn (x : Int32) (hx : x < 0) : Ct g mX3_takesExit [.ref (g.1 + 7), .int x] 0 (CA g G T R S K E Q V an) B 0 0 (rP (some (.int (b2 false))) (CA g G T R S K E Q V an) B) noX := by
  refine Ct.of [some (.ref (g.1 + 7)), some (.int x)] (by decide) rfl (Nat.le_of_ble_eq_true rfl) rfl ?_
  refine a_iload_n (q := 1) dX3_takesExit_0 rfl rfl rfl ?_
  refine a_iconst (q := 2) (nI 1) dX3_takesExit_1 (by decide) rfl ?_
  refine a_icmp_lt (q := 5) 11 dX3_takesExit_2 (by decide) rfl (fun c2 => ?_) (fun c2 => ?_)
  · skip
    refine a_iconst (q := 12) (b2 false) dX3_takesExit_11 (by decide) rfl ?_
    exact a_iret dX3_takesExit_12 rfl (b2_narrow _) (Nat.le_of_ble_eq_true rfl) (Nat.le_of_ble_eq_true rfl) (⟨rfl, rfl, rfl, rfl⟩)
  · exact absurd (Int32.lt_trans hx (by decide)) c2
theorem c_tkS (k : Nat) (hk : k < big) (hn : 1 ≤ R.1.1 ∧ R.1.1 ≤ 12) : Ct g mX3_takesSource [.ref (g.1 + 7), .int (nI k)] 0 (CA g G T R S K E Q V an) B 0 0 (rP (some (.int (b2 (decide (k + 1 < R.1.1))))) (CA g G T (if k + 1 < R.1.1 then (R.1, k) else R) S K E Q V an) B) noX := by
  have hi : inR (nI k) R.1.1 = decide (k < R.1.1) := inR_nI hk (by unfold big; omega)
  unfold big at hk
  refine Ct.of [some (.ref (g.1 + 7)), some (.int (nI k))] (by decide) rfl (Nat.le_of_ble_eq_true rfl) rfl ?_
  refine a_aload_n (q := 1) dX3_takesSource_0 rfl rfl rfl ?_
  refine a_getA (q := 4) dX3_takesSource_1 fX3_12 rfl rfl rfl ?_
  refine a_iload_n (q := 5) dX3_takesSource_4 rfl rfl rfl ?_
  refine a_cVAv (q := 8) _ dX3_takesSource_5 kX3_60 (c_hasNode (G := R.1) _ rfl) rfl rfl rfl (Nat.le_of_ble_eq_true rfl) ⟨(Nat.le_of_ble_eq_true rfl), (Nat.le_of_ble_eq_true rfl)⟩ ⟨(Nat.le_of_ble_eq_true rfl), (Nat.le_of_ble_eq_true rfl)⟩ rfl ?_
  refine a_if_eqZ (q := 11) 22 dX3_takesSource_8 (by decide) rfl (fun c8 => ?_) (fun c8 => ?_)
  · skip
    refine a_iconst (q := 23) (b2 false) dX3_takesSource_22 (by decide) rfl ?_
    exact a_iret dX3_takesSource_23 rfl (b2_narrow _) (Nat.le_of_ble_eq_true rfl) (Nat.le_of_ble_eq_true rfl) (by
        have h : ¬ (k + 1 < R.1.1) := by
            first
            | (rw [hi] at c8; have := of_decide_eq_false c8; omega)
            | omega
        rw [if_neg h, decide_eq_false h]
        exact ⟨rfl, rfl, rfl, rfl⟩)
  · skip
    refine a_iload_n (q := 12) dX3_takesSource_11 rfl rfl rfl ?_
    refine a_aload_n (q := 13) dX3_takesSource_12 rfl rfl rfl ?_
    refine a_getA (q := 16) dX3_takesSource_13 fX3_12 rfl rfl rfl ?_
    refine a_cVAv (q := 19) _ dX3_takesSource_16 kX3_63 (c_exit (G := R.1) rfl hn.1) rfl rfl rfl (Nat.le_of_ble_eq_true rfl) ⟨(Nat.le_of_ble_eq_true rfl), (Nat.le_of_ble_eq_true rfl)⟩ ⟨(Nat.le_of_ble_eq_true rfl), (Nat.le_of_ble_eq_true rfl)⟩ rfl ?_
    refine a_icmp_neN (q := 22) 24 dX3_takesSource_19 (by decide) (by omega) (by omega) rfl (fun c19 => ?_) (fun c19 => ?_)
    · skip
      refine a_aload_n (q := 25) dX3_takesSource_24 rfl rfl rfl ?_
      refine a_iload_n (q := 26) dX3_takesSource_25 rfl rfl rfl ?_
      refine a_putA (q := 29) dX3_takesSource_26 fX3_18 (fun h => nomatch h) rfl (Nat.le_of_ble_eq_true rfl) rfl rfl rfl ?_
      refine a_iconst (q := 30) (b2 true) dX3_takesSource_29 (by decide) rfl ?_
      exact a_iret dX3_takesSource_30 rfl (b2_narrow _) (Nat.le_of_ble_eq_true rfl) (Nat.le_of_ble_eq_true rfl) (by
          rw [hi] at c8
          have h1 := of_decide_eq_true c8
          have h : k + 1 < R.1.1 := by omega
          rw [if_pos h, decide_eq_true h]
          exact ⟨rfl, rfl, rfl, rfl⟩)
    · skip
      refine a_iconst (q := 23) (b2 false) dX3_takesSource_22 (by decide) rfl ?_
      exact a_iret dX3_takesSource_23 rfl (b2_narrow _) (Nat.le_of_ble_eq_true rfl) (Nat.le_of_ble_eq_true rfl) (by
          have h : ¬ (k + 1 < R.1.1) := by
              first
              | (rw [hi] at c8; have := of_decide_eq_false c8; omega)
              | omega
          rw [if_neg h, decide_eq_false h]
          exact ⟨rfl, rfl, rfl, rfl⟩)
theorem c_tkSn (x : Int32) (hx : x < 0) : Ct g mX3_takesSource [.ref (g.1 + 7), .int x] 0 (CA g G T R S K E Q V an) B 0 0 (rP (some (.int (b2 false))) (CA g G T R S K E Q V an) B) noX := by
  have hi : inR x R.1.1 = false := by unfold inR; exact decide_eq_false (fun h => h.1 hx)
  refine Ct.of [some (.ref (g.1 + 7)), some (.int x)] (by decide) rfl (Nat.le_of_ble_eq_true rfl) rfl ?_
  refine a_aload_n (q := 1) dX3_takesSource_0 rfl rfl rfl ?_
  refine a_getA (q := 4) dX3_takesSource_1 fX3_12 rfl rfl rfl ?_
  refine a_iload_n (q := 5) dX3_takesSource_4 rfl rfl rfl ?_
  refine a_cVAv (q := 8) _ dX3_takesSource_5 kX3_60 (c_hasNode (G := R.1) _ rfl) rfl rfl rfl (Nat.le_of_ble_eq_true rfl) ⟨(Nat.le_of_ble_eq_true rfl), (Nat.le_of_ble_eq_true rfl)⟩ ⟨(Nat.le_of_ble_eq_true rfl), (Nat.le_of_ble_eq_true rfl)⟩ rfl ?_
  refine a_if_eqZ (q := 11) 22 dX3_takesSource_8 (by decide) rfl (fun c8 => ?_) (fun c8 => ?_)
  · skip
    refine a_iconst (q := 23) (b2 false) dX3_takesSource_22 (by decide) rfl ?_
    exact a_iret dX3_takesSource_23 rfl (b2_narrow _) (Nat.le_of_ble_eq_true rfl) (Nat.le_of_ble_eq_true rfl) (⟨rfl, rfl, rfl, rfl⟩)
  · rw [hi] at c8; cases c8
theorem c_tkT (k : Nat) (hn : 1 ≤ R.1.1) (he : R.1.2.1 < 24) : Ct g mX3_takesTarget [.ref (g.1 + 7), .int (nI k)] 0 (CA g G T R S K E Q V an) B 0 0 (rP (some (.int (b2 (alw R.1 (nI R.2) (nI k))))) (CA g G T (if alw R.1 (nI R.2) (nI k) = true then (gadd R.1 R.2 k, R.2) else R) S K E Q V an) B) noX := by
  refine Ct.of [some (.ref (g.1 + 7)), some (.int (nI k))] (by decide) rfl (Nat.le_of_ble_eq_true rfl) rfl ?_
  refine a_aload_n (q := 1) dX3_takesTarget_0 rfl rfl rfl ?_
  refine a_getA (q := 4) dX3_takesTarget_1 fX3_12 rfl rfl rfl ?_
  refine a_cVAv (q := 7) _ dX3_takesTarget_4 kX3_53 (c_isFull (G := R.1) rfl (by omega)) rfl rfl rfl (Nat.le_of_ble_eq_true rfl) ⟨(Nat.le_of_ble_eq_true rfl), (Nat.le_of_ble_eq_true rfl)⟩ ⟨(Nat.le_of_ble_eq_true rfl), (Nat.le_of_ble_eq_true rfl)⟩ rfl ?_
  refine a_if_neZ (q := 10) 25 dX3_takesTarget_7 (by decide) rfl (fun c7 => ?_) (fun c7 => ?_)
  · exact absurd (of_decide_eq_true c7) (by omega)
  · skip
    refine a_aload_n (q := 11) dX3_takesTarget_10 rfl rfl rfl ?_
    refine a_getA (q := 14) dX3_takesTarget_11 fX3_12 rfl rfl rfl ?_
    refine a_aload_n (q := 15) dX3_takesTarget_14 rfl rfl rfl ?_
    refine a_getA (q := 18) dX3_takesTarget_15 fX3_18 rfl rfl rfl ?_
    refine a_iload_n (q := 19) dX3_takesTarget_18 rfl rfl rfl ?_
    refine a_cVAv (q := 22) _ dX3_takesTarget_19 kX3_67 (c_allows (G := R.1) _ _ rfl rfl rfl hn (by omega)) rfl rfl rfl (Nat.le_of_ble_eq_true rfl) ⟨(Nat.le_of_ble_eq_true rfl), (Nat.le_of_ble_eq_true rfl)⟩ ⟨(Nat.le_of_ble_eq_true rfl), (Nat.le_of_ble_eq_true rfl)⟩ rfl ?_
    refine a_if_neZ (q := 25) 27 dX3_takesTarget_22 (by decide) rfl (fun c22 => ?_) (fun c22 => ?_)
    · rw [c22, if_pos rfl]
      refine a_aload_n (q := 28) dX3_takesTarget_27 rfl rfl rfl ?_
      refine a_getA (q := 31) dX3_takesTarget_28 fX3_12 rfl rfl rfl ?_
      refine a_aload_n (q := 32) dX3_takesTarget_31 rfl rfl rfl ?_
      refine a_getA (q := 35) dX3_takesTarget_32 fX3_18 rfl rfl rfl ?_
      refine a_iload_n (q := 36) dX3_takesTarget_35 rfl rfl rfl ?_
      refine a_cVAv (q := 39) _ dX3_takesTarget_36 kX3_70 (c_addD _ _ he) rfl rfl rfl (Nat.le_of_ble_eq_true rfl) ⟨(Nat.le_of_ble_eq_true rfl), (Nat.le_of_ble_eq_true rfl)⟩ ⟨(Nat.le_of_ble_eq_true rfl), (Nat.le_of_ble_eq_true rfl)⟩ rfl ?_
      refine a_pop (q := 40) dX3_takesTarget_39 rfl rfl ?_
      refine a_iconst (q := 41) (b2 true) dX3_takesTarget_40 (by decide) rfl ?_
      exact a_iret dX3_takesTarget_41 rfl (b2_narrow _) (Nat.le_of_ble_eq_true rfl) (Nat.le_of_ble_eq_true rfl) (⟨rfl, rfl, rfl, rfl⟩)
    · rw [c22, if_neg (by decide)]
      refine a_iconst (q := 26) (b2 false) dX3_takesTarget_25 (by decide) rfl ?_
      exact a_iret dX3_takesTarget_26 rfl (b2_narrow _) (Nat.le_of_ble_eq_true rfl) (Nat.le_of_ble_eq_true rfl) (⟨rfl, rfl, rfl, rfl⟩)
theorem c_tkTn (x : Int32) (hx : x < 0) (hn : 1 ≤ R.1.1) (he : R.1.2.1 < 24) : Ct g mX3_takesTarget [.ref (g.1 + 7), .int x] 0 (CA g G T R S K E Q V an) B 0 0 (rP (some (.int (b2 false))) (CA g G T R S K E Q V an) B) noX := by
  have hi : alw R.1 (nI R.2) x = false := by
    unfold alw
    rw [show inR x R.1.1 = false from decide_eq_false (fun h => h.1 hx)]
    simp
  refine Ct.of [some (.ref (g.1 + 7)), some (.int x)] (by decide) rfl (Nat.le_of_ble_eq_true rfl) rfl ?_
  refine a_aload_n (q := 1) dX3_takesTarget_0 rfl rfl rfl ?_
  refine a_getA (q := 4) dX3_takesTarget_1 fX3_12 rfl rfl rfl ?_
  refine a_cVAv (q := 7) _ dX3_takesTarget_4 kX3_53 (c_isFull (G := R.1) rfl (by omega)) rfl rfl rfl (Nat.le_of_ble_eq_true rfl) ⟨(Nat.le_of_ble_eq_true rfl), (Nat.le_of_ble_eq_true rfl)⟩ ⟨(Nat.le_of_ble_eq_true rfl), (Nat.le_of_ble_eq_true rfl)⟩ rfl ?_
  refine a_if_neZ (q := 10) 25 dX3_takesTarget_7 (by decide) rfl (fun c7 => ?_) (fun c7 => ?_)
  · exact absurd (of_decide_eq_true c7) (by omega)
  · skip
    refine a_aload_n (q := 11) dX3_takesTarget_10 rfl rfl rfl ?_
    refine a_getA (q := 14) dX3_takesTarget_11 fX3_12 rfl rfl rfl ?_
    refine a_aload_n (q := 15) dX3_takesTarget_14 rfl rfl rfl ?_
    refine a_getA (q := 18) dX3_takesTarget_15 fX3_18 rfl rfl rfl ?_
    refine a_iload_n (q := 19) dX3_takesTarget_18 rfl rfl rfl ?_
    refine a_cVAv (q := 22) _ dX3_takesTarget_19 kX3_67 (c_allows (G := R.1) _ _ rfl rfl rfl hn (by omega)) rfl rfl rfl (Nat.le_of_ble_eq_true rfl) ⟨(Nat.le_of_ble_eq_true rfl), (Nat.le_of_ble_eq_true rfl)⟩ ⟨(Nat.le_of_ble_eq_true rfl), (Nat.le_of_ble_eq_true rfl)⟩ rfl ?_
    refine a_if_neZ (q := 25) 27 dX3_takesTarget_22 (by decide) rfl (fun c22 => ?_) (fun c22 => ?_)
    · rw [hi] at c22; cases c22
    · skip
      refine a_iconst (q := 26) (b2 false) dX3_takesTarget_25 (by decide) rfl ?_
      exact a_iret dX3_takesTarget_26 rfl (b2_narrow _) (Nat.le_of_ble_eq_true rfl) (Nat.le_of_ble_eq_true rfl) (⟨rfl, rfl, rfl, rfl⟩)
theorem c_takes (k c : Nat) (hk : k < 60) (hc : c < 127) (hr : rok k R) : Ct g mX3_takes [.ref (g.1 + 7), .int (nI k), .int (nI c)] 0 (CA g G T R S K E Q V an) B 0 0 (rP (some (.int (b2 (tk k c R).isSome))) (CA g G T ((tk k c R).getD R) S K E Q V an) B) noX := by
  obtain ⟨hr1, hr2, hr3⟩ := hr
  have hneg : c < 97 → nI c - nI 97 < 0 := fun h => pk_sneg (by decide) h
  refine Ct.of [some (.ref (g.1 + 7)), some (.int (nI k)), some (.int (nI c))] (by decide) rfl (Nat.le_of_ble_eq_true rfl) rfl ?_
  rcases Nat.eq_zero_or_pos k with h0 | h0
  · subst h0
    rcases Nat.lt_or_ge c 97 with h | h
    · rw [show tk 0 c R = none by unfold tk; rw [if_pos rfl, if_neg (by omega)]]
      refine a_iload_n (q := 1) dX3_takes_0 rfl rfl rfl ?_
      refine a_if_neN (q := 4) 13 dX3_takes_1 (by decide) (by omega) rfl (fun c1 => ?_) (fun c1 => ?_)
      · omega
      · skip
        refine a_aload_n (q := 5) dX3_takes_4 rfl rfl rfl ?_
        refine a_iload_n (q := 6) dX3_takes_5 rfl rfl rfl ?_
        refine a_bipush (q := 8) (nI 97) dX3_takes_6 (by decide) rfl ?_
        refine a_isub (q := 9) dX3_takes_8 rfl ?_
        refine a_cVAv (q := 12) _ dX3_takes_9 kX3_47 (c_tkEn _ (hneg h)) rfl rfl rfl (Nat.le_of_ble_eq_true rfl) ⟨(Nat.le_of_ble_eq_true rfl), (Nat.le_of_ble_eq_true rfl)⟩ ⟨(Nat.le_of_ble_eq_true rfl), (Nat.le_of_ble_eq_true rfl)⟩ rfl ?_
        exact a_iret dX3_takes_12 rfl (b2_narrow _) (Nat.le_of_ble_eq_true rfl) (Nat.le_of_ble_eq_true rfl) (⟨rfl, rfl, rfl, rfl⟩)
    · have e1 : tk 0 c R = if 1 ≤ c - 97 ∧ c - 97 < 12 then some ((c - 97 + 1, 0, R.1.2.2), R.2) else none := by
        unfold tk
        rw [if_pos rfl]
        by_cases h2 : 98 ≤ c ∧ c ≤ 108
        · rw [if_pos h2, if_pos (by omega), show c - 96 = c - 97 + 1 by omega]
        · rw [if_neg h2, if_neg (by omega)]
      refine a_iload_n (q := 1) dX3_takes_0 rfl rfl rfl ?_
      refine a_if_neN (q := 4) 13 dX3_takes_1 (by decide) (by omega) rfl (fun c1 => ?_) (fun c1 => ?_)
      · omega
      · skip
        refine a_aload_n (q := 5) dX3_takes_4 rfl rfl rfl ?_
        refine a_iload_n (q := 6) dX3_takes_5 rfl rfl rfl ?_
        refine a_bipush (q := 8) (nI 97) dX3_takes_6 (by decide) rfl ?_
        refine a_isubN (q := 9) dX3_takes_8 (by omega) rfl ?_
        refine a_cVAv (q := 12) _ dX3_takes_9 kX3_47 (c_tkE _ (by unfold big; omega)) rfl rfl rfl (Nat.le_of_ble_eq_true rfl) ⟨(Nat.le_of_ble_eq_true rfl), (Nat.le_of_ble_eq_true rfl)⟩ ⟨(Nat.le_of_ble_eq_true rfl), (Nat.le_of_ble_eq_true rfl)⟩ rfl ?_
        exact a_iret dX3_takes_12 rfl (b2_narrow _) (Nat.le_of_ble_eq_true rfl) (Nat.le_of_ble_eq_true rfl) (by
            rw [e1]
            by_cases h2 : 1 ≤ c - 97 ∧ c - 97 < 12
            · rw [if_pos h2, if_pos h2, decide_eq_true h2]
              exact ⟨rfl, rfl, rfl, rfl⟩
            · rw [if_neg h2, if_neg h2, decide_eq_false h2]
              exact ⟨rfl, rfl, rfl, rfl⟩)
  · rcases Nat.lt_or_ge k 2 with h1 | h1
    · have hk1 : k = 1 := by omega
      subst hk1
      refine a_iload_n (q := 1) dX3_takes_0 rfl rfl rfl ?_
      refine a_if_neN (q := 4) 13 dX3_takes_1 (by decide) (by omega) rfl (fun c1 => ?_) (fun c1 => ?_)
      · skip
        refine a_iload_n (q := 14) dX3_takes_13 rfl rfl rfl ?_
        refine a_iconst (q := 15) (nI 1) dX3_takes_14 (by decide) rfl ?_
        refine a_icmp_neN (q := 18) 30 dX3_takes_15 (by decide) (by omega) (by omega) rfl (fun c15 => ?_) (fun c15 => ?_)
        · exact absurd rfl c15
        · skip
          refine a_iload_n (q := 19) dX3_takes_18 rfl rfl rfl ?_
          refine a_bipush (q := 21) (nI 58) dX3_takes_19 (by decide) rfl ?_
          refine a_icmp_neN (q := 24) 28 dX3_takes_21 (by decide) (by omega) (by omega) rfl (fun c21 => ?_) (fun c21 => ?_)
          · skip
            refine a_iconst (q := 29) (b2 false) dX3_takes_28 (by decide) rfl ?_
            exact a_iret dX3_takes_29 rfl (b2_narrow _) (Nat.le_of_ble_eq_true rfl) (Nat.le_of_ble_eq_true rfl) (by
                unfold tk
                rw [if_neg (by decide), if_pos rfl]
                first
                | (rw [if_pos c21]; exact ⟨rfl, rfl, rfl, rfl⟩)
                | (rw [if_neg c21]; exact ⟨rfl, rfl, rfl, rfl⟩))
          · skip
            refine a_iconst (q := 25) (b2 true) dX3_takes_24 (by decide) rfl ?_
            refine a_goto 29 dX3_takes_25 (by decide) ?_
            exact a_iret dX3_takes_29 rfl (b2_narrow _) (Nat.le_of_ble_eq_true rfl) (Nat.le_of_ble_eq_true rfl) (by
                unfold tk
                rw [if_neg (by decide), if_pos rfl]
                first
                | (rw [if_pos c21]; exact ⟨rfl, rfl, rfl, rfl⟩)
                | (rw [if_neg c21]; exact ⟨rfl, rfl, rfl, rfl⟩))
      · omega
    · rcases (show k % 3 = 0 ∨ k % 3 = 1 ∨ k % 3 = 2 by omega) with h3 | h3 | h3
      · have e1 : tk k c R = if 97 ≤ c ∧ alw R.1 (nI R.2) (nI (c - 97)) = true then some (gadd R.1 R.2 (c - 97), R.2) else none := by
          unfold tk
          rw [if_neg (by omega), if_neg (by omega), if_pos h3]
        rcases Nat.lt_or_ge c 97 with h | h
        · rw [e1, if_neg (by omega)]
          refine a_iload_n (q := 1) dX3_takes_0 rfl rfl rfl ?_
          refine a_if_neN (q := 4) 13 dX3_takes_1 (by decide) (by omega) rfl (fun c1 => ?_) (fun c1 => ?_)
          · skip
            refine a_iload_n (q := 14) dX3_takes_13 rfl rfl rfl ?_
            refine a_iconst (q := 15) (nI 1) dX3_takes_14 (by decide) rfl ?_
            refine a_icmp_neN (q := 18) 30 dX3_takes_15 (by decide) (by omega) (by omega) rfl (fun c15 => ?_) (fun c15 => ?_)
            · skip
              refine a_iload_n (q := 31) dX3_takes_30 rfl rfl rfl ?_
              refine a_iconst (q := 32) (nI 3) dX3_takes_31 (by decide) rfl ?_
              refine a_iremN (q := 33) dX3_takes_32 (by omega) ⟨by omega, by decide⟩ rfl ?_
              rw [h3]
              refine a_lookup (off := 27) 60 dX3_takes_33 (by decide) (by decide) (by decide) ?_
              refine a_aload_n (q := 61) dX3_takes_60 rfl rfl rfl ?_
              refine a_iload_n (q := 62) dX3_takes_61 rfl rfl rfl ?_
              refine a_bipush (q := 64) (nI 97) dX3_takes_62 (by decide) rfl ?_
              refine a_isub (q := 65) dX3_takes_64 rfl ?_
              refine a_cVAv (q := 68) _ dX3_takes_65 kX3_50 (c_tkTn _ (hneg h) hr1 (by omega)) rfl rfl rfl (Nat.le_of_ble_eq_true rfl) ⟨(Nat.le_of_ble_eq_true rfl), (Nat.le_of_ble_eq_true rfl)⟩ ⟨(Nat.le_of_ble_eq_true rfl), (Nat.le_of_ble_eq_true rfl)⟩ rfl ?_
              exact a_iret dX3_takes_68 rfl (b2_narrow _) (Nat.le_of_ble_eq_true rfl) (Nat.le_of_ble_eq_true rfl) (⟨rfl, rfl, rfl, rfl⟩)
            · omega
          · omega
        · skip
          refine a_iload_n (q := 1) dX3_takes_0 rfl rfl rfl ?_
          refine a_if_neN (q := 4) 13 dX3_takes_1 (by decide) (by omega) rfl (fun c1 => ?_) (fun c1 => ?_)
          · skip
            refine a_iload_n (q := 14) dX3_takes_13 rfl rfl rfl ?_
            refine a_iconst (q := 15) (nI 1) dX3_takes_14 (by decide) rfl ?_
            refine a_icmp_neN (q := 18) 30 dX3_takes_15 (by decide) (by omega) (by omega) rfl (fun c15 => ?_) (fun c15 => ?_)
            · skip
              refine a_iload_n (q := 31) dX3_takes_30 rfl rfl rfl ?_
              refine a_iconst (q := 32) (nI 3) dX3_takes_31 (by decide) rfl ?_
              refine a_iremN (q := 33) dX3_takes_32 (by omega) ⟨by omega, by decide⟩ rfl ?_
              rw [h3]
              refine a_lookup (off := 27) 60 dX3_takes_33 (by decide) (by decide) (by decide) ?_
              refine a_aload_n (q := 61) dX3_takes_60 rfl rfl rfl ?_
              refine a_iload_n (q := 62) dX3_takes_61 rfl rfl rfl ?_
              refine a_bipush (q := 64) (nI 97) dX3_takes_62 (by decide) rfl ?_
              refine a_isubN (q := 65) dX3_takes_64 (by omega) rfl ?_
              refine a_cVAv (q := 68) _ dX3_takes_65 kX3_50 (c_tkT _ hr1 (by omega)) rfl rfl rfl (Nat.le_of_ble_eq_true rfl) ⟨(Nat.le_of_ble_eq_true rfl), (Nat.le_of_ble_eq_true rfl)⟩ ⟨(Nat.le_of_ble_eq_true rfl), (Nat.le_of_ble_eq_true rfl)⟩ rfl ?_
              exact a_iret dX3_takes_68 rfl (b2_narrow _) (Nat.le_of_ble_eq_true rfl) (Nat.le_of_ble_eq_true rfl) (by
                  rw [e1]
                  cases hb : alw R.1 (nI R.2) (nI (c - 97)) with
                  | false => simp; exact ⟨rfl, rfl, rfl, rfl⟩
                  | true => simp [h]; exact ⟨rfl, rfl, rfl, rfl⟩)
            · omega
          · omega
      · have e1 : tk k c R = if c = 44 ∧ R.1.2.1 < 24 then some R else none := by
          unfold tk
          rw [if_neg (by omega), if_neg (by omega), if_neg (by omega), if_pos h3]
        refine a_iload_n (q := 1) dX3_takes_0 rfl rfl rfl ?_
        refine a_if_neN (q := 4) 13 dX3_takes_1 (by decide) (by omega) rfl (fun c1 => ?_) (fun c1 => ?_)
        · skip
          refine a_iload_n (q := 14) dX3_takes_13 rfl rfl rfl ?_
          refine a_iconst (q := 15) (nI 1) dX3_takes_14 (by decide) rfl ?_
          refine a_icmp_neN (q := 18) 30 dX3_takes_15 (by decide) (by omega) (by omega) rfl (fun c15 => ?_) (fun c15 => ?_)
          · skip
            refine a_iload_n (q := 31) dX3_takes_30 rfl rfl rfl ?_
            refine a_iconst (q := 32) (nI 3) dX3_takes_31 (by decide) rfl ?_
            refine a_iremN (q := 33) dX3_takes_32 (by omega) ⟨by omega, by decide⟩ rfl ?_
            rw [h3]
            refine a_lookup (off := 36) 69 dX3_takes_33 (by decide) (by decide) (by decide) ?_
            refine a_iload_n (q := 70) dX3_takes_69 rfl rfl rfl ?_
            refine a_bipush (q := 72) (nI 44) dX3_takes_70 (by decide) rfl ?_
            refine a_icmp_neN (q := 75) 89 dX3_takes_72 (by decide) (by omega) (by omega) rfl (fun c72 => ?_) (fun c72 => ?_)
            · skip
              refine a_iconst (q := 90) (b2 false) dX3_takes_89 (by decide) rfl ?_
              exact a_iret dX3_takes_90 rfl (b2_narrow _) (Nat.le_of_ble_eq_true rfl) (Nat.le_of_ble_eq_true rfl) (by
                  rw [e1]
                  first
                  | (rw [if_neg (fun h => c72 h.1)]; exact ⟨rfl, rfl, rfl, rfl⟩)
                  | (rw [if_pos ⟨c72, by omega⟩]; exact ⟨rfl, rfl, rfl, rfl⟩))
            · skip
              refine a_aload_n (q := 76) dX3_takes_75 rfl rfl rfl ?_
              refine a_getA (q := 79) dX3_takes_76 fX3_12 rfl rfl rfl ?_
              refine a_cVAv (q := 82) _ dX3_takes_79 kX3_53 (c_isFull (G := R.1) rfl (by omega)) rfl rfl rfl (Nat.le_of_ble_eq_true rfl) ⟨(Nat.le_of_ble_eq_true rfl), (Nat.le_of_ble_eq_true rfl)⟩ ⟨(Nat.le_of_ble_eq_true rfl), (Nat.le_of_ble_eq_true rfl)⟩ rfl ?_
              refine a_if_neZ (q := 85) 89 dX3_takes_82 (by decide) rfl (fun c82 => ?_) (fun c82 => ?_)
              · exact absurd (of_decide_eq_true c82) (by omega)
              · skip
                refine a_iconst (q := 86) (b2 true) dX3_takes_85 (by decide) rfl ?_
                refine a_goto 90 dX3_takes_86 (by decide) ?_
                exact a_iret dX3_takes_90 rfl (b2_narrow _) (Nat.le_of_ble_eq_true rfl) (Nat.le_of_ble_eq_true rfl) (by
                    rw [e1]
                    first
                    | (rw [if_neg (fun h => c72 h.1)]; exact ⟨rfl, rfl, rfl, rfl⟩)
                    | (rw [if_pos ⟨c72, by omega⟩]; exact ⟨rfl, rfl, rfl, rfl⟩))
          · omega
        · omega
      · have e1 : tk k c R = if 97 ≤ c ∧ c - 97 + 1 < R.1.1 then some (R.1, c - 97) else none := by
          unfold tk
          rw [if_neg (by omega), if_neg (by omega), if_neg (by omega), if_neg (by omega)]
        rcases Nat.lt_or_ge c 97 with h | h
        · rw [e1, if_neg (by omega)]
          refine a_iload_n (q := 1) dX3_takes_0 rfl rfl rfl ?_
          refine a_if_neN (q := 4) 13 dX3_takes_1 (by decide) (by omega) rfl (fun c1 => ?_) (fun c1 => ?_)
          · skip
            refine a_iload_n (q := 14) dX3_takes_13 rfl rfl rfl ?_
            refine a_iconst (q := 15) (nI 1) dX3_takes_14 (by decide) rfl ?_
            refine a_icmp_neN (q := 18) 30 dX3_takes_15 (by decide) (by omega) (by omega) rfl (fun c15 => ?_) (fun c15 => ?_)
            · skip
              refine a_iload_n (q := 31) dX3_takes_30 rfl rfl rfl ?_
              refine a_iconst (q := 32) (nI 3) dX3_takes_31 (by decide) rfl ?_
              refine a_iremN (q := 33) dX3_takes_32 (by omega) ⟨by omega, by decide⟩ rfl ?_
              rw [h3]
              refine a_lookup (off := 58) 91 dX3_takes_33 (by decide) (by decide) (by decide) ?_
              refine a_aload_n (q := 92) dX3_takes_91 rfl rfl rfl ?_
              refine a_iload_n (q := 93) dX3_takes_92 rfl rfl rfl ?_
              refine a_bipush (q := 95) (nI 97) dX3_takes_93 (by decide) rfl ?_
              refine a_isub (q := 96) dX3_takes_95 rfl ?_
              refine a_cVAv (q := 99) _ dX3_takes_96 kX3_57 (c_tkSn _ (hneg h)) rfl rfl rfl (Nat.le_of_ble_eq_true rfl) ⟨(Nat.le_of_ble_eq_true rfl), (Nat.le_of_ble_eq_true rfl)⟩ ⟨(Nat.le_of_ble_eq_true rfl), (Nat.le_of_ble_eq_true rfl)⟩ rfl ?_
              exact a_iret dX3_takes_99 rfl (b2_narrow _) (Nat.le_of_ble_eq_true rfl) (Nat.le_of_ble_eq_true rfl) (⟨rfl, rfl, rfl, rfl⟩)
            · omega
          · omega
        · skip
          refine a_iload_n (q := 1) dX3_takes_0 rfl rfl rfl ?_
          refine a_if_neN (q := 4) 13 dX3_takes_1 (by decide) (by omega) rfl (fun c1 => ?_) (fun c1 => ?_)
          · skip
            refine a_iload_n (q := 14) dX3_takes_13 rfl rfl rfl ?_
            refine a_iconst (q := 15) (nI 1) dX3_takes_14 (by decide) rfl ?_
            refine a_icmp_neN (q := 18) 30 dX3_takes_15 (by decide) (by omega) (by omega) rfl (fun c15 => ?_) (fun c15 => ?_)
            · skip
              refine a_iload_n (q := 31) dX3_takes_30 rfl rfl rfl ?_
              refine a_iconst (q := 32) (nI 3) dX3_takes_31 (by decide) rfl ?_
              refine a_iremN (q := 33) dX3_takes_32 (by omega) ⟨by omega, by decide⟩ rfl ?_
              rw [h3]
              refine a_lookup (off := 58) 91 dX3_takes_33 (by decide) (by decide) (by decide) ?_
              refine a_aload_n (q := 92) dX3_takes_91 rfl rfl rfl ?_
              refine a_iload_n (q := 93) dX3_takes_92 rfl rfl rfl ?_
              refine a_bipush (q := 95) (nI 97) dX3_takes_93 (by decide) rfl ?_
              refine a_isubN (q := 96) dX3_takes_95 (by omega) rfl ?_
              refine a_cVAv (q := 99) _ dX3_takes_96 kX3_57 (c_tkS _ (by unfold big; omega) ⟨hr1, hr2⟩) rfl rfl rfl (Nat.le_of_ble_eq_true rfl) ⟨(Nat.le_of_ble_eq_true rfl), (Nat.le_of_ble_eq_true rfl)⟩ ⟨(Nat.le_of_ble_eq_true rfl), (Nat.le_of_ble_eq_true rfl)⟩ rfl ?_
              exact a_iret dX3_takes_99 rfl (b2_narrow _) (Nat.le_of_ble_eq_true rfl) (Nat.le_of_ble_eq_true rfl) (by
                  rw [e1]
                  by_cases h2 : c - 97 + 1 < R.1.1
                  · rw [if_pos h2, if_pos ⟨h, h2⟩, decide_eq_true h2]; exact ⟨rfl, rfl, rfl, rfl⟩
                  · rw [if_neg h2, if_neg (fun q => h2 q.2), decide_eq_false h2]; exact ⟨rfl, rfl, rfl, rfl⟩)
            · omega
          · omega
theorem l_read (P : ps_T) (hT : T.1 ≤ 60) (hc : ∀ i, i < T.1 → T.2 i < 127) : ∀ (m k : Nat) (R : Rd), T.1 - k = m → k ≤ T.1 → rok k R → (∀ r : Nat, (rdF T m k R).1 = r → r ≤ T.1 → P (some (.int (nI r))) 0 (CA g G T (rdF T m k R).2 S K E Q V an) B) → AW g mX3_read 0 0 P noX 0 0 10 [some (.ref (g.1 + 7)), some (.ref (g.1 + 5)), some (.int (nI k))] [] 0 (CA g G T R S K E Q V an) B := by
  intro m
  induction m with
  | zero =>
    intro k R hm hk hr hp
    refine a_iload_n (q := 11) dX3_read_10 rfl rfl rfl ?_
    refine a_aload_n (q := 12) dX3_read_11 rfl rfl rfl ?_
    refine a_getA (q := 15) dX3_read_12 fX3_26 rfl rfl rfl ?_
    refine a_icmp_geN (q := 18) 40 dX3_read_15 (by decide) (by omega) (by omega) rfl (fun c15 => ?_) (fun c15 => ?_)
    · skip
      refine a_aload_n (q := 41) dX3_read_40 rfl rfl rfl ?_
      refine a_getA (q := 44) dX3_read_41 fX3_26 rfl rfl rfl ?_
      exact a_iret dX3_read_44 rfl rfl (Nat.le_of_ble_eq_true rfl) (Nat.le_of_ble_eq_true rfl) (hp _ (by show k = T.1; omega) (Nat.le_refl _))
    · omega
  | succ m ih =>
    intro k R hm hk hr hp
    have h9 := hc k (by omega)
    refine a_iload_n (q := 11) dX3_read_10 rfl rfl rfl ?_
    refine a_aload_n (q := 12) dX3_read_11 rfl rfl rfl ?_
    refine a_getA (q := 15) dX3_read_12 fX3_26 rfl rfl rfl ?_
    refine a_icmp_geN (q := 18) 40 dX3_read_15 (by decide) (by omega) (by omega) rfl (fun c15 => ?_) (fun c15 => ?_)
    · omega
    · skip
      refine a_aload_n (q := 19) dX3_read_18 rfl rfl rfl ?_
      refine a_iload_n (q := 20) dX3_read_19 rfl rfl rfl ?_
      refine a_aload_n (q := 21) dX3_read_20 rfl rfl rfl ?_
      refine a_getA (q := 24) dX3_read_21 fX3_31 rfl rfl rfl ?_
      refine a_iload_n (q := 25) dX3_read_24 rfl rfl rfl ?_
      refine a_ialdAN (q := 26) dX3_read_25 rfl (by omega) (by decide) rfl ?_
      refine a_cVAv (q := 29) _ dX3_read_26 kX3_35 (c_takes k _ (by omega) h9 hr) rfl rfl rfl (Nat.le_of_ble_eq_true rfl) ⟨(Nat.le_of_ble_eq_true rfl), (Nat.le_of_ble_eq_true rfl)⟩ ⟨(Nat.le_of_ble_eq_true rfl), (Nat.le_of_ble_eq_true rfl)⟩ rfl ?_
      refine a_if_neZ (q := 32) 34 dX3_read_29 (by decide) rfl (fun c29 => ?_) (fun c29 => ?_)
      · cases ht : tk k (T.2 k) R with
        | none => rw [ht] at c29; cases c29
        | some R2 =>
          show AW _ _ _ _ _ _ _ _ _ _ _ _ (CA g G T R2 S K E Q V an) _
          rw [rdF, ht] at hp
          have hr2 := tk_ok hr ht
          refine a_iincN (q := 37) (c := 1) dX3_read_34 rfl (by decide) rfl rfl ?_
          refine a_goto 10 dX3_read_37 (by decide) ?_
          exact ih (k + 1) R2 (by omega) (by omega) hr2 hp
      · cases ht : tk k (T.2 k) R with
        | some R2 => rw [ht] at c29; cases c29
        | none =>
          show AW _ _ _ _ _ _ _ _ _ _ _ _ (CA g G T R S K E Q V an) _
          rw [rdF, ht] at hp
          refine a_iload_n (q := 33) dX3_read_32 rfl rfl rfl ?_
          exact a_iret dX3_read_33 rfl rfl (Nat.le_of_ble_eq_true rfl) (Nat.le_of_ble_eq_true rfl) (hp k rfl (by omega))
/-- what the reader comes to -/
def rd (T : Tx) (R : Rd) : Nat × Rd := rdF T T.1 0 ((2, 0, R.1.2.2), R.2)
theorem c_read (hT : T.1 ≤ 60) (hc : ∀ i, i < T.1 → T.2 i < 127) : Ct g mX3_read [.ref (g.1 + 7), .ref (g.1 + 5)] 0 (CA g G T R S K E Q V an) B 0 0 (rP (some (.int (nI (rd T R).1))) (CA g G T (rd T R).2 S K E Q V an) B) noX := by
  refine Ct.of [some (.ref (g.1 + 7)), some (.ref (g.1 + 5)), none] (by decide) rfl (Nat.le_of_ble_eq_true rfl) rfl ?_
  refine a_aload_n (q := 1) dX3_read_0 rfl rfl rfl ?_
  refine a_getA (q := 4) dX3_read_1 fX3_12 rfl rfl rfl ?_
  refine a_iconst (q := 5) (nI 2) dX3_read_4 (by decide) rfl ?_
  refine a_cVA0 (q := 8) _ dX3_read_5 kX3_22 (c_resetD _) rfl rfl rfl (Nat.le_of_ble_eq_true rfl) ⟨(Nat.le_of_ble_eq_true rfl), (Nat.le_of_ble_eq_true rfl)⟩ ⟨(Nat.le_of_ble_eq_true rfl), (Nat.le_of_ble_eq_true rfl)⟩ rfl ?_
  refine a_iconst (q := 9) (nI 0) dX3_read_8 (by decide) rfl ?_
  refine a_istore_n (q := 10) dX3_read_9 rfl (Nat.le_of_ble_eq_true rfl) rfl rfl ?_
  exact l_read _ hT hc _ 0 _ rfl (Nat.zero_le _) ⟨by show 1 ≤ 2; decide, by show 2 ≤ 12; decide, rfl⟩ (fun r hr _ => ⟨by rw [← hr]; rfl, rfl, rfl, rfl⟩)
theorem rdF_le {T : Tx} : ∀ (m k : Nat) (R : Rd), (rdF T m k R).1 ≤ k + m
  | 0, k, R => Nat.le_refl _
  | m + 1, k, R => by
    unfold rdF
    split
    · show k ≤ _; omega
    · exact Nat.le_trans (rdF_le m (k + 1) _) (by omega)
theorem c_ends (k : Nat) (hk : k ≤ 60) : Ct g mX3_endsWithTarget [.ref (g.1 + 7), .int (nI k)] 0 (CA g G T R S K E Q V an) B 0 0 (rP (some (.int (b2 (decide (k % 3 = 1))))) (CA g G T R S K E Q V an) B) noX := by
  refine Ct.of [some (.ref (g.1 + 7)), some (.int (nI k))] (by decide) rfl (Nat.le_of_ble_eq_true rfl) rfl ?_
  refine a_iload_n (q := 1) dX3_endsWithTarget_0 rfl rfl rfl ?_
  refine a_iconst (q := 2) (nI 3) dX3_endsWithTarget_1 (by decide) rfl ?_
  refine a_iremN (q := 3) dX3_endsWithTarget_2 (by omega) ⟨by omega, by decide⟩ rfl ?_
  refine a_iconst (q := 4) (nI 1) dX3_endsWithTarget_3 (by decide) rfl ?_
  refine a_icmp_neN (q := 7) 11 dX3_endsWithTarget_4 (by decide) (by omega) (by omega) rfl (fun c4 => ?_) (fun c4 => ?_)
  · skip
    refine a_iconst (q := 12) (b2 false) dX3_endsWithTarget_11 (by decide) rfl ?_
    exact a_iret dX3_endsWithTarget_12 rfl (b2_narrow _) (Nat.le_of_ble_eq_true rfl) (Nat.le_of_ble_eq_true rfl) (⟨by rw [show decide (k % 3 = 1) = _ from by first | exact decide_eq_true c4 | exact decide_eq_false c4], rfl, rfl, rfl⟩)
  · skip
    refine a_iconst (q := 8) (b2 true) dX3_endsWithTarget_7 (by decide) rfl ?_
    refine a_goto 12 dX3_endsWithTarget_8 (by decide) ?_
    exact a_iret dX3_endsWithTarget_12 rfl (b2_narrow _) (Nat.le_of_ble_eq_true rfl) (Nat.le_of_ble_eq_true rfl) (⟨by rw [show decide (k % 3 = 1) = _ from by first | exact decide_eq_true c4 | exact decide_eq_false c4], rfl, rfl, rfl⟩)
/-- the text is a graph -/
def isGr (T : Tx) (R : Rd) : Bool := decide (4 ≤ T.1 ∧ T.1 % 3 = 1 ∧ (rd T R).1 = T.1)
def rdG (T : Tx) (R : Rd) : Rd := if 4 ≤ T.1 ∧ T.1 % 3 = 1 then (rd T R).2 else R
theorem c_readsGraph (hT : T.1 ≤ 60) (hc : ∀ i, i < T.1 → T.2 i < 127) : Ct g mX3_readsGraph [.ref (g.1 + 7), .ref (g.1 + 5)] 0 (CA g G T R S K E Q V an) B 0 0 (rP (some (.int (b2 (isGr T R)))) (CA g G T (rdG T R) S K E Q V an) B) noX := by
  have hle : (rd T R).1 ≤ 60 := Nat.le_trans (rdF_le _ _ _) (by omega)
  refine Ct.of [some (.ref (g.1 + 7)), some (.ref (g.1 + 5))] (by decide) rfl (Nat.le_of_ble_eq_true rfl) rfl ?_
  refine a_aload_n (q := 1) dX3_readsGraph_0 rfl rfl rfl ?_
  refine a_getA (q := 4) dX3_readsGraph_1 fX3_26 rfl rfl rfl ?_
  refine a_iconst (q := 5) (nI 4) dX3_readsGraph_4 (by decide) rfl ?_
  refine a_icmp_ltN (q := 8) 35 dX3_readsGraph_5 (by decide) (by omega) (by omega) rfl (fun c5 => ?_) (fun c5 => ?_)
  · skip
    refine a_iconst (q := 36) (b2 false) dX3_readsGraph_35 (by decide) rfl ?_
    exact a_iret dX3_readsGraph_36 rfl (b2_narrow _) (Nat.le_of_ble_eq_true rfl) (Nat.le_of_ble_eq_true rfl) (by
        unfold isGr rdG
        first
        | (rw [if_neg (by omega), decide_eq_false (by omega)]; exact ⟨rfl, rfl, rfl, rfl⟩)
        | (rw [if_pos (by omega), decide_eq_false (by omega)]; exact ⟨rfl, rfl, rfl, rfl⟩)
        | (rw [if_pos (by omega), decide_eq_true (by omega)]; exact ⟨rfl, rfl, rfl, rfl⟩))
  · skip
    refine a_aload_n (q := 9) dX3_readsGraph_8 rfl rfl rfl ?_
    refine a_aload_n (q := 10) dX3_readsGraph_9 rfl rfl rfl ?_
    refine a_getA (q := 13) dX3_readsGraph_10 fX3_26 rfl rfl rfl ?_
    refine a_cVAv (q := 16) _ dX3_readsGraph_13 kX3_39 (c_ends _ hT) rfl rfl rfl (Nat.le_of_ble_eq_true rfl) ⟨(Nat.le_of_ble_eq_true rfl), (Nat.le_of_ble_eq_true rfl)⟩ ⟨(Nat.le_of_ble_eq_true rfl), (Nat.le_of_ble_eq_true rfl)⟩ rfl ?_
    refine a_if_eqZ (q := 19) 35 dX3_readsGraph_16 (by decide) rfl (fun c16 => ?_) (fun c16 => ?_)
    · have c16 := of_decide_eq_false c16
      refine a_iconst (q := 36) (b2 false) dX3_readsGraph_35 (by decide) rfl ?_
      exact a_iret dX3_readsGraph_36 rfl (b2_narrow _) (Nat.le_of_ble_eq_true rfl) (Nat.le_of_ble_eq_true rfl) (by
          unfold isGr rdG
          first
          | (rw [if_neg (by omega), decide_eq_false (by omega)]; exact ⟨rfl, rfl, rfl, rfl⟩)
          | (rw [if_pos (by omega), decide_eq_false (by omega)]; exact ⟨rfl, rfl, rfl, rfl⟩)
          | (rw [if_pos (by omega), decide_eq_true (by omega)]; exact ⟨rfl, rfl, rfl, rfl⟩))
    · have c16 := of_decide_eq_true c16
      refine a_aload_n (q := 20) dX3_readsGraph_19 rfl rfl rfl ?_
      refine a_aload_n (q := 21) dX3_readsGraph_20 rfl rfl rfl ?_
      refine a_cVAv (q := 24) _ dX3_readsGraph_21 kX3_43 (c_read hT hc) rfl rfl rfl (Nat.le_of_ble_eq_true rfl) ⟨(Nat.le_of_ble_eq_true rfl), (Nat.le_of_ble_eq_true rfl)⟩ ⟨(Nat.le_of_ble_eq_true rfl), (Nat.le_of_ble_eq_true rfl)⟩ rfl ?_
      refine a_aload_n (q := 25) dX3_readsGraph_24 rfl rfl rfl ?_
      refine a_getA (q := 28) dX3_readsGraph_25 fX3_26 rfl rfl rfl ?_
      refine a_icmp_neN (q := 31) 35 dX3_readsGraph_28 (by decide) (by omega) (by omega) rfl (fun c28 => ?_) (fun c28 => ?_)
      · skip
        refine a_iconst (q := 36) (b2 false) dX3_readsGraph_35 (by decide) rfl ?_
        exact a_iret dX3_readsGraph_36 rfl (b2_narrow _) (Nat.le_of_ble_eq_true rfl) (Nat.le_of_ble_eq_true rfl) (by
            unfold isGr rdG
            first
            | (rw [if_neg (by omega), decide_eq_false (by omega)]; exact ⟨rfl, rfl, rfl, rfl⟩)
            | (rw [if_pos (by omega), decide_eq_false (by omega)]; exact ⟨rfl, rfl, rfl, rfl⟩)
            | (rw [if_pos (by omega), decide_eq_true (by omega)]; exact ⟨rfl, rfl, rfl, rfl⟩))
      · skip
        refine a_iconst (q := 32) (b2 true) dX3_readsGraph_31 (by decide) rfl ?_
        refine a_goto 36 dX3_readsGraph_32 (by decide) ?_
        exact a_iret dX3_readsGraph_36 rfl (b2_narrow _) (Nat.le_of_ble_eq_true rfl) (Nat.le_of_ble_eq_true rfl) (by
            unfold isGr rdG
            first
            | (rw [if_neg (by omega), decide_eq_false (by omega)]; exact ⟨rfl, rfl, rfl, rfl⟩)
            | (rw [if_pos (by omega), decide_eq_false (by omega)]; exact ⟨rfl, rfl, rfl, rfl⟩)
            | (rw [if_pos (by omega), decide_eq_true (by omega)]; exact ⟨rfl, rfl, rfl, rfl⟩))
end ReaderC

