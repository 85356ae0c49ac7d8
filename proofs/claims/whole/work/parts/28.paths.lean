/-! ===== PathProfiler$Paths ===== -/
theorem owF_or {K : Lk} {v : Nat} {r : Int32} : ∀ (m l : Nat) (b : Int32), l + m ≤ 72 → (b = -1 ∨ ∃ k, k < 72 ∧ b = nI k ∧ K.1 k = nI v ∧ K.2.2.1 k ≤ r) → owF K v r m l b = -1 ∨ ∃ k, k < 72 ∧ owF K v r m l b = nI k ∧ K.1 k = nI v ∧ K.2.2.1 k ≤ r := by
  intro m
  induction m with
  | zero => intro l b _ h; exact h
  | succ m ih =>
    intro l b hl h
    unfold owF
    split
    · rename_i q
      exact ih (l + 1) _ (by omega) (Or.inr ⟨l, by omega, rfl, q.1, q.2⟩)
    · exact ih (l + 1) _ (by omega) h
/-- the onward link, as a number -/
def own (K : Lk) (v : Nat) (r : Int32) : Int32 := owF K v r 72 0 (-1)
theorem own_or {K : Lk} {v : Nat} {r : Int32} : own K v r = -1 ∨ ∃ k, k < 72 ∧ own K v r = nI k ∧ K.1 k = nI v ∧ K.2.2.1 k ≤ r := owF_or 72 0 (-1) (by omega) (Or.inl rfl)
/-- a path is traced on from node v with the rest r -/
def tcF (G : Gr) (K : Lk) : Nat → Nat → Int32 → Pa → Pa
  | 0, _, _, q => q
  | m + 1, v, r, q => if v = G.1 - 1 then q else if own K v r = -1 then q else tcF G K m (ltN G (own K v r).toNatClampNeg) (r - K.2.2.1 (own K v r).toNatClampNeg) (va_up q.1 q.2 (own K v r).toNatClampNeg, q.2 + 1)
def trc (G : Gr) (K : Lk) (p : Int32) (q : Pa) : Pa := tcF G K 12 0 p (q.1, 0)
/-- the edges at its ends; how many nodes -/
def stE (q : Pa) : Int32 := if q.2 = 0 ∨ q.1 0 < 48 then -1 else nI (q.1 0 - 48)
def enE (q : Pa) : Int32 := if q.2 = 0 then -1 else if 24 ≤ q.1 (q.2 - 1) ∧ q.1 (q.2 - 1) < 48 then nI (q.1 (q.2 - 1) - 24) else -1
def nnS (q : Pa) : Int32 := if stE q = -1 then nI (q.2 + 1) else nI (q.2 + 1) + Int32.ofInt (-1)
def nnR (q : Pa) : Int32 := if enE q = -1 then nnS q else nnS q + Int32.ofInt (-1)
def plv (K : Lk) (s x : Int32) : Int32 := if s = -1 ∨ x = -1 then -1 else s + K.2.2.1 x.toNatClampNeg
/-- the node that a character stands for -/
def chN (T : Tx) (k : Nat) : Int32 := nI (T.2 k) - nI 97
def fpF (G : Gr) (K : Lk) (T : Tx) : Nat → Nat → Int32 → Int32
  | 0, _, s => s
  | m + 1, k, s => fpF G K T m (k + 1) (plv K s (btw G K 0 (chN T (k - 1)) (chN T k)))
def fpE (G : Gr) (K : Lk) (T : Tx) (s : Int32) : Int32 := if chN T (T.1 - 1) = nI (G.1 - 1) then s else plv K s (btw G K 24 (chN T (T.1 - 1)) (nI (G.1 - 1)))
def fpS (G : Gr) (K : Lk) (T : Tx) : Int32 := if chN T 0 = 0 then nI 0 else plv K (nI 0) (btw G K 48 (nI 0) (chN T 0))
def fnd (G : Gr) (K : Lk) (T : Tx) : Int32 := if T.1 = 0 then -1 else fpE G K T (fpF G K T (T.1 - 1) 1 (fpS G K T))
theorem btF_or {K : Lk} {x y : Int32} : ∀ (m l : Nat), l + m ≤ 72 → btF K x y m l = -1 ∨ ∃ k, k < 72 ∧ btF K x y m l = nI k := by
  intro m
  induction m with
  | zero => intro l _; exact Or.inl rfl
  | succ m ih =>
    intro l hl
    unfold btF
    split
    · exact Or.inr ⟨l, by omega, rfl⟩
    · exact ih (l + 1) (by omega)
theorem btw_or {G : Gr} {K : Lk} {kd : Nat} {x y : Int32} (h : kd ≤ 48) : btw G K kd x y = -1 ∨ ∃ k, k < 72 ∧ btw G K kd x y = nI k := by
  unfold btw
  split
  · exact btF_or 24 kd (by omega)
  · exact Or.inl rfl
section PathsC
variable {g : gp_T} {B : List va_E} {G : Gr} {T : Tx} {R : Rd} {S : Se} {K : Lk} {E : Tr} {Q : Pa} {V : Wk} {an : Bool}
theorem l_trace (P : ps_T) (hg : gok G) (vl pt : Nat → Int32) (p0 : Int32) : ∀ (m v : Nat) (r : Int32) (q : Pa) (L4 : Option Value), 12 - q.2 = m → q.2 ≤ 12 → v < G.1 → P none 0 (CA g G T R S (lsr G S.1, ltg G S.1, vl, pt) E (tcF G (lsr G S.1, ltg G S.1, vl, pt) m v r q) V an) B → AW g mX2_trace 0 0 P noX 0 0 9 [some (.ref (g.1 + 30)), some (.int p0), some (.int (nI v)), some (.int r), L4] [] 0 (CA g G T R S (lsr G S.1, ltg G S.1, vl, pt) E q V an) B := by
  intro m
  have h12 := hg.2.1
  have h1 := hg.1
  induction m with
  | zero =>
    intro v r q L4 hm hq hv hp
    refine a_iload_n (q := 10) dX2_trace_9 rfl rfl rfl ?_
    refine a_aload_n (q := 11) dX2_trace_10 rfl rfl rfl ?_
    refine a_getA (q := 14) dX2_trace_11 fX2_19 rfl rfl rfl ?_
    refine a_cVAv (q := 17) _ dX2_trace_14 kX2_27 (c_exit (G := G) rfl (by omega)) rfl rfl rfl (Nat.le_of_ble_eq_true rfl) ⟨(Nat.le_of_ble_eq_true rfl), (Nat.le_of_ble_eq_true rfl)⟩ ⟨(Nat.le_of_ble_eq_true rfl), (Nat.le_of_ble_eq_true rfl)⟩ rfl ?_
    refine a_icmp_eqN (q := 20) 95 dX2_trace_17 (by decide) (by omega) (by omega) rfl (fun c17 => ?_) (fun c17 => ?_)
    · skip
      exact a_ret dX2_trace_95 rfl (Nat.le_of_ble_eq_true rfl) (Nat.le_of_ble_eq_true rfl) (hp)
    · skip
      refine a_aload_n (q := 21) dX2_trace_20 rfl rfl rfl ?_
      refine a_getA (q := 24) dX2_trace_21 fX2_15 rfl rfl rfl ?_
      refine a_bipush (q := 26) (nI 12) dX2_trace_24 (by decide) rfl ?_
      refine a_icmp_geN (q := 29) 95 dX2_trace_26 (by decide) (by omega) (by omega) rfl (fun c26 => ?_) (fun c26 => ?_)
      · skip
        exact a_ret dX2_trace_95 rfl (Nat.le_of_ble_eq_true rfl) (Nat.le_of_ble_eq_true rfl) (hp)
      · omega
  | succ m ih =>
    intro v r q L4 hm hq hv hp
    unfold tcF at hp
    rcases own_or (K := (lsr G S.1, ltg G S.1, vl, pt)) (v := v) (r := r) with ho | ⟨l, hl, ho, hs, -⟩
    · rw [if_pos ho, ite_self] at hp
      refine a_iload_n (q := 10) dX2_trace_9 rfl rfl rfl ?_
      refine a_aload_n (q := 11) dX2_trace_10 rfl rfl rfl ?_
      refine a_getA (q := 14) dX2_trace_11 fX2_19 rfl rfl rfl ?_
      refine a_cVAv (q := 17) _ dX2_trace_14 kX2_27 (c_exit (G := G) rfl (by omega)) rfl rfl rfl (Nat.le_of_ble_eq_true rfl) ⟨(Nat.le_of_ble_eq_true rfl), (Nat.le_of_ble_eq_true rfl)⟩ ⟨(Nat.le_of_ble_eq_true rfl), (Nat.le_of_ble_eq_true rfl)⟩ rfl ?_
      refine a_icmp_eqN (q := 20) 95 dX2_trace_17 (by decide) (by omega) (by omega) rfl (fun c17 => ?_) (fun c17 => ?_)
      · skip
        exact a_ret dX2_trace_95 rfl (Nat.le_of_ble_eq_true rfl) (Nat.le_of_ble_eq_true rfl) (hp)
      · skip
        refine a_aload_n (q := 21) dX2_trace_20 rfl rfl rfl ?_
        refine a_getA (q := 24) dX2_trace_21 fX2_15 rfl rfl rfl ?_
        refine a_bipush (q := 26) (nI 12) dX2_trace_24 (by decide) rfl ?_
        refine a_icmp_geN (q := 29) 95 dX2_trace_26 (by decide) (by omega) (by omega) rfl (fun c26 => ?_) (fun c26 => ?_)
        · omega
        · skip
          refine a_aload_n (q := 30) dX2_trace_29 rfl rfl rfl ?_
          refine a_getA (q := 33) dX2_trace_30 fX2_23 rfl rfl rfl ?_
          refine a_iload_n (q := 34) dX2_trace_33 rfl rfl rfl ?_
          refine a_iload_n (q := 35) dX2_trace_34 rfl rfl rfl ?_
          refine a_cVAv (q := 38) _ dX2_trace_35 kX2_33 (c_onward v r) rfl rfl rfl (Nat.le_of_ble_eq_true rfl) ⟨(Nat.le_of_ble_eq_true rfl), (Nat.le_of_ble_eq_true rfl)⟩ ⟨(Nat.le_of_ble_eq_true rfl), (Nat.le_of_ble_eq_true rfl)⟩ rfl ?_
          show AW _ _ _ _ _ _ _ _ _ _ (.int (own (lsr G S.1, ltg G S.1, vl, pt) v r) :: _) _ _ _
          rw [ho]
          refine a_istore (q := 40) dX2_trace_38 (Nat.le_of_ble_eq_true rfl) rfl rfl ?_
          refine a_iload (q := 42) dX2_trace_40 rfl rfl ?_
          refine a_iconst (q := 43) (-1) dX2_trace_42 (by decide) rfl ?_
          refine a_icmp_ne (q := 46) 47 dX2_trace_43 (by decide) rfl (fun c43 => ?_) (fun c43 => ?_)
          · exact absurd rfl c43
          · skip
            exact a_ret dX2_trace_46 rfl (Nat.le_of_ble_eq_true rfl) (Nat.le_of_ble_eq_true rfl) (hp)
    · rw [if_neg (c := own (lsr G S.1, ltg G S.1, vl, pt) v r = -1) (by rw [ho]; exact nI_m1 (by omega)), ho, nI_clamp (by omega)] at hp
      have hv2 := ((lsr_eq hg (by omega)).mp hs).1
      have hlt := ltN_lt hg hv2
      refine a_iload_n (q := 10) dX2_trace_9 rfl rfl rfl ?_
      refine a_aload_n (q := 11) dX2_trace_10 rfl rfl rfl ?_
      refine a_getA (q := 14) dX2_trace_11 fX2_19 rfl rfl rfl ?_
      refine a_cVAv (q := 17) _ dX2_trace_14 kX2_27 (c_exit (G := G) rfl (by omega)) rfl rfl rfl (Nat.le_of_ble_eq_true rfl) ⟨(Nat.le_of_ble_eq_true rfl), (Nat.le_of_ble_eq_true rfl)⟩ ⟨(Nat.le_of_ble_eq_true rfl), (Nat.le_of_ble_eq_true rfl)⟩ rfl ?_
      refine a_icmp_eqN (q := 20) 95 dX2_trace_17 (by decide) (by omega) (by omega) rfl (fun c17 => ?_) (fun c17 => ?_)
      · rw [if_pos c17] at hp
        exact a_ret dX2_trace_95 rfl (Nat.le_of_ble_eq_true rfl) (Nat.le_of_ble_eq_true rfl) (hp)
      · rw [if_neg c17] at hp
        refine a_aload_n (q := 21) dX2_trace_20 rfl rfl rfl ?_
        refine a_getA (q := 24) dX2_trace_21 fX2_15 rfl rfl rfl ?_
        refine a_bipush (q := 26) (nI 12) dX2_trace_24 (by decide) rfl ?_
        refine a_icmp_geN (q := 29) 95 dX2_trace_26 (by decide) (by omega) (by omega) rfl (fun c26 => ?_) (fun c26 => ?_)
        · omega
        · skip
          refine a_aload_n (q := 30) dX2_trace_29 rfl rfl rfl ?_
          refine a_getA (q := 33) dX2_trace_30 fX2_23 rfl rfl rfl ?_
          refine a_iload_n (q := 34) dX2_trace_33 rfl rfl rfl ?_
          refine a_iload_n (q := 35) dX2_trace_34 rfl rfl rfl ?_
          refine a_cVAv (q := 38) _ dX2_trace_35 kX2_33 (c_onward v r) rfl rfl rfl (Nat.le_of_ble_eq_true rfl) ⟨(Nat.le_of_ble_eq_true rfl), (Nat.le_of_ble_eq_true rfl)⟩ ⟨(Nat.le_of_ble_eq_true rfl), (Nat.le_of_ble_eq_true rfl)⟩ rfl ?_
          show AW _ _ _ _ _ _ _ _ _ _ (.int (own (lsr G S.1, ltg G S.1, vl, pt) v r) :: _) _ _ _
          rw [ho]
          refine a_istore (q := 40) dX2_trace_38 (Nat.le_of_ble_eq_true rfl) rfl rfl ?_
          refine a_iload (q := 42) dX2_trace_40 rfl rfl ?_
          refine a_iconst (q := 43) (-1) dX2_trace_42 (by decide) rfl ?_
          refine a_icmp_ne (q := 46) 47 dX2_trace_43 (by decide) rfl (fun c43 => ?_) (fun c43 => ?_)
          · skip
            refine a_aload_n (q := 48) dX2_trace_47 rfl rfl rfl ?_
            refine a_getA (q := 51) dX2_trace_48 fX2_9 rfl rfl rfl ?_
            refine a_aload_n (q := 52) dX2_trace_51 rfl rfl rfl ?_
            refine a_getA (q := 55) dX2_trace_52 fX2_15 rfl rfl rfl ?_
            refine a_iload (q := 57) dX2_trace_55 rfl rfl ?_
            refine a_iastAN (q := 58) dX2_trace_57 rfl (by omega) (by decide) rfl ?_
            refine a_aload_n (q := 59) dX2_trace_58 rfl rfl rfl ?_
            refine a_dup (q := 60) dX2_trace_59 rfl rfl ?_
            refine a_getA (q := 63) dX2_trace_60 fX2_15 rfl rfl rfl ?_
            refine a_iconst (q := 64) (nI 1) dX2_trace_63 (by decide) rfl ?_
            refine a_iaddN (q := 65) dX2_trace_64 rfl ?_
            refine a_putA (q := 68) dX2_trace_65 fX2_15 (fun h => nomatch h) rfl (Nat.le_of_ble_eq_true rfl) rfl rfl rfl ?_
            refine a_iload_n (q := 69) dX2_trace_68 rfl rfl rfl ?_
            refine a_aload_n (q := 70) dX2_trace_69 rfl rfl rfl ?_
            refine a_getA (q := 73) dX2_trace_70 fX2_23 rfl rfl rfl ?_
            refine a_getA (q := 76) dX2_trace_73 fX2_39 rfl rfl rfl ?_
            refine a_iload (q := 78) dX2_trace_76 rfl rfl ?_
            refine a_ialdAI (q := 79) dX2_trace_78 rfl (by omega) (by decide) rfl ?_
            refine a_isub (q := 80) dX2_trace_79 rfl ?_
            refine a_istore_n (q := 81) dX2_trace_80 rfl (Nat.le_of_ble_eq_true rfl) rfl rfl ?_
            refine a_aload_n (q := 82) dX2_trace_81 rfl rfl rfl ?_
            refine a_getA (q := 85) dX2_trace_82 fX2_23 rfl rfl rfl ?_
            refine a_getA (q := 88) dX2_trace_85 fX2_42 rfl rfl rfl ?_
            refine a_iload (q := 90) dX2_trace_88 rfl rfl ?_
            refine a_ialdAI (q := 91) dX2_trace_90 rfl (by omega) (by decide) rfl ?_
            show AW _ _ _ _ _ _ _ _ _ _ (.int (ltg G S.1 l) :: _) _ _ _
            rw [ltg_v hv2]
            refine a_istore_n (q := 92) dX2_trace_91 rfl (Nat.le_of_ble_eq_true rfl) rfl rfl ?_
            refine a_goto 9 dX2_trace_92 (by decide) ?_
            exact ih (ltN G l) (r - vl l) (va_up q.1 q.2 l, q.2 + 1) _ (by show 12 - (q.2 + 1) = m; omega) (by show q.2 + 1 ≤ 12; omega) hlt.1 hp
          · exact absurd c43 (nI_m1 (by omega))
theorem c_trace (hg : gok G) (vl pt : Nat → Int32) (p : Int32) : Ct g mX2_trace [.ref (g.1 + 30), .int p] 0 (CA g G T R S (lsr G S.1, ltg G S.1, vl, pt) E Q V an) B 0 0 (rP none (CA g G T R S (lsr G S.1, ltg G S.1, vl, pt) E (trc G (lsr G S.1, ltg G S.1, vl, pt) p Q) V an) B) noX := by
  have h1 := hg.1
  refine Ct.of [some (.ref (g.1 + 30)), some (.int p), none, none, none] (by decide) rfl (Nat.le_of_ble_eq_true rfl) rfl ?_
  refine a_iconst (q := 1) (nI 0) dX2_trace_0 (by decide) rfl ?_
  refine a_istore_n (q := 2) dX2_trace_1 rfl (Nat.le_of_ble_eq_true rfl) rfl rfl ?_
  refine a_iload_n (q := 3) dX2_trace_2 rfl rfl rfl ?_
  refine a_istore_n (q := 4) dX2_trace_3 rfl (Nat.le_of_ble_eq_true rfl) rfl rfl ?_
  refine a_aload_n (q := 5) dX2_trace_4 rfl rfl rfl ?_
  refine a_iconst (q := 6) (nI 0) dX2_trace_5 (by decide) rfl ?_
  refine a_putA (q := 9) dX2_trace_6 fX2_15 (fun h => nomatch h) rfl (Nat.le_of_ble_eq_true rfl) rfl rfl rfl ?_
  exact l_trace _ hg vl pt p _ 0 p (Q.1, 0) _ rfl (Nat.zero_le _) (by omega) ⟨rfl, rfl, rfl, rfl⟩
theorem l_contains (P : ps_T) (l : Nat) (hl : l < 72) (hq : Q.2 ≤ 12) (hq2 : ∀ i, i < Q.2 → Q.1 i < 72) (hp : P (some (.int (b2 (anyR Q.2 (fun i => decide (Q.1 i = l)))))) 0 (CA g G T R S K E Q V an) B) : ∀ m k : Nat, Q.2 - k = m → k ≤ Q.2 → (∀ i, i < k → Q.1 i ≠ l) → AW g mX2_contains 0 0 P noX 0 0 2 [some (.ref (g.1 + 30)), some (.int (nI l)), some (.int (nI k))] [] 0 (CA g G T R S K E Q V an) B := by
  intro m
  induction m with
  | zero =>
    intro k hm hk hf
    refine a_iload_n (q := 3) dX2_contains_2 rfl rfl rfl ?_
    refine a_aload_n (q := 4) dX2_contains_3 rfl rfl rfl ?_
    refine a_getA (q := 7) dX2_contains_4 fX2_15 rfl rfl rfl ?_
    refine a_icmp_geN (q := 10) 28 dX2_contains_7 (by decide) (by omega) (by omega) rfl (fun c7 => ?_) (fun c7 => ?_)
    · skip
      refine a_iconst (q := 29) (b2 false) dX2_contains_28 (by decide) rfl ?_
      exact a_iret dX2_contains_29 rfl (b2_narrow _) (Nat.le_of_ble_eq_true rfl) (Nat.le_of_ble_eq_true rfl) (by rw [anyR_f (fun i hi => decide_eq_false (hf i (by omega)))] at hp; exact hp)
    · omega
  | succ m ih =>
    intro k hm hk hf
    have h9 := hq2 k (by omega)
    refine a_iload_n (q := 3) dX2_contains_2 rfl rfl rfl ?_
    refine a_aload_n (q := 4) dX2_contains_3 rfl rfl rfl ?_
    refine a_getA (q := 7) dX2_contains_4 fX2_15 rfl rfl rfl ?_
    refine a_icmp_geN (q := 10) 28 dX2_contains_7 (by decide) (by omega) (by omega) rfl (fun c7 => ?_) (fun c7 => ?_)
    · omega
    · skip
      refine a_aload_n (q := 11) dX2_contains_10 rfl rfl rfl ?_
      refine a_getA (q := 14) dX2_contains_11 fX2_9 rfl rfl rfl ?_
      refine a_iload_n (q := 15) dX2_contains_14 rfl rfl rfl ?_
      refine a_ialdAN (q := 16) dX2_contains_15 rfl (by omega) (by decide) rfl ?_
      refine a_iload_n (q := 17) dX2_contains_16 rfl rfl rfl ?_
      refine a_icmp_neN (q := 20) 22 dX2_contains_17 (by decide) (by omega) (by omega) rfl (fun c17 => ?_) (fun c17 => ?_)
      · skip
        refine a_iincN (q := 25) (c := 1) dX2_contains_22 rfl (by decide) rfl rfl ?_
        refine a_goto 2 dX2_contains_25 (by decide) ?_
        exact ih (k + 1) (by omega) (by omega) (fun i hi => by
        by_cases e : i = k
        · rw [e]; exact c17
        · exact hf i (by omega))
      · skip
        refine a_iconst (q := 21) (b2 true) dX2_contains_20 (by decide) rfl ?_
        exact a_iret dX2_contains_21 rfl (b2_narrow _) (Nat.le_of_ble_eq_true rfl) (Nat.le_of_ble_eq_true rfl) (by rw [anyR_t (k := k) (by omega) (decide_eq_true c17)] at hp; exact hp)
theorem c_contains (l : Nat) (hl : l < 72) (hq : Q.2 ≤ 12) (hq2 : ∀ i, i < Q.2 → Q.1 i < 72) : Ct g mX2_contains [.ref (g.1 + 30), .int (nI l)] 0 (CA g G T R S K E Q V an) B 0 0 (rP (some (.int (b2 (anyR Q.2 (fun i => decide (Q.1 i = l)))))) (CA g G T R S K E Q V an) B) noX := by
  refine Ct.of [some (.ref (g.1 + 30)), some (.int (nI l)), none] (by decide) rfl (Nat.le_of_ble_eq_true rfl) rfl ?_
  refine a_iconst (q := 1) (nI 0) dX2_contains_0 (by decide) rfl ?_
  refine a_istore_n (q := 2) dX2_contains_1 rfl (Nat.le_of_ble_eq_true rfl) rfl rfl ?_
  exact l_contains _ l hl hq hq2 ⟨rfl, rfl, rfl, rfl⟩ _ 0 rfl (Nat.zero_le _) (fun i hi => absurd hi (Nat.not_lt_zero i))
theorem c_startEdge (hq : Q.2 ≤ 12) (hq2 : ∀ i, i < Q.2 → Q.1 i < 72) : Ct g mX2_startEdge [.ref (g.1 + 30)] 0 (CA g G T R S K E Q V an) B 0 0 (rP (some (.int (stE Q))) (CA g G T R S K E Q V an) B) noX := by
  have h0 : 0 < Q.2 → Q.1 0 < 72 := fun h => hq2 0 h
  refine Ct.of [some (.ref (g.1 + 30))] (by decide) rfl (Nat.le_of_ble_eq_true rfl) rfl ?_
  refine a_aload_n (q := 1) dX2_startEdge_0 rfl rfl rfl ?_
  refine a_getA (q := 4) dX2_startEdge_1 fX2_15 rfl rfl rfl ?_
  refine a_if_eqN (q := 7) 18 dX2_startEdge_4 (by decide) (by omega) rfl (fun c4 => ?_) (fun c4 => ?_)
  · skip
    refine a_iconst (q := 19) (-1) dX2_startEdge_18 (by decide) rfl ?_
    exact a_iret dX2_startEdge_19 rfl rfl (Nat.le_of_ble_eq_true rfl) (Nat.le_of_ble_eq_true rfl) (⟨by unfold stE; rw [if_pos (by omega)], rfl, rfl, rfl⟩)
  · have h0 := h0 c4
    refine a_aload_n (q := 8) dX2_startEdge_7 rfl rfl rfl ?_
    refine a_getA (q := 11) dX2_startEdge_8 fX2_9 rfl rfl rfl ?_
    refine a_iconst (q := 12) (nI 0) dX2_startEdge_11 (by decide) rfl ?_
    refine a_ialdAN (q := 13) dX2_startEdge_12 rfl (by omega) (by decide) rfl ?_
    refine a_bipush (q := 15) (nI 48) dX2_startEdge_13 (by decide) rfl ?_
    refine a_icmp_geN (q := 18) 20 dX2_startEdge_15 (by decide) (by omega) (by omega) rfl (fun c15 => ?_) (fun c15 => ?_)
    · skip
      refine a_aload_n (q := 21) dX2_startEdge_20 rfl rfl rfl ?_
      refine a_getA (q := 24) dX2_startEdge_21 fX2_9 rfl rfl rfl ?_
      refine a_iconst (q := 25) (nI 0) dX2_startEdge_24 (by decide) rfl ?_
      refine a_ialdAN (q := 26) dX2_startEdge_25 rfl (by omega) (by decide) rfl ?_
      refine a_bipush (q := 28) (nI 48) dX2_startEdge_26 (by decide) rfl ?_
      refine a_isubN (q := 29) dX2_startEdge_28 (by omega) rfl ?_
      exact a_iret dX2_startEdge_29 rfl rfl (Nat.le_of_ble_eq_true rfl) (Nat.le_of_ble_eq_true rfl) (⟨by unfold stE; rw [if_neg (by omega)], rfl, rfl, rfl⟩)
    · skip
      refine a_iconst (q := 19) (-1) dX2_startEdge_18 (by decide) rfl ?_
      exact a_iret dX2_startEdge_19 rfl rfl (Nat.le_of_ble_eq_true rfl) (Nat.le_of_ble_eq_true rfl) (⟨by unfold stE; rw [if_pos (by omega)], rfl, rfl, rfl⟩)
theorem c_endEdge (hq : Q.2 ≤ 12) (hq2 : ∀ i, i < Q.2 → Q.1 i < 72) : Ct g mX2_endEdge [.ref (g.1 + 30)] 0 (CA g G T R S K E Q V an) B 0 0 (rP (some (.int (enE Q))) (CA g G T R S K E Q V an) B) noX := by
  have h0 : 0 < Q.2 → Q.1 (Q.2 - 1) < 72 := fun h => hq2 _ (by omega)
  refine Ct.of [some (.ref (g.1 + 30)), none] (by decide) rfl (Nat.le_of_ble_eq_true rfl) rfl ?_
  refine a_aload_n (q := 1) dX2_endEdge_0 rfl rfl rfl ?_
  refine a_getA (q := 4) dX2_endEdge_1 fX2_15 rfl rfl rfl ?_
  refine a_if_neN (q := 7) 9 dX2_endEdge_4 (by decide) (by omega) rfl (fun c4 => ?_) (fun c4 => ?_)
  · have h0 := h0 c4
    refine a_aload_n (q := 10) dX2_endEdge_9 rfl rfl rfl ?_
    refine a_getA (q := 13) dX2_endEdge_10 fX2_9 rfl rfl rfl ?_
    refine a_aload_n (q := 14) dX2_endEdge_13 rfl rfl rfl ?_
    refine a_getA (q := 17) dX2_endEdge_14 fX2_15 rfl rfl rfl ?_
    refine a_iconst (q := 18) (nI 1) dX2_endEdge_17 (by decide) rfl ?_
    refine a_isubN (q := 19) dX2_endEdge_18 (by omega) rfl ?_
    refine a_ialdAN (q := 20) dX2_endEdge_19 rfl (by omega) (by decide) rfl ?_
    refine a_istore_n (q := 21) dX2_endEdge_20 rfl (Nat.le_of_ble_eq_true rfl) rfl rfl ?_
    refine a_iload_n (q := 22) dX2_endEdge_21 rfl rfl rfl ?_
    refine a_bipush (q := 24) (nI 24) dX2_endEdge_22 (by decide) rfl ?_
    refine a_icmp_ltN (q := 27) 40 dX2_endEdge_24 (by decide) (by omega) (by omega) rfl (fun c24 => ?_) (fun c24 => ?_)
    · skip
      refine a_iconst (q := 41) (-1) dX2_endEdge_40 (by decide) rfl ?_
      exact a_iret dX2_endEdge_41 rfl rfl (Nat.le_of_ble_eq_true rfl) (Nat.le_of_ble_eq_true rfl) (⟨by unfold enE; rw [if_neg (by omega)]; first | rw [if_pos (by omega)] | rw [if_neg (by omega)], rfl, rfl, rfl⟩)
    · skip
      refine a_iload_n (q := 28) dX2_endEdge_27 rfl rfl rfl ?_
      refine a_bipush (q := 30) (nI 48) dX2_endEdge_28 (by decide) rfl ?_
      refine a_icmp_geN (q := 33) 40 dX2_endEdge_30 (by decide) (by omega) (by omega) rfl (fun c30 => ?_) (fun c30 => ?_)
      · skip
        refine a_iconst (q := 41) (-1) dX2_endEdge_40 (by decide) rfl ?_
        exact a_iret dX2_endEdge_41 rfl rfl (Nat.le_of_ble_eq_true rfl) (Nat.le_of_ble_eq_true rfl) (⟨by unfold enE; rw [if_neg (by omega)]; first | rw [if_pos (by omega)] | rw [if_neg (by omega)], rfl, rfl, rfl⟩)
      · skip
        refine a_iload_n (q := 34) dX2_endEdge_33 rfl rfl rfl ?_
        refine a_bipush (q := 36) (nI 24) dX2_endEdge_34 (by decide) rfl ?_
        refine a_isubN (q := 37) dX2_endEdge_36 (by omega) rfl ?_
        refine a_goto 41 dX2_endEdge_37 (by decide) ?_
        exact a_iret dX2_endEdge_41 rfl rfl (Nat.le_of_ble_eq_true rfl) (Nat.le_of_ble_eq_true rfl) (⟨by unfold enE; rw [if_neg (by omega)]; first | rw [if_pos (by omega)] | rw [if_neg (by omega)], rfl, rfl, rfl⟩)
  · skip
    refine a_iconst (q := 8) (-1) dX2_endEdge_7 (by decide) rfl ?_
    exact a_iret dX2_endEdge_8 rfl rfl (Nat.le_of_ble_eq_true rfl) (Nat.le_of_ble_eq_true rfl) (⟨by unfold enE; rw [if_pos c4], rfl, rfl, rfl⟩)
theorem c_nodeNumber (hq : Q.2 ≤ 12) (hq2 : ∀ i, i < Q.2 → Q.1 i < 72) : Ct g mX2_nodeNumber [.ref (g.1 + 30)] 0 (CA g G T R S K E Q V an) B 0 0 (rP (some (.int (nnR Q))) (CA g G T R S K E Q V an) B) noX := by
  refine Ct.of [some (.ref (g.1 + 30)), none] (by decide) rfl (Nat.le_of_ble_eq_true rfl) rfl ?_
  refine a_aload_n (q := 1) dX2_nodeNumber_0 rfl rfl rfl ?_
  refine a_getA (q := 4) dX2_nodeNumber_1 fX2_15 rfl rfl rfl ?_
  refine a_iconst (q := 5) (nI 1) dX2_nodeNumber_4 (by decide) rfl ?_
  refine a_iaddN (q := 6) dX2_nodeNumber_5 rfl ?_
  refine a_istore_n (q := 7) dX2_nodeNumber_6 rfl (Nat.le_of_ble_eq_true rfl) rfl rfl ?_
  refine a_aload_n (q := 8) dX2_nodeNumber_7 rfl rfl rfl ?_
  refine a_cVAv (q := 11) _ dX2_nodeNumber_8 kX2_45 (c_startEdge hq hq2) rfl rfl rfl (Nat.le_of_ble_eq_true rfl) ⟨(Nat.le_of_ble_eq_true rfl), (Nat.le_of_ble_eq_true rfl)⟩ ⟨(Nat.le_of_ble_eq_true rfl), (Nat.le_of_ble_eq_true rfl)⟩ rfl ?_
  refine a_iconst (q := 12) (-1) dX2_nodeNumber_11 (by decide) rfl ?_
  refine a_icmp_eq (q := 15) 18 dX2_nodeNumber_12 (by decide) rfl (fun c12 => ?_) (fun c12 => ?_)
  · have hs : nnS Q = nI (Q.2 + 1) := by unfold nnS; rw [if_pos c12]
    refine a_aload_n (q := 19) dX2_nodeNumber_18 rfl rfl rfl ?_
    refine a_cVAv (q := 22) _ dX2_nodeNumber_19 kX2_48 (c_endEdge hq hq2) rfl rfl rfl (Nat.le_of_ble_eq_true rfl) ⟨(Nat.le_of_ble_eq_true rfl), (Nat.le_of_ble_eq_true rfl)⟩ ⟨(Nat.le_of_ble_eq_true rfl), (Nat.le_of_ble_eq_true rfl)⟩ rfl ?_
    refine a_iconst (q := 23) (-1) dX2_nodeNumber_22 (by decide) rfl ?_
    refine a_icmp_eq (q := 26) 29 dX2_nodeNumber_23 (by decide) rfl (fun c23 => ?_) (fun c23 => ?_)
    · skip
      refine a_iload_n (q := 30) dX2_nodeNumber_29 rfl rfl rfl ?_
      exact a_iret dX2_nodeNumber_30 rfl rfl (Nat.le_of_ble_eq_true rfl) (Nat.le_of_ble_eq_true rfl) (⟨by unfold nnR; first | rw [if_pos c23, hs] | rw [if_neg c23, hs], rfl, rfl, rfl⟩)
    · skip
      refine a_iinc (q := 29) dX2_nodeNumber_26 rfl rfl rfl rfl ?_
      refine a_iload_n (q := 30) dX2_nodeNumber_29 rfl rfl rfl ?_
      exact a_iret dX2_nodeNumber_30 rfl rfl (Nat.le_of_ble_eq_true rfl) (Nat.le_of_ble_eq_true rfl) (⟨by unfold nnR; first | rw [if_pos c23, hs] | rw [if_neg c23, hs], rfl, rfl, rfl⟩)
  · have hs : nnS Q = nI (Q.2 + 1) + Int32.ofInt (-1) := by unfold nnS; rw [if_neg c12]
    refine a_iinc (q := 18) dX2_nodeNumber_15 rfl rfl rfl rfl ?_
    refine a_aload_n (q := 19) dX2_nodeNumber_18 rfl rfl rfl ?_
    refine a_cVAv (q := 22) _ dX2_nodeNumber_19 kX2_48 (c_endEdge hq hq2) rfl rfl rfl (Nat.le_of_ble_eq_true rfl) ⟨(Nat.le_of_ble_eq_true rfl), (Nat.le_of_ble_eq_true rfl)⟩ ⟨(Nat.le_of_ble_eq_true rfl), (Nat.le_of_ble_eq_true rfl)⟩ rfl ?_
    refine a_iconst (q := 23) (-1) dX2_nodeNumber_22 (by decide) rfl ?_
    refine a_icmp_eq (q := 26) 29 dX2_nodeNumber_23 (by decide) rfl (fun c23 => ?_) (fun c23 => ?_)
    · skip
      refine a_iload_n (q := 30) dX2_nodeNumber_29 rfl rfl rfl ?_
      exact a_iret dX2_nodeNumber_30 rfl rfl (Nat.le_of_ble_eq_true rfl) (Nat.le_of_ble_eq_true rfl) (⟨by unfold nnR; first | rw [if_pos c23, hs] | rw [if_neg c23, hs], rfl, rfl, rfl⟩)
    · skip
      refine a_iinc (q := 29) dX2_nodeNumber_26 rfl rfl rfl rfl ?_
      refine a_iload_n (q := 30) dX2_nodeNumber_29 rfl rfl rfl ?_
      exact a_iret dX2_nodeNumber_30 rfl rfl (Nat.le_of_ble_eq_true rfl) (Nat.le_of_ble_eq_true rfl) (⟨by unfold nnR; first | rw [if_pos c23, hs] | rw [if_neg c23, hs], rfl, rfl, rfl⟩)
/-- the node at a place of the traced path -/
def pnd (K : Lk) (q : Pa) (k : Nat) : Int32 := if stE q = -1 then (if k = 0 then nI 0 else K.2.1 (q.1 (k - 1))) else K.2.1 (q.1 k)
theorem c_nodeAt (k : Nat) (hq : Q.2 ≤ 12) (hq2 : ∀ i, i < Q.2 → Q.1 i < 72) (hk : k ≤ Q.2) (hk2 : stE Q ≠ -1 → k < Q.2) : Ct g mX2_nodeAt [.ref (g.1 + 30), .int (nI k)] 0 (CA g G T R S K E Q V an) B 0 0 (rP (some (.int (pnd K Q k))) (CA g G T R S K E Q V an) B) noX := by
  have h0 : ∀ j, j < Q.2 → Q.1 j < 72 := hq2
  refine Ct.of [some (.ref (g.1 + 30)), some (.int (nI k)), none] (by decide) rfl (Nat.le_of_ble_eq_true rfl) rfl ?_
  by_cases hs : stE Q = -1
  · unfold pnd
    rw [if_pos hs]
    rcases Nat.eq_zero_or_pos k with hz | hz
    · rw [if_pos hz]
      subst hz
      refine a_aload_n (q := 1) dX2_nodeAt_0 rfl rfl rfl ?_
      refine a_cVAv (q := 4) _ dX2_nodeAt_1 kX2_45 (c_startEdge hq hq2) rfl rfl rfl (Nat.le_of_ble_eq_true rfl) ⟨(Nat.le_of_ble_eq_true rfl), (Nat.le_of_ble_eq_true rfl)⟩ ⟨(Nat.le_of_ble_eq_true rfl), (Nat.le_of_ble_eq_true rfl)⟩ rfl ?_
      refine a_iconst (q := 5) (-1) dX2_nodeAt_4 (by decide) rfl ?_
      refine a_icmp_ne (q := 8) 12 dX2_nodeAt_5 (by decide) rfl (fun c5 => ?_) (fun c5 => ?_)
      · exact absurd hs c5
      · skip
        refine a_iload_n (q := 9) dX2_nodeAt_8 rfl rfl rfl ?_
        refine a_goto 15 dX2_nodeAt_9 (by decide) ?_
        refine a_istore_n (q := 16) dX2_nodeAt_15 rfl (Nat.le_of_ble_eq_true rfl) rfl rfl ?_
        refine a_iload_n (q := 17) dX2_nodeAt_16 rfl rfl rfl ?_
        refine a_if_neN (q := 20) 24 dX2_nodeAt_17 (by decide) (by omega) rfl (fun c17 => ?_) (fun c17 => ?_)
        · omega
        · skip
          refine a_iconst (q := 21) (nI 0) dX2_nodeAt_20 (by decide) rfl ?_
          refine a_goto 40 dX2_nodeAt_21 (by decide) ?_
          exact a_iret dX2_nodeAt_40 rfl rfl (Nat.le_of_ble_eq_true rfl) (Nat.le_of_ble_eq_true rfl) (⟨rfl, rfl, rfl, rfl⟩)
    · rw [if_neg (by omega)]
      have h9 := h0 (k - 1) (by omega)
      refine a_aload_n (q := 1) dX2_nodeAt_0 rfl rfl rfl ?_
      refine a_cVAv (q := 4) _ dX2_nodeAt_1 kX2_45 (c_startEdge hq hq2) rfl rfl rfl (Nat.le_of_ble_eq_true rfl) ⟨(Nat.le_of_ble_eq_true rfl), (Nat.le_of_ble_eq_true rfl)⟩ ⟨(Nat.le_of_ble_eq_true rfl), (Nat.le_of_ble_eq_true rfl)⟩ rfl ?_
      refine a_iconst (q := 5) (-1) dX2_nodeAt_4 (by decide) rfl ?_
      refine a_icmp_ne (q := 8) 12 dX2_nodeAt_5 (by decide) rfl (fun c5 => ?_) (fun c5 => ?_)
      · exact absurd hs c5
      · skip
        refine a_iload_n (q := 9) dX2_nodeAt_8 rfl rfl rfl ?_
        refine a_goto 15 dX2_nodeAt_9 (by decide) ?_
        refine a_istore_n (q := 16) dX2_nodeAt_15 rfl (Nat.le_of_ble_eq_true rfl) rfl rfl ?_
        refine a_iload_n (q := 17) dX2_nodeAt_16 rfl rfl rfl ?_
        refine a_if_neN (q := 20) 24 dX2_nodeAt_17 (by decide) (by omega) rfl (fun c17 => ?_) (fun c17 => ?_)
        · skip
          refine a_aload_n (q := 25) dX2_nodeAt_24 rfl rfl rfl ?_
          refine a_getA (q := 28) dX2_nodeAt_25 fX2_23 rfl rfl rfl ?_
          refine a_getA (q := 31) dX2_nodeAt_28 fX2_42 rfl rfl rfl ?_
          refine a_aload_n (q := 32) dX2_nodeAt_31 rfl rfl rfl ?_
          refine a_getA (q := 35) dX2_nodeAt_32 fX2_9 rfl rfl rfl ?_
          refine a_iload_n (q := 36) dX2_nodeAt_35 rfl rfl rfl ?_
          refine a_iconst (q := 37) (nI 1) dX2_nodeAt_36 (by decide) rfl ?_
          refine a_isubN (q := 38) dX2_nodeAt_37 (by omega) rfl ?_
          refine a_ialdAN (q := 39) dX2_nodeAt_38 rfl (by omega) (by decide) rfl ?_
          refine a_ialdAI (q := 40) dX2_nodeAt_39 rfl (by omega) (by decide) rfl ?_
          exact a_iret dX2_nodeAt_40 rfl rfl (Nat.le_of_ble_eq_true rfl) (Nat.le_of_ble_eq_true rfl) (⟨rfl, rfl, rfl, rfl⟩)
        · omega
  · unfold pnd
    rw [if_neg hs]
    have h9 := h0 k (hk2 hs)
    refine a_aload_n (q := 1) dX2_nodeAt_0 rfl rfl rfl ?_
    refine a_cVAv (q := 4) _ dX2_nodeAt_1 kX2_45 (c_startEdge hq hq2) rfl rfl rfl (Nat.le_of_ble_eq_true rfl) ⟨(Nat.le_of_ble_eq_true rfl), (Nat.le_of_ble_eq_true rfl)⟩ ⟨(Nat.le_of_ble_eq_true rfl), (Nat.le_of_ble_eq_true rfl)⟩ rfl ?_
    refine a_iconst (q := 5) (-1) dX2_nodeAt_4 (by decide) rfl ?_
    refine a_icmp_ne (q := 8) 12 dX2_nodeAt_5 (by decide) rfl (fun c5 => ?_) (fun c5 => ?_)
    · skip
      refine a_iload_n (q := 13) dX2_nodeAt_12 rfl rfl rfl ?_
      refine a_iconst (q := 14) (nI 1) dX2_nodeAt_13 (by decide) rfl ?_
      refine a_iaddN (q := 15) dX2_nodeAt_14 rfl ?_
      refine a_istore_n (q := 16) dX2_nodeAt_15 rfl (Nat.le_of_ble_eq_true rfl) rfl rfl ?_
      refine a_iload_n (q := 17) dX2_nodeAt_16 rfl rfl rfl ?_
      refine a_if_neN (q := 20) 24 dX2_nodeAt_17 (by decide) (by omega) rfl (fun c17 => ?_) (fun c17 => ?_)
      · skip
        refine a_aload_n (q := 25) dX2_nodeAt_24 rfl rfl rfl ?_
        refine a_getA (q := 28) dX2_nodeAt_25 fX2_23 rfl rfl rfl ?_
        refine a_getA (q := 31) dX2_nodeAt_28 fX2_42 rfl rfl rfl ?_
        refine a_aload_n (q := 32) dX2_nodeAt_31 rfl rfl rfl ?_
        refine a_getA (q := 35) dX2_nodeAt_32 fX2_9 rfl rfl rfl ?_
        refine a_iload_n (q := 36) dX2_nodeAt_35 rfl rfl rfl ?_
        refine a_iconst (q := 37) (nI 1) dX2_nodeAt_36 (by decide) rfl ?_
        refine a_isubN (q := 38) dX2_nodeAt_37 (by omega) rfl ?_
        show AW _ _ _ _ _ _ _ _ _ _ (.int (nI (k + 1 - 1)) :: _) _ _ _
        rw [Nat.add_sub_cancel]
        have h8 := hk2 hs
        refine a_ialdAN (q := 39) dX2_nodeAt_38 rfl (by omega) (by decide) rfl ?_
        refine a_ialdAI (q := 40) dX2_nodeAt_39 rfl (by omega) (by decide) rfl ?_
        exact a_iret dX2_nodeAt_40 rfl rfl (Nat.le_of_ble_eq_true rfl) (Nat.le_of_ble_eq_true rfl) (⟨rfl, rfl, rfl, rfl⟩)
      · omega
    · exact absurd c5 hs
theorem c_plus (s x : Int32) (hx : x = -1 ∨ ∃ l, l < 72 ∧ x = nI l) : Ct g mX2_plusValue [.ref (g.1 + 30), .int s, .int x] 0 (CA g G T R S K E Q V an) B 0 0 (rP (some (.int (plv K s x))) (CA g G T R S K E Q V an) B) noX := by
  refine Ct.of [some (.ref (g.1 + 30)), some (.int s), some (.int x)] (by decide) rfl (Nat.le_of_ble_eq_true rfl) rfl ?_
  unfold plv
  rcases hx with hx | ⟨l, hl, hx⟩
  · rw [if_pos (Or.inr hx)]
    subst hx
    refine a_iload_n (q := 1) dX2_plusValue_0 rfl rfl rfl ?_
    refine a_iconst (q := 2) (-1) dX2_plusValue_1 (by decide) rfl ?_
    refine a_icmp_eq (q := 5) 10 dX2_plusValue_2 (by decide) rfl (fun c2 => ?_) (fun c2 => ?_)
    · skip
      refine a_iconst (q := 11) (-1) dX2_plusValue_10 (by decide) rfl ?_
      refine a_goto 25 dX2_plusValue_11 (by decide) ?_
      exact a_iret dX2_plusValue_25 rfl rfl (Nat.le_of_ble_eq_true rfl) (Nat.le_of_ble_eq_true rfl) (⟨rfl, rfl, rfl, rfl⟩)
    · skip
      refine a_iload_n (q := 6) dX2_plusValue_5 rfl rfl rfl ?_
      refine a_iconst (q := 7) (-1) dX2_plusValue_6 (by decide) rfl ?_
      refine a_icmp_ne (q := 10) 14 dX2_plusValue_7 (by decide) rfl (fun c7 => ?_) (fun c7 => ?_)
      · exact absurd rfl c7
      · skip
        refine a_iconst (q := 11) (-1) dX2_plusValue_10 (by decide) rfl ?_
        refine a_goto 25 dX2_plusValue_11 (by decide) ?_
        exact a_iret dX2_plusValue_25 rfl rfl (Nat.le_of_ble_eq_true rfl) (Nat.le_of_ble_eq_true rfl) (⟨rfl, rfl, rfl, rfl⟩)
  · subst hx
    rw [nI_clamp (by omega)]
    refine a_iload_n (q := 1) dX2_plusValue_0 rfl rfl rfl ?_
    refine a_iconst (q := 2) (-1) dX2_plusValue_1 (by decide) rfl ?_
    refine a_icmp_eq (q := 5) 10 dX2_plusValue_2 (by decide) rfl (fun c2 => ?_) (fun c2 => ?_)
    · rw [if_pos (Or.inl c2)]
      refine a_iconst (q := 11) (-1) dX2_plusValue_10 (by decide) rfl ?_
      refine a_goto 25 dX2_plusValue_11 (by decide) ?_
      exact a_iret dX2_plusValue_25 rfl rfl (Nat.le_of_ble_eq_true rfl) (Nat.le_of_ble_eq_true rfl) (⟨rfl, rfl, rfl, rfl⟩)
    · skip
      refine a_iload_n (q := 6) dX2_plusValue_5 rfl rfl rfl ?_
      refine a_iconst (q := 7) (-1) dX2_plusValue_6 (by decide) rfl ?_
      refine a_icmp_ne (q := 10) 14 dX2_plusValue_7 (by decide) rfl (fun c7 => ?_) (fun c7 => ?_)
      · rw [if_neg (by rintro (h | h); exact c2 h; exact c7 h)]
        refine a_iload_n (q := 15) dX2_plusValue_14 rfl rfl rfl ?_
        refine a_aload_n (q := 16) dX2_plusValue_15 rfl rfl rfl ?_
        refine a_getA (q := 19) dX2_plusValue_16 fX2_23 rfl rfl rfl ?_
        refine a_getA (q := 22) dX2_plusValue_19 fX2_39 rfl rfl rfl ?_
        refine a_iload_n (q := 23) dX2_plusValue_22 rfl rfl rfl ?_
        refine a_ialdAI (q := 24) dX2_plusValue_23 rfl (by omega) (by decide) rfl ?_
        refine a_iadd (q := 25) dX2_plusValue_24 rfl ?_
        exact a_iret dX2_plusValue_25 rfl rfl (Nat.le_of_ble_eq_true rfl) (Nat.le_of_ble_eq_true rfl) (⟨rfl, rfl, rfl, rfl⟩)
      · exact absurd c7 (nI_m1 (by omega))
theorem l_numberOf (P : ps_T) (hg : gok G) (hT : T.1 ≤ 60) (h0 : 0 < T.1) : ∀ (m k : Nat) (s : Int32) (L6 : Option Value), T.1 - k = m → 1 ≤ k → k ≤ T.1 → P (some (.int (fpE G K T (fpF G K T m k s)))) 0 (CA g G T R S K E Q V an) B → AW g mX2_numberOf 0 0 P noX 0 0 55 [some (.ref (g.1 + 30)), some (.ref (g.1 + 5)), some (.int (chN T 0)), some (.int (chN T (T.1 - 1))), some (.int s), some (.int (nI k)), L6] [] 0 (CA g G T R S K E Q V an) B := by
  intro m
  have h12 := hg.2.1
  have h1 := hg.1
  induction m with
  | zero =>
    intro k s L6 hm hk1 hk hp
    refine a_iload (q := 57) dX2_numberOf_55 rfl rfl ?_
    refine a_aload_n (q := 58) dX2_numberOf_57 rfl rfl rfl ?_
    refine a_getA (q := 61) dX2_numberOf_58 fX2_51 rfl rfl rfl ?_
    refine a_icmp_geN (q := 64) 104 dX2_numberOf_61 (by decide) (by omega) (by omega) rfl (fun c61 => ?_) (fun c61 => ?_)
    · skip
      refine a_iload_n (q := 105) dX2_numberOf_104 rfl rfl rfl ?_
      refine a_aload_n (q := 106) dX2_numberOf_105 rfl rfl rfl ?_
      refine a_getA (q := 109) dX2_numberOf_106 fX2_19 rfl rfl rfl ?_
      refine a_cVAv (q := 112) _ dX2_numberOf_109 kX2_27 (c_exit (G := G) rfl (by omega)) rfl rfl rfl (Nat.le_of_ble_eq_true rfl) ⟨(Nat.le_of_ble_eq_true rfl), (Nat.le_of_ble_eq_true rfl)⟩ ⟨(Nat.le_of_ble_eq_true rfl), (Nat.le_of_ble_eq_true rfl)⟩ rfl ?_
      refine a_icmp_eq (q := 115) 140 dX2_numberOf_112 (by decide) rfl (fun c112 => ?_) (fun c112 => ?_)
      · unfold fpE at hp
        rw [if_pos c112] at hp
        refine a_iload (q := 142) dX2_numberOf_140 rfl rfl ?_
        exact a_iret dX2_numberOf_142 rfl rfl (Nat.le_of_ble_eq_true rfl) (Nat.le_of_ble_eq_true rfl) (hp)
      · unfold fpE at hp
        rw [if_neg c112] at hp
        refine a_aload_n (q := 116) dX2_numberOf_115 rfl rfl rfl ?_
        refine a_iload (q := 118) dX2_numberOf_116 rfl rfl ?_
        refine a_aload_n (q := 119) dX2_numberOf_118 rfl rfl rfl ?_
        refine a_getA (q := 122) dX2_numberOf_119 fX2_23 rfl rfl rfl ?_
        refine a_bipush (q := 124) (nI 24) dX2_numberOf_122 (by decide) rfl ?_
        refine a_iload_n (q := 125) dX2_numberOf_124 rfl rfl rfl ?_
        refine a_aload_n (q := 126) dX2_numberOf_125 rfl rfl rfl ?_
        refine a_getA (q := 129) dX2_numberOf_126 fX2_19 rfl rfl rfl ?_
        refine a_cVAv (q := 132) _ dX2_numberOf_129 kX2_27 (c_exit (G := G) rfl (by omega)) rfl rfl rfl (Nat.le_of_ble_eq_true rfl) ⟨(Nat.le_of_ble_eq_true rfl), (Nat.le_of_ble_eq_true rfl)⟩ ⟨(Nat.le_of_ble_eq_true rfl), (Nat.le_of_ble_eq_true rfl)⟩ rfl ?_
        refine a_cVAv (q := 135) _ dX2_numberOf_132 kX2_60 (c_between 24 (by omega) _ _) rfl rfl rfl (Nat.le_of_ble_eq_true rfl) ⟨(Nat.le_of_ble_eq_true rfl), (Nat.le_of_ble_eq_true rfl)⟩ ⟨(Nat.le_of_ble_eq_true rfl), (Nat.le_of_ble_eq_true rfl)⟩ rfl ?_
        refine a_cVAv (q := 138) _ dX2_numberOf_135 kX2_64 (c_plus _ _ (btw_or (by omega))) rfl rfl rfl (Nat.le_of_ble_eq_true rfl) ⟨(Nat.le_of_ble_eq_true rfl), (Nat.le_of_ble_eq_true rfl)⟩ ⟨(Nat.le_of_ble_eq_true rfl), (Nat.le_of_ble_eq_true rfl)⟩ rfl ?_
        refine a_istore (q := 140) dX2_numberOf_138 (Nat.le_of_ble_eq_true rfl) rfl rfl ?_
        refine a_iload (q := 142) dX2_numberOf_140 rfl rfl ?_
        exact a_iret dX2_numberOf_142 rfl rfl (Nat.le_of_ble_eq_true rfl) (Nat.le_of_ble_eq_true rfl) (hp)
    · omega
  | succ m ih =>
    intro k s L6 hm hk1 hk hp
    refine a_iload (q := 57) dX2_numberOf_55 rfl rfl ?_
    refine a_aload_n (q := 58) dX2_numberOf_57 rfl rfl rfl ?_
    refine a_getA (q := 61) dX2_numberOf_58 fX2_51 rfl rfl rfl ?_
    refine a_icmp_geN (q := 64) 104 dX2_numberOf_61 (by decide) (by omega) (by omega) rfl (fun c61 => ?_) (fun c61 => ?_)
    · omega
    · skip
      refine a_aload_n (q := 65) dX2_numberOf_64 rfl rfl rfl ?_
      refine a_iload (q := 67) dX2_numberOf_65 rfl rfl ?_
      refine a_iconst (q := 68) (nI 1) dX2_numberOf_67 (by decide) rfl ?_
      refine a_isubN (q := 69) dX2_numberOf_68 (by omega) rfl ?_
      refine a_cVAv (q := 72) _ dX2_numberOf_69 kX2_56 (c_tNode (k - 1) (by omega)) rfl rfl rfl (Nat.le_of_ble_eq_true rfl) ⟨(Nat.le_of_ble_eq_true rfl), (Nat.le_of_ble_eq_true rfl)⟩ ⟨(Nat.le_of_ble_eq_true rfl), (Nat.le_of_ble_eq_true rfl)⟩ rfl ?_
      refine a_istore (q := 74) dX2_numberOf_72 (Nat.le_of_ble_eq_true rfl) rfl rfl ?_
      refine a_aload_n (q := 75) dX2_numberOf_74 rfl rfl rfl ?_
      refine a_iload (q := 77) dX2_numberOf_75 rfl rfl ?_
      refine a_aload_n (q := 78) dX2_numberOf_77 rfl rfl rfl ?_
      refine a_getA (q := 81) dX2_numberOf_78 fX2_23 rfl rfl rfl ?_
      refine a_iconst (q := 82) (nI 0) dX2_numberOf_81 (by decide) rfl ?_
      refine a_iload (q := 84) dX2_numberOf_82 rfl rfl ?_
      refine a_aload_n (q := 85) dX2_numberOf_84 rfl rfl rfl ?_
      refine a_iload (q := 87) dX2_numberOf_85 rfl rfl ?_
      refine a_cVAv (q := 90) _ dX2_numberOf_87 kX2_56 (c_tNode k (by omega)) rfl rfl rfl (Nat.le_of_ble_eq_true rfl) ⟨(Nat.le_of_ble_eq_true rfl), (Nat.le_of_ble_eq_true rfl)⟩ ⟨(Nat.le_of_ble_eq_true rfl), (Nat.le_of_ble_eq_true rfl)⟩ rfl ?_
      refine a_cVAv (q := 93) _ dX2_numberOf_90 kX2_60 (c_between 0 (by omega) _ _) rfl rfl rfl (Nat.le_of_ble_eq_true rfl) ⟨(Nat.le_of_ble_eq_true rfl), (Nat.le_of_ble_eq_true rfl)⟩ ⟨(Nat.le_of_ble_eq_true rfl), (Nat.le_of_ble_eq_true rfl)⟩ rfl ?_
      refine a_cVAv (q := 96) _ dX2_numberOf_93 kX2_64 (c_plus _ _ (btw_or (by omega))) rfl rfl rfl (Nat.le_of_ble_eq_true rfl) ⟨(Nat.le_of_ble_eq_true rfl), (Nat.le_of_ble_eq_true rfl)⟩ ⟨(Nat.le_of_ble_eq_true rfl), (Nat.le_of_ble_eq_true rfl)⟩ rfl ?_
      refine a_istore (q := 98) dX2_numberOf_96 (Nat.le_of_ble_eq_true rfl) rfl rfl ?_
      refine a_iincN (q := 101) (c := 1) dX2_numberOf_98 rfl (by decide) rfl rfl ?_
      refine a_goto 55 dX2_numberOf_101 (by decide) ?_
      exact ih (k + 1) _ _ (by omega) (by omega) (by omega) hp
theorem c_numberOf (hg : gok G) (hT : T.1 ≤ 60) : Ct g mX2_numberOf [.ref (g.1 + 30), .ref (g.1 + 5)] 0 (CA g G T R S K E Q V an) B 0 0 (rP (some (.int (fnd G K T))) (CA g G T R S K E Q V an) B) noX := by
  have h12 := hg.2.1
  have h1 := hg.1
  refine Ct.of [some (.ref (g.1 + 30)), some (.ref (g.1 + 5)), none, none, none, none, none] (by decide) rfl (Nat.le_of_ble_eq_true rfl) rfl ?_
  unfold fnd
  refine a_aload_n (q := 1) dX2_numberOf_0 rfl rfl rfl ?_
  refine a_getA (q := 4) dX2_numberOf_1 fX2_51 rfl rfl rfl ?_
  refine a_if_neN (q := 7) 9 dX2_numberOf_4 (by decide) (by omega) rfl (fun c4 => ?_) (fun c4 => ?_)
  · rw [if_neg (by omega)]
    refine a_aload_n (q := 10) dX2_numberOf_9 rfl rfl rfl ?_
    refine a_iconst (q := 11) (nI 0) dX2_numberOf_10 (by decide) rfl ?_
    refine a_cVAv (q := 14) _ dX2_numberOf_11 kX2_56 (c_tNode 0 (by omega)) rfl rfl rfl (Nat.le_of_ble_eq_true rfl) ⟨(Nat.le_of_ble_eq_true rfl), (Nat.le_of_ble_eq_true rfl)⟩ ⟨(Nat.le_of_ble_eq_true rfl), (Nat.le_of_ble_eq_true rfl)⟩ rfl ?_
    refine a_istore_n (q := 15) dX2_numberOf_14 rfl (Nat.le_of_ble_eq_true rfl) rfl rfl ?_
    refine a_aload_n (q := 16) dX2_numberOf_15 rfl rfl rfl ?_
    refine a_aload_n (q := 17) dX2_numberOf_16 rfl rfl rfl ?_
    refine a_getA (q := 20) dX2_numberOf_17 fX2_51 rfl rfl rfl ?_
    refine a_iconst (q := 21) (nI 1) dX2_numberOf_20 (by decide) rfl ?_
    refine a_isubN (q := 22) dX2_numberOf_21 (by omega) rfl ?_
    refine a_cVAv (q := 25) _ dX2_numberOf_22 kX2_56 (c_tNode (T.1 - 1) (by omega)) rfl rfl rfl (Nat.le_of_ble_eq_true rfl) ⟨(Nat.le_of_ble_eq_true rfl), (Nat.le_of_ble_eq_true rfl)⟩ ⟨(Nat.le_of_ble_eq_true rfl), (Nat.le_of_ble_eq_true rfl)⟩ rfl ?_
    refine a_istore_n (q := 26) dX2_numberOf_25 rfl (Nat.le_of_ble_eq_true rfl) rfl rfl ?_
    refine a_iconst (q := 27) (nI 0) dX2_numberOf_26 (by decide) rfl ?_
    refine a_istore (q := 29) dX2_numberOf_27 (Nat.le_of_ble_eq_true rfl) rfl rfl ?_
    refine a_iload_n (q := 30) dX2_numberOf_29 rfl rfl rfl ?_
    refine a_if_eq (q := 33) 52 dX2_numberOf_30 (by decide) rfl (fun c30 => ?_) (fun c30 => ?_)
    · have hs : fpS G K T = nI 0 := if_pos c30
      refine a_iconst (q := 53) (nI 1) dX2_numberOf_52 (by decide) rfl ?_
      refine a_istore (q := 55) dX2_numberOf_53 (Nat.le_of_ble_eq_true rfl) rfl rfl ?_
      have h9 := l_numberOf (g := g) (B := B) (R := R) (S := S) (K := K) (E := E) (Q := Q) (V := V) (an := an) (rP (some (.int (fpE G K T (fpF G K T (T.1 - 1) 1 (fpS G K T))))) (CA g G T R S K E Q V an) B) hg hT c4 _ 1 (fpS G K T) none rfl (Nat.le_refl _) (by omega) ⟨rfl, rfl, rfl, rfl⟩
      rw [hs] at h9 ⊢
      exact h9
    · have hs : fpS G K T = plv K (nI 0) (btw G K 48 (nI 0) (chN T 0)) := if_neg c30
      refine a_aload_n (q := 34) dX2_numberOf_33 rfl rfl rfl ?_
      refine a_iload (q := 36) dX2_numberOf_34 rfl rfl ?_
      refine a_aload_n (q := 37) dX2_numberOf_36 rfl rfl rfl ?_
      refine a_getA (q := 40) dX2_numberOf_37 fX2_23 rfl rfl rfl ?_
      refine a_bipush (q := 42) (nI 48) dX2_numberOf_40 (by decide) rfl ?_
      refine a_iconst (q := 43) (nI 0) dX2_numberOf_42 (by decide) rfl ?_
      refine a_iload_n (q := 44) dX2_numberOf_43 rfl rfl rfl ?_
      refine a_cVAv (q := 47) _ dX2_numberOf_44 kX2_60 (c_between 48 (by omega) _ _) rfl rfl rfl (Nat.le_of_ble_eq_true rfl) ⟨(Nat.le_of_ble_eq_true rfl), (Nat.le_of_ble_eq_true rfl)⟩ ⟨(Nat.le_of_ble_eq_true rfl), (Nat.le_of_ble_eq_true rfl)⟩ rfl ?_
      refine a_cVAv (q := 50) _ dX2_numberOf_47 kX2_64 (c_plus _ _ (btw_or (by omega))) rfl rfl rfl (Nat.le_of_ble_eq_true rfl) ⟨(Nat.le_of_ble_eq_true rfl), (Nat.le_of_ble_eq_true rfl)⟩ ⟨(Nat.le_of_ble_eq_true rfl), (Nat.le_of_ble_eq_true rfl)⟩ rfl ?_
      refine a_istore (q := 52) dX2_numberOf_50 (Nat.le_of_ble_eq_true rfl) rfl rfl ?_
      refine a_iconst (q := 53) (nI 1) dX2_numberOf_52 (by decide) rfl ?_
      refine a_istore (q := 55) dX2_numberOf_53 (Nat.le_of_ble_eq_true rfl) rfl rfl ?_
      have h9 := l_numberOf (g := g) (B := B) (R := R) (S := S) (K := K) (E := E) (Q := Q) (V := V) (an := an) (rP (some (.int (fpE G K T (fpF G K T (T.1 - 1) 1 (fpS G K T))))) (CA g G T R S K E Q V an) B) hg hT c4 _ 1 (fpS G K T) none rfl (Nat.le_refl _) (by omega) ⟨rfl, rfl, rfl, rfl⟩
      rw [hs] at h9 ⊢
      exact h9
  · rw [if_pos c4]
    refine a_iconst (q := 8) (-1) dX2_numberOf_7 (by decide) rfl ?_
    exact a_iret dX2_numberOf_8 rfl rfl (Nat.le_of_ble_eq_true rfl) (Nat.le_of_ble_eq_true rfl) (⟨rfl, rfl, rfl, rfl⟩)
end PathsC

