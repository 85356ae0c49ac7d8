/-! ===== PathProfiler$Links ===== -/
/-- a link of the graph: whether there is one of this number; its source, its target -/
def lvd (G : Gr) (bk : Nat → Bool) (l : Nat) : Bool := if l < 24 then decide (l < G.2.1) && !bk l else if l < 48 then decide (l - 24 < G.2.1) && bk (l - 24) else decide (l - 48 < G.2.1) && bk (l - 48)
def lsN (G : Gr) (l : Nat) : Nat := if l < 24 then G.2.2.1 l else if l < 48 then G.2.2.1 (l - 24) else 0
def ltN (G : Gr) (l : Nat) : Nat := if l < 24 then G.2.2.2.1 l else if l < 48 then G.1 - 1 else G.2.2.2.1 (l - 48)
def lsr (G : Gr) (bk : Nat → Bool) (l : Nat) : Int32 := if lvd G bk l = true then nI (lsN G l) else -1
def ltg (G : Gr) (bk : Nat → Bool) (l : Nat) : Int32 := if lvd G bk l = true then nI (ltN G l) else -1
theorem lvd_lt {G : Gr} {bk : Nat → Bool} {l : Nat} (h : lvd G bk l = true) : l % 24 < G.2.1 ∨ 72 ≤ l := by
  unfold lvd at h
  split at h
  · simp only [Bool.and_eq_true, decide_eq_true_eq] at h; left; omega
  · split at h
    · simp only [Bool.and_eq_true, decide_eq_true_eq] at h; left; omega
    · simp only [Bool.and_eq_true, decide_eq_true_eq] at h
      by_cases h9 : 72 ≤ l
      · exact Or.inr h9
      · left; omega
theorem lsN_lt {G : Gr} {bk : Nat → Bool} {l : Nat} (hg : gok G) (h : lvd G bk l = true) : lsN G l + 1 < G.1 := by
  obtain ⟨g1, g2, g3, g4, g5⟩ := hg
  unfold lvd at h
  unfold lsN
  split at h
  · rename_i q
    simp only [Bool.and_eq_true, decide_eq_true_eq] at h
    rw [if_pos q]; exact (g4 _ h.1).1
  · rename_i q
    rw [if_neg q]
    split at h
    · rename_i q2
      simp only [Bool.and_eq_true, decide_eq_true_eq] at h
      rw [if_pos q2]; exact (g4 _ h.1).1
    · rename_i q2
      rw [if_neg q2]; omega
theorem ltN_lt {G : Gr} {bk : Nat → Bool} {l : Nat} (hg : gok G) (h : lvd G bk l = true) : ltN G l < G.1 ∧ 1 ≤ ltN G l := by
  obtain ⟨g1, g2, g3, g4, g5⟩ := hg
  unfold lvd at h
  unfold ltN
  split at h
  · rename_i q
    simp only [Bool.and_eq_true, decide_eq_true_eq] at h
    rw [if_pos q]; exact ⟨(g4 _ h.1).2.2.1, (g4 _ h.1).2.1⟩
  · rename_i q
    rw [if_neg q]
    split at h
    · rename_i q2
      rw [if_pos q2]; omega
    · rename_i q2
      simp only [Bool.and_eq_true, decide_eq_true_eq] at h
      rw [if_neg q2]; exact ⟨(g4 _ h.1).2.2.1, (g4 _ h.1).2.1⟩
theorem lsr_v {G : Gr} {bk : Nat → Bool} {l : Nat} (h : lvd G bk l = true) : lsr G bk l = nI (lsN G l) := if_pos h
theorem ltg_v {G : Gr} {bk : Nat → Bool} {l : Nat} (h : lvd G bk l = true) : ltg G bk l = nI (ltN G l) := if_pos h
theorem nI_m1 {k : Nat} (hk : k < 2 ^ 31) : nI k ≠ -1 := fun h => nI_pos hk (by rw [h]; decide)
theorem lsr_eq {G : Gr} {bk : Nat → Bool} {l v : Nat} (hg : gok G) (hv : v < 2 ^ 31) : lsr G bk l = nI v ↔ lvd G bk l = true ∧ lsN G l = v := by
  unfold lsr
  split
  · rename_i h
    have := lsN_lt hg h
    have := hg.2.1
    rw [nI_eq (by omega) hv]
    exact ⟨fun q => ⟨h, q⟩, fun q => q.2⟩
  · rename_i h
    exact ⟨fun q => absurd q.symm (nI_m1 hv), fun q => absurd q.1 h⟩
theorem lsr_m1 {G : Gr} {bk : Nat → Bool} {l : Nat} (hg : gok G) : lsr G bk l = -1 ↔ lvd G bk l = false := by
  unfold lsr
  split
  · rename_i h
    have := lsN_lt hg h
    have := hg.2.1
    exact ⟨fun q => absurd q (nI_m1 (by omega)), fun q => by rw [h] at q; cases q⟩
  · rename_i h
    refine ⟨fun _ => ?_, fun _ => rfl⟩
    cases hh : lvd G bk l with
    | false => rfl
    | true => exact absurd hh h
/-- the numbers of paths of a node: link by link -/
def cpF (G : Gr) (bk : Nat → Bool) (p : Nat → Int32) (v : Nat) : Nat → Nat → Int32 → (Nat → Int32) → Int32 × (Nat → Int32)
  | 0, _, s, f => (s, f)
  | m + 1, l, s, f => if lvd G bk l = true ∧ lsN G l = v then cpF G bk p v m (l + 1) (s + p (ltN G l)) (va_up f l s) else cpF G bk p v m (l + 1) s f
abbrev VP : Type := (Nat → Int32) × (Nat → Int32)
def cps (G : Gr) (bk : Nat → Bool) (v : Nat) (x : VP) : VP := ((cpF G bk x.2 v 72 0 (nI 0) x.1).2, va_up x.2 v (cpF G bk x.2 v 72 0 (nI 0) x.1).1)
def cqF (G : Gr) (bk : Nat → Bool) (lf : Nat → Nat) : Nat → Nat → VP → VP
  | 0, _, x => x
  | m + 1, j, x => cqF G bk lf m (j + 1) (if lf j = G.1 - 1 then x else cps G bk (lf j) x)
def bld (G : Gr) (bk : Nat → Bool) (lf : Nat → Nat) (ln : Nat) (p0 : Nat → Int32) : VP := cqF G bk lf ln 0 (fun _ => nI 0, va_up p0 (G.1 - 1) (nI 1))
section LinksC
variable {g : gp_T} {B : List va_E} {G : Gr} {T : Tx} {R : Rd} {S : Se} {K : Lk} {E : Tr} {Q : Pa} {V : Wk} {an : Bool}
theorem c_put (l : Nat) (x y : Int32) (hl : l < 72) : Ct g mX1_put [.ref (g.1 + 20), .int (nI l), .int x, .int y] 0 (CA g G T R S K E Q V an) B 0 0 (rP none (CA g G T R S (va_up K.1 l x, va_up K.2.1 l y, va_up K.2.2.1 l (nI 0), K.2.2.2) E Q V an) B) noX := by
  refine Ct.of [some (.ref (g.1 + 20)), some (.int (nI l)), some (.int x), some (.int y)] (by decide) rfl (Nat.le_of_ble_eq_true rfl) rfl ?_
  refine a_aload_n (q := 1) dX1_put_0 rfl rfl rfl ?_
  refine a_getA (q := 4) dX1_put_1 fX1_9 rfl rfl rfl ?_
  refine a_iload_n (q := 5) dX1_put_4 rfl rfl rfl ?_
  refine a_iload_n (q := 6) dX1_put_5 rfl rfl rfl ?_
  refine a_iastAI (q := 7) dX1_put_6 rfl (by omega) (by decide) rfl ?_
  refine a_aload_n (q := 8) dX1_put_7 rfl rfl rfl ?_
  refine a_getA (q := 11) dX1_put_8 fX1_15 rfl rfl rfl ?_
  refine a_iload_n (q := 12) dX1_put_11 rfl rfl rfl ?_
  refine a_iload_n (q := 13) dX1_put_12 rfl rfl rfl ?_
  refine a_iastAI (q := 14) dX1_put_13 rfl (by omega) (by decide) rfl ?_
  refine a_aload_n (q := 15) dX1_put_14 rfl rfl rfl ?_
  refine a_getA (q := 18) dX1_put_15 fX1_18 rfl rfl rfl ?_
  refine a_iload_n (q := 19) dX1_put_18 rfl rfl rfl ?_
  refine a_iconst (q := 20) (nI 0) dX1_put_19 (by decide) rfl ?_
  refine a_iastAI (q := 21) dX1_put_20 rfl (by omega) (by decide) rfl ?_
  exact a_ret dX1_put_21 rfl (Nat.le_of_ble_eq_true rfl) (Nat.le_of_ble_eq_true rfl) (⟨rfl, rfl, rfl, rfl⟩)
theorem l_cpo (P : ps_T) (hg : gok G) (v : Nat) (hv : v < 12) (p : Nat → Int32) : ∀ (m l : Nat) (s : Int32) (f : Nat → Int32), 72 - l = m → l ≤ 72 → P none 0 (CA g G T R S (lsr G S.1, ltg G S.1, (cpF G S.1 p v m l s f).2, va_up p v (cpF G S.1 p v m l s f).1) E Q V an) B → AW g mX1_countPathsOf 0 0 P noX 0 0 4 [some (.ref (g.1 + 20)), some (.int (nI v)), some (.int s), some (.int (nI l))] [] 0 (CA g G T R S (lsr G S.1, ltg G S.1, f, p) E Q V an) B := by
  intro m
  have h12 := hg.2.1
  induction m with
  | zero =>
    intro l s f hm hl hp
    refine a_iload_n (q := 5) dX1_countPathsOf_4 rfl rfl rfl ?_
    refine a_bipush (q := 7) (nI 72) dX1_countPathsOf_5 (by decide) rfl ?_
    refine a_icmp_geN (q := 10) 47 dX1_countPathsOf_7 (by decide) (by omega) (by omega) rfl (fun c7 => ?_) (fun c7 => ?_)
    · skip
      refine a_aload_n (q := 48) dX1_countPathsOf_47 rfl rfl rfl ?_
      refine a_getA (q := 51) dX1_countPathsOf_48 fX1_21 rfl rfl rfl ?_
      refine a_iload_n (q := 52) dX1_countPathsOf_51 rfl rfl rfl ?_
      refine a_iload_n (q := 53) dX1_countPathsOf_52 rfl rfl rfl ?_
      refine a_iastAI (q := 54) dX1_countPathsOf_53 rfl (by omega) (by decide) rfl ?_
      exact a_ret dX1_countPathsOf_54 rfl (Nat.le_of_ble_eq_true rfl) (Nat.le_of_ble_eq_true rfl) (hp)
    · omega
  | succ m ih =>
    intro l s f hm hl hp
    unfold cpF at hp
    refine a_iload_n (q := 5) dX1_countPathsOf_4 rfl rfl rfl ?_
    refine a_bipush (q := 7) (nI 72) dX1_countPathsOf_5 (by decide) rfl ?_
    refine a_icmp_geN (q := 10) 47 dX1_countPathsOf_7 (by decide) (by omega) (by omega) rfl (fun c7 => ?_) (fun c7 => ?_)
    · omega
    · skip
      refine a_aload_n (q := 11) dX1_countPathsOf_10 rfl rfl rfl ?_
      refine a_getA (q := 14) dX1_countPathsOf_11 fX1_9 rfl rfl rfl ?_
      refine a_iload_n (q := 15) dX1_countPathsOf_14 rfl rfl rfl ?_
      refine a_ialdAI (q := 16) dX1_countPathsOf_15 rfl (by omega) (by decide) rfl ?_
      refine a_iload_n (q := 17) dX1_countPathsOf_16 rfl rfl rfl ?_
      refine a_icmp_ne (q := 20) 41 dX1_countPathsOf_17 (by decide) rfl (fun c17 => ?_) (fun c17 => ?_)
      · have c17 : ¬ lsr G S.1 l = nI v := c17
        rw [if_neg (fun q => c17 ((lsr_eq hg (by omega)).mpr q))] at hp
        refine a_iincN (q := 44) (c := 1) dX1_countPathsOf_41 rfl (by decide) rfl rfl ?_
        refine a_goto 4 dX1_countPathsOf_44 (by decide) ?_
        exact ih (l + 1) _ _ (by omega) (by omega) hp
      · have c17 : lsr G S.1 l = nI v := c17
        have hq := (lsr_eq hg (by omega)).mp c17
        have hlt := ltN_lt hg hq.1
        rw [if_pos hq] at hp
        refine a_aload_n (q := 21) dX1_countPathsOf_20 rfl rfl rfl ?_
        refine a_getA (q := 24) dX1_countPathsOf_21 fX1_18 rfl rfl rfl ?_
        refine a_iload_n (q := 25) dX1_countPathsOf_24 rfl rfl rfl ?_
        refine a_iload_n (q := 26) dX1_countPathsOf_25 rfl rfl rfl ?_
        refine a_iastAI (q := 27) dX1_countPathsOf_26 rfl (by omega) (by decide) rfl ?_
        refine a_iload_n (q := 28) dX1_countPathsOf_27 rfl rfl rfl ?_
        refine a_aload_n (q := 29) dX1_countPathsOf_28 rfl rfl rfl ?_
        refine a_getA (q := 32) dX1_countPathsOf_29 fX1_21 rfl rfl rfl ?_
        refine a_aload_n (q := 33) dX1_countPathsOf_32 rfl rfl rfl ?_
        refine a_getA (q := 36) dX1_countPathsOf_33 fX1_15 rfl rfl rfl ?_
        refine a_iload_n (q := 37) dX1_countPathsOf_36 rfl rfl rfl ?_
        refine a_ialdAI (q := 38) dX1_countPathsOf_37 rfl (by omega) (by decide) rfl ?_
        show AW _ _ _ _ _ _ _ _ _ _ (.int (ltg G S.1 l) :: _) _ _ _
        rw [ltg_v hq.1]
        refine a_ialdAI (q := 39) dX1_countPathsOf_38 rfl (by omega) (by decide) rfl ?_
        refine a_iadd (q := 40) dX1_countPathsOf_39 rfl ?_
        refine a_istore_n (q := 41) dX1_countPathsOf_40 rfl (Nat.le_of_ble_eq_true rfl) rfl rfl ?_
        refine a_iincN (q := 44) (c := 1) dX1_countPathsOf_41 rfl (by decide) rfl rfl ?_
        refine a_goto 4 dX1_countPathsOf_44 (by decide) ?_
        exact ih (l + 1) _ _ (by omega) (by omega) hp
theorem c_cpo (hg : gok G) (v : Nat) (hv : v < 12) (f p : Nat → Int32) : Ct g mX1_countPathsOf [.ref (g.1 + 20), .int (nI v)] 0 (CA g G T R S (lsr G S.1, ltg G S.1, f, p) E Q V an) B 0 0 (rP none (CA g G T R S (lsr G S.1, ltg G S.1, cps G S.1 v (f, p)) E Q V an) B) noX := by
  refine Ct.of [some (.ref (g.1 + 20)), some (.int (nI v)), none, none] (by decide) rfl (Nat.le_of_ble_eq_true rfl) rfl ?_
  refine a_iconst (q := 1) (nI 0) dX1_countPathsOf_0 (by decide) rfl ?_
  refine a_istore_n (q := 2) dX1_countPathsOf_1 rfl (Nat.le_of_ble_eq_true rfl) rfl rfl ?_
  refine a_iconst (q := 3) (nI 0) dX1_countPathsOf_2 (by decide) rfl ?_
  refine a_istore_n (q := 4) dX1_countPathsOf_3 rfl (Nat.le_of_ble_eq_true rfl) rfl rfl ?_
  exact l_cpo _ hg v hv p _ 0 _ _ rfl (Nat.zero_le _) ⟨rfl, rfl, rfl, rfl⟩
theorem l_cp (P : ps_T) (hg : gok G) (hl : S.2.2.1 ≤ 12) (hlf : ∀ i, i < S.2.2.1 → S.2.1 i < G.1) : ∀ (m j : Nat) (x : VP), S.2.2.1 - j = m → j ≤ S.2.2.1 → P none 0 (CA g G T R S (lsr G S.1, ltg G S.1, cqF G S.1 S.2.1 m j x) E Q V an) B → AW g mX1_countPaths 0 0 P noX 0 0 15 [some (.ref (g.1 + 20)), some (.int (nI j))] [] 0 (CA g G T R S (lsr G S.1, ltg G S.1, x) E Q V an) B := by
  intro m
  have h12 := hg.2.1
  have h1 := hg.1
  induction m with
  | zero =>
    intro j x hm hj hp
    refine a_iload_n (q := 16) dX1_countPaths_15 rfl rfl rfl ?_
    refine a_aload_n (q := 17) dX1_countPaths_16 rfl rfl rfl ?_
    refine a_getA (q := 20) dX1_countPaths_17 fX1_28 rfl rfl rfl ?_
    refine a_getA (q := 23) dX1_countPaths_20 fX1_57 rfl rfl rfl ?_
    refine a_icmp_geN (q := 26) 64 dX1_countPaths_23 (by decide) (by omega) (by omega) rfl (fun c23 => ?_) (fun c23 => ?_)
    · skip
      exact a_ret dX1_countPaths_64 rfl (Nat.le_of_ble_eq_true rfl) (Nat.le_of_ble_eq_true rfl) (hp)
    · omega
  | succ m ih =>
    intro j x hm hj hp
    have h9 := hlf j
    unfold cqF at hp
    refine a_iload_n (q := 16) dX1_countPaths_15 rfl rfl rfl ?_
    refine a_aload_n (q := 17) dX1_countPaths_16 rfl rfl rfl ?_
    refine a_getA (q := 20) dX1_countPaths_17 fX1_28 rfl rfl rfl ?_
    refine a_getA (q := 23) dX1_countPaths_20 fX1_57 rfl rfl rfl ?_
    refine a_icmp_geN (q := 26) 64 dX1_countPaths_23 (by decide) (by omega) (by omega) rfl (fun c23 => ?_) (fun c23 => ?_)
    · omega
    · have h9 := h9 c23
      refine a_aload_n (q := 27) dX1_countPaths_26 rfl rfl rfl ?_
      refine a_getA (q := 30) dX1_countPaths_27 fX1_28 rfl rfl rfl ?_
      refine a_getA (q := 33) dX1_countPaths_30 fX1_60 rfl rfl rfl ?_
      refine a_iload_n (q := 34) dX1_countPaths_33 rfl rfl rfl ?_
      refine a_ialdAN (q := 35) dX1_countPaths_34 rfl (by omega) (by decide) rfl ?_
      refine a_aload_n (q := 36) dX1_countPaths_35 rfl rfl rfl ?_
      refine a_getA (q := 39) dX1_countPaths_36 fX1_24 rfl rfl rfl ?_
      refine a_cVAv (q := 42) _ dX1_countPaths_39 kX1_49 (c_exit (G := G) rfl (by omega)) rfl rfl rfl (Nat.le_of_ble_eq_true rfl) ⟨(Nat.le_of_ble_eq_true rfl), (Nat.le_of_ble_eq_true rfl)⟩ ⟨(Nat.le_of_ble_eq_true rfl), (Nat.le_of_ble_eq_true rfl)⟩ rfl ?_
      refine a_icmp_eqN (q := 45) 58 dX1_countPaths_42 (by decide) (by omega) (by omega) rfl (fun c42 => ?_) (fun c42 => ?_)
      · rw [if_pos c42] at hp
        refine a_iincN (q := 61) (c := 1) dX1_countPaths_58 rfl (by decide) rfl rfl ?_
        refine a_goto 15 dX1_countPaths_61 (by decide) ?_
        exact ih (j + 1) _ (by omega) (by omega) hp
      · rw [if_neg c42] at hp
        refine a_aload_n (q := 46) dX1_countPaths_45 rfl rfl rfl ?_
        refine a_aload_n (q := 47) dX1_countPaths_46 rfl rfl rfl ?_
        refine a_getA (q := 50) dX1_countPaths_47 fX1_28 rfl rfl rfl ?_
        refine a_getA (q := 53) dX1_countPaths_50 fX1_60 rfl rfl rfl ?_
        refine a_iload_n (q := 54) dX1_countPaths_53 rfl rfl rfl ?_
        refine a_ialdAN (q := 55) dX1_countPaths_54 rfl (by omega) (by decide) rfl ?_
        refine a_cVA0 (q := 58) _ dX1_countPaths_55 kX1_63 (c_cpo hg (S.2.1 j) (by omega) x.1 x.2) rfl rfl rfl (Nat.le_of_ble_eq_true rfl) ⟨(Nat.le_of_ble_eq_true rfl), (Nat.le_of_ble_eq_true rfl)⟩ ⟨(Nat.le_of_ble_eq_true rfl), (Nat.le_of_ble_eq_true rfl)⟩ rfl ?_
        refine a_iincN (q := 61) (c := 1) dX1_countPaths_58 rfl (by decide) rfl rfl ?_
        refine a_goto 15 dX1_countPaths_61 (by decide) ?_
        exact ih (j + 1) _ (by omega) (by omega) hp
theorem c_cp (hg : gok G) (hl : S.2.2.1 ≤ 12) (hlf : ∀ i, i < S.2.2.1 → S.2.1 i < G.1) (f p : Nat → Int32) : Ct g mX1_countPaths [.ref (g.1 + 20)] 0 (CA g G T R S (lsr G S.1, ltg G S.1, f, p) E Q V an) B 0 0 (rP none (CA g G T R S (lsr G S.1, ltg G S.1, cqF G S.1 S.2.1 S.2.2.1 0 (f, va_up p (G.1 - 1) (nI 1))) E Q V an) B) noX := by
  have h12 := hg.2.1
  have h1 := hg.1
  refine Ct.of [some (.ref (g.1 + 20)), none] (by decide) rfl (Nat.le_of_ble_eq_true rfl) rfl ?_
  refine a_aload_n (q := 1) dX1_countPaths_0 rfl rfl rfl ?_
  refine a_getA (q := 4) dX1_countPaths_1 fX1_21 rfl rfl rfl ?_
  refine a_aload_n (q := 5) dX1_countPaths_4 rfl rfl rfl ?_
  refine a_getA (q := 8) dX1_countPaths_5 fX1_24 rfl rfl rfl ?_
  refine a_cVAv (q := 11) _ dX1_countPaths_8 kX1_49 (c_exit (G := G) rfl (by omega)) rfl rfl rfl (Nat.le_of_ble_eq_true rfl) ⟨(Nat.le_of_ble_eq_true rfl), (Nat.le_of_ble_eq_true rfl)⟩ ⟨(Nat.le_of_ble_eq_true rfl), (Nat.le_of_ble_eq_true rfl)⟩ rfl ?_
  refine a_iconst (q := 12) (nI 1) dX1_countPaths_11 (by decide) rfl ?_
  refine a_iastAI (q := 13) dX1_countPaths_12 rfl (by omega) (by decide) rfl ?_
  refine a_iconst (q := 14) (nI 0) dX1_countPaths_13 (by decide) rfl ?_
  refine a_istore_n (q := 15) dX1_countPaths_14 rfl (Nat.le_of_ble_eq_true rfl) rfl rfl ?_
  exact l_cp _ hg hl hlf _ 0 (f, va_up p (G.1 - 1) (nI 1)) rfl (Nat.zero_le _) ⟨rfl, rfl, rfl, rfl⟩
theorem l_bld1 (P : ps_T) (cont : ∀ f1 f2 f3 : Nat → Int32, (∀ i, i < 72 → f1 i = -1 ∧ f2 i = -1 ∧ f3 i = nI 0) → AW g mX1_build 0 0 P noX 0 0 21 [some (.ref (g.1 + 20)), some (.int (nI 72))] [] 0 (CA g G T R S (f1, f2, f3, K.2.2.2) E Q V an) B) : ∀ (m k : Nat) (f1 f2 f3 : Nat → Int32), 72 - k = m → k ≤ 72 → (∀ i, i < k → f1 i = -1 ∧ f2 i = -1 ∧ f3 i = nI 0) → AW g mX1_build 0 0 P noX 0 0 2 [some (.ref (g.1 + 20)), some (.int (nI k))] [] 0 (CA g G T R S (f1, f2, f3, K.2.2.2) E Q V an) B := by
  intro m
  induction m with
  | zero =>
    intro k f1 f2 f3 hm hk hf
    have hk2 : k = 72 := by omega
    subst hk2
    refine a_iload_n (q := 3) dX1_build_2 rfl rfl rfl ?_
    refine a_bipush (q := 5) (nI 72) dX1_build_3 (by decide) rfl ?_
    refine a_icmp_geN (q := 8) 21 dX1_build_5 (by decide) (by omega) (by omega) rfl (fun c5 => ?_) (fun c5 => ?_)
    · skip
      exact cont f1 f2 f3 hf
    · omega
  | succ m ih =>
    intro k f1 f2 f3 hm hk hf
    refine a_iload_n (q := 3) dX1_build_2 rfl rfl rfl ?_
    refine a_bipush (q := 5) (nI 72) dX1_build_3 (by decide) rfl ?_
    refine a_icmp_geN (q := 8) 21 dX1_build_5 (by decide) (by omega) (by omega) rfl (fun c5 => ?_) (fun c5 => ?_)
    · omega
    · skip
      refine a_aload_n (q := 9) dX1_build_8 rfl rfl rfl ?_
      refine a_iload_n (q := 10) dX1_build_9 rfl rfl rfl ?_
      refine a_iconst (q := 11) (-1) dX1_build_10 (by decide) rfl ?_
      refine a_iconst (q := 12) (-1) dX1_build_11 (by decide) rfl ?_
      refine a_cVA0 (q := 15) _ dX1_build_12 kX1_32 (c_put (K := (f1, f2, f3, K.2.2.2)) _ _ _ (by omega)) rfl rfl rfl (Nat.le_of_ble_eq_true rfl) ⟨(Nat.le_of_ble_eq_true rfl), (Nat.le_of_ble_eq_true rfl)⟩ ⟨(Nat.le_of_ble_eq_true rfl), (Nat.le_of_ble_eq_true rfl)⟩ rfl ?_
      refine a_iincN (q := 18) (c := 1) dX1_build_15 rfl (by decide) rfl rfl ?_
      refine a_goto 2 dX1_build_18 (by decide) ?_
      exact ih (k + 1) _ _ _ (by omega) (by omega) (fun i hi => by
      show va_up f1 k (-1) i = -1 ∧ va_up f2 k (-1) i = -1 ∧ va_up f3 k (nI 0) i = nI 0
      by_cases e : i = k
      · rw [e, va_same, va_same, va_same]; exact ⟨rfl, rfl, rfl⟩
      · rw [va_other e, va_other e, va_other e]; exact hf i (by omega))
/-- the links of the edges below k stand -/
def lkK (G : Gr) (bk : Nat → Bool) (k : Nat) (f1 f2 f3 : Nat → Int32) : Prop := ∀ l, l < 72 → f1 l = (if l % 24 < k then lsr G bk l else -1) ∧ f2 l = (if l % 24 < k then ltg G bk l else -1) ∧ f3 l = nI 0
theorem lkK_b {G : Gr} {bk : Nat → Bool} {k : Nat} {f1 f2 f3 : Nat → Int32} (h : lkK G bk k f1 f2 f3) (hk : k < G.2.1) (hk2 : k < 24) (hb : bk k = true) : lkK G bk (k + 1) (va_up (va_up f1 (24 + k) (nI (G.2.2.1 k))) (48 + k) (nI 0)) (va_up (va_up f2 (24 + k) (nI (G.1 - 1))) (48 + k) (nI (G.2.2.2.1 k))) (va_up (va_up f3 (24 + k) (nI 0)) (48 + k) (nI 0)) := by
  intro l hl
  obtain ⟨a1, a2, a3⟩ := h l hl
  by_cases e1 : l = 48 + k
  · have hv : lvd G bk l = true := by unfold lvd; rw [if_neg (by omega), if_neg (by omega), show l - 48 = k by omega]; simp [hk, hb]
    rw [if_pos (by omega), if_pos (by omega), lsr_v hv, ltg_v hv, e1, va_same, va_same, va_same]
    refine ⟨?_, ?_, rfl⟩
    · unfold lsN; rw [if_neg (by omega), if_neg (by omega)]
    · unfold ltN; rw [if_neg (by omega), if_neg (by omega), show 48 + k - 48 = k by omega]
  · rw [va_other e1, va_other e1, va_other e1]
    by_cases e2 : l = 24 + k
    · have hv : lvd G bk l = true := by unfold lvd; rw [if_neg (by omega), if_pos (by omega), show l - 24 = k by omega]; simp [hk, hb]
      rw [if_pos (by omega), if_pos (by omega), lsr_v hv, ltg_v hv, e2, va_same, va_same, va_same]
      refine ⟨?_, ?_, rfl⟩
      · unfold lsN; rw [if_neg (by omega), if_pos (by omega), show 24 + k - 24 = k by omega]
      · unfold ltN; rw [if_neg (by omega), if_pos (by omega)]
    · rw [va_other e2, va_other e2, va_other e2, a1, a2, a3]
      by_cases e3 : l = k
      · have hv : lvd G bk l = false := by unfold lvd; rw [if_pos (by omega), e3, hb]; simp
        have q1 : ¬ l % 24 < k := by omega
        have q2 : l % 24 < k + 1 := by omega
        rw [if_neg q1, if_neg q1, if_pos q2, if_pos q2]
        unfold lsr ltg
        rw [hv]
        exact ⟨rfl, rfl, rfl⟩
      · by_cases e4 : l % 24 < k
        · rw [if_pos e4, if_pos e4, if_pos (by omega), if_pos (by omega)]; exact ⟨rfl, rfl, rfl⟩
        · rw [if_neg e4, if_neg e4, if_neg (by omega), if_neg (by omega)]; exact ⟨rfl, rfl, rfl⟩
theorem lkK_f {G : Gr} {bk : Nat → Bool} {k : Nat} {f1 f2 f3 : Nat → Int32} (h : lkK G bk k f1 f2 f3) (hk : k < G.2.1) (hk2 : k < 24) (hb : bk k = false) : lkK G bk (k + 1) (va_up f1 (0 + k) (nI (G.2.2.1 k))) (va_up f2 (0 + k) (nI (G.2.2.2.1 k))) (va_up f3 (0 + k) (nI 0)) := by
  intro l hl
  obtain ⟨a1, a2, a3⟩ := h l hl
  rw [Nat.zero_add]
  by_cases e1 : l = k
  · have hv : lvd G bk l = true := by unfold lvd; rw [if_pos (by omega), e1, hb]; simp [hk]
    rw [if_pos (by omega), if_pos (by omega), lsr_v hv, ltg_v hv, e1, va_same, va_same, va_same]
    refine ⟨?_, ?_, rfl⟩
    · unfold lsN; rw [if_pos (by omega)]
    · unfold ltN; rw [if_pos (by omega)]
  · rw [va_other e1, va_other e1, va_other e1, a1, a2, a3]
    by_cases e2 : l = 24 + k ∨ l = 48 + k
    · have hv : lvd G bk l = false := by
        unfold lvd
        rw [if_neg (by omega)]
        rcases e2 with e | e
        · rw [if_pos (by omega), show l - 24 = k by omega, hb]; simp
        · rw [if_neg (by omega), show l - 48 = k by omega, hb]; simp
      have q1 : ¬ l % 24 < k := by omega
      have q2 : l % 24 < k + 1 := by omega
      rw [if_neg q1, if_neg q1, if_pos q2, if_pos q2]
      unfold lsr ltg
      rw [hv]
      exact ⟨rfl, rfl, rfl⟩
    · by_cases e4 : l % 24 < k
      · rw [if_pos e4, if_pos e4, if_pos (by omega), if_pos (by omega)]; exact ⟨rfl, rfl, rfl⟩
      · rw [if_neg e4, if_neg e4, if_neg (by omega), if_neg (by omega)]; exact ⟨rfl, rfl, rfl⟩
theorem l_bld2 (P : ps_T) (hg : gok G) (hl : S.2.2.1 ≤ 12) (hlf : ∀ i, i < S.2.2.1 → S.2.1 i < G.1) (p : Nat → Int32) (hp : P none 0 (CA g G T R S (lsr G S.1, ltg G S.1, bld G S.1 S.2.1 S.2.2.1 p) E Q V an) B) : ∀ (m k : Nat) (f1 f2 f3 : Nat → Int32), G.2.1 - k = m → k ≤ G.2.1 → lkK G S.1 k f1 f2 f3 → AW g mX1_build 0 0 P noX 0 0 23 [some (.ref (g.1 + 20)), some (.int (nI k))] [] 0 (CA g G T R S (f1, f2, f3, p) E Q V an) B := by
  intro m
  obtain ⟨g1, g2, g3, g4, g5⟩ := id hg
  induction m with
  | zero =>
    intro k f1 f2 f3 hm hk hf
    have hout : ∀ l, l < 72 → f1 l = lsr G S.1 l ∧ f2 l = ltg G S.1 l ∧ f3 l = nI 0 := by
      intro l hl9
      obtain ⟨a1, a2, a3⟩ := hf l hl9
      by_cases e : l % 24 < k
      · rw [if_pos e] at a1 a2; exact ⟨a1, a2, a3⟩
      · rw [if_neg e] at a1 a2
        have hv : lvd G S.1 l = false := by
          cases hh : lvd G S.1 l with
          | false => rfl
          | true => rcases lvd_lt hh with q | q <;> omega
        unfold lsr ltg
        rw [hv]
        exact ⟨a1, a2, a3⟩
    refine a_swapA 21 (aI g 72 (lsr G S.1)) rfl (ceq_i (fun i hi => (hout i hi).1)) ?_
    refine a_swapA 22 (aI g 72 (ltg G S.1)) rfl (ceq_i (fun i hi => (hout i hi).2.1)) ?_
    refine a_swapA 23 (aI g 72 (fun _ => nI 0)) rfl (ceq_i (fun i hi => (hout i hi).2.2)) ?_
    refine a_iload_n (q := 24) dX1_build_23 rfl rfl rfl ?_
    refine a_aload_n (q := 25) dX1_build_24 rfl rfl rfl ?_
    refine a_getA (q := 28) dX1_build_25 fX1_24 rfl rfl rfl ?_
    refine a_getA (q := 31) dX1_build_28 fX1_36 rfl rfl rfl ?_
    refine a_icmp_geN (q := 34) 122 dX1_build_31 (by decide) (by omega) (by omega) rfl (fun c31 => ?_) (fun c31 => ?_)
    · skip
      refine a_aload_n (q := 123) dX1_build_122 rfl rfl rfl ?_
      refine a_cVA0 (q := 126) _ dX1_build_123 kX1_54 (c_cp hg hl hlf (fun _ => nI 0) p) rfl rfl rfl (Nat.le_of_ble_eq_true rfl) ⟨(Nat.le_of_ble_eq_true rfl), (Nat.le_of_ble_eq_true rfl)⟩ ⟨(Nat.le_of_ble_eq_true rfl), (Nat.le_of_ble_eq_true rfl)⟩ rfl ?_
      exact a_ret dX1_build_126 rfl (Nat.le_of_ble_eq_true rfl) (Nat.le_of_ble_eq_true rfl) (hp)
    · omega
  | succ m ih =>
    intro k f1 f2 f3 hm hk hf
    refine a_iload_n (q := 24) dX1_build_23 rfl rfl rfl ?_
    refine a_aload_n (q := 25) dX1_build_24 rfl rfl rfl ?_
    refine a_getA (q := 28) dX1_build_25 fX1_24 rfl rfl rfl ?_
    refine a_getA (q := 31) dX1_build_28 fX1_36 rfl rfl rfl ?_
    refine a_icmp_geN (q := 34) 122 dX1_build_31 (by decide) (by omega) (by omega) rfl (fun c31 => ?_) (fun c31 => ?_)
    · omega
    · skip
      refine a_aload_n (q := 35) dX1_build_34 rfl rfl rfl ?_
      refine a_getA (q := 38) dX1_build_35 fX1_28 rfl rfl rfl ?_
      refine a_getA (q := 41) dX1_build_38 fX1_42 rfl rfl rfl ?_
      refine a_iload_n (q := 42) dX1_build_41 rfl rfl rfl ?_
      refine a_zaldAN (q := 43) dX1_build_42 rfl (by omega) (by decide) rfl ?_
      refine a_if_eqZ (q := 46) 91 dX1_build_43 (by decide) rfl (fun c43 => ?_) (fun c43 => ?_)
      · have hnext := lkK_f hf (by omega) (by omega) c43
        refine a_aload_n (q := 92) dX1_build_91 rfl rfl rfl ?_
        refine a_iconst (q := 93) (nI 0) dX1_build_92 (by decide) rfl ?_
        refine a_iload_n (q := 94) dX1_build_93 rfl rfl rfl ?_
        refine a_iaddN (q := 95) dX1_build_94 rfl ?_
        refine a_aload_n (q := 96) dX1_build_95 rfl rfl rfl ?_
        refine a_getA (q := 99) dX1_build_96 fX1_24 rfl rfl rfl ?_
        refine a_getA (q := 102) dX1_build_99 fX1_48 rfl rfl rfl ?_
        refine a_iload_n (q := 103) dX1_build_102 rfl rfl rfl ?_
        refine a_ialdAN (q := 104) dX1_build_103 rfl (by omega) (by decide) rfl ?_
        refine a_aload_n (q := 105) dX1_build_104 rfl rfl rfl ?_
        refine a_getA (q := 108) dX1_build_105 fX1_24 rfl rfl rfl ?_
        refine a_getA (q := 111) dX1_build_108 fX1_53 rfl rfl rfl ?_
        refine a_iload_n (q := 112) dX1_build_111 rfl rfl rfl ?_
        refine a_ialdAN (q := 113) dX1_build_112 rfl (by omega) (by decide) rfl ?_
        refine a_cVA0 (q := 116) _ dX1_build_113 kX1_32 (c_put (K := (f1, f2, f3, p)) _ _ _ (by omega)) rfl rfl rfl (Nat.le_of_ble_eq_true rfl) ⟨(Nat.le_of_ble_eq_true rfl), (Nat.le_of_ble_eq_true rfl)⟩ ⟨(Nat.le_of_ble_eq_true rfl), (Nat.le_of_ble_eq_true rfl)⟩ rfl ?_
        refine a_iincN (q := 119) (c := 1) dX1_build_116 rfl (by decide) rfl rfl ?_
        refine a_goto 23 dX1_build_119 (by decide) ?_
        exact ih (k + 1) _ _ _ (by omega) (by omega) hnext
      · have hnext := lkK_b hf (by omega) (by omega) c43
        refine a_aload_n (q := 47) dX1_build_46 rfl rfl rfl ?_
        refine a_bipush (q := 49) (nI 24) dX1_build_47 (by decide) rfl ?_
        refine a_iload_n (q := 50) dX1_build_49 rfl rfl rfl ?_
        refine a_iaddN (q := 51) dX1_build_50 rfl ?_
        refine a_aload_n (q := 52) dX1_build_51 rfl rfl rfl ?_
        refine a_getA (q := 55) dX1_build_52 fX1_24 rfl rfl rfl ?_
        refine a_getA (q := 58) dX1_build_55 fX1_48 rfl rfl rfl ?_
        refine a_iload_n (q := 59) dX1_build_58 rfl rfl rfl ?_
        refine a_ialdAN (q := 60) dX1_build_59 rfl (by omega) (by decide) rfl ?_
        refine a_aload_n (q := 61) dX1_build_60 rfl rfl rfl ?_
        refine a_getA (q := 64) dX1_build_61 fX1_24 rfl rfl rfl ?_
        refine a_cVAv (q := 67) _ dX1_build_64 kX1_49 (c_exit (G := G) rfl (by omega)) rfl rfl rfl (Nat.le_of_ble_eq_true rfl) ⟨(Nat.le_of_ble_eq_true rfl), (Nat.le_of_ble_eq_true rfl)⟩ ⟨(Nat.le_of_ble_eq_true rfl), (Nat.le_of_ble_eq_true rfl)⟩ rfl ?_
        refine a_cVA0 (q := 70) _ dX1_build_67 kX1_32 (c_put (K := (f1, f2, f3, p)) _ _ _ (by omega)) rfl rfl rfl (Nat.le_of_ble_eq_true rfl) ⟨(Nat.le_of_ble_eq_true rfl), (Nat.le_of_ble_eq_true rfl)⟩ ⟨(Nat.le_of_ble_eq_true rfl), (Nat.le_of_ble_eq_true rfl)⟩ rfl ?_
        refine a_aload_n (q := 71) dX1_build_70 rfl rfl rfl ?_
        refine a_bipush (q := 73) (nI 48) dX1_build_71 (by decide) rfl ?_
        refine a_iload_n (q := 74) dX1_build_73 rfl rfl rfl ?_
        refine a_iaddN (q := 75) dX1_build_74 rfl ?_
        refine a_iconst (q := 76) (nI 0) dX1_build_75 (by decide) rfl ?_
        refine a_aload_n (q := 77) dX1_build_76 rfl rfl rfl ?_
        refine a_getA (q := 80) dX1_build_77 fX1_24 rfl rfl rfl ?_
        refine a_getA (q := 83) dX1_build_80 fX1_53 rfl rfl rfl ?_
        refine a_iload_n (q := 84) dX1_build_83 rfl rfl rfl ?_
        refine a_ialdAN (q := 85) dX1_build_84 rfl (by omega) (by decide) rfl ?_
        refine a_cVA0 (q := 88) _ dX1_build_85 kX1_32 (c_put (K := (va_up f1 (24 + k) (nI (G.2.2.1 k)), va_up f2 (24 + k) (nI (G.1 - 1)), va_up f3 (24 + k) (nI 0), p)) _ _ _ (by omega)) rfl rfl rfl (Nat.le_of_ble_eq_true rfl) ⟨(Nat.le_of_ble_eq_true rfl), (Nat.le_of_ble_eq_true rfl)⟩ ⟨(Nat.le_of_ble_eq_true rfl), (Nat.le_of_ble_eq_true rfl)⟩ rfl ?_
        refine a_goto 116 dX1_build_88 (by decide) ?_
        refine a_iincN (q := 119) (c := 1) dX1_build_116 rfl (by decide) rfl rfl ?_
        refine a_goto 23 dX1_build_119 (by decide) ?_
        exact ih (k + 1) _ _ _ (by omega) (by omega) hnext
theorem c_build (hg : gok G) (hl : S.2.2.1 ≤ 12) (hlf : ∀ i, i < S.2.2.1 → S.2.1 i < G.1) : Ct g mX1_build [.ref (g.1 + 20)] 0 (CA g G T R S K E Q V an) B 0 0 (rP none (CA g G T R S (lsr G S.1, ltg G S.1, bld G S.1 S.2.1 S.2.2.1 K.2.2.2) E Q V an) B) noX := by
  refine Ct.of [some (.ref (g.1 + 20)), none] (by decide) rfl (Nat.le_of_ble_eq_true rfl) rfl ?_
  refine a_iconst (q := 1) (nI 0) dX1_build_0 (by decide) rfl ?_
  refine a_istore_n (q := 2) dX1_build_1 rfl (Nat.le_of_ble_eq_true rfl) rfl rfl ?_
  refine l_bld1 (K := K) _ (fun f1 f2 f3 hf => ?_) _ 0 K.1 K.2.1 K.2.2.1 rfl (Nat.zero_le _) (fun i hi => absurd hi (Nat.not_lt_zero i))
  refine a_iconst (q := 22) (nI 0) dX1_build_21 (by decide) rfl ?_
  refine a_istore_n (q := 23) dX1_build_22 rfl (Nat.le_of_ble_eq_true rfl) rfl rfl ?_
  exact l_bld2 _ hg hl hlf _ ⟨rfl, rfl, rfl, rfl⟩ _ 0 _ _ _ rfl (Nat.zero_le _) (fun l hl9 => by
    rw [if_neg (Nat.not_lt_zero _), if_neg (Nat.not_lt_zero _)]
    exact hf l hl9)
theorem c_allPaths : Ct g mX1_allPaths [.ref (g.1 + 20)] 0 (CA g G T R S K E Q V an) B 0 0 (rP (some (.int (K.2.2.2 0))) (CA g G T R S K E Q V an) B) noX := by
  refine Ct.of [some (.ref (g.1 + 20))] (by decide) rfl (Nat.le_of_ble_eq_true rfl) rfl ?_
  refine a_aload_n (q := 1) dX1_allPaths_0 rfl rfl rfl ?_
  refine a_getA (q := 4) dX1_allPaths_1 fX1_21 rfl rfl rfl ?_
  refine a_iconst (q := 5) (nI 0) dX1_allPaths_4 (by decide) rfl ?_
  refine a_ialdAI (q := 6) dX1_allPaths_5 rfl (by omega) (by decide) rfl ?_
  exact a_iret dX1_allPaths_6 rfl rfl (Nat.le_of_ble_eq_true rfl) (Nat.le_of_ble_eq_true rfl) (⟨rfl, rfl, rfl, rfl⟩)
/-- the link of an edge -/
def lko (bk : Nat → Bool) (k : Nat) (b : Bool) : Nat := if bk k = true then (if b = true then 24 + k else 48 + k) else 0 + k
theorem c_linkOf (k : Nat) (b : Bool) (hk : k < 24) : Ct g mX1_linkOf [.ref (g.1 + 20), .int (nI k), .int (b2 b)] 0 (CA g G T R S K E Q V an) B 0 0 (rP (some (.int (nI (lko S.1 k b)))) (CA g G T R S K E Q V an) B) noX := by
  refine Ct.of [some (.ref (g.1 + 20)), some (.int (nI k)), some (.int (b2 b))] (by decide) rfl (Nat.le_of_ble_eq_true rfl) rfl ?_
  refine a_aload_n (q := 1) dX1_linkOf_0 rfl rfl rfl ?_
  refine a_getA (q := 4) dX1_linkOf_1 fX1_28 rfl rfl rfl ?_
  refine a_getA (q := 7) dX1_linkOf_4 fX1_42 rfl rfl rfl ?_
  refine a_iload_n (q := 8) dX1_linkOf_7 rfl rfl rfl ?_
  refine a_zaldAN (q := 9) dX1_linkOf_8 rfl (by omega) (by decide) rfl ?_
  refine a_if_neZ (q := 12) 16 dX1_linkOf_9 (by decide) rfl (fun c9 => ?_) (fun c9 => ?_)
  · skip
    refine a_iload_n (q := 17) dX1_linkOf_16 rfl rfl rfl ?_
    refine a_if_eqZ (q := 20) 27 dX1_linkOf_17 (by decide) rfl (fun c17 => ?_) (fun c17 => ?_)
    · skip
      refine a_bipush (q := 29) (nI 48) dX1_linkOf_27 (by decide) rfl ?_
      refine a_iload_n (q := 30) dX1_linkOf_29 rfl rfl rfl ?_
      refine a_iaddN (q := 31) dX1_linkOf_30 rfl ?_
      exact a_iret dX1_linkOf_31 rfl rfl (Nat.le_of_ble_eq_true rfl) (Nat.le_of_ble_eq_true rfl) (⟨by unfold lko; rw [if_pos c9]; first | rw [if_pos c17] | rw [if_neg (by rw [c17]; decide)], rfl, rfl, rfl⟩)
    · skip
      refine a_bipush (q := 22) (nI 24) dX1_linkOf_20 (by decide) rfl ?_
      refine a_iload_n (q := 23) dX1_linkOf_22 rfl rfl rfl ?_
      refine a_iaddN (q := 24) dX1_linkOf_23 rfl ?_
      refine a_goto 31 dX1_linkOf_24 (by decide) ?_
      exact a_iret dX1_linkOf_31 rfl rfl (Nat.le_of_ble_eq_true rfl) (Nat.le_of_ble_eq_true rfl) (⟨by unfold lko; rw [if_pos c9]; first | rw [if_pos c17] | rw [if_neg (by rw [c17]; decide)], rfl, rfl, rfl⟩)
  · skip
    refine a_iconst (q := 13) (nI 0) dX1_linkOf_12 (by decide) rfl ?_
    refine a_iload_n (q := 14) dX1_linkOf_13 rfl rfl rfl ?_
    refine a_iaddN (q := 15) dX1_linkOf_14 rfl ?_
    exact a_iret dX1_linkOf_15 rfl rfl (Nat.le_of_ble_eq_true rfl) (Nat.le_of_ble_eq_true rfl) (⟨by unfold lko; rw [if_neg (by rw [c9]; decide)], rfl, rfl, rfl⟩)
/-- the lowest link from l on between x and y -/
def btF (K : Lk) (x y : Int32) : Nat → Nat → Int32
  | 0, _ => -1
  | m + 1, l => if K.1 l = x ∧ K.2.1 l = y then nI l else btF K x y m (l + 1)
def btw (G : Gr) (K : Lk) (kd : Nat) (x y : Int32) : Int32 := if inR x G.1 = true then btF K x y 24 kd else -1
theorem l_btw (P : ps_T) (kd : Nat) (hkd : kd ≤ 48) (x y : Int32) : ∀ m l : Nat, kd + 24 - l = m → kd ≤ l → l ≤ kd + 24 → P (some (.int (btF K x y m l))) 0 (CA g G T R S K E Q V an) B → AW g mX1_between 0 0 P noX 0 0 16 [some (.ref (g.1 + 20)), some (.int (nI kd)), some (.int x), some (.int y), some (.int (nI l))] [] 0 (CA g G T R S K E Q V an) B := by
  intro m
  induction m with
  | zero =>
    intro l hm h1 hl hp
    refine a_iload (q := 18) dX1_between_16 rfl rfl ?_
    refine a_iload_n (q := 19) dX1_between_18 rfl rfl rfl ?_
    refine a_bipush (q := 21) (nI 24) dX1_between_19 (by decide) rfl ?_
    refine a_iaddN (q := 22) dX1_between_21 rfl ?_
    refine a_icmp_geN (q := 25) 56 dX1_between_22 (by decide) (by omega) (by omega) rfl (fun c22 => ?_) (fun c22 => ?_)
    · skip
      refine a_iconst (q := 57) (-1) dX1_between_56 (by decide) rfl ?_
      exact a_iret dX1_between_57 rfl rfl (Nat.le_of_ble_eq_true rfl) (Nat.le_of_ble_eq_true rfl) (hp)
    · omega
  | succ m ih =>
    intro l hm h1 hl hp
    unfold btF at hp
    refine a_iload (q := 18) dX1_between_16 rfl rfl ?_
    refine a_iload_n (q := 19) dX1_between_18 rfl rfl rfl ?_
    refine a_bipush (q := 21) (nI 24) dX1_between_19 (by decide) rfl ?_
    refine a_iaddN (q := 22) dX1_between_21 rfl ?_
    refine a_icmp_geN (q := 25) 56 dX1_between_22 (by decide) (by omega) (by omega) rfl (fun c22 => ?_) (fun c22 => ?_)
    · omega
    · skip
      refine a_aload_n (q := 26) dX1_between_25 rfl rfl rfl ?_
      refine a_getA (q := 29) dX1_between_26 fX1_9 rfl rfl rfl ?_
      refine a_iload (q := 31) dX1_between_29 rfl rfl ?_
      refine a_ialdAI (q := 32) dX1_between_31 rfl (by omega) (by decide) rfl ?_
      refine a_iload_n (q := 33) dX1_between_32 rfl rfl rfl ?_
      refine a_icmp_ne (q := 36) 50 dX1_between_33 (by decide) rfl (fun c33 => ?_) (fun c33 => ?_)
      · rw [if_neg (fun q => c33 q.1)] at hp
        refine a_iincN (q := 53) (c := 1) dX1_between_50 rfl (by decide) rfl rfl ?_
        refine a_goto 16 dX1_between_53 (by decide) ?_
        exact ih (l + 1) (by omega) (by omega) (by omega) hp
      · skip
        refine a_aload_n (q := 37) dX1_between_36 rfl rfl rfl ?_
        refine a_getA (q := 40) dX1_between_37 fX1_15 rfl rfl rfl ?_
        refine a_iload (q := 42) dX1_between_40 rfl rfl ?_
        refine a_ialdAI (q := 43) dX1_between_42 rfl (by omega) (by decide) rfl ?_
        refine a_iload_n (q := 44) dX1_between_43 rfl rfl rfl ?_
        refine a_icmp_ne (q := 47) 50 dX1_between_44 (by decide) rfl (fun c44 => ?_) (fun c44 => ?_)
        · rw [if_neg (fun q => c44 q.2)] at hp
          refine a_iincN (q := 53) (c := 1) dX1_between_50 rfl (by decide) rfl rfl ?_
          refine a_goto 16 dX1_between_53 (by decide) ?_
          exact ih (l + 1) (by omega) (by omega) (by omega) hp
        · rw [if_pos ⟨c33, c44⟩] at hp
          refine a_iload (q := 49) dX1_between_47 rfl rfl ?_
          exact a_iret dX1_between_49 rfl rfl (Nat.le_of_ble_eq_true rfl) (Nat.le_of_ble_eq_true rfl) (hp)
theorem c_between (kd : Nat) (hkd : kd ≤ 48) (x y : Int32) : Ct g mX1_between [.ref (g.1 + 20), .int (nI kd), .int x, .int y] 0 (CA g G T R S K E Q V an) B 0 0 (rP (some (.int (btw G K kd x y))) (CA g G T R S K E Q V an) B) noX := by
  refine Ct.of [some (.ref (g.1 + 20)), some (.int (nI kd)), some (.int x), some (.int y), none] (by decide) rfl (Nat.le_of_ble_eq_true rfl) rfl ?_
  unfold btw
  refine a_aload_n (q := 1) dX1_between_0 rfl rfl rfl ?_
  refine a_getA (q := 4) dX1_between_1 fX1_24 rfl rfl rfl ?_
  refine a_iload_n (q := 5) dX1_between_4 rfl rfl rfl ?_
  refine a_cVAv (q := 8) _ dX1_between_5 kX1_67 (c_hasNode (G := G) _ rfl) rfl rfl rfl (Nat.le_of_ble_eq_true rfl) ⟨(Nat.le_of_ble_eq_true rfl), (Nat.le_of_ble_eq_true rfl)⟩ ⟨(Nat.le_of_ble_eq_true rfl), (Nat.le_of_ble_eq_true rfl)⟩ rfl ?_
  refine a_if_neZ (q := 11) 13 dX1_between_8 (by decide) rfl (fun c8 => ?_) (fun c8 => ?_)
  · rw [if_pos c8]
    refine a_iload_n (q := 14) dX1_between_13 rfl rfl rfl ?_
    refine a_istore (q := 16) dX1_between_14 (Nat.le_of_ble_eq_true rfl) rfl rfl ?_
    exact l_btw _ kd hkd x y _ kd rfl (Nat.le_refl _) (by omega) (by rw [Nat.add_sub_cancel_left]; exact ⟨rfl, rfl, rfl, rfl⟩)
  · rw [if_neg (by rw [c8]; decide)]
    refine a_iconst (q := 12) (-1) dX1_between_11 (by decide) rfl ?_
    exact a_iret dX1_between_12 rfl rfl (Nat.le_of_ble_eq_true rfl) (Nat.le_of_ble_eq_true rfl) (⟨rfl, rfl, rfl, rfl⟩)
/-- the last link of v with a value not above r -/
def owF (K : Lk) (v : Nat) (r : Int32) : Nat → Nat → Int32 → Int32
  | 0, _, b => b
  | m + 1, l, b => if K.1 l = nI v ∧ K.2.2.1 l ≤ r then owF K v r m (l + 1) (nI l) else owF K v r m (l + 1) b
theorem l_onward (P : ps_T) (v : Nat) (r : Int32) : ∀ (m l : Nat) (b : Int32), 72 - l = m → l ≤ 72 → P (some (.int (owF K v r m l b))) 0 (CA g G T R S K E Q V an) B → AW g mX1_onward 0 0 P noX 0 0 5 [some (.ref (g.1 + 20)), some (.int (nI v)), some (.int r), some (.int b), some (.int (nI l))] [] 0 (CA g G T R S K E Q V an) B := by
  intro m
  induction m with
  | zero =>
    intro l b hm hl hp
    refine a_iload (q := 7) dX1_onward_5 rfl rfl ?_
    refine a_bipush (q := 9) (nI 72) dX1_onward_7 (by decide) rfl ?_
    refine a_icmp_geN (q := 12) 43 dX1_onward_9 (by decide) (by omega) (by omega) rfl (fun c9 => ?_) (fun c9 => ?_)
    · skip
      refine a_iload_n (q := 44) dX1_onward_43 rfl rfl rfl ?_
      exact a_iret dX1_onward_44 rfl rfl (Nat.le_of_ble_eq_true rfl) (Nat.le_of_ble_eq_true rfl) (hp)
    · omega
  | succ m ih =>
    intro l b hm hl hp
    unfold owF at hp
    refine a_iload (q := 7) dX1_onward_5 rfl rfl ?_
    refine a_bipush (q := 9) (nI 72) dX1_onward_7 (by decide) rfl ?_
    refine a_icmp_geN (q := 12) 43 dX1_onward_9 (by decide) (by omega) (by omega) rfl (fun c9 => ?_) (fun c9 => ?_)
    · omega
    · skip
      refine a_aload_n (q := 13) dX1_onward_12 rfl rfl rfl ?_
      refine a_getA (q := 16) dX1_onward_13 fX1_9 rfl rfl rfl ?_
      refine a_iload (q := 18) dX1_onward_16 rfl rfl ?_
      refine a_ialdAI (q := 19) dX1_onward_18 rfl (by omega) (by decide) rfl ?_
      refine a_iload_n (q := 20) dX1_onward_19 rfl rfl rfl ?_
      refine a_icmp_ne (q := 23) 37 dX1_onward_20 (by decide) rfl (fun c20 => ?_) (fun c20 => ?_)
      · rw [if_neg (fun q => c20 q.1)] at hp
        refine a_iincN (q := 40) (c := 1) dX1_onward_37 rfl (by decide) rfl rfl ?_
        refine a_goto 5 dX1_onward_40 (by decide) ?_
        exact ih (l + 1) _ (by omega) (by omega) hp
      · skip
        refine a_aload_n (q := 24) dX1_onward_23 rfl rfl rfl ?_
        refine a_getA (q := 27) dX1_onward_24 fX1_18 rfl rfl rfl ?_
        refine a_iload (q := 29) dX1_onward_27 rfl rfl ?_
        refine a_ialdAI (q := 30) dX1_onward_29 rfl (by omega) (by decide) rfl ?_
        refine a_iload_n (q := 31) dX1_onward_30 rfl rfl rfl ?_
        refine a_icmp_gt (q := 34) 37 dX1_onward_31 (by decide) rfl (fun c31 => ?_) (fun c31 => ?_)
        · rw [if_neg (fun q => Int32.not_le.mpr c31 q.2)] at hp
          refine a_iincN (q := 40) (c := 1) dX1_onward_37 rfl (by decide) rfl rfl ?_
          refine a_goto 5 dX1_onward_40 (by decide) ?_
          exact ih (l + 1) _ (by omega) (by omega) hp
        · rw [if_pos ⟨c20, Int32.not_lt.mp c31⟩] at hp
          refine a_iload (q := 36) dX1_onward_34 rfl rfl ?_
          refine a_istore_n (q := 37) dX1_onward_36 rfl (Nat.le_of_ble_eq_true rfl) rfl rfl ?_
          refine a_iincN (q := 40) (c := 1) dX1_onward_37 rfl (by decide) rfl rfl ?_
          refine a_goto 5 dX1_onward_40 (by decide) ?_
          exact ih (l + 1) _ (by omega) (by omega) hp
theorem c_onward (v : Nat) (r : Int32) : Ct g mX1_onward [.ref (g.1 + 20), .int (nI v), .int r] 0 (CA g G T R S K E Q V an) B 0 0 (rP (some (.int (owF K v r 72 0 (-1)))) (CA g G T R S K E Q V an) B) noX := by
  refine Ct.of [some (.ref (g.1 + 20)), some (.int (nI v)), some (.int r), none, none] (by decide) rfl (Nat.le_of_ble_eq_true rfl) rfl ?_
  refine a_iconst (q := 1) (-1) dX1_onward_0 (by decide) rfl ?_
  refine a_istore_n (q := 2) dX1_onward_1 rfl (Nat.le_of_ble_eq_true rfl) rfl rfl ?_
  refine a_iconst (q := 3) (nI 0) dX1_onward_2 (by decide) rfl ?_
  refine a_istore (q := 5) dX1_onward_3 (Nat.le_of_ble_eq_true rfl) rfl rfl ?_
  exact l_onward _ v r _ 0 _ rfl (Nat.zero_le _) ⟨rfl, rfl, rfl, rfl⟩
end LinksC

