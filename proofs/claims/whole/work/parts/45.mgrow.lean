/-! ===== the reference: the tree grows, the potentials ===== -/
theorem hvF_spec {G : Gr} {bk sn : Nat → Bool} : ∀ (m k : Nat) (b : Option Nat), (∀ i, b = some i → i < k ∧ mIs G bk i = true ∧ sn i = false) → ∀ i, hvF G bk sn m k b = some i → i < k + m ∧ mIs G bk i = true ∧ sn i = false := by
  intro m
  induction m with
  | zero => intro k b hb i hi; exact hb i hi
  | succ m ih =>
    intro k b hb i hi
    unfold hvF at hi
    have := ih (k + 1) _ (fun i' hi' => ?_) i hi
    · exact ⟨by omega, this.2⟩
    · split at hi'
      · rename_i hc
        cases hi'
        unfold hvC at hc
        simp only [Bool.and_eq_true, Bool.not_eq_true'] at hc
        exact ⟨by omega, hc.1.1, hc.1.2⟩
      · have := hb i' hi'
        exact ⟨by omega, this.2⟩
theorem hvy_spec {G : Gr} {bk sn : Nat → Bool} {i : Nat} (h : hvy G bk sn = some i) : i < 2 * G.2.1 ∧ mIs G bk i = true ∧ sn i = false := by
  have := hvF_spec (2 * G.2.1) 0 none (fun i hi => by cases hi) i h
  rw [Nat.zero_add] at this
  exact this
/-- potentials, known -/
abbrev Lp : Type := (Nat → Int32) × (Nat → Bool)
def lpS (G : Gr) (bk it : Nat → Bool) (V : Nat → Int32) (k : Nat) (x : Lp) : Lp :=
  if it k = true then
    if x.2 (mFr G k) = true ∧ x.2 (mTo G bk k) = false then (va_up x.1 (mTo G bk k) (x.1 (mFr G k) + V k), va_up x.2 (mTo G bk k) true)
    else if x.2 (mTo G bk k) = true ∧ x.2 (mFr G k) = false then (va_up x.1 (mFr G k) (x.1 (mTo G bk k) - V k), va_up x.2 (mFr G k) true)
    else x
  else x
def lpF (G : Gr) (bk it : Nat → Bool) (V : Nat → Int32) : Nat → Nat → Lp → Lp
  | 0, _, x => x
  | m + 1, k, x => lpF G bk it V m (k + 1) (lpS G bk it V k x)
def lpN (G : Gr) (bk it : Nat → Bool) (V : Nat → Int32) : Nat → Lp → Lp
  | 0, x => x
  | m + 1, x => lpN G bk it V m (lpF G bk it V (2 * G.2.1) 0 x)
def lp0 (G : Gr) (x : Lp) : Lp := (fun i => if i < G.1 then nI 0 else x.1 i, fun i => if i < G.1 then decide (i = 0 ∨ i = G.1 - 1) else x.2 i)
def icF (G : Gr) (bk : Nat → Bool) (V po : Nat → Int32) : Nat → Nat → (Nat → Int32) → (Nat → Int32)
  | 0, _, f => f
  | m + 1, k, f => icF G bk V po m (k + 1) (va_up f k (if mIs G bk k = true then V k + po (mFr G k) - po (mTo G bk k) else nI 0))
section MGrow
variable {g : gp_T} {A : List va_E} {G : Gr} {T : Tx} {th : Nat} {Y : Ya} {W : Wa} {R : Ra} {Z : Za} {U : Ua} {L : La} {h : Int64} {O : Oa}
theorem l_hv (P : ps_T) (hg : gok G) (hw : ∀ i, i < 24 → G.2.2.2.2 i < big) : ∀ (m k : Nat) (b : Option Nat), 2 * G.2.1 - k = m → k ≤ 2 * G.2.1 → (∀ j, b = some j → j < 48) → P (some (.int (oI (hvF G Y.2.1 U.2.2.2 m k b)))) 0 A (BM g G T th Y W R Z U L h O) → AW g mX9_heaviest 0 0 P noX 0 0 4 [some (.ref (g.2.1 + 0)), some (.int (oI b)), some (.int (nI k))] [] 0 A (BM g G T th Y W R Z U L h O) := by
  intro m
  obtain ⟨g1, g2, g3, g4, g5⟩ := id hg
  induction m with
  | zero =>
    intro k b hm hk hb hp
    refine a_iload_n (q := 5) dX9_heaviest_4 rfl rfl rfl ?_
    refine a_iconst (q := 6) (nI 2) dX9_heaviest_5 (by decide) rfl ?_
    refine a_aload_n (q := 7) dX9_heaviest_6 rfl rfl rfl ?_
    refine a_getB (q := 10) dX9_heaviest_7 fX9_101 rfl rfl rfl ?_
    refine a_imulN (q := 11) dX9_heaviest_10 rfl ?_
    refine a_icmp_geN (q := 14) 57 dX9_heaviest_11 (by decide) (by omega) (by omega) rfl (fun c11 => ?_) (fun c11 => ?_)
    · skip
      refine a_iload_n (q := 58) dX9_heaviest_57 rfl rfl rfl ?_
      exact a_iret dX9_heaviest_58 rfl rfl (Nat.le_of_ble_eq_true rfl) (Nat.le_of_ble_eq_true rfl) (hp)
    · omega
  | succ m ih =>
    intro k b hm hk hb hp
    unfold hvF at hp
    have hno : hvC G Y.2.1 U.2.2.2 k b = false → AW g mX9_heaviest 0 0 P noX 0 0 4 [some (.ref (g.2.1 + 0)), some (.int (oI b)), some (.int (nI (k + 1)))] [] 0 A (BM g G T th Y W R Z U L h O) := fun q => by
      rw [q, if_neg (by decide)] at hp
      exact ih (k + 1) b (by omega) (by omega) hb hp
    have hyes : hvC G Y.2.1 U.2.2.2 k b = true → AW g mX9_heaviest 0 0 P noX 0 0 4 [some (.ref (g.2.1 + 0)), some (.int (oI (some k))), some (.int (nI (k + 1)))] [] 0 A (BM g G T th Y W R Z U L h O) := fun q => by
      rw [q, if_pos rfl] at hp
      exact ih (k + 1) (some k) (by omega) (by omega) (fun j hj => by cases hj; omega) hp
    cases b with
    | none =>
      refine a_iload_n (q := 5) dX9_heaviest_4 rfl rfl rfl ?_
      refine a_iconst (q := 6) (nI 2) dX9_heaviest_5 (by decide) rfl ?_
      refine a_aload_n (q := 7) dX9_heaviest_6 rfl rfl rfl ?_
      refine a_getB (q := 10) dX9_heaviest_7 fX9_101 rfl rfl rfl ?_
      refine a_imulN (q := 11) dX9_heaviest_10 rfl ?_
      refine a_icmp_geN (q := 14) 57 dX9_heaviest_11 (by decide) (by omega) (by omega) rfl (fun c11 => ?_) (fun c11 => ?_)
      · omega
      · skip
        refine a_aload_n (q := 15) dX9_heaviest_14 rfl rfl rfl ?_
        refine a_iload_n (q := 16) dX9_heaviest_15 rfl rfl rfl ?_
        refine a_cVBv (q := 19) _ dX9_heaviest_16 kX9_148 (m_isLink k (by omega) g3) rfl rfl rfl (Nat.le_of_ble_eq_true rfl) ⟨(Nat.le_of_ble_eq_true rfl), (Nat.le_of_ble_eq_true rfl)⟩ ⟨(Nat.le_of_ble_eq_true rfl), (Nat.le_of_ble_eq_true rfl)⟩ rfl ?_
        refine a_if_eqZ (q := 22) 49 dX9_heaviest_19 (by decide) rfl (fun c19 => ?_) (fun c19 => ?_)
        · have hq := hno (by unfold hvC; rw [c19]; rfl)
          refine a_iload_n (q := 50) dX9_heaviest_49 rfl rfl rfl ?_
          refine a_istore_n (q := 51) dX9_heaviest_50 rfl (Nat.le_of_ble_eq_true rfl) rfl rfl ?_
          refine a_iincN (q := 54) (c := 1) dX9_heaviest_51 rfl (by decide) rfl rfl ?_
          refine a_goto 4 dX9_heaviest_54 (by decide) ?_
          exact hq
        · skip
          refine a_aload_n (q := 23) dX9_heaviest_22 rfl rfl rfl ?_
          refine a_getB (q := 26) dX9_heaviest_23 fX9_75 rfl rfl rfl ?_
          refine a_iload_n (q := 27) dX9_heaviest_26 rfl rfl rfl ?_
          refine a_zaldBN (q := 28) dX9_heaviest_27 rfl (by omega) (by decide) rfl ?_
          refine a_if_neZ (q := 31) 49 dX9_heaviest_28 (by decide) rfl (fun c28 => ?_) (fun c28 => ?_)
          · have hq := hno (by unfold hvC; rw [c19, c28]; rfl)
            refine a_iload_n (q := 50) dX9_heaviest_49 rfl rfl rfl ?_
            refine a_istore_n (q := 51) dX9_heaviest_50 rfl (Nat.le_of_ble_eq_true rfl) rfl rfl ?_
            refine a_iincN (q := 54) (c := 1) dX9_heaviest_51 rfl (by decide) rfl rfl ?_
            refine a_goto 4 dX9_heaviest_54 (by decide) ?_
            exact hq
          · have hq := hyes (by unfold hvC; rw [c19, c28]; rfl)
            refine a_iload_n (q := 32) dX9_heaviest_31 rfl rfl rfl ?_
            refine a_iconst (q := 33) (-1) dX9_heaviest_32 (by decide) rfl ?_
            refine a_icmp_eq (q := 36) 45 dX9_heaviest_33 (by decide) rfl (fun c33 => ?_) (fun c33 => ?_)
            · skip
              refine a_iload_n (q := 46) dX9_heaviest_45 rfl rfl rfl ?_
              refine a_goto 50 dX9_heaviest_46 (by decide) ?_
              refine a_istore_n (q := 51) dX9_heaviest_50 rfl (Nat.le_of_ble_eq_true rfl) rfl rfl ?_
              refine a_iincN (q := 54) (c := 1) dX9_heaviest_51 rfl (by decide) rfl rfl ?_
              refine a_goto 4 dX9_heaviest_54 (by decide) ?_
              exact hq
            · exact absurd rfl c33
    | some i =>
      have hi := hb i rfl
      refine a_iload_n (q := 5) dX9_heaviest_4 rfl rfl rfl ?_
      refine a_iconst (q := 6) (nI 2) dX9_heaviest_5 (by decide) rfl ?_
      refine a_aload_n (q := 7) dX9_heaviest_6 rfl rfl rfl ?_
      refine a_getB (q := 10) dX9_heaviest_7 fX9_101 rfl rfl rfl ?_
      refine a_imulN (q := 11) dX9_heaviest_10 rfl ?_
      refine a_icmp_geN (q := 14) 57 dX9_heaviest_11 (by decide) (by omega) (by omega) rfl (fun c11 => ?_) (fun c11 => ?_)
      · omega
      · skip
        refine a_aload_n (q := 15) dX9_heaviest_14 rfl rfl rfl ?_
        refine a_iload_n (q := 16) dX9_heaviest_15 rfl rfl rfl ?_
        refine a_cVBv (q := 19) _ dX9_heaviest_16 kX9_148 (m_isLink k (by omega) g3) rfl rfl rfl (Nat.le_of_ble_eq_true rfl) ⟨(Nat.le_of_ble_eq_true rfl), (Nat.le_of_ble_eq_true rfl)⟩ ⟨(Nat.le_of_ble_eq_true rfl), (Nat.le_of_ble_eq_true rfl)⟩ rfl ?_
        refine a_if_eqZ (q := 22) 49 dX9_heaviest_19 (by decide) rfl (fun c19 => ?_) (fun c19 => ?_)
        · have hq := hno (by unfold hvC; rw [c19]; rfl)
          refine a_iload_n (q := 50) dX9_heaviest_49 rfl rfl rfl ?_
          refine a_istore_n (q := 51) dX9_heaviest_50 rfl (Nat.le_of_ble_eq_true rfl) rfl rfl ?_
          refine a_iincN (q := 54) (c := 1) dX9_heaviest_51 rfl (by decide) rfl rfl ?_
          refine a_goto 4 dX9_heaviest_54 (by decide) ?_
          exact hq
        · skip
          refine a_aload_n (q := 23) dX9_heaviest_22 rfl rfl rfl ?_
          refine a_getB (q := 26) dX9_heaviest_23 fX9_75 rfl rfl rfl ?_
          refine a_iload_n (q := 27) dX9_heaviest_26 rfl rfl rfl ?_
          refine a_zaldBN (q := 28) dX9_heaviest_27 rfl (by omega) (by decide) rfl ?_
          refine a_if_neZ (q := 31) 49 dX9_heaviest_28 (by decide) rfl (fun c28 => ?_) (fun c28 => ?_)
          · have hq := hno (by unfold hvC; rw [c19, c28]; rfl)
            refine a_iload_n (q := 50) dX9_heaviest_49 rfl rfl rfl ?_
            refine a_istore_n (q := 51) dX9_heaviest_50 rfl (Nat.le_of_ble_eq_true rfl) rfl rfl ?_
            refine a_iincN (q := 54) (c := 1) dX9_heaviest_51 rfl (by decide) rfl rfl ?_
            refine a_goto 4 dX9_heaviest_54 (by decide) ?_
            exact hq
          · skip
            refine a_iload_n (q := 32) dX9_heaviest_31 rfl rfl rfl ?_
            show AW _ _ _ _ _ _ _ _ _ _ (.int (nI i) :: _) _ _ _
            refine a_iconst (q := 33) (-1) dX9_heaviest_32 (by decide) rfl ?_
            refine a_icmp_eq (q := 36) 45 dX9_heaviest_33 (by decide) rfl (fun c33 => ?_) (fun c33 => ?_)
            · exact absurd c33 (nI_m1 (by omega))
            · skip
              refine a_aload_n (q := 37) dX9_heaviest_36 rfl rfl rfl ?_
              refine a_iload_n (q := 38) dX9_heaviest_37 rfl rfl rfl ?_
              refine a_iload_n (q := 39) dX9_heaviest_38 rfl rfl rfl ?_
              refine a_cVBv (q := 42) _ dX9_heaviest_39 kX9_174 (m_isHeavier k i (by omega) hi hw) rfl rfl rfl (Nat.le_of_ble_eq_true rfl) ⟨(Nat.le_of_ble_eq_true rfl), (Nat.le_of_ble_eq_true rfl)⟩ ⟨(Nat.le_of_ble_eq_true rfl), (Nat.le_of_ble_eq_true rfl)⟩ rfl ?_
              refine a_if_eqZ (q := 45) 49 dX9_heaviest_42 (by decide) rfl (fun c42 => ?_) (fun c42 => ?_)
              · have hq := hno (by unfold hvC; rw [c19, c28]; exact c42)
                refine a_iload_n (q := 50) dX9_heaviest_49 rfl rfl rfl ?_
                refine a_istore_n (q := 51) dX9_heaviest_50 rfl (Nat.le_of_ble_eq_true rfl) rfl rfl ?_
                refine a_iincN (q := 54) (c := 1) dX9_heaviest_51 rfl (by decide) rfl rfl ?_
                refine a_goto 4 dX9_heaviest_54 (by decide) ?_
                exact hq
              · have hq := hyes (by unfold hvC; rw [c19, c28]; exact c42)
                refine a_iload_n (q := 46) dX9_heaviest_45 rfl rfl rfl ?_
                refine a_goto 50 dX9_heaviest_46 (by decide) ?_
                refine a_istore_n (q := 51) dX9_heaviest_50 rfl (Nat.le_of_ble_eq_true rfl) rfl rfl ?_
                refine a_iincN (q := 54) (c := 1) dX9_heaviest_51 rfl (by decide) rfl rfl ?_
                refine a_goto 4 dX9_heaviest_54 (by decide) ?_
                exact hq
theorem m_heaviest (hg : gok G) (hw : ∀ i, i < 24 → G.2.2.2.2 i < big) : Ct g mX9_heaviest [.ref (g.2.1 + 0)] 0 A (BM g G T th Y W R Z U L h O) 0 0 (rP (some (.int (oI (hvy G Y.2.1 U.2.2.2)))) A (BM g G T th Y W R Z U L h O)) noX := by
  refine Ct.of [some (.ref (g.2.1 + 0)), none, none] (by decide) rfl (Nat.le_of_ble_eq_true rfl) rfl ?_
  refine a_iconst (q := 1) (-1) dX9_heaviest_0 (by decide) rfl ?_
  refine a_istore_n (q := 2) dX9_heaviest_1 rfl (Nat.le_of_ble_eq_true rfl) rfl rfl ?_
  refine a_iconst (q := 3) (nI 0) dX9_heaviest_2 (by decide) rfl ?_
  refine a_istore_n (q := 4) dX9_heaviest_3 rfl (Nat.le_of_ble_eq_true rfl) rfl rfl ?_
  exact l_hv _ hg hw _ 0 none rfl (Nat.zero_le _) (fun j hj => by cases hj) ⟨rfl, rfl, rfl, rfl⟩
/-- what stays true while the tree grows -/
def gtI (G : Gr) (bk : Nat → Bool) (x : Gt) : Prop := (∀ i, i < G.1 → x.1 i < 12) ∧ ∀ k, k < 48 → x.2.1 k = true → mIs G bk k = true
theorem gtS_I {G : Gr} {bk : Nat → Bool} {k : Nat} {x : Gt} (hg : gok G) (hk : mIs G bk k = true) (h : gtI G bk x) : gtI G bk (gtS G bk k x) := by
  have h1 := mFr_lt hg hk
  unfold gtS
  split
  · exact h
  · refine ⟨mjn_big h.1 (h.1 _ (by omega)), fun j hj q => ?_⟩
    have q : va_up x.2.1 k true j = true := q
    by_cases e : j = k
    · rw [e]; exact hk
    · rw [va_other e] at q
      exact h.2 j hj q
theorem gtS_sn {G : Gr} {bk : Nat → Bool} {k : Nat} {x : Gt} : (gtS G bk k x).2.2 = va_up x.2.2 k true := by
  unfold gtS
  split <;> rfl
theorem l_gt (P : ps_T) (hg : gok G) (hw : ∀ i, i < 24 → G.2.2.2.2 i < big) : ∀ (m : Nat) (o : Option Nat) (x : Gt), (∀ k, o = some k → k < 48 ∧ mIs G Y.2.1 k = true ∧ x.2.2 k = false) → 48 ≤ cnt 48 x.2.2 + m → gtI G Y.2.1 x → P none 0 A (BM g G T th (Y.1, Y.2.1, Y.2.2.1, Y.2.2.2.1, Y.2.2.2.2.1, (gtF G Y.2.1 m o x).2.1) W R Z ((gtF G Y.2.1 m o x).1, U.2.1, U.2.2.1, (gtF G Y.2.1 m o x).2.2) L h O) → AW g mX9_growTree 0 0 P noX 0 0 67 [some (.ref (g.2.1 + 0)), some (.int (oI o))] [] 0 A (BM g G T th (Y.1, Y.2.1, Y.2.2.1, Y.2.2.2.1, Y.2.2.2.2.1, x.2.1) W R Z (x.1, U.2.1, U.2.2.1, x.2.2) L h O) := by
  intro m
  obtain ⟨g1, g2, g3, g4, g5⟩ := id hg
  induction m with
  | zero =>
    intro o x ho hc hI hp
    cases o with
    | none =>
      refine a_iload_n (q := 68) dX9_growTree_67 rfl rfl rfl ?_
      refine a_iconst (q := 69) (-1) dX9_growTree_68 (by decide) rfl ?_
      refine a_icmp_eq (q := 72) 131 dX9_growTree_69 (by decide) rfl (fun c69 => ?_) (fun c69 => ?_)
      · skip
        exact a_ret dX9_growTree_131 rfl (Nat.le_of_ble_eq_true rfl) (Nat.le_of_ble_eq_true rfl) (hp)
      · exact absurd rfl c69
    | some k =>
      obtain ⟨h1, h2, h3⟩ := ho k rfl
      have := cnt_lt 48 h1 h3
      omega
  | succ m ih =>
    intro o x ho hc hI hp
    cases o with
    | none =>
      refine a_iload_n (q := 68) dX9_growTree_67 rfl rfl rfl ?_
      refine a_iconst (q := 69) (-1) dX9_growTree_68 (by decide) rfl ?_
      refine a_icmp_eq (q := 72) 131 dX9_growTree_69 (by decide) rfl (fun c69 => ?_) (fun c69 => ?_)
      · skip
        exact a_ret dX9_growTree_131 rfl (Nat.le_of_ble_eq_true rfl) (Nat.le_of_ble_eq_true rfl) (hp)
      · exact absurd rfl c69
    | some k =>
      obtain ⟨h1, h2, h3⟩ := ho k rfl
      have h4 := mTo_lt hg h2
      have h5 := mFr_lt hg h2
      have h6 := hI.1 _ h4
      have h7 := hI.1 (mFr G k) (by omega)
      unfold gtF at hp
      have hq := ih (hvy G Y.2.1 (gtS G Y.2.1 k x).2.2) (gtS G Y.2.1 k x) (fun j hj => by
        have := hvy_spec hj
        exact ⟨by omega, this.2⟩) (by
        rw [gtS_sn, cnt_up (p := x.2.2) (q := va_up x.2.2 k true) h3 (va_same _ _ _) (fun i hi => va_other hi) 48 h1]
        omega) (gtS_I hg h2 hI) hp
      refine a_iload_n (q := 68) dX9_growTree_67 rfl rfl rfl ?_
      show AW _ _ _ _ _ _ _ _ _ _ (.int (nI k) :: _) _ _ _
      refine a_iconst (q := 69) (-1) dX9_growTree_68 (by decide) rfl ?_
      refine a_icmp_eq (q := 72) 131 dX9_growTree_69 (by decide) rfl (fun c69 => ?_) (fun c69 => ?_)
      · exact absurd c69 (nI_m1 (by omega))
      · skip
        refine a_aload_n (q := 73) dX9_growTree_72 rfl rfl rfl ?_
        refine a_getB (q := 76) dX9_growTree_73 fX9_75 rfl rfl rfl ?_
        refine a_iload_n (q := 77) dX9_growTree_76 rfl rfl rfl ?_
        show AW _ _ _ _ _ _ _ _ _ _ (.int (nI k) :: _) _ _ _
        refine a_iconst (q := 78) (b2 true) dX9_growTree_77 (by decide) rfl ?_
        refine a_zastBN (q := 79) dX9_growTree_78 rfl (by omega) (by decide) rfl ?_
        refine a_aload_n (q := 80) dX9_growTree_79 rfl rfl rfl ?_
        refine a_getB (q := 83) dX9_growTree_80 fX9_66 rfl rfl rfl ?_
        refine a_aload_n (q := 84) dX9_growTree_83 rfl rfl rfl ?_
        refine a_iload_n (q := 85) dX9_growTree_84 rfl rfl rfl ?_
        show AW _ _ _ _ _ _ _ _ _ _ (.int (nI k) :: _) _ _ _
        refine a_cVBv (q := 88) _ dX9_growTree_85 kX9_151 (m_linkFrom (G := G) (Y := (Y.1, Y.2.1, Y.2.2.1, Y.2.2.2.1, Y.2.2.2.2.1, x.2.1)) (U := (x.1, U.2.1, U.2.2.1, va_up x.2.2 k true)) k h1) rfl rfl rfl (Nat.le_of_ble_eq_true rfl) ⟨(Nat.le_of_ble_eq_true rfl), (Nat.le_of_ble_eq_true rfl)⟩ ⟨(Nat.le_of_ble_eq_true rfl), (Nat.le_of_ble_eq_true rfl)⟩ rfl ?_
        refine a_ialdBN (q := 89) dX9_growTree_88 rfl (by omega) (by decide) rfl ?_
        refine a_aload_n (q := 90) dX9_growTree_89 rfl rfl rfl ?_
        refine a_getB (q := 93) dX9_growTree_90 fX9_66 rfl rfl rfl ?_
        refine a_aload_n (q := 94) dX9_growTree_93 rfl rfl rfl ?_
        refine a_iload_n (q := 95) dX9_growTree_94 rfl rfl rfl ?_
        show AW _ _ _ _ _ _ _ _ _ _ (.int (nI k) :: _) _ _ _
        refine a_cVBv (q := 98) _ dX9_growTree_95 kX9_165 (m_linkTo (G := G) (Y := (Y.1, Y.2.1, Y.2.2.1, Y.2.2.2.1, Y.2.2.2.2.1, x.2.1)) (U := (x.1, U.2.1, U.2.2.1, va_up x.2.2 k true)) k h1 (by omega)) rfl rfl rfl (Nat.le_of_ble_eq_true rfl) ⟨(Nat.le_of_ble_eq_true rfl), (Nat.le_of_ble_eq_true rfl)⟩ ⟨(Nat.le_of_ble_eq_true rfl), (Nat.le_of_ble_eq_true rfl)⟩ rfl ?_
        refine a_ialdBN (q := 99) dX9_growTree_98 rfl (show mTo G Y.2.1 k < 12 by omega) (by decide) rfl ?_
        show AW _ _ _ _ _ _ _ _ _ _ (.int (nI (x.1 (mTo G Y.2.1 k))) :: .int (nI (x.1 (mFr G k))) :: _) _ _ _
        refine a_icmp_eqN (q := 102) 123 dX9_growTree_99 (by decide) (by omega) (by omega) rfl (fun c99 => ?_) (fun c99 => ?_)
        · have hs : gtS G Y.2.1 k x = (x.1, x.2.1, va_up x.2.2 k true) := if_pos c99
          rw [hs] at hq
          have hH := m_heaviest (g := g) (A := A) (G := G) (T := T) (th := th) (Y := (Y.1, Y.2.1, Y.2.2.1, Y.2.2.2.1, Y.2.2.2.2.1, x.2.1)) (W := W) (R := R) (Z := Z) (U := (x.1, U.2.1, U.2.2.1, va_up x.2.2 k true)) (L := L) (h := h) (O := O) hg hw
          refine a_aload_n (q := 124) dX9_growTree_123 rfl rfl rfl ?_
          refine a_cVBv (q := 127) _ dX9_growTree_124 kX9_171 (hH) rfl rfl rfl (Nat.le_of_ble_eq_true rfl) ⟨(Nat.le_of_ble_eq_true rfl), (Nat.le_of_ble_eq_true rfl)⟩ ⟨(Nat.le_of_ble_eq_true rfl), (Nat.le_of_ble_eq_true rfl)⟩ rfl ?_
          refine a_istore_n (q := 128) dX9_growTree_127 rfl (Nat.le_of_ble_eq_true rfl) rfl rfl ?_
          refine a_goto 67 dX9_growTree_128 (by decide) ?_
          exact hq
        · have hs : gtS G Y.2.1 k x = (mjn G.1 x.1 (x.1 (mTo G Y.2.1 k)) (x.1 (mFr G k)), va_up x.2.1 k true, va_up x.2.2 k true) := if_neg c99
          rw [hs] at hq
          have hH := m_heaviest (g := g) (A := A) (G := G) (T := T) (th := th) (Y := (Y.1, Y.2.1, Y.2.2.1, Y.2.2.2.1, Y.2.2.2.2.1, va_up x.2.1 k true)) (W := W) (R := R) (Z := Z) (U := (mjn G.1 x.1 (x.1 (mTo G Y.2.1 k)) (x.1 (mFr G k)), U.2.1, U.2.2.1, va_up x.2.2 k true)) (L := L) (h := h) (O := O) hg hw
          refine a_aload_n (q := 103) dX9_growTree_102 rfl rfl rfl ?_
          refine a_getB (q := 106) dX9_growTree_103 fX9_39 rfl rfl rfl ?_
          refine a_iload_n (q := 107) dX9_growTree_106 rfl rfl rfl ?_
          show AW _ _ _ _ _ _ _ _ _ _ (.int (nI k) :: _) _ _ _
          refine a_iconst (q := 108) (b2 true) dX9_growTree_107 (by decide) rfl ?_
          refine a_zastBN (q := 109) dX9_growTree_108 rfl (by omega) (by decide) rfl ?_
          refine a_aload_n (q := 110) dX9_growTree_109 rfl rfl rfl ?_
          refine a_aload_n (q := 111) dX9_growTree_110 rfl rfl rfl ?_
          refine a_iload_n (q := 112) dX9_growTree_111 rfl rfl rfl ?_
          show AW _ _ _ _ _ _ _ _ _ _ (.int (nI k) :: _) _ _ _
          refine a_cVBv (q := 115) _ dX9_growTree_112 kX9_151 (m_linkFrom (G := G) (Y := (Y.1, Y.2.1, Y.2.2.1, Y.2.2.2.1, Y.2.2.2.2.1, va_up x.2.1 k true)) (U := (x.1, U.2.1, U.2.2.1, va_up x.2.2 k true)) k h1) rfl rfl rfl (Nat.le_of_ble_eq_true rfl) ⟨(Nat.le_of_ble_eq_true rfl), (Nat.le_of_ble_eq_true rfl)⟩ ⟨(Nat.le_of_ble_eq_true rfl), (Nat.le_of_ble_eq_true rfl)⟩ rfl ?_
          refine a_aload_n (q := 116) dX9_growTree_115 rfl rfl rfl ?_
          refine a_iload_n (q := 117) dX9_growTree_116 rfl rfl rfl ?_
          show AW _ _ _ _ _ _ _ _ _ _ (.int (nI k) :: _) _ _ _
          refine a_cVBv (q := 120) _ dX9_growTree_117 kX9_165 (m_linkTo (G := G) (Y := (Y.1, Y.2.1, Y.2.2.1, Y.2.2.2.1, Y.2.2.2.2.1, va_up x.2.1 k true)) (U := (x.1, U.2.1, U.2.2.1, va_up x.2.2 k true)) k h1 (by omega)) rfl rfl rfl (Nat.le_of_ble_eq_true rfl) ⟨(Nat.le_of_ble_eq_true rfl), (Nat.le_of_ble_eq_true rfl)⟩ ⟨(Nat.le_of_ble_eq_true rfl), (Nat.le_of_ble_eq_true rfl)⟩ rfl ?_
          refine a_cVB0 (q := 123) _ dX9_growTree_120 kX9_168 (m_join (G := G) (Y := (Y.1, Y.2.1, Y.2.2.1, Y.2.2.2.1, Y.2.2.2.2.1, va_up x.2.1 k true)) (U := (x.1, U.2.1, U.2.2.1, va_up x.2.2 k true)) hg (mFr G k) (mTo G Y.2.1 k) (by omega) h4 hI.1) rfl rfl rfl (Nat.le_of_ble_eq_true rfl) ⟨(Nat.le_of_ble_eq_true rfl), (Nat.le_of_ble_eq_true rfl)⟩ ⟨(Nat.le_of_ble_eq_true rfl), (Nat.le_of_ble_eq_true rfl)⟩ rfl ?_
          refine a_aload_n (q := 124) dX9_growTree_123 rfl rfl rfl ?_
          refine a_cVBv (q := 127) _ dX9_growTree_124 kX9_171 (hH) rfl rfl rfl (Nat.le_of_ble_eq_true rfl) ⟨(Nat.le_of_ble_eq_true rfl), (Nat.le_of_ble_eq_true rfl)⟩ ⟨(Nat.le_of_ble_eq_true rfl), (Nat.le_of_ble_eq_true rfl)⟩ rfl ?_
          refine a_istore_n (q := 128) dX9_growTree_127 rfl (Nat.le_of_ble_eq_true rfl) rfl rfl ?_
          refine a_goto 67 dX9_growTree_128 (by decide) ?_
          exact hq
/-- the groups before any link: all nodes alone, but the entry and the exit -/
def gt0 (G : Gr) (x : Gt) : Prop := (∀ i, i < G.1 → x.1 i = (if i = G.1 - 1 then 0 else i)) ∧ (∀ k, k < 48 → x.2.1 k = false) ∧ ∀ k, k < 48 → x.2.2 k = false
theorem gt0_I {G : Gr} {bk : Nat → Bool} {x : Gt} (hg : gok G) (h : gt0 G x) : gtI G bk x := by
  have := hg.2.1
  refine ⟨fun i hi => ?_, fun k hk q => ?_⟩
  · rw [h.1 i hi]; split <;> omega
  · rw [h.2.1 k hk] at q; cases q
theorem l_gt1 (P : ps_T) (hg : gok G) (hw : ∀ i, i < 24 → G.2.2.2.2 i < big) (gr : Nat → Nat) (hgr : ∀ i, i < G.1 → gr i = (if i = G.1 - 1 then 0 else i)) (hp : ∀ x : Gt, gt0 G x → P none 0 A (BM g G T th (Y.1, Y.2.1, Y.2.2.1, Y.2.2.2.1, Y.2.2.2.2.1, (gtF G Y.2.1 48 (hvy G Y.2.1 x.2.2) x).2.1) W R Z ((gtF G Y.2.1 48 (hvy G Y.2.1 x.2.2) x).1, U.2.1, U.2.2.1, (gtF G Y.2.1 48 (hvy G Y.2.1 x.2.2) x).2.2) L h O)) : ∀ (m k : Nat) (it sn : Nat → Bool), 48 - k = m → k ≤ 48 → (∀ i, i < k → it i = false ∧ sn i = false) → AW g mX9_growTree 0 0 P noX 0 0 36 [some (.ref (g.2.1 + 0)), some (.int (nI k))] [] 0 A (BM g G T th (Y.1, Y.2.1, Y.2.2.1, Y.2.2.2.1, Y.2.2.2.2.1, it) W R Z (gr, U.2.1, U.2.2.1, sn) L h O) := by
  intro m
  obtain ⟨g1, g2, g3, g4, g5⟩ := id hg
  induction m with
  | zero =>
    intro k it sn hm hk hf
    have h0 : gt0 G (gr, it, sn) := ⟨hgr, fun k hk => (hf k (by omega)).1, fun k hk => (hf k (by omega)).2⟩
    have hq := l_gt (g := g) (A := A) (G := G) (T := T) (th := th) (Y := Y) (W := W) (R := R) (Z := Z) (U := U) (L := L) (h := h) (O := O) P hg hw 48 (hvy G Y.2.1 sn) (gr, it, sn) (fun j hj => by
        have := hvy_spec hj
        exact ⟨by omega, this.2⟩) (by omega) (gt0_I hg h0) (hp (gr, it, sn) h0)
    refine a_iload_n (q := 37) dX9_growTree_36 rfl rfl rfl ?_
    refine a_bipush (q := 39) (nI 48) dX9_growTree_37 (by decide) rfl ?_
    refine a_icmp_geN (q := 42) 62 dX9_growTree_39 (by decide) (by omega) (by omega) rfl (fun c39 => ?_) (fun c39 => ?_)
    · skip
      refine a_aload_n (q := 63) dX9_growTree_62 rfl rfl rfl ?_
      refine a_cVBv (q := 66) _ dX9_growTree_63 kX9_171 (m_heaviest (G := G) (Y := (Y.1, Y.2.1, Y.2.2.1, Y.2.2.2.1, Y.2.2.2.2.1, it)) (U := (gr, U.2.1, U.2.2.1, sn)) hg hw) rfl rfl rfl (Nat.le_of_ble_eq_true rfl) ⟨(Nat.le_of_ble_eq_true rfl), (Nat.le_of_ble_eq_true rfl)⟩ ⟨(Nat.le_of_ble_eq_true rfl), (Nat.le_of_ble_eq_true rfl)⟩ rfl ?_
      refine a_istore_n (q := 67) dX9_growTree_66 rfl (Nat.le_of_ble_eq_true rfl) rfl rfl ?_
      exact hq
    · omega
  | succ m ih =>
    intro k it sn hm hk hf
    refine a_iload_n (q := 37) dX9_growTree_36 rfl rfl rfl ?_
    refine a_bipush (q := 39) (nI 48) dX9_growTree_37 (by decide) rfl ?_
    refine a_icmp_geN (q := 42) 62 dX9_growTree_39 (by decide) (by omega) (by omega) rfl (fun c39 => ?_) (fun c39 => ?_)
    · omega
    · skip
      refine a_aload_n (q := 43) dX9_growTree_42 rfl rfl rfl ?_
      refine a_getB (q := 46) dX9_growTree_43 fX9_39 rfl rfl rfl ?_
      refine a_iload_n (q := 47) dX9_growTree_46 rfl rfl rfl ?_
      refine a_iconst (q := 48) (b2 false) dX9_growTree_47 (by decide) rfl ?_
      refine a_zastBN (q := 49) dX9_growTree_48 rfl (by omega) (by decide) rfl ?_
      refine a_aload_n (q := 50) dX9_growTree_49 rfl rfl rfl ?_
      refine a_getB (q := 53) dX9_growTree_50 fX9_75 rfl rfl rfl ?_
      refine a_iload_n (q := 54) dX9_growTree_53 rfl rfl rfl ?_
      refine a_iconst (q := 55) (b2 false) dX9_growTree_54 (by decide) rfl ?_
      refine a_zastBN (q := 56) dX9_growTree_55 rfl (by omega) (by decide) rfl ?_
      refine a_iincN (q := 59) (c := 1) dX9_growTree_56 rfl (by decide) rfl rfl ?_
      refine a_goto 36 dX9_growTree_59 (by decide) ?_
      exact ih (k + 1) (va_up it k false) (va_up sn k false) (by omega) (by omega) (fun i hi => by
      by_cases e : i = k
      · rw [e, va_same, va_same]; exact ⟨rfl, rfl⟩
      · rw [va_other e, va_other e]; exact hf i (by omega))
theorem l_gt0 (P : ps_T) (hg : gok G) (hw : ∀ i, i < 24 → G.2.2.2.2 i < big) (hp : ∀ x : Gt, gt0 G x → P none 0 A (BM g G T th (Y.1, Y.2.1, Y.2.2.1, Y.2.2.2.1, Y.2.2.2.2.1, (gtF G Y.2.1 48 (hvy G Y.2.1 x.2.2) x).2.1) W R Z ((gtF G Y.2.1 48 (hvy G Y.2.1 x.2.2) x).1, U.2.1, U.2.2.1, (gtF G Y.2.1 48 (hvy G Y.2.1 x.2.2) x).2.2) L h O)) : ∀ (m k : Nat) (gr : Nat → Nat), G.1 - k = m → k ≤ G.1 → (∀ i, i < k → gr i = i) → AW g mX9_growTree 0 0 P noX 0 0 2 [some (.ref (g.2.1 + 0)), some (.int (nI k))] [] 0 A (BM g G T th Y W R Z (gr, U.2) L h O) := by
  intro m
  obtain ⟨g1, g2, g3, g4, g5⟩ := id hg
  induction m with
  | zero =>
    intro k gr hm hk hf
    have hk2 : k = G.1 := by omega
    subst hk2
    refine a_iload_n (q := 3) dX9_growTree_2 rfl rfl rfl ?_
    refine a_aload_n (q := 4) dX9_growTree_3 rfl rfl rfl ?_
    refine a_getB (q := 7) dX9_growTree_4 fX9_7 rfl rfl rfl ?_
    refine a_icmp_geN (q := 10) 23 dX9_growTree_7 (by decide) (by omega) (by omega) rfl (fun c7 => ?_) (fun c7 => ?_)
    · skip
      refine a_aload_n (q := 24) dX9_growTree_23 rfl rfl rfl ?_
      refine a_iconst (q := 25) (nI 0) dX9_growTree_24 (by decide) rfl ?_
      refine a_aload_n (q := 26) dX9_growTree_25 rfl rfl rfl ?_
      refine a_getB (q := 29) dX9_growTree_26 fX9_7 rfl rfl rfl ?_
      refine a_iconst (q := 30) (nI 1) dX9_growTree_29 (by decide) rfl ?_
      refine a_isubN (q := 31) dX9_growTree_30 (by omega) rfl ?_
      refine a_cVB0 (q := 34) _ dX9_growTree_31 kX9_168 (m_join (G := G) (U := (gr, U.2)) hg 0 (G.1 - 1) (by omega) (by omega) (fun i hi => by show gr i < 12; rw [hf i hi]; omega)) rfl rfl rfl (Nat.le_of_ble_eq_true rfl) ⟨(Nat.le_of_ble_eq_true rfl), (Nat.le_of_ble_eq_true rfl)⟩ ⟨(Nat.le_of_ble_eq_true rfl), (Nat.le_of_ble_eq_true rfl)⟩ rfl ?_
      refine a_iconst (q := 35) (nI 0) dX9_growTree_34 (by decide) rfl ?_
      refine a_istore_n (q := 36) dX9_growTree_35 rfl (Nat.le_of_ble_eq_true rfl) rfl rfl ?_
      exact l_gt1 (Y := Y) P hg hw _ (fun i hi => by
      show mjn G.1 gr (gr (G.1 - 1)) (gr 0) i = _
      unfold mjn
      rw [hf i hi, hf 0 (by omega), hf (G.1 - 1) (by omega)]
      by_cases e : i = G.1 - 1
      · rw [if_pos ⟨hi, e⟩, if_pos e]
      · rw [if_neg (fun q => e q.2), if_neg e]) hp _ 0 Y.2.2.2.2.2 U.2.2.2 rfl (Nat.zero_le _) (fun i hi => absurd hi (Nat.not_lt_zero i))
    · omega
  | succ m ih =>
    intro k gr hm hk hf
    refine a_iload_n (q := 3) dX9_growTree_2 rfl rfl rfl ?_
    refine a_aload_n (q := 4) dX9_growTree_3 rfl rfl rfl ?_
    refine a_getB (q := 7) dX9_growTree_4 fX9_7 rfl rfl rfl ?_
    refine a_icmp_geN (q := 10) 23 dX9_growTree_7 (by decide) (by omega) (by omega) rfl (fun c7 => ?_) (fun c7 => ?_)
    · omega
    · skip
      refine a_aload_n (q := 11) dX9_growTree_10 rfl rfl rfl ?_
      refine a_getB (q := 14) dX9_growTree_11 fX9_66 rfl rfl rfl ?_
      refine a_iload_n (q := 15) dX9_growTree_14 rfl rfl rfl ?_
      refine a_iload_n (q := 16) dX9_growTree_15 rfl rfl rfl ?_
      refine a_iastBN (q := 17) dX9_growTree_16 rfl (by omega) (by decide) rfl ?_
      refine a_iincN (q := 20) (c := 1) dX9_growTree_17 rfl (by decide) rfl rfl ?_
      refine a_goto 2 dX9_growTree_20 (by decide) ?_
      exact ih (k + 1) (va_up gr k k) (by omega) (by omega) (fun i hi => by
      by_cases e : i = k
      · rw [e, va_same]
      · rw [va_other e]; exact hf i (by omega))
theorem m_growTree (hg : gok G) (hw : ∀ i, i < 24 → G.2.2.2.2 i < big) : Ct g mX9_growTree [.ref (g.2.1 + 0)] 0 A (BM g G T th Y W R Z U L h O) 0 0 (fun v z A' B' => v = none ∧ z = 0 ∧ A' = A ∧ ∃ x : Gt, gt0 G x ∧ B' = BM g G T th (Y.1, Y.2.1, Y.2.2.1, Y.2.2.2.1, Y.2.2.2.2.1, (gtF G Y.2.1 48 (hvy G Y.2.1 x.2.2) x).2.1) W R Z ((gtF G Y.2.1 48 (hvy G Y.2.1 x.2.2) x).1, U.2.1, U.2.2.1, (gtF G Y.2.1 48 (hvy G Y.2.1 x.2.2) x).2.2) L h O) noX := by
  refine Ct.of [some (.ref (g.2.1 + 0)), none] (by decide) rfl (Nat.le_of_ble_eq_true rfl) rfl ?_
  refine a_iconst (q := 1) (nI 0) dX9_growTree_0 (by decide) rfl ?_
  refine a_istore_n (q := 2) dX9_growTree_1 rfl (Nat.le_of_ble_eq_true rfl) rfl rfl ?_
  exact l_gt0 (Y := Y) (U := U) _ hg hw (fun x hx => ⟨rfl, rfl, rfl, x, hx, rfl⟩) _ 0 U.1 rfl (Nat.zero_le _) (fun i hi => absurd hi (Nat.not_lt_zero i))
theorem l_lp1 (P : ps_T) (hg : gok G) (hit : ∀ k, k < 48 → Y.2.2.2.2.2 k = true → mIs G Y.2.1 k = true) (r : Nat) : ∀ (m k : Nat) (x : Lp) (L3 L4 : Option Value), 2 * G.2.1 - k = m → k ≤ 2 * G.2.1 → (∀ L3 L4 : Option Value, AW g mX9_layPotentials 0 0 P noX 0 0 194 [some (.ref (g.2.1 + 0)), some (.int (nI r)), some (.int (nI (2 * G.2.1))), L3, L4] [] 0 A (BM g G T th Y W R Z (U.1, (lpF G Y.2.1 Y.2.2.2.2.2 Y.2.2.2.1 m k x).1, (lpF G Y.2.1 Y.2.2.2.2.2 Y.2.2.2.1 m k x).2, U.2.2.2) L h O)) → AW g mX9_layPotentials 0 0 P noX 0 0 60 [some (.ref (g.2.1 + 0)), some (.int (nI r)), some (.int (nI k)), L3, L4] [] 0 A (BM g G T th Y W R Z (U.1, x.1, x.2, U.2.2.2) L h O) := by
  intro m
  obtain ⟨g1, g2, g3, g4, g5⟩ := id hg
  induction m with
  | zero =>
    intro k x L3 L4 hm hk hp
    have hk2 : k = 2 * G.2.1 := by omega
    subst hk2
    refine a_iload_n (q := 61) dX9_layPotentials_60 rfl rfl rfl ?_
    refine a_iconst (q := 62) (nI 2) dX9_layPotentials_61 (by decide) rfl ?_
    refine a_aload_n (q := 63) dX9_layPotentials_62 rfl rfl rfl ?_
    refine a_getB (q := 66) dX9_layPotentials_63 fX9_101 rfl rfl rfl ?_
    refine a_imulN (q := 67) dX9_layPotentials_66 rfl ?_
    refine a_icmp_geN (q := 70) 194 dX9_layPotentials_67 (by decide) (by omega) (by omega) rfl (fun c67 => ?_) (fun c67 => ?_)
    · skip
      exact hp L3 L4
    · omega
  | succ m ih =>
    intro k x L3 L4 hm hk hp
    unfold lpF at hp
    have hx : (Y.2.2.2.2.2 k = true → ¬ (x.2 (mFr G k) = true ∧ x.2 (mTo G Y.2.1 k) = false) ∧ ¬ (x.2 (mTo G Y.2.1 k) = true ∧ x.2 (mFr G k) = false)) → ∀ L3 L4 : Option Value, AW g mX9_layPotentials 0 0 P noX 0 0 60 [some (.ref (g.2.1 + 0)), some (.int (nI r)), some (.int (nI (k + 1))), L3, L4] [] 0 A (BM g G T th Y W R Z (U.1, x.1, x.2, U.2.2.2) L h O) := fun q L3 L4 => by
      have e : lpS G Y.2.1 Y.2.2.2.2.2 Y.2.2.2.1 k x = x := by
        unfold lpS
        split
        · rename_i z
          rw [if_neg (q z).1, if_neg (q z).2]
        · rfl
      rw [e] at hp
      exact ih (k + 1) x L3 L4 (by omega) (by omega) hp
    have h1 : Y.2.2.2.2.2 k = true → (x.2 (mFr G k) = true ∧ x.2 (mTo G Y.2.1 k) = false) → ∀ L3 L4 : Option Value, AW g mX9_layPotentials 0 0 P noX 0 0 60 [some (.ref (g.2.1 + 0)), some (.int (nI r)), some (.int (nI (k + 1))), L3, L4] [] 0 A (BM g G T th Y W R Z (U.1, va_up x.1 (mTo G Y.2.1 k) (x.1 (mFr G k) + Y.2.2.2.1 k), va_up x.2 (mTo G Y.2.1 k) true, U.2.2.2) L h O) := fun q1 q L3 L4 => by
      have e : lpS G Y.2.1 Y.2.2.2.2.2 Y.2.2.2.1 k x = (va_up x.1 (mTo G Y.2.1 k) (x.1 (mFr G k) + Y.2.2.2.1 k), va_up x.2 (mTo G Y.2.1 k) true) := by
        unfold lpS
        rw [if_pos q1, if_pos q]
      rw [e] at hp
      exact ih (k + 1) (va_up x.1 (mTo G Y.2.1 k) (x.1 (mFr G k) + Y.2.2.2.1 k), va_up x.2 (mTo G Y.2.1 k) true) L3 L4 (by omega) (by omega) hp
    have h2 : Y.2.2.2.2.2 k = true → (x.2 (mTo G Y.2.1 k) = true ∧ x.2 (mFr G k) = false) → ∀ L3 L4 : Option Value, AW g mX9_layPotentials 0 0 P noX 0 0 60 [some (.ref (g.2.1 + 0)), some (.int (nI r)), some (.int (nI (k + 1))), L3, L4] [] 0 A (BM g G T th Y W R Z (U.1, va_up x.1 (mFr G k) (x.1 (mTo G Y.2.1 k) - Y.2.2.2.1 k), va_up x.2 (mFr G k) true, U.2.2.2) L h O) := fun q1 q L3 L4 => by
      have e : lpS G Y.2.1 Y.2.2.2.2.2 Y.2.2.2.1 k x = (va_up x.1 (mFr G k) (x.1 (mTo G Y.2.1 k) - Y.2.2.2.1 k), va_up x.2 (mFr G k) true) := by
        unfold lpS
        rw [if_pos q1, if_neg (fun z => by rw [q.1] at z; cases z.2), if_pos q]
      rw [e] at hp
      exact ih (k + 1) (va_up x.1 (mFr G k) (x.1 (mTo G Y.2.1 k) - Y.2.2.2.1 k), va_up x.2 (mFr G k) true) L3 L4 (by omega) (by omega) hp
    clear ih hp
    refine a_iload_n (q := 61) dX9_layPotentials_60 rfl rfl rfl ?_
    refine a_iconst (q := 62) (nI 2) dX9_layPotentials_61 (by decide) rfl ?_
    refine a_aload_n (q := 63) dX9_layPotentials_62 rfl rfl rfl ?_
    refine a_getB (q := 66) dX9_layPotentials_63 fX9_101 rfl rfl rfl ?_
    refine a_imulN (q := 67) dX9_layPotentials_66 rfl ?_
    refine a_icmp_geN (q := 70) 194 dX9_layPotentials_67 (by decide) (by omega) (by omega) rfl (fun c67 => ?_) (fun c67 => ?_)
    · omega
    · skip
      refine a_aload_n (q := 71) dX9_layPotentials_70 rfl rfl rfl ?_
      refine a_getB (q := 74) dX9_layPotentials_71 fX9_39 rfl rfl rfl ?_
      refine a_iload_n (q := 75) dX9_layPotentials_74 rfl rfl rfl ?_
      refine a_zaldBN (q := 76) dX9_layPotentials_75 rfl (by omega) (by decide) rfl ?_
      refine a_if_eqZ (q := 79) 188 dX9_layPotentials_76 (by decide) rfl (fun c76 => ?_) (fun c76 => ?_)
      · have hq := hx (fun q => by rw [q] at c76; cases c76)
        refine a_iincN (q := 191) (c := 1) dX9_layPotentials_188 rfl (by decide) rfl rfl ?_
        refine a_goto 60 dX9_layPotentials_191 (by decide) ?_
        exact hq _ _
      · have h3 := hit k (by omega) c76
        have h4 := mTo_lt hg h3
        have h5 := mFr_lt hg h3
        refine a_aload_n (q := 80) dX9_layPotentials_79 rfl rfl rfl ?_
        refine a_iload_n (q := 81) dX9_layPotentials_80 rfl rfl rfl ?_
        refine a_cVBv (q := 84) _ dX9_layPotentials_81 kX9_151 (m_linkFrom (U := (U.1, x.1, x.2, U.2.2.2)) k (by omega)) rfl rfl rfl (Nat.le_of_ble_eq_true rfl) ⟨(Nat.le_of_ble_eq_true rfl), (Nat.le_of_ble_eq_true rfl)⟩ ⟨(Nat.le_of_ble_eq_true rfl), (Nat.le_of_ble_eq_true rfl)⟩ rfl ?_
        refine a_istore_n (q := 85) dX9_layPotentials_84 rfl (Nat.le_of_ble_eq_true rfl) rfl rfl ?_
        refine a_aload_n (q := 86) dX9_layPotentials_85 rfl rfl rfl ?_
        refine a_iload_n (q := 87) dX9_layPotentials_86 rfl rfl rfl ?_
        refine a_cVBv (q := 90) _ dX9_layPotentials_87 kX9_165 (m_linkTo (U := (U.1, x.1, x.2, U.2.2.2)) k (by omega) (by omega)) rfl rfl rfl (Nat.le_of_ble_eq_true rfl) ⟨(Nat.le_of_ble_eq_true rfl), (Nat.le_of_ble_eq_true rfl)⟩ ⟨(Nat.le_of_ble_eq_true rfl), (Nat.le_of_ble_eq_true rfl)⟩ rfl ?_
        refine a_istore (q := 92) dX9_layPotentials_90 (Nat.le_of_ble_eq_true rfl) rfl rfl ?_
        refine a_aload_n (q := 93) dX9_layPotentials_92 rfl rfl rfl ?_
        refine a_getB (q := 96) dX9_layPotentials_93 fX9_72 rfl rfl rfl ?_
        refine a_iload_n (q := 97) dX9_layPotentials_96 rfl rfl rfl ?_
        refine a_zaldBN (q := 98) dX9_layPotentials_97 rfl (by omega) (by decide) rfl ?_
        refine a_if_eqZ (q := 101) 142 dX9_layPotentials_98 (by decide) rfl (fun c98 => ?_) (fun c98 => ?_)
        · skip
          refine a_aload_n (q := 143) dX9_layPotentials_142 rfl rfl rfl ?_
          refine a_getB (q := 146) dX9_layPotentials_143 fX9_72 rfl rfl rfl ?_
          refine a_iload (q := 148) dX9_layPotentials_146 rfl rfl ?_
          refine a_zaldBN (q := 149) dX9_layPotentials_148 rfl (by omega) (by decide) rfl ?_
          refine a_if_eqZ (q := 152) 188 dX9_layPotentials_149 (by decide) rfl (fun c149 => ?_) (fun c149 => ?_)
          · have hq := hx (fun _ => by simp_all)
            refine a_iincN (q := 191) (c := 1) dX9_layPotentials_188 rfl (by decide) rfl rfl ?_
            refine a_goto 60 dX9_layPotentials_191 (by decide) ?_
            exact hq _ _
          · skip
            refine a_aload_n (q := 153) dX9_layPotentials_152 rfl rfl rfl ?_
            refine a_getB (q := 156) dX9_layPotentials_153 fX9_72 rfl rfl rfl ?_
            refine a_iload_n (q := 157) dX9_layPotentials_156 rfl rfl rfl ?_
            refine a_zaldBN (q := 158) dX9_layPotentials_157 rfl (by omega) (by decide) rfl ?_
            refine a_if_neZ (q := 161) 188 dX9_layPotentials_158 (by decide) rfl (fun c158 => ?_) (fun c158 => ?_)
            · have hq := hx (fun _ => by simp_all)
              refine a_iincN (q := 191) (c := 1) dX9_layPotentials_188 rfl (by decide) rfl rfl ?_
              refine a_goto 60 dX9_layPotentials_191 (by decide) ?_
              exact hq _ _
            · have hq := h2 c76 ⟨c149, c158⟩
              refine a_aload_n (q := 162) dX9_layPotentials_161 rfl rfl rfl ?_
              refine a_getB (q := 165) dX9_layPotentials_162 fX9_69 rfl rfl rfl ?_
              refine a_iload_n (q := 166) dX9_layPotentials_165 rfl rfl rfl ?_
              refine a_aload_n (q := 167) dX9_layPotentials_166 rfl rfl rfl ?_
              refine a_getB (q := 170) dX9_layPotentials_167 fX9_69 rfl rfl rfl ?_
              refine a_iload (q := 172) dX9_layPotentials_170 rfl rfl ?_
              refine a_ialdBI (q := 173) dX9_layPotentials_172 rfl (by omega) (by decide) rfl ?_
              refine a_aload_n (q := 174) dX9_layPotentials_173 rfl rfl rfl ?_
              refine a_getB (q := 177) dX9_layPotentials_174 fX9_33 rfl rfl rfl ?_
              refine a_iload_n (q := 178) dX9_layPotentials_177 rfl rfl rfl ?_
              refine a_ialdBI (q := 179) dX9_layPotentials_178 rfl (by omega) (by decide) rfl ?_
              refine a_isub (q := 180) dX9_layPotentials_179 rfl ?_
              refine a_iastBI (q := 181) dX9_layPotentials_180 rfl (by omega) (by decide) rfl ?_
              refine a_aload_n (q := 182) dX9_layPotentials_181 rfl rfl rfl ?_
              refine a_getB (q := 185) dX9_layPotentials_182 fX9_72 rfl rfl rfl ?_
              refine a_iload_n (q := 186) dX9_layPotentials_185 rfl rfl rfl ?_
              refine a_iconst (q := 187) (b2 true) dX9_layPotentials_186 (by decide) rfl ?_
              refine a_zastBN (q := 188) dX9_layPotentials_187 rfl (by omega) (by decide) rfl ?_
              refine a_iincN (q := 191) (c := 1) dX9_layPotentials_188 rfl (by decide) rfl rfl ?_
              refine a_goto 60 dX9_layPotentials_191 (by decide) ?_
              exact hq _ _
        · skip
          refine a_aload_n (q := 102) dX9_layPotentials_101 rfl rfl rfl ?_
          refine a_getB (q := 105) dX9_layPotentials_102 fX9_72 rfl rfl rfl ?_
          refine a_iload (q := 107) dX9_layPotentials_105 rfl rfl ?_
          refine a_zaldBN (q := 108) dX9_layPotentials_107 rfl (by omega) (by decide) rfl ?_
          refine a_if_neZ (q := 111) 142 dX9_layPotentials_108 (by decide) rfl (fun c108 => ?_) (fun c108 => ?_)
          · skip
            refine a_aload_n (q := 143) dX9_layPotentials_142 rfl rfl rfl ?_
            refine a_getB (q := 146) dX9_layPotentials_143 fX9_72 rfl rfl rfl ?_
            refine a_iload (q := 148) dX9_layPotentials_146 rfl rfl ?_
            refine a_zaldBN (q := 149) dX9_layPotentials_148 rfl (by omega) (by decide) rfl ?_
            refine a_if_eqZ (q := 152) 188 dX9_layPotentials_149 (by decide) rfl (fun c149 => ?_) (fun c149 => ?_)
            · have hq := hx (fun _ => by simp_all)
              refine a_iincN (q := 191) (c := 1) dX9_layPotentials_188 rfl (by decide) rfl rfl ?_
              refine a_goto 60 dX9_layPotentials_191 (by decide) ?_
              exact hq _ _
            · skip
              refine a_aload_n (q := 153) dX9_layPotentials_152 rfl rfl rfl ?_
              refine a_getB (q := 156) dX9_layPotentials_153 fX9_72 rfl rfl rfl ?_
              refine a_iload_n (q := 157) dX9_layPotentials_156 rfl rfl rfl ?_
              refine a_zaldBN (q := 158) dX9_layPotentials_157 rfl (by omega) (by decide) rfl ?_
              refine a_if_neZ (q := 161) 188 dX9_layPotentials_158 (by decide) rfl (fun c158 => ?_) (fun c158 => ?_)
              · have hq := hx (fun _ => by simp_all)
                refine a_iincN (q := 191) (c := 1) dX9_layPotentials_188 rfl (by decide) rfl rfl ?_
                refine a_goto 60 dX9_layPotentials_191 (by decide) ?_
                exact hq _ _
              · have hq := h2 c76 ⟨c149, c158⟩
                refine a_aload_n (q := 162) dX9_layPotentials_161 rfl rfl rfl ?_
                refine a_getB (q := 165) dX9_layPotentials_162 fX9_69 rfl rfl rfl ?_
                refine a_iload_n (q := 166) dX9_layPotentials_165 rfl rfl rfl ?_
                refine a_aload_n (q := 167) dX9_layPotentials_166 rfl rfl rfl ?_
                refine a_getB (q := 170) dX9_layPotentials_167 fX9_69 rfl rfl rfl ?_
                refine a_iload (q := 172) dX9_layPotentials_170 rfl rfl ?_
                refine a_ialdBI (q := 173) dX9_layPotentials_172 rfl (by omega) (by decide) rfl ?_
                refine a_aload_n (q := 174) dX9_layPotentials_173 rfl rfl rfl ?_
                refine a_getB (q := 177) dX9_layPotentials_174 fX9_33 rfl rfl rfl ?_
                refine a_iload_n (q := 178) dX9_layPotentials_177 rfl rfl rfl ?_
                refine a_ialdBI (q := 179) dX9_layPotentials_178 rfl (by omega) (by decide) rfl ?_
                refine a_isub (q := 180) dX9_layPotentials_179 rfl ?_
                refine a_iastBI (q := 181) dX9_layPotentials_180 rfl (by omega) (by decide) rfl ?_
                refine a_aload_n (q := 182) dX9_layPotentials_181 rfl rfl rfl ?_
                refine a_getB (q := 185) dX9_layPotentials_182 fX9_72 rfl rfl rfl ?_
                refine a_iload_n (q := 186) dX9_layPotentials_185 rfl rfl rfl ?_
                refine a_iconst (q := 187) (b2 true) dX9_layPotentials_186 (by decide) rfl ?_
                refine a_zastBN (q := 188) dX9_layPotentials_187 rfl (by omega) (by decide) rfl ?_
                refine a_iincN (q := 191) (c := 1) dX9_layPotentials_188 rfl (by decide) rfl rfl ?_
                refine a_goto 60 dX9_layPotentials_191 (by decide) ?_
                exact hq _ _
          · have hq := h1 c76 ⟨c98, c108⟩
            refine a_aload_n (q := 112) dX9_layPotentials_111 rfl rfl rfl ?_
            refine a_getB (q := 115) dX9_layPotentials_112 fX9_69 rfl rfl rfl ?_
            refine a_iload (q := 117) dX9_layPotentials_115 rfl rfl ?_
            refine a_aload_n (q := 118) dX9_layPotentials_117 rfl rfl rfl ?_
            refine a_getB (q := 121) dX9_layPotentials_118 fX9_69 rfl rfl rfl ?_
            refine a_iload_n (q := 122) dX9_layPotentials_121 rfl rfl rfl ?_
            refine a_ialdBI (q := 123) dX9_layPotentials_122 rfl (by omega) (by decide) rfl ?_
            refine a_aload_n (q := 124) dX9_layPotentials_123 rfl rfl rfl ?_
            refine a_getB (q := 127) dX9_layPotentials_124 fX9_33 rfl rfl rfl ?_
            refine a_iload_n (q := 128) dX9_layPotentials_127 rfl rfl rfl ?_
            refine a_ialdBI (q := 129) dX9_layPotentials_128 rfl (by omega) (by decide) rfl ?_
            refine a_iadd (q := 130) dX9_layPotentials_129 rfl ?_
            refine a_iastBI (q := 131) dX9_layPotentials_130 rfl (by omega) (by decide) rfl ?_
            refine a_aload_n (q := 132) dX9_layPotentials_131 rfl rfl rfl ?_
            refine a_getB (q := 135) dX9_layPotentials_132 fX9_72 rfl rfl rfl ?_
            refine a_iload (q := 137) dX9_layPotentials_135 rfl rfl ?_
            refine a_iconst (q := 138) (b2 true) dX9_layPotentials_137 (by decide) rfl ?_
            refine a_zastBN (q := 139) dX9_layPotentials_138 rfl (by omega) (by decide) rfl ?_
            refine a_goto 188 dX9_layPotentials_139 (by decide) ?_
            refine a_iincN (q := 191) (c := 1) dX9_layPotentials_188 rfl (by decide) rfl rfl ?_
            refine a_goto 60 dX9_layPotentials_191 (by decide) ?_
            exact hq _ _
theorem l_lp2 (P : ps_T) (hg : gok G) (hit : ∀ k, k < 48 → Y.2.2.2.2.2 k = true → mIs G Y.2.1 k = true) : ∀ (m r : Nat) (x : Lp) (L2 L3 L4 : Option Value), G.1 - r = m → r ≤ G.1 → (∀ L2 L3 L4 : Option Value, AW g mX9_layPotentials 0 0 P noX 0 0 200 [some (.ref (g.2.1 + 0)), some (.int (nI G.1)), L2, L3, L4] [] 0 A (BM g G T th Y W R Z (U.1, (lpN G Y.2.1 Y.2.2.2.2.2 Y.2.2.2.1 m x).1, (lpN G Y.2.1 Y.2.2.2.2.2 Y.2.2.2.1 m x).2, U.2.2.2) L h O)) → AW g mX9_layPotentials 0 0 P noX 0 0 50 [some (.ref (g.2.1 + 0)), some (.int (nI r)), L2, L3, L4] [] 0 A (BM g G T th Y W R Z (U.1, x.1, x.2, U.2.2.2) L h O) := by
  intro m
  obtain ⟨g1, g2, g3, g4, g5⟩ := id hg
  induction m with
  | zero =>
    intro r x L2 L3 L4 hm hk hp
    have hk2 : r = G.1 := by omega
    subst hk2
    refine a_iload_n (q := 51) dX9_layPotentials_50 rfl rfl rfl ?_
    refine a_aload_n (q := 52) dX9_layPotentials_51 rfl rfl rfl ?_
    refine a_getB (q := 55) dX9_layPotentials_52 fX9_7 rfl rfl rfl ?_
    refine a_icmp_geN (q := 58) 200 dX9_layPotentials_55 (by decide) (by omega) (by omega) rfl (fun c55 => ?_) (fun c55 => ?_)
    · skip
      exact hp L2 L3 L4
    · omega
  | succ m ih =>
    intro r x L2 L3 L4 hm hk hp
    unfold lpN at hp
    refine a_iload_n (q := 51) dX9_layPotentials_50 rfl rfl rfl ?_
    refine a_aload_n (q := 52) dX9_layPotentials_51 rfl rfl rfl ?_
    refine a_getB (q := 55) dX9_layPotentials_52 fX9_7 rfl rfl rfl ?_
    refine a_icmp_geN (q := 58) 200 dX9_layPotentials_55 (by decide) (by omega) (by omega) rfl (fun c55 => ?_) (fun c55 => ?_)
    · omega
    · skip
      refine a_iconst (q := 59) (nI 0) dX9_layPotentials_58 (by decide) rfl ?_
      refine a_istore_n (q := 60) dX9_layPotentials_59 rfl (Nat.le_of_ble_eq_true rfl) rfl rfl ?_
      refine l_lp1 (Y := Y) (U := U) P hg hit r _ 0 x L3 L4 rfl (Nat.zero_le _) (fun L3 L4 => ?_)
      refine a_iincN (q := 197) (c := 1) dX9_layPotentials_194 rfl (by decide) rfl rfl ?_
      refine a_goto 50 dX9_layPotentials_197 (by decide) ?_
      exact ih (r + 1) _ _ L3 L4 (by omega) (by omega) hp
theorem l_lp3 (P : ps_T) (hg : gok G) : ∀ (m k : Nat) (f : Nat → Int32) (L2 L3 L4 : Option Value), 2 * G.2.1 - k = m → k ≤ 2 * G.2.1 → P none 0 A (BM g G T th (Y.1, Y.2.1, Y.2.2.1, Y.2.2.2.1, icF G Y.2.1 Y.2.2.2.1 U.2.1 m k f, Y.2.2.2.2.2) W R Z U L h O) → AW g mX9_layPotentials 0 0 P noX 0 0 202 [some (.ref (g.2.1 + 0)), some (.int (nI k)), L2, L3, L4] [] 0 A (BM g G T th (Y.1, Y.2.1, Y.2.2.1, Y.2.2.2.1, f, Y.2.2.2.2.2) W R Z U L h O) := by
  intro m
  obtain ⟨g1, g2, g3, g4, g5⟩ := id hg
  induction m with
  | zero =>
    intro k f L2 L3 L4 hm hk hp
    refine a_iload_n (q := 203) dX9_layPotentials_202 rfl rfl rfl ?_
    refine a_iconst (q := 204) (nI 2) dX9_layPotentials_203 (by decide) rfl ?_
    refine a_aload_n (q := 205) dX9_layPotentials_204 rfl rfl rfl ?_
    refine a_getB (q := 208) dX9_layPotentials_205 fX9_101 rfl rfl rfl ?_
    refine a_imulN (q := 209) dX9_layPotentials_208 rfl ?_
    refine a_icmp_geN (q := 212) 264 dX9_layPotentials_209 (by decide) (by omega) (by omega) rfl (fun c209 => ?_) (fun c209 => ?_)
    · skip
      exact a_ret dX9_layPotentials_264 rfl (Nat.le_of_ble_eq_true rfl) (Nat.le_of_ble_eq_true rfl) (hp)
    · omega
  | succ m ih =>
    intro k f L2 L3 L4 hm hk hp
    unfold icF at hp
    refine a_iload_n (q := 203) dX9_layPotentials_202 rfl rfl rfl ?_
    refine a_iconst (q := 204) (nI 2) dX9_layPotentials_203 (by decide) rfl ?_
    refine a_aload_n (q := 205) dX9_layPotentials_204 rfl rfl rfl ?_
    refine a_getB (q := 208) dX9_layPotentials_205 fX9_101 rfl rfl rfl ?_
    refine a_imulN (q := 209) dX9_layPotentials_208 rfl ?_
    refine a_icmp_geN (q := 212) 264 dX9_layPotentials_209 (by decide) (by omega) (by omega) rfl (fun c209 => ?_) (fun c209 => ?_)
    · omega
    · skip
      refine a_aload_n (q := 213) dX9_layPotentials_212 rfl rfl rfl ?_
      refine a_getB (q := 216) dX9_layPotentials_213 fX9_36 rfl rfl rfl ?_
      refine a_iload_n (q := 217) dX9_layPotentials_216 rfl rfl rfl ?_
      refine a_aload_n (q := 218) dX9_layPotentials_217 rfl rfl rfl ?_
      refine a_iload_n (q := 219) dX9_layPotentials_218 rfl rfl rfl ?_
      refine a_cVBv (q := 222) _ dX9_layPotentials_219 kX9_148 (m_isLink (G := G) (Y := (Y.1, Y.2.1, Y.2.2.1, Y.2.2.2.1, f, Y.2.2.2.2.2)) k (by omega) g3) rfl rfl rfl (Nat.le_of_ble_eq_true rfl) ⟨(Nat.le_of_ble_eq_true rfl), (Nat.le_of_ble_eq_true rfl)⟩ ⟨(Nat.le_of_ble_eq_true rfl), (Nat.le_of_ble_eq_true rfl)⟩ rfl ?_
      refine a_if_eqZ (q := 225) 256 dX9_layPotentials_222 (by decide) rfl (fun c222 => ?_) (fun c222 => ?_)
      · rw [if_neg (by rw [show mIs G Y.2.1 k = false from c222]; decide)] at hp
        refine a_iconst (q := 257) (nI 0) dX9_layPotentials_256 (by decide) rfl ?_
        refine a_iastBI (q := 258) dX9_layPotentials_257 rfl (by omega) (by decide) rfl ?_
        refine a_iincN (q := 261) (c := 1) dX9_layPotentials_258 rfl (by decide) rfl rfl ?_
        refine a_goto 202 dX9_layPotentials_261 (by decide) ?_
        exact ih (k + 1) _ L2 L3 L4 (by omega) (by omega) hp
      · rw [if_pos c222] at hp
        have h4 := mTo_lt hg c222
        have h5 := mFr_lt hg c222
        refine a_aload_n (q := 226) dX9_layPotentials_225 rfl rfl rfl ?_
        refine a_getB (q := 229) dX9_layPotentials_226 fX9_33 rfl rfl rfl ?_
        refine a_iload_n (q := 230) dX9_layPotentials_229 rfl rfl rfl ?_
        refine a_ialdBI (q := 231) dX9_layPotentials_230 rfl (by omega) (by decide) rfl ?_
        refine a_aload_n (q := 232) dX9_layPotentials_231 rfl rfl rfl ?_
        refine a_getB (q := 235) dX9_layPotentials_232 fX9_69 rfl rfl rfl ?_
        refine a_aload_n (q := 236) dX9_layPotentials_235 rfl rfl rfl ?_
        refine a_iload_n (q := 237) dX9_layPotentials_236 rfl rfl rfl ?_
        refine a_cVBv (q := 240) _ dX9_layPotentials_237 kX9_151 (m_linkFrom (G := G) (Y := (Y.1, Y.2.1, Y.2.2.1, Y.2.2.2.1, f, Y.2.2.2.2.2)) k (by omega)) rfl rfl rfl (Nat.le_of_ble_eq_true rfl) ⟨(Nat.le_of_ble_eq_true rfl), (Nat.le_of_ble_eq_true rfl)⟩ ⟨(Nat.le_of_ble_eq_true rfl), (Nat.le_of_ble_eq_true rfl)⟩ rfl ?_
        refine a_ialdBI (q := 241) dX9_layPotentials_240 rfl (by omega) (by decide) rfl ?_
        refine a_iadd (q := 242) dX9_layPotentials_241 rfl ?_
        refine a_aload_n (q := 243) dX9_layPotentials_242 rfl rfl rfl ?_
        refine a_getB (q := 246) dX9_layPotentials_243 fX9_69 rfl rfl rfl ?_
        refine a_aload_n (q := 247) dX9_layPotentials_246 rfl rfl rfl ?_
        refine a_iload_n (q := 248) dX9_layPotentials_247 rfl rfl rfl ?_
        refine a_cVBv (q := 251) _ dX9_layPotentials_248 kX9_165 (m_linkTo (G := G) (Y := (Y.1, Y.2.1, Y.2.2.1, Y.2.2.2.1, f, Y.2.2.2.2.2)) k (by omega) (by omega)) rfl rfl rfl (Nat.le_of_ble_eq_true rfl) ⟨(Nat.le_of_ble_eq_true rfl), (Nat.le_of_ble_eq_true rfl)⟩ ⟨(Nat.le_of_ble_eq_true rfl), (Nat.le_of_ble_eq_true rfl)⟩ rfl ?_
        refine a_ialdBI (q := 252) dX9_layPotentials_251 rfl (by omega) (by decide) rfl ?_
        refine a_isub (q := 253) dX9_layPotentials_252 rfl ?_
        refine a_goto 257 dX9_layPotentials_253 (by decide) ?_
        refine a_iastBI (q := 258) dX9_layPotentials_257 rfl (by omega) (by decide) rfl ?_
        refine a_iincN (q := 261) (c := 1) dX9_layPotentials_258 rfl (by decide) rfl rfl ?_
        refine a_goto 202 dX9_layPotentials_261 (by decide) ?_
        exact ih (k + 1) _ L2 L3 L4 (by omega) (by omega) hp
/-- the potentials, when all rounds are done -/
def lpR (G : Gr) (bk it : Nat → Bool) (V : Nat → Int32) (x : Lp) : Lp := lpN G bk it V G.1 (lp0 G x)
theorem l_lp0 (P : ps_T) (hg : gok G) (hit : ∀ k, k < 48 → Y.2.2.2.2.2 k = true → mIs G Y.2.1 k = true) (x0 : Lp) (hp : P none 0 A (BM g G T th (Y.1, Y.2.1, Y.2.2.1, Y.2.2.2.1, icF G Y.2.1 Y.2.2.2.1 (lpR G Y.2.1 Y.2.2.2.2.2 Y.2.2.2.1 x0).1 (2 * G.2.1) 0 Y.2.2.2.2.1, Y.2.2.2.2.2) W R Z (U.1, (lpR G Y.2.1 Y.2.2.2.2.2 Y.2.2.2.1 x0).1, (lpR G Y.2.1 Y.2.2.2.2.2 Y.2.2.2.1 x0).2, U.2.2.2) L h O)) : ∀ (m k : Nat) (x : Lp), G.1 - k = m → k ≤ G.1 → (∀ i, x.1 i = (if i < k then nI 0 else x0.1 i) ∧ x.2 i = (if i < k then decide (i = 0 ∨ i = G.1 - 1) else x0.2 i)) → AW g mX9_layPotentials 0 0 P noX 0 0 2 [some (.ref (g.2.1 + 0)), some (.int (nI k)), none, none, none] [] 0 A (BM g G T th Y W R Z (U.1, x.1, x.2, U.2.2.2) L h O) := by
  intro m
  obtain ⟨g1, g2, g3, g4, g5⟩ := id hg
  induction m with
  | zero =>
    intro k x hm hk hf
    have hk2 : k = G.1 := by omega
    subst hk2
    have e1 : x.1 = (lp0 G x0).1 := funext (fun i => (hf i).1)
    have e2 : x.2 = (lp0 G x0).2 := funext (fun i => (hf i).2)
    rw [e1, e2]
    refine a_iload_n (q := 3) dX9_layPotentials_2 rfl rfl rfl ?_
    refine a_aload_n (q := 4) dX9_layPotentials_3 rfl rfl rfl ?_
    refine a_getB (q := 7) dX9_layPotentials_4 fX9_7 rfl rfl rfl ?_
    refine a_icmp_geN (q := 10) 48 dX9_layPotentials_7 (by decide) (by omega) (by omega) rfl (fun c7 => ?_) (fun c7 => ?_)
    · skip
      refine a_iconst (q := 49) (nI 0) dX9_layPotentials_48 (by decide) rfl ?_
      refine a_istore_n (q := 50) dX9_layPotentials_49 rfl (Nat.le_of_ble_eq_true rfl) rfl rfl ?_
      refine l_lp2 (Y := Y) (U := U) P hg hit _ 0 (lp0 G x0) _ _ _ rfl (Nat.zero_le _) (fun L2 L3 L4 => ?_)
      refine a_iconst (q := 201) (nI 0) dX9_layPotentials_200 (by decide) rfl ?_
      refine a_istore_n (q := 202) dX9_layPotentials_201 rfl (Nat.le_of_ble_eq_true rfl) rfl rfl ?_
      exact l_lp3 (Y := Y) (U := (U.1, (lpR G Y.2.1 Y.2.2.2.2.2 Y.2.2.2.1 x0).1, (lpR G Y.2.1 Y.2.2.2.2.2 Y.2.2.2.1 x0).2, U.2.2.2)) P hg _ 0 Y.2.2.2.2.1 _ _ _ rfl (Nat.zero_le _) hp
    · omega
  | succ m ih =>
    intro k x hm hk hf
    have hst : ∀ q : Bool, q = decide (k = 0 ∨ k = G.1 - 1) → AW g mX9_layPotentials 0 0 P noX 0 0 2 [some (.ref (g.2.1 + 0)), some (.int (nI (k + 1))), none, none, none] [] 0 A (BM g G T th Y W R Z (U.1, va_up x.1 k (nI 0), va_up x.2 k q, U.2.2.2) L h O) := fun q hq => ih (k + 1) (va_up x.1 k (nI 0), va_up x.2 k q) (by omega) (by omega) (fun i => by
      show va_up x.1 k (nI 0) i = _ ∧ va_up x.2 k q i = _
      by_cases e : i = k
      · rw [e, va_same, va_same, if_pos (by omega), if_pos (by omega)]; exact ⟨rfl, hq⟩
      · rw [va_other e, va_other e, (hf i).1, (hf i).2]
        by_cases z : i < k
        · rw [if_pos z, if_pos z, if_pos (by omega), if_pos (by omega)]; exact ⟨rfl, rfl⟩
        · rw [if_neg z, if_neg z, if_neg (by omega), if_neg (by omega)]; exact ⟨rfl, rfl⟩)
    refine a_iload_n (q := 3) dX9_layPotentials_2 rfl rfl rfl ?_
    refine a_aload_n (q := 4) dX9_layPotentials_3 rfl rfl rfl ?_
    refine a_getB (q := 7) dX9_layPotentials_4 fX9_7 rfl rfl rfl ?_
    refine a_icmp_geN (q := 10) 48 dX9_layPotentials_7 (by decide) (by omega) (by omega) rfl (fun c7 => ?_) (fun c7 => ?_)
    · omega
    · skip
      refine a_aload_n (q := 11) dX9_layPotentials_10 rfl rfl rfl ?_
      refine a_getB (q := 14) dX9_layPotentials_11 fX9_72 rfl rfl rfl ?_
      refine a_iload_n (q := 15) dX9_layPotentials_14 rfl rfl rfl ?_
      refine a_iload_n (q := 16) dX9_layPotentials_15 rfl rfl rfl ?_
      refine a_if_eqN (q := 19) 29 dX9_layPotentials_16 (by decide) (by omega) rfl (fun c16 => ?_) (fun c16 => ?_)
      · have hq := hst true (decide_eq_true (Or.inl c16)).symm
        refine a_iconst (q := 30) (b2 true) dX9_layPotentials_29 (by decide) rfl ?_
        refine a_goto 34 dX9_layPotentials_30 (by decide) ?_
        refine a_zastBN (q := 35) dX9_layPotentials_34 rfl (by omega) (by decide) rfl ?_
        refine a_aload_n (q := 36) dX9_layPotentials_35 rfl rfl rfl ?_
        refine a_getB (q := 39) dX9_layPotentials_36 fX9_69 rfl rfl rfl ?_
        refine a_iload_n (q := 40) dX9_layPotentials_39 rfl rfl rfl ?_
        refine a_iconst (q := 41) (nI 0) dX9_layPotentials_40 (by decide) rfl ?_
        refine a_iastBI (q := 42) dX9_layPotentials_41 rfl (by omega) (by decide) rfl ?_
        refine a_iincN (q := 45) (c := 1) dX9_layPotentials_42 rfl (by decide) rfl rfl ?_
        refine a_goto 2 dX9_layPotentials_45 (by decide) ?_
        exact hq
      · skip
        refine a_iload_n (q := 20) dX9_layPotentials_19 rfl rfl rfl ?_
        refine a_aload_n (q := 21) dX9_layPotentials_20 rfl rfl rfl ?_
        refine a_getB (q := 24) dX9_layPotentials_21 fX9_7 rfl rfl rfl ?_
        refine a_iconst (q := 25) (nI 1) dX9_layPotentials_24 (by decide) rfl ?_
        refine a_isubN (q := 26) dX9_layPotentials_25 (by omega) rfl ?_
        refine a_icmp_neN (q := 29) 33 dX9_layPotentials_26 (by decide) (by omega) (by omega) rfl (fun c26 => ?_) (fun c26 => ?_)
        · have hq := hst false (decide_eq_false (fun z => by omega)).symm
          refine a_iconst (q := 34) (b2 false) dX9_layPotentials_33 (by decide) rfl ?_
          refine a_zastBN (q := 35) dX9_layPotentials_34 rfl (by omega) (by decide) rfl ?_
          refine a_aload_n (q := 36) dX9_layPotentials_35 rfl rfl rfl ?_
          refine a_getB (q := 39) dX9_layPotentials_36 fX9_69 rfl rfl rfl ?_
          refine a_iload_n (q := 40) dX9_layPotentials_39 rfl rfl rfl ?_
          refine a_iconst (q := 41) (nI 0) dX9_layPotentials_40 (by decide) rfl ?_
          refine a_iastBI (q := 42) dX9_layPotentials_41 rfl (by omega) (by decide) rfl ?_
          refine a_iincN (q := 45) (c := 1) dX9_layPotentials_42 rfl (by decide) rfl rfl ?_
          refine a_goto 2 dX9_layPotentials_45 (by decide) ?_
          exact hq
        · have hq := hst true (decide_eq_true (Or.inr c26)).symm
          refine a_iconst (q := 30) (b2 true) dX9_layPotentials_29 (by decide) rfl ?_
          refine a_goto 34 dX9_layPotentials_30 (by decide) ?_
          refine a_zastBN (q := 35) dX9_layPotentials_34 rfl (by omega) (by decide) rfl ?_
          refine a_aload_n (q := 36) dX9_layPotentials_35 rfl rfl rfl ?_
          refine a_getB (q := 39) dX9_layPotentials_36 fX9_69 rfl rfl rfl ?_
          refine a_iload_n (q := 40) dX9_layPotentials_39 rfl rfl rfl ?_
          refine a_iconst (q := 41) (nI 0) dX9_layPotentials_40 (by decide) rfl ?_
          refine a_iastBI (q := 42) dX9_layPotentials_41 rfl (by omega) (by decide) rfl ?_
          refine a_iincN (q := 45) (c := 1) dX9_layPotentials_42 rfl (by decide) rfl rfl ?_
          refine a_goto 2 dX9_layPotentials_45 (by decide) ?_
          exact hq
theorem m_layPotentials (hg : gok G) (hit : ∀ k, k < 48 → Y.2.2.2.2.2 k = true → mIs G Y.2.1 k = true) : Ct g mX9_layPotentials [.ref (g.2.1 + 0)] 0 A (BM g G T th Y W R Z U L h O) 0 0 (rP none A (BM g G T th (Y.1, Y.2.1, Y.2.2.1, Y.2.2.2.1, icF G Y.2.1 Y.2.2.2.1 (lpR G Y.2.1 Y.2.2.2.2.2 Y.2.2.2.1 (U.2.1, U.2.2.1)).1 (2 * G.2.1) 0 Y.2.2.2.2.1, Y.2.2.2.2.2) W R Z (U.1, (lpR G Y.2.1 Y.2.2.2.2.2 Y.2.2.2.1 (U.2.1, U.2.2.1)).1, (lpR G Y.2.1 Y.2.2.2.2.2 Y.2.2.2.1 (U.2.1, U.2.2.1)).2, U.2.2.2) L h O)) noX := by
  refine Ct.of [some (.ref (g.2.1 + 0)), none, none, none, none] (by decide) rfl (Nat.le_of_ble_eq_true rfl) rfl ?_
  refine a_iconst (q := 1) (nI 0) dX9_layPotentials_0 (by decide) rfl ?_
  refine a_istore_n (q := 2) dX9_layPotentials_1 rfl (Nat.le_of_ble_eq_true rfl) rfl rfl ?_
  exact l_lp0 (Y := Y) (U := U) _ hg hit (U.2.1, U.2.2.1) ⟨rfl, rfl, rfl, rfl⟩ _ 0 (U.2.1, U.2.2.1) rfl (Nat.zero_le _) (fun i => ⟨rfl, rfl⟩)
end MGrow

