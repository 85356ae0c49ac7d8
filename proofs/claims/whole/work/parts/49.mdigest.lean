/-! ===== the reference: frequencies and the digest ===== -/
def folD (G : Gr) (Y : Ya) (x : Int32) (q : La) : La := (fol G Y.2.1 Y.2.2.1 Y.2.2.2.1 x q).getD q
def hasL (q : La) (l : Nat) : Bool := anyR q.2 (fun i => decide (q.1 i = l))
def fqF (G : Gr) (Y : Ya) (f : Nat → Nat) (l : Nat) : Nat → Nat → Nat → La → Nat × La
  | 0, _, s, q => (s, q)
  | m + 1, p, s, q => if f p = 0 then fqF G Y f l m (p + 1) s q else fqF G Y f l m (p + 1) (s + (if hasL (folD G Y (nI p) q) l = true then f p else 0)) (folD G Y (nI p) q)
section MDigest
variable {g : gp_T} {A : List va_E} {G : Gr} {T : Tx} {th : Nat} {Y : Ya} {W : Wa} {R : Ra} {Z : Za} {U : Ua} {L : La} {h : Int64} {O : Oa}
theorem l_fq1 (P : ps_T) (k p s : Nat) (hk : k < 24) (h1 : ∀ i, i < L.2 → L.1 i < 48) (h2 : L.2 ≤ 12) (hp : ∀ L5 : Option Value, AW g mX9_frequency 0 0 P noX 0 0 74 [some (.ref (g.2.1 + 0)), some (.int (nI k)), some (.int (nI s)), some (.int (nI p)), some (.int (b2 (hasL L (2 * k)))), L5] [] 0 A (BM g G T th Y W R Z U L h O)) : ∀ (m i : Nat) (q : Bool), L.2 - i = m → i ≤ L.2 → q = anyR i (fun j => decide (L.1 j = 2 * k)) → AW g mX9_frequency 0 0 P noX 0 0 34 [some (.ref (g.2.1 + 0)), some (.int (nI k)), some (.int (nI s)), some (.int (nI p)), some (.int (b2 q)), some (.int (nI i))] [] 0 A (BM g G T th Y W R Z U L h O) := by
  intro m
  induction m with
  | zero =>
    intro i q hm hi hq
    have hi2 : i = L.2 := by omega
    subst hi2
    subst hq
    refine a_iload (q := 36) dX9_frequency_34 rfl rfl ?_
    refine a_aload_n (q := 37) dX9_frequency_36 rfl rfl rfl ?_
    refine a_getB (q := 40) dX9_frequency_37 fX9_203 rfl rfl rfl ?_
    refine a_icmp_geN (q := 43) 74 dX9_frequency_40 (by decide) (by omega) (by omega) rfl (fun c40 => ?_) (fun c40 => ?_)
    · skip
      exact hp _
    · omega
  | succ m ih =>
    intro i q hm hi hq
    have h3 := h1 i (by omega)
    have hz := fun q' => ih (i + 1) q' (by omega) (by omega)
    have ht : anyR i (fun j => decide (L.1 j = 2 * k)) = true → anyR (i + 1) (fun j => decide (L.1 j = 2 * k)) = true := fun z => by
      obtain ⟨j, j1, j2⟩ := anyR_tE z
      exact anyR_t (k := j) (by omega) j2
    refine a_iload (q := 36) dX9_frequency_34 rfl rfl ?_
    refine a_aload_n (q := 37) dX9_frequency_36 rfl rfl rfl ?_
    refine a_getB (q := 40) dX9_frequency_37 fX9_203 rfl rfl rfl ?_
    refine a_icmp_geN (q := 43) 74 dX9_frequency_40 (by decide) (by omega) (by omega) rfl (fun c40 => ?_) (fun c40 => ?_)
    · omega
    · skip
      refine a_iload (q := 45) dX9_frequency_43 rfl rfl ?_
      refine a_if_neZ (q := 48) 61 dX9_frequency_45 (by decide) rfl (fun c45 => ?_) (fun c45 => ?_)
      · have hy := hz true (by rw [ht (by rw [← hq]; exact c45)])
        refine a_iconst (q := 62) (b2 true) dX9_frequency_61 (by decide) rfl ?_
        refine a_goto 66 dX9_frequency_62 (by decide) ?_
        refine a_istore (q := 68) dX9_frequency_66 (Nat.le_of_ble_eq_true rfl) rfl rfl ?_
        refine a_iincN (q := 71) (c := 1) dX9_frequency_68 rfl (by decide) rfl rfl ?_
        refine a_goto 34 dX9_frequency_71 (by decide) ?_
        exact hy
      · skip
        refine a_aload_n (q := 49) dX9_frequency_48 rfl rfl rfl ?_
        refine a_getB (q := 52) dX9_frequency_49 fX9_78 rfl rfl rfl ?_
        refine a_iload (q := 54) dX9_frequency_52 rfl rfl ?_
        refine a_ialdBN (q := 55) dX9_frequency_54 rfl (by omega) (by decide) rfl ?_
        refine a_iconst (q := 56) (nI 2) dX9_frequency_55 (by decide) rfl ?_
        refine a_iload_n (q := 57) dX9_frequency_56 rfl rfl rfl ?_
        refine a_imulN (q := 58) dX9_frequency_57 rfl ?_
        refine a_icmp_neN (q := 61) 65 dX9_frequency_58 (by decide) (by omega) (by omega) rfl (fun c58 => ?_) (fun c58 => ?_)
        · have hy := hz false (by
            rw [anyR_f (fun j hj => ?_)]
            by_cases e : j = i
            · rw [e]; exact decide_eq_false c58
            · exact anyR_fE (by rw [← hq]; exact c45) j (by omega))
          refine a_iconst (q := 66) (b2 false) dX9_frequency_65 (by decide) rfl ?_
          refine a_istore (q := 68) dX9_frequency_66 (Nat.le_of_ble_eq_true rfl) rfl rfl ?_
          refine a_iincN (q := 71) (c := 1) dX9_frequency_68 rfl (by decide) rfl rfl ?_
          refine a_goto 34 dX9_frequency_71 (by decide) ?_
          exact hy
        · have hy := hz true (by rw [anyR_t (k := i) (by omega) (decide_eq_true c58)])
          refine a_iconst (q := 62) (b2 true) dX9_frequency_61 (by decide) rfl ?_
          refine a_goto 66 dX9_frequency_62 (by decide) ?_
          refine a_istore (q := 68) dX9_frequency_66 (Nat.le_of_ble_eq_true rfl) rfl rfl ?_
          refine a_iincN (q := 71) (c := 1) dX9_frequency_68 rfl (by decide) rfl rfl ?_
          refine a_goto 34 dX9_frequency_71 (by decide) ?_
          exact hy
theorem l_fq (P : ps_T) (k n : Nat) (hk : k < 24) (hg : gok G) (hn : n ≤ 200) (hY : Y.2.2.1 0 = nI n) (hf : ∀ i, i < 200 → W.2.2.2.2 i < big) (hfo : ∀ p, p < n → W.2.2.2.2 p ≠ 0 → ∀ q, ∃ q', fol G Y.2.1 Y.2.2.1 Y.2.2.2.1 (nI p) q = some q') : ∀ (m p s : Nat) (L4 L5 : Option Value) (q : La), n - p = m → p ≤ n → P (some (.int (nI (fqF G Y W.2.2.2.2 (2 * k) m p s q).1))) 0 A (BM g G T th Y W R Z U (fqF G Y W.2.2.2.2 (2 * k) m p s q).2 h O) → AW g mX9_frequency 0 0 P noX 0 0 4 [some (.ref (g.2.1 + 0)), some (.int (nI k)), some (.int (nI s)), some (.int (nI p)), L4, L5] [] 0 A (BM g G T th Y W R Z U q h O) := by
  intro m
  obtain ⟨g1, g2, g3, g4, g5⟩ := id hg
  induction m with
  | zero =>
    intro p s L4 L5 q hm hp hP
    refine a_iload_n (q := 5) dX9_frequency_4 rfl rfl rfl ?_
    refine a_aload_n (q := 6) dX9_frequency_5 rfl rfl rfl ?_
    refine a_getB (q := 9) dX9_frequency_6 fX9_30 rfl rfl rfl ?_
    refine a_iconst (q := 10) (nI 0) dX9_frequency_9 (by decide) rfl ?_
    refine a_ialdBI (q := 11) dX9_frequency_10 rfl (by omega) (by decide) rfl ?_
    rw [hY]
    refine a_icmp_ge (q := 14) 98 dX9_frequency_11 (by decide) rfl (fun c11 => ?_) (fun c11 => ?_)
    · skip
      refine a_iload_n (q := 99) dX9_frequency_98 rfl rfl rfl ?_
      exact a_iret dX9_frequency_99 rfl rfl (Nat.le_of_ble_eq_true rfl) (Nat.le_of_ble_eq_true rfl) (hP)
    · exact absurd (nI_le (show n ≤ p by omega) (by omega)) c11
  | succ m ih =>
    intro p s L4 L5 q hm hp hP
    have h1 := hf p (by omega)
    unfold big at h1
    unfold fqF at hP
    refine a_iload_n (q := 5) dX9_frequency_4 rfl rfl rfl ?_
    refine a_aload_n (q := 6) dX9_frequency_5 rfl rfl rfl ?_
    refine a_getB (q := 9) dX9_frequency_6 fX9_30 rfl rfl rfl ?_
    refine a_iconst (q := 10) (nI 0) dX9_frequency_9 (by decide) rfl ?_
    refine a_ialdBI (q := 11) dX9_frequency_10 rfl (by omega) (by decide) rfl ?_
    rw [hY]
    refine a_icmp_ge (q := 14) 98 dX9_frequency_11 (by decide) rfl (fun c11 => ?_) (fun c11 => ?_)
    · exact absurd c11 (nI_ge (by omega) (by omega))
    · skip
      refine a_aload_n (q := 15) dX9_frequency_14 rfl rfl rfl ?_
      refine a_getB (q := 18) dX9_frequency_15 fX9_42 rfl rfl rfl ?_
      refine a_iload_n (q := 19) dX9_frequency_18 rfl rfl rfl ?_
      refine a_ialdBN (q := 20) dX9_frequency_19 rfl (by omega) (by decide) rfl ?_
      refine a_if_leN (q := 23) 92 dX9_frequency_20 (by decide) (by omega) rfl (fun c20 => ?_) (fun c20 => ?_)
      · rw [if_pos (by omega)] at hP
        have hy := fun L4 L5 => ih (p + 1) s L4 L5 q (by omega) (by omega) hP
        refine a_iincN (q := 95) (c := 1) dX9_frequency_92 rfl (by decide) rfl rfl ?_
        refine a_goto 4 dX9_frequency_95 (by decide) ?_
        exact hy _ _
      · rw [if_neg (by omega)] at hP
        obtain ⟨q', hq'⟩ := hfo p (by omega) (by omega) q
        rw [show folD G Y (nI p) q = q' by unfold folD; rw [hq']; rfl] at hP
        obtain ⟨f1, f2, f3⟩ := fol_ok g3 g1 hq'
        have hy := fun L4 L5 => ih (p + 1) (s + (if hasL q' (2 * k) = true then W.2.2.2.2 p else 0)) L4 L5 q' (by omega) (by omega) hP
        refine a_aload_n (q := 24) dX9_frequency_23 rfl rfl rfl ?_
        refine a_iload_n (q := 25) dX9_frequency_24 rfl rfl rfl ?_
        refine a_cVB0 (q := 28) _ dX9_frequency_25 kX9_212 (m_follow (nI p) hg q' hq') rfl rfl rfl (Nat.le_of_ble_eq_true rfl) ⟨(Nat.le_of_ble_eq_true rfl), (Nat.le_of_ble_eq_true rfl)⟩ ⟨(Nat.le_of_ble_eq_true rfl), (Nat.le_of_ble_eq_true rfl)⟩ rfl ?_
        refine a_iconst (q := 29) (b2 false) dX9_frequency_28 (by decide) rfl ?_
        refine a_istore (q := 31) dX9_frequency_29 (Nat.le_of_ble_eq_true rfl) rfl rfl ?_
        refine a_iconst (q := 32) (nI 0) dX9_frequency_31 (by decide) rfl ?_
        refine a_istore (q := 34) dX9_frequency_32 (Nat.le_of_ble_eq_true rfl) rfl rfl ?_
        refine l_fq1 (L := q') P k p s hk f3 f2 (fun L5 => ?_) _ 0 false rfl (Nat.zero_le _) rfl
        refine a_iload_n (q := 75) dX9_frequency_74 rfl rfl rfl ?_
        refine a_iload (q := 77) dX9_frequency_75 rfl rfl ?_
        refine a_if_eqZ (q := 80) 89 dX9_frequency_77 (by decide) rfl (fun c77 => ?_) (fun c77 => ?_)
        · rw [if_neg (show ¬ hasL q' (2 * k) = true by rw [c77]; decide)] at hy
          refine a_iconst (q := 90) (nI 0) dX9_frequency_89 (by decide) rfl ?_
          refine a_iaddN (q := 91) dX9_frequency_90 rfl ?_
          refine a_istore_n (q := 92) dX9_frequency_91 rfl (Nat.le_of_ble_eq_true rfl) rfl rfl ?_
          refine a_iincN (q := 95) (c := 1) dX9_frequency_92 rfl (by decide) rfl rfl ?_
          refine a_goto 4 dX9_frequency_95 (by decide) ?_
          exact hy _ _
        · rw [if_pos (show hasL q' (2 * k) = true from c77)] at hy
          refine a_aload_n (q := 81) dX9_frequency_80 rfl rfl rfl ?_
          refine a_getB (q := 84) dX9_frequency_81 fX9_42 rfl rfl rfl ?_
          refine a_iload_n (q := 85) dX9_frequency_84 rfl rfl rfl ?_
          refine a_ialdBN (q := 86) dX9_frequency_85 rfl (by omega) (by decide) rfl ?_
          refine a_goto 90 dX9_frequency_86 (by decide) ?_
          refine a_iaddN (q := 91) dX9_frequency_90 rfl ?_
          refine a_istore_n (q := 92) dX9_frequency_91 rfl (Nat.le_of_ble_eq_true rfl) rfl rfl ?_
          refine a_iincN (q := 95) (c := 1) dX9_frequency_92 rfl (by decide) rfl rfl ?_
          refine a_goto 4 dX9_frequency_95 (by decide) ?_
          exact hy _ _
theorem m_frequency (k n : Nat) (hk : k < 24) (hg : gok G) (hn : n ≤ 200) (hY : Y.2.2.1 0 = nI n) (hf : ∀ i, i < 200 → W.2.2.2.2 i < big) (hfo : ∀ p, p < n → W.2.2.2.2 p ≠ 0 → ∀ q, ∃ q', fol G Y.2.1 Y.2.2.1 Y.2.2.2.1 (nI p) q = some q') : Ct g mX9_frequency [.ref (g.2.1 + 0), .int (nI k)] 0 A (BM g G T th Y W R Z U L h O) 0 0 (rP (some (.int (nI (fqF G Y W.2.2.2.2 (2 * k) n 0 0 L).1))) A (BM g G T th Y W R Z U (fqF G Y W.2.2.2.2 (2 * k) n 0 0 L).2 h O)) noX := by
  refine Ct.of [some (.ref (g.2.1 + 0)), some (.int (nI k)), none, none, none, none] (by decide) rfl (Nat.le_of_ble_eq_true rfl) rfl ?_
  refine a_iconst (q := 1) (nI 0) dX9_frequency_0 (by decide) rfl ?_
  refine a_istore_n (q := 2) dX9_frequency_1 rfl (Nat.le_of_ble_eq_true rfl) rfl rfl ?_
  refine a_iconst (q := 3) (nI 0) dX9_frequency_2 (by decide) rfl ?_
  refine a_istore_n (q := 4) dX9_frequency_3 rfl (Nat.le_of_ble_eq_true rfl) rfl rfl ?_
  exact l_fq _ k n hk hg hn hY hf hfo n 0 0 _ _ L rfl (Nat.zero_le _) ⟨rfl, rfl, rfl, rfl⟩
theorem m_edgeFrequency (k n : Nat) (hk : k < G.2.1) (hg : gok G) (hc : cbl Y.1 (Y.2.2.1 0) = true) (hn : n ≤ 200) (hY : Y.2.2.1 0 = nI n) (hf : ∀ i, i < 200 → W.2.2.2.2 i < big) (hfo : ∀ p, p < n → W.2.2.2.2 p ≠ 0 → ∀ q, ∃ q', fol G Y.2.1 Y.2.2.1 Y.2.2.2.1 (nI p) q = some q') : Ct g mX9_edgeFrequency [.ref (g.2.1 + 0), .int (nI k)] 0 A (BM g G T th Y W R Z U L h O) 0 0 (rP (some (.int (nI (fqF G Y W.2.2.2.2 (2 * k) n 0 0 L).1))) A (BM g G T 0 Y W R Z U (fqF G Y W.2.2.2.2 (2 * k) n 0 0 L).2 h O)) noX := by
  obtain ⟨g1, g2, g3, g4, g5⟩ := id hg
  have hi : inR (nI k) G.2.1 = true := by rw [inR_nI (by unfold big; omega) (by unfold big; omega)]; exact decide_eq_true hk
  have hl : lkN (cbl Y.1 (Y.2.2.1 0)) (inR (nI k) G.2.1) = 0 := by rw [hc, hi]; rfl
  refine Ct.of [some (.ref (g.2.1 + 0)), some (.int (nI k))] (by decide) rfl (Nat.le_of_ble_eq_true rfl) rfl ?_
  refine a_aload_n (q := 1) dX9_edgeFrequency_0 rfl rfl rfl ?_
  refine a_aload_n (q := 2) dX9_edgeFrequency_1 rfl rfl rfl ?_
  refine a_aload_n (q := 3) dX9_edgeFrequency_2 rfl rfl rfl ?_
  refine a_iload_n (q := 4) dX9_edgeFrequency_3 rfl rfl rfl ?_
  refine a_cVBv (q := 7) _ dX9_edgeFrequency_4 kX9_119 (m_isEdge _ g3) rfl rfl rfl (Nat.le_of_ble_eq_true rfl) ⟨(Nat.le_of_ble_eq_true rfl), (Nat.le_of_ble_eq_true rfl)⟩ ⟨(Nat.le_of_ble_eq_true rfl), (Nat.le_of_ble_eq_true rfl)⟩ rfl ?_
  refine a_cVBv (q := 10) _ dX9_edgeFrequency_7 kX9_248 (m_lackC _) rfl rfl rfl (Nat.le_of_ble_eq_true rfl) ⟨(Nat.le_of_ble_eq_true rfl), (Nat.le_of_ble_eq_true rfl)⟩ ⟨(Nat.le_of_ble_eq_true rfl), (Nat.le_of_ble_eq_true rfl)⟩ rfl ?_
  rw [hl]
  refine a_putB (q := 13) dX9_edgeFrequency_10 fX9_81 (fun h => nomatch h) rfl (Nat.le_of_ble_eq_true rfl) rfl rfl rfl ?_
  refine a_aload_n (q := 14) dX9_edgeFrequency_13 rfl rfl rfl ?_
  refine a_getB (q := 17) dX9_edgeFrequency_14 fX9_81 rfl rfl rfl ?_
  refine a_if_leN (q := 20) 24 dX9_edgeFrequency_17 (by decide) (by omega) rfl (fun c17 => ?_) (fun c17 => ?_)
  · skip
    refine a_aload_n (q := 25) dX9_edgeFrequency_24 rfl rfl rfl ?_
    refine a_iload_n (q := 26) dX9_edgeFrequency_25 rfl rfl rfl ?_
    refine a_cVBv (q := 29) _ dX9_edgeFrequency_26 kX9_257 (m_frequency (G := G) (th := 0) k n (by omega) hg hn hY hf hfo) rfl rfl rfl (Nat.le_of_ble_eq_true rfl) ⟨(Nat.le_of_ble_eq_true rfl), (Nat.le_of_ble_eq_true rfl)⟩ ⟨(Nat.le_of_ble_eq_true rfl), (Nat.le_of_ble_eq_true rfl)⟩ rfl ?_
    exact a_iret dX9_edgeFrequency_29 rfl rfl (Nat.le_of_ble_eq_true rfl) (Nat.le_of_ble_eq_true rfl) (⟨rfl, rfl, rfl, rfl⟩)
  · exact absurd c17 (by decide)
theorem mx_edgeFrequency (x : Int32) (hg : gok G) (hl : 0 < lkN (cbl Y.1 (Y.2.2.1 0)) (inR x G.2.1)) : Ct g mX9_edgeFrequency [.ref (g.2.1 + 0), .int x] 0 A (BM g G T th Y W R Z U L h O) 0 0 (rP (some (.int (nI 0))) A (BM g G T (lkN (cbl Y.1 (Y.2.2.1 0)) (inR x G.2.1)) Y W R Z U L h O)) noX := by
  obtain ⟨g1, g2, g3, g4, g5⟩ := id hg
  have h9 := lkN_le (an := cbl Y.1 (Y.2.2.1 0)) (ok := inR x G.2.1)
  refine Ct.of [some (.ref (g.2.1 + 0)), some (.int x)] (by decide) rfl (Nat.le_of_ble_eq_true rfl) rfl ?_
  refine a_aload_n (q := 1) dX9_edgeFrequency_0 rfl rfl rfl ?_
  refine a_aload_n (q := 2) dX9_edgeFrequency_1 rfl rfl rfl ?_
  refine a_aload_n (q := 3) dX9_edgeFrequency_2 rfl rfl rfl ?_
  refine a_iload_n (q := 4) dX9_edgeFrequency_3 rfl rfl rfl ?_
  refine a_cVBv (q := 7) _ dX9_edgeFrequency_4 kX9_119 (m_isEdge _ g3) rfl rfl rfl (Nat.le_of_ble_eq_true rfl) ⟨(Nat.le_of_ble_eq_true rfl), (Nat.le_of_ble_eq_true rfl)⟩ ⟨(Nat.le_of_ble_eq_true rfl), (Nat.le_of_ble_eq_true rfl)⟩ rfl ?_
  refine a_cVBv (q := 10) _ dX9_edgeFrequency_7 kX9_248 (m_lackC _) rfl rfl rfl (Nat.le_of_ble_eq_true rfl) ⟨(Nat.le_of_ble_eq_true rfl), (Nat.le_of_ble_eq_true rfl)⟩ ⟨(Nat.le_of_ble_eq_true rfl), (Nat.le_of_ble_eq_true rfl)⟩ rfl ?_
  refine a_putB (q := 13) dX9_edgeFrequency_10 fX9_81 (fun h => nomatch h) rfl (Nat.le_of_ble_eq_true rfl) rfl rfl rfl ?_
  refine a_aload_n (q := 14) dX9_edgeFrequency_13 rfl rfl rfl ?_
  refine a_getB (q := 17) dX9_edgeFrequency_14 fX9_81 rfl rfl rfl ?_
  refine a_if_leN (q := 20) 24 dX9_edgeFrequency_17 (by decide) (by omega) rfl (fun c17 => ?_) (fun c17 => ?_)
  · omega
  · skip
    refine a_iconst (q := 21) (nI 0) dX9_edgeFrequency_20 (by decide) rfl ?_
    refine a_goto 29 dX9_edgeFrequency_21 (by decide) ?_
    exact a_iret dX9_edgeFrequency_29 rfl rfl (Nat.le_of_ble_eq_true rfl) (Nat.le_of_ble_eq_true rfl) (⟨rfl, rfl, rfl, rfl⟩)
def lx (h x : Int64) : Int64 := 31 * h + x
theorem m_mix (x : Int64) : Ct g mX9_mix [.ref (g.2.1 + 0), .long x] 0 A (BM g G T th Y W R Z U L h O) 0 0 (rP none A (BM g G T th Y W R Z U L (lx h x) O)) noX := by
  refine Ct.of [some (.ref (g.2.1 + 0)), some (.long x), none] (by decide) rfl (Nat.le_of_ble_eq_true rfl) rfl ?_
  refine a_aload_n (q := 1) dX9_mix_0 rfl rfl rfl ?_
  refine a_ldc2 (q := 4) _ dX9_mix_1 jX9_260 rfl ?_
  refine a_aload_n (q := 5) dX9_mix_4 rfl rfl rfl ?_
  refine a_getB (q := 8) dX9_mix_5 fX9_262 rfl rfl rfl ?_
  refine a_lmul (q := 9) dX9_mix_8 rfl ?_
  refine a_lload_n (q := 10) dX9_mix_9 rfl rfl rfl ?_
  refine a_ladd (q := 11) dX9_mix_10 rfl ?_
  refine a_putB (q := 14) dX9_mix_11 fX9_262 (fun h => nomatch h) rfl (Nat.le_of_ble_eq_true rfl) rfl rfl rfl ?_
  exact a_ret dX9_mix_14 rfl (Nat.le_of_ble_eq_true rfl) (Nat.le_of_ble_eq_true rfl) (⟨rfl, rfl, rfl, rfl⟩)
def mlm (vl inc : Nat → Int32) (l : Nat) (h : Int64) : Int64 := mx (mx h (vl l)) (inc l)
def meM (bk : Nat → Bool) (vl inc : Nat → Int32) : Nat → Nat → Int64 → Int64
  | 0, _, h => h
  | m + 1, k, h => meM bk vl inc m (k + 1) (mlm vl inc (mLo bk k true) (mlm vl inc (mLo bk k false) (mx h (b2 (bk k)))))
def maM (G : Gr) (Y : Ya) (h : Int64) : Int64 := mx (mx (meM Y.2.1 Y.2.2.2.1 Y.2.2.2.2.1 G.2.1 0 (mpF Y.2.2.1 G.1 0 h)) (nI (chF G Y.2.1 Y.2.2.2.2.2 false (2 * G.2.1) 0 0))) (nI (chF G Y.2.1 Y.2.2.2.2.2 true (2 * G.2.1) 0 0))
theorem l_mm1 (P : ps_T) (hg : gok G) : ∀ (m k : Nat) (h : Int64), G.1 - k = m → k ≤ G.1 → AW g mX9_mixAnalysis 0 0 P noX 0 0 27 [some (.ref (g.2.1 + 0)), some (.int (nI G.1))] [] 0 A (BM g G T th Y W R Z U L (mpF Y.2.2.1 m k h) O) → AW g mX9_mixAnalysis 0 0 P noX 0 0 2 [some (.ref (g.2.1 + 0)), some (.int (nI k))] [] 0 A (BM g G T th Y W R Z U L h O) := by
  intro m
  obtain ⟨g1, g2, g3, g4, g5⟩ := id hg
  induction m with
  | zero =>
    intro k h hm hk hp
    have hk2 : k = G.1 := by omega
    subst hk2
    refine a_iload_n (q := 3) dX9_mixAnalysis_2 rfl rfl rfl ?_
    refine a_aload_n (q := 4) dX9_mixAnalysis_3 rfl rfl rfl ?_
    refine a_getB (q := 7) dX9_mixAnalysis_4 fX9_7 rfl rfl rfl ?_
    refine a_icmp_geN (q := 10) 27 dX9_mixAnalysis_7 (by decide) (by omega) (by omega) rfl (fun c7 => ?_) (fun c7 => ?_)
    · skip
      exact hp
    · omega
  | succ m ih =>
    intro k h hm hk hp
    unfold mpF at hp
    refine a_iload_n (q := 3) dX9_mixAnalysis_2 rfl rfl rfl ?_
    refine a_aload_n (q := 4) dX9_mixAnalysis_3 rfl rfl rfl ?_
    refine a_getB (q := 7) dX9_mixAnalysis_4 fX9_7 rfl rfl rfl ?_
    refine a_icmp_geN (q := 10) 27 dX9_mixAnalysis_7 (by decide) (by omega) (by omega) rfl (fun c7 => ?_) (fun c7 => ?_)
    · omega
    · skip
      refine a_aload_n (q := 11) dX9_mixAnalysis_10 rfl rfl rfl ?_
      refine a_aload_n (q := 12) dX9_mixAnalysis_11 rfl rfl rfl ?_
      refine a_getB (q := 15) dX9_mixAnalysis_12 fX9_30 rfl rfl rfl ?_
      refine a_iload_n (q := 16) dX9_mixAnalysis_15 rfl rfl rfl ?_
      refine a_ialdBI (q := 17) dX9_mixAnalysis_16 rfl (by omega) (by decide) rfl ?_
      refine a_i2l (q := 18) dX9_mixAnalysis_17 rfl ?_
      refine a_cVB0 (q := 21) _ dX9_mixAnalysis_18 kX9_266 (m_mix (h := h) (Y.2.2.1 k).toInt64) rfl rfl rfl (Nat.le_of_ble_eq_true rfl) ⟨(Nat.le_of_ble_eq_true rfl), (Nat.le_of_ble_eq_true rfl)⟩ ⟨(Nat.le_of_ble_eq_true rfl), (Nat.le_of_ble_eq_true rfl)⟩ rfl ?_
      refine a_iincN (q := 24) (c := 1) dX9_mixAnalysis_21 rfl (by decide) rfl rfl ?_
      refine a_goto 2 dX9_mixAnalysis_24 (by decide) ?_
      exact ih (k + 1) (mx h (Y.2.2.1 k)) (by omega) (by omega) hp
theorem l_mm2 (P : ps_T) (hg : gok G) : ∀ (m k : Nat) (h : Int64), G.2.1 - k = m → k ≤ G.2.1 → AW g mX9_mixAnalysis 0 0 P noX 0 0 125 [some (.ref (g.2.1 + 0)), some (.int (nI G.2.1))] [] 0 A (BM g G T th Y W R Z U L (meM Y.2.1 Y.2.2.2.1 Y.2.2.2.2.1 m k h) O) → AW g mX9_mixAnalysis 0 0 P noX 0 0 29 [some (.ref (g.2.1 + 0)), some (.int (nI k))] [] 0 A (BM g G T th Y W R Z U L h O) := by
  intro m
  obtain ⟨g1, g2, g3, g4, g5⟩ := id hg
  induction m with
  | zero =>
    intro k h hm hk hp
    have hk2 : k = G.2.1 := by omega
    subst hk2
    refine a_iload_n (q := 30) dX9_mixAnalysis_29 rfl rfl rfl ?_
    refine a_aload_n (q := 31) dX9_mixAnalysis_30 rfl rfl rfl ?_
    refine a_getB (q := 34) dX9_mixAnalysis_31 fX9_101 rfl rfl rfl ?_
    refine a_icmp_geN (q := 37) 125 dX9_mixAnalysis_34 (by decide) (by omega) (by omega) rfl (fun c34 => ?_) (fun c34 => ?_)
    · skip
      exact hp
    · omega
  | succ m ih =>
    intro k h hm hk hp
    unfold meM at hp
    have h1 := mLo_lt (bk := Y.2.1) (b := false) (show k < 24 by omega)
    have h2 := mLo_lt (bk := Y.2.1) (b := true) (show k < 24 by omega)
    have hq := ih (k + 1) _ (by omega) (by omega) hp
    have hst : AW g mX9_mixAnalysis 0 0 P noX 0 0 55 [some (.ref (g.2.1 + 0)), some (.int (nI k))] [] 0 A (BM g G T th Y W R Z U L (mx h (b2 (Y.2.1 k))) O) := by
      skip
      refine a_aload_n (q := 56) dX9_mixAnalysis_55 rfl rfl rfl ?_
      refine a_aload_n (q := 57) dX9_mixAnalysis_56 rfl rfl rfl ?_
      refine a_getB (q := 60) dX9_mixAnalysis_57 fX9_33 rfl rfl rfl ?_
      refine a_aload_n (q := 61) dX9_mixAnalysis_60 rfl rfl rfl ?_
      refine a_iload_n (q := 62) dX9_mixAnalysis_61 rfl rfl rfl ?_
      refine a_iconst (q := 63) (b2 false) dX9_mixAnalysis_62 (by decide) rfl ?_
      refine a_cVBv (q := 66) _ dX9_mixAnalysis_63 kX9_196 (m_linkOf (h := mx h (b2 (Y.2.1 k))) k false (by omega)) rfl rfl rfl (Nat.le_of_ble_eq_true rfl) ⟨(Nat.le_of_ble_eq_true rfl), (Nat.le_of_ble_eq_true rfl)⟩ ⟨(Nat.le_of_ble_eq_true rfl), (Nat.le_of_ble_eq_true rfl)⟩ rfl ?_
      refine a_ialdBI (q := 67) dX9_mixAnalysis_66 rfl (by omega) (by decide) rfl ?_
      refine a_i2l (q := 68) dX9_mixAnalysis_67 rfl ?_
      refine a_cVB0 (q := 71) _ dX9_mixAnalysis_68 kX9_266 (m_mix (h := mx h (b2 (Y.2.1 k))) (Y.2.2.2.1 (mLo Y.2.1 k false)).toInt64) rfl rfl rfl (Nat.le_of_ble_eq_true rfl) ⟨(Nat.le_of_ble_eq_true rfl), (Nat.le_of_ble_eq_true rfl)⟩ ⟨(Nat.le_of_ble_eq_true rfl), (Nat.le_of_ble_eq_true rfl)⟩ rfl ?_
      refine a_aload_n (q := 72) dX9_mixAnalysis_71 rfl rfl rfl ?_
      refine a_aload_n (q := 73) dX9_mixAnalysis_72 rfl rfl rfl ?_
      refine a_getB (q := 76) dX9_mixAnalysis_73 fX9_36 rfl rfl rfl ?_
      refine a_aload_n (q := 77) dX9_mixAnalysis_76 rfl rfl rfl ?_
      refine a_iload_n (q := 78) dX9_mixAnalysis_77 rfl rfl rfl ?_
      refine a_iconst (q := 79) (b2 false) dX9_mixAnalysis_78 (by decide) rfl ?_
      refine a_cVBv (q := 82) _ dX9_mixAnalysis_79 kX9_196 (m_linkOf (h := mx (mx h (b2 (Y.2.1 k))) (Y.2.2.2.1 (mLo Y.2.1 k false))) k false (by omega)) rfl rfl rfl (Nat.le_of_ble_eq_true rfl) ⟨(Nat.le_of_ble_eq_true rfl), (Nat.le_of_ble_eq_true rfl)⟩ ⟨(Nat.le_of_ble_eq_true rfl), (Nat.le_of_ble_eq_true rfl)⟩ rfl ?_
      refine a_ialdBI (q := 83) dX9_mixAnalysis_82 rfl (by omega) (by decide) rfl ?_
      refine a_i2l (q := 84) dX9_mixAnalysis_83 rfl ?_
      refine a_cVB0 (q := 87) _ dX9_mixAnalysis_84 kX9_266 (m_mix (h := mx (mx h (b2 (Y.2.1 k))) (Y.2.2.2.1 (mLo Y.2.1 k false))) (Y.2.2.2.2.1 (mLo Y.2.1 k false)).toInt64) rfl rfl rfl (Nat.le_of_ble_eq_true rfl) ⟨(Nat.le_of_ble_eq_true rfl), (Nat.le_of_ble_eq_true rfl)⟩ ⟨(Nat.le_of_ble_eq_true rfl), (Nat.le_of_ble_eq_true rfl)⟩ rfl ?_
      refine a_aload_n (q := 88) dX9_mixAnalysis_87 rfl rfl rfl ?_
      refine a_aload_n (q := 89) dX9_mixAnalysis_88 rfl rfl rfl ?_
      refine a_getB (q := 92) dX9_mixAnalysis_89 fX9_33 rfl rfl rfl ?_
      refine a_aload_n (q := 93) dX9_mixAnalysis_92 rfl rfl rfl ?_
      refine a_iload_n (q := 94) dX9_mixAnalysis_93 rfl rfl rfl ?_
      refine a_iconst (q := 95) (b2 true) dX9_mixAnalysis_94 (by decide) rfl ?_
      refine a_cVBv (q := 98) _ dX9_mixAnalysis_95 kX9_196 (m_linkOf (h := mlm Y.2.2.2.1 Y.2.2.2.2.1 (mLo Y.2.1 k false) (mx h (b2 (Y.2.1 k)))) k true (by omega)) rfl rfl rfl (Nat.le_of_ble_eq_true rfl) ⟨(Nat.le_of_ble_eq_true rfl), (Nat.le_of_ble_eq_true rfl)⟩ ⟨(Nat.le_of_ble_eq_true rfl), (Nat.le_of_ble_eq_true rfl)⟩ rfl ?_
      refine a_ialdBI (q := 99) dX9_mixAnalysis_98 rfl (by omega) (by decide) rfl ?_
      refine a_i2l (q := 100) dX9_mixAnalysis_99 rfl ?_
      refine a_cVB0 (q := 103) _ dX9_mixAnalysis_100 kX9_266 (m_mix (h := mlm Y.2.2.2.1 Y.2.2.2.2.1 (mLo Y.2.1 k false) (mx h (b2 (Y.2.1 k)))) (Y.2.2.2.1 (mLo Y.2.1 k true)).toInt64) rfl rfl rfl (Nat.le_of_ble_eq_true rfl) ⟨(Nat.le_of_ble_eq_true rfl), (Nat.le_of_ble_eq_true rfl)⟩ ⟨(Nat.le_of_ble_eq_true rfl), (Nat.le_of_ble_eq_true rfl)⟩ rfl ?_
      refine a_aload_n (q := 104) dX9_mixAnalysis_103 rfl rfl rfl ?_
      refine a_aload_n (q := 105) dX9_mixAnalysis_104 rfl rfl rfl ?_
      refine a_getB (q := 108) dX9_mixAnalysis_105 fX9_36 rfl rfl rfl ?_
      refine a_aload_n (q := 109) dX9_mixAnalysis_108 rfl rfl rfl ?_
      refine a_iload_n (q := 110) dX9_mixAnalysis_109 rfl rfl rfl ?_
      refine a_iconst (q := 111) (b2 true) dX9_mixAnalysis_110 (by decide) rfl ?_
      refine a_cVBv (q := 114) _ dX9_mixAnalysis_111 kX9_196 (m_linkOf (h := mx (mlm Y.2.2.2.1 Y.2.2.2.2.1 (mLo Y.2.1 k false) (mx h (b2 (Y.2.1 k)))) (Y.2.2.2.1 (mLo Y.2.1 k true))) k true (by omega)) rfl rfl rfl (Nat.le_of_ble_eq_true rfl) ⟨(Nat.le_of_ble_eq_true rfl), (Nat.le_of_ble_eq_true rfl)⟩ ⟨(Nat.le_of_ble_eq_true rfl), (Nat.le_of_ble_eq_true rfl)⟩ rfl ?_
      refine a_ialdBI (q := 115) dX9_mixAnalysis_114 rfl (by omega) (by decide) rfl ?_
      refine a_i2l (q := 116) dX9_mixAnalysis_115 rfl ?_
      refine a_cVB0 (q := 119) _ dX9_mixAnalysis_116 kX9_266 (m_mix (h := mx (mlm Y.2.2.2.1 Y.2.2.2.2.1 (mLo Y.2.1 k false) (mx h (b2 (Y.2.1 k)))) (Y.2.2.2.1 (mLo Y.2.1 k true))) (Y.2.2.2.2.1 (mLo Y.2.1 k true)).toInt64) rfl rfl rfl (Nat.le_of_ble_eq_true rfl) ⟨(Nat.le_of_ble_eq_true rfl), (Nat.le_of_ble_eq_true rfl)⟩ ⟨(Nat.le_of_ble_eq_true rfl), (Nat.le_of_ble_eq_true rfl)⟩ rfl ?_
      refine a_iincN (q := 122) (c := 1) dX9_mixAnalysis_119 rfl (by decide) rfl rfl ?_
      refine a_goto 29 dX9_mixAnalysis_122 (by decide) ?_
      exact hq
    refine a_iload_n (q := 30) dX9_mixAnalysis_29 rfl rfl rfl ?_
    refine a_aload_n (q := 31) dX9_mixAnalysis_30 rfl rfl rfl ?_
    refine a_getB (q := 34) dX9_mixAnalysis_31 fX9_101 rfl rfl rfl ?_
    refine a_icmp_geN (q := 37) 125 dX9_mixAnalysis_34 (by decide) (by omega) (by omega) rfl (fun c34 => ?_) (fun c34 => ?_)
    · omega
    · skip
      refine a_aload_n (q := 38) dX9_mixAnalysis_37 rfl rfl rfl ?_
      refine a_aload_n (q := 39) dX9_mixAnalysis_38 rfl rfl rfl ?_
      refine a_getB (q := 42) dX9_mixAnalysis_39 fX9_26 rfl rfl rfl ?_
      refine a_iload_n (q := 43) dX9_mixAnalysis_42 rfl rfl rfl ?_
      refine a_zaldBN (q := 44) dX9_mixAnalysis_43 rfl (by omega) (by decide) rfl ?_
      refine a_if_eqZ (q := 47) 51 dX9_mixAnalysis_44 (by decide) rfl (fun c44 => ?_) (fun c44 => ?_)
      · rw [show Y.2.1 k = false from c44] at hst
        refine a_lconst (q := 52) 0 dX9_mixAnalysis_51 (by decide) rfl ?_
        refine a_cVB0 (q := 55) _ dX9_mixAnalysis_52 kX9_266 (m_mix (h := h) _) rfl rfl rfl (Nat.le_of_ble_eq_true rfl) ⟨(Nat.le_of_ble_eq_true rfl), (Nat.le_of_ble_eq_true rfl)⟩ ⟨(Nat.le_of_ble_eq_true rfl), (Nat.le_of_ble_eq_true rfl)⟩ rfl ?_
        exact hst
      · rw [show Y.2.1 k = true from c44] at hst
        refine a_lconst (q := 48) 1 dX9_mixAnalysis_47 (by decide) rfl ?_
        refine a_goto 52 dX9_mixAnalysis_48 (by decide) ?_
        refine a_cVB0 (q := 55) _ dX9_mixAnalysis_52 kX9_266 (m_mix (h := h) _) rfl rfl rfl (Nat.le_of_ble_eq_true rfl) ⟨(Nat.le_of_ble_eq_true rfl), (Nat.le_of_ble_eq_true rfl)⟩ ⟨(Nat.le_of_ble_eq_true rfl), (Nat.le_of_ble_eq_true rfl)⟩ rfl ?_
        exact hst
theorem m_mixAnalysis1 (hg : gok G) (hw : ∀ i, i < 24 → G.2.2.2.2 i ≤ 99) (hc : cbl Y.1 (Y.2.2.1 0) = false) : Ct g mX9_mixAnalysis [.ref (g.2.1 + 0)] 0 A (BM g G T th Y W R Z U L h O) 0 0 (rP none A (BM g G T th Y W R Z U L (maM G Y h) O)) noX := by
  refine Ct.of [some (.ref (g.2.1 + 0)), none] (by decide) rfl (Nat.le_of_ble_eq_true rfl) rfl ?_
  refine a_iconst (q := 1) (nI 0) dX9_mixAnalysis_0 (by decide) rfl ?_
  refine a_istore_n (q := 2) dX9_mixAnalysis_1 rfl (Nat.le_of_ble_eq_true rfl) rfl rfl ?_
  refine l_mm1 _ hg _ 0 h rfl (Nat.zero_le _) ?_
  refine a_iconst (q := 28) (nI 0) dX9_mixAnalysis_27 (by decide) rfl ?_
  refine a_istore_n (q := 29) dX9_mixAnalysis_28 rfl (Nat.le_of_ble_eq_true rfl) rfl rfl ?_
  refine l_mm2 _ hg _ 0 _ rfl (Nat.zero_le _) ?_
  refine a_aload_n (q := 126) dX9_mixAnalysis_125 rfl rfl rfl ?_
  refine a_aload_n (q := 127) dX9_mixAnalysis_126 rfl rfl rfl ?_
  refine a_iconst (q := 128) (b2 false) dX9_mixAnalysis_127 (by decide) rfl ?_
  refine a_cVBv (q := 131) _ dX9_mixAnalysis_128 kX9_200 (m_chordSum (h := meM Y.2.1 Y.2.2.2.1 Y.2.2.2.2.1 G.2.1 0 (mpF Y.2.2.1 G.1 0 h)) false hg hw) rfl rfl rfl (Nat.le_of_ble_eq_true rfl) ⟨(Nat.le_of_ble_eq_true rfl), (Nat.le_of_ble_eq_true rfl)⟩ ⟨(Nat.le_of_ble_eq_true rfl), (Nat.le_of_ble_eq_true rfl)⟩ rfl ?_
  refine a_i2l (q := 132) dX9_mixAnalysis_131 rfl ?_
  refine a_cVB0 (q := 135) _ dX9_mixAnalysis_132 kX9_266 (m_mix (h := meM Y.2.1 Y.2.2.2.1 Y.2.2.2.2.1 G.2.1 0 (mpF Y.2.2.1 G.1 0 h)) (nI (chF G Y.2.1 Y.2.2.2.2.2 false (2 * G.2.1) 0 0)).toInt64) rfl rfl rfl (Nat.le_of_ble_eq_true rfl) ⟨(Nat.le_of_ble_eq_true rfl), (Nat.le_of_ble_eq_true rfl)⟩ ⟨(Nat.le_of_ble_eq_true rfl), (Nat.le_of_ble_eq_true rfl)⟩ rfl ?_
  refine a_aload_n (q := 136) dX9_mixAnalysis_135 rfl rfl rfl ?_
  refine a_aload_n (q := 137) dX9_mixAnalysis_136 rfl rfl rfl ?_
  refine a_iconst (q := 138) (b2 true) dX9_mixAnalysis_137 (by decide) rfl ?_
  refine a_cVBv (q := 141) _ dX9_mixAnalysis_138 kX9_200 (m_chordSum (h := mx (meM Y.2.1 Y.2.2.2.1 Y.2.2.2.2.1 G.2.1 0 (mpF Y.2.2.1 G.1 0 h)) (nI (chF G Y.2.1 Y.2.2.2.2.2 false (2 * G.2.1) 0 0))) true hg hw) rfl rfl rfl (Nat.le_of_ble_eq_true rfl) ⟨(Nat.le_of_ble_eq_true rfl), (Nat.le_of_ble_eq_true rfl)⟩ ⟨(Nat.le_of_ble_eq_true rfl), (Nat.le_of_ble_eq_true rfl)⟩ rfl ?_
  refine a_i2l (q := 142) dX9_mixAnalysis_141 rfl ?_
  refine a_cVB0 (q := 145) _ dX9_mixAnalysis_142 kX9_266 (m_mix (h := mx (meM Y.2.1 Y.2.2.2.1 Y.2.2.2.2.1 G.2.1 0 (mpF Y.2.2.1 G.1 0 h)) (nI (chF G Y.2.1 Y.2.2.2.2.2 false (2 * G.2.1) 0 0))) (nI (chF G Y.2.1 Y.2.2.2.2.2 true (2 * G.2.1) 0 0)).toInt64) rfl rfl rfl (Nat.le_of_ble_eq_true rfl) ⟨(Nat.le_of_ble_eq_true rfl), (Nat.le_of_ble_eq_true rfl)⟩ ⟨(Nat.le_of_ble_eq_true rfl), (Nat.le_of_ble_eq_true rfl)⟩ rfl ?_
  refine a_iconst (q := 146) (nI 0) dX9_mixAnalysis_145 (by decide) rfl ?_
  refine a_istore_n (q := 147) dX9_mixAnalysis_146 rfl (Nat.le_of_ble_eq_true rfl) rfl rfl ?_
  refine a_aload_n (q := 148) dX9_mixAnalysis_147 rfl rfl rfl ?_
  refine a_cVBv (q := 151) _ dX9_mixAnalysis_148 kX9_237 (m_counts (h := maM G Y h)) rfl rfl rfl (Nat.le_of_ble_eq_true rfl) ⟨(Nat.le_of_ble_eq_true rfl), (Nat.le_of_ble_eq_true rfl)⟩ ⟨(Nat.le_of_ble_eq_true rfl), (Nat.le_of_ble_eq_true rfl)⟩ rfl ?_
  refine a_if_eqZ (q := 154) 181 dX9_mixAnalysis_151 (by decide) rfl (fun c151 => ?_) (fun c151 => ?_)
  · skip
    exact a_ret dX9_mixAnalysis_181 rfl (Nat.le_of_ble_eq_true rfl) (Nat.le_of_ble_eq_true rfl) (⟨rfl, rfl, rfl, rfl⟩)
  · rw [hc] at c151; cases c151
end MDigest

