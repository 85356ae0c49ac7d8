/-! ===== the reference: frequencies and the digest ===== -/
def folD (G : Gr) (Y : Ya) (x : Int32) (q : La) : La := (fol G Y.2.1 Y.2.2.1 Y.2.2.2.1 x q).getD q
def hasL (q : La) (l : Nat) : Bool := anyR q.2 (fun i => decide (q.1 i = l))
def fqF (G : Gr) (Y : Ya) (f : Nat → Nat) (l : Nat) : Nat → Nat → Nat → La → Nat × La
  | 0, _, s, q => (s, q)
  | m + 1, p, s, q => if f p = 0 then fqF G Y f l m (p + 1) s q else fqF G Y f l m (p + 1) (s + (if hasL (folD G Y (nI p) q) l = true then f p else 0)) (folD G Y (nI p) q)
section MDigest
variable {g : gp_T} {A : List va_E} {G : Gr} {T : Tx} {th : Nat} {Y : Ya} {W : Wa} {R : Ra} {Z : Za} {U : Ua} {L : La} {h : Int64} {O : Oa}
theorem l_fq1 (P : ps_T) (k p s : Nat) (hk : k < 24) (h1 : ∀ i, i < L.2 → L.1 i < 48) (h2 : L.2 ≤ 12) (hp : ∀ L5 : Option Value, AW g mX9_frequency 0 0 P noX 0 0 74 [some (.ref (g.2.1 + 0)), some (.int (nI k)), some (.int (nI s)), some (.int (nI p)), some (.int (b2 (hasL L (2 * k)))), L5] [] 0 A (BM g G T th Y W R Z U L h O)) : ∀ (m i : Nat) (q : Bool), L.2 - i = m → i ≤ L.2 → q = anyR i (fun j => decide (L.1 j = 2 * k)) → AW g mX9_frequency 0 0 P noX 0 0 34 [some (.ref (g.2.1 + 0)), some (.int (nI k)), some (.int (nI s)), some (.int (nI p)), some (.int (b2 q)), some (.int (nI i))] [] 0 A (BM g G T th Y W R Z U L h O) := by
  intro m
  induction m with
  | zero =>
    intro i q hm hi hq
    have hi2 : i = L.2 := by omega
    subst hi2
    subst hq
    refine a_iload (q := 36) dX9_frequency_34 rfl rfl ?_
    refine a_aload_n (q := 37) dX9_frequency_36 rfl rfl rfl ?_
    refine a_getB (q := 40) dX9_frequency_37 fX9_203 rfl rfl rfl ?_
    refine a_icmp_geN (q := 43) 74 dX9_frequency_40 (by decide) (by omega) (by omega) rfl (fun c40 => ?_) (fun c40 => ?_)
    · skip
      exact hp _
    · omega
  | succ m ih =>
    intro i q hm hi hq
    have h3 := h1 i (by omega)
    have hz := fun q' => ih (i + 1) q' (by omega) (by omega)
    have ht : anyR i (fun j => decide (L.1 j = 2 * k)) = true → anyR (i + 1) (fun j => decide (L.1 j = 2 * k)) = true := fun z => by
      obtain ⟨j, j1, j2⟩ := anyR_tE z
      exact anyR_t (k := j) (by omega) j2
    refine a_iload (q := 36) dX9_frequency_34 rfl rfl ?_
    refine a_aload_n (q := 37) dX9_frequency_36 rfl rfl rfl ?_
    refine a_getB (q := 40) dX9_frequency_37 fX9_203 rfl rfl rfl ?_
    refine a_icmp_geN (q := 43) 74 dX9_frequency_40 (by decide) (by omega) (by omega) rfl (fun c40 => ?_) (fun c40 => ?_)
    · omega
    · skip
      refine a_iload (q := 45) dX9_frequency_43 rfl rfl ?_
      refine a_if_neZ (q := 48) 61 dX9_frequency_45 (by decide) rfl (fun c45 => ?_) (fun c45 => ?_)
      · have hy := hz true (by rw [ht (by rw [← hq]; exact c45)])
        refine a_iconst (q := 62) (b2 true) dX9_frequency_61 (by decide) rfl ?_
        refine a_goto 66 dX9_frequency_62 (by decide) ?_
        refine a_istore (q := 68) dX9_frequency_66 (Nat.le_of_ble_eq_true rfl) rfl rfl ?_
        refine a_iincN (q := 71) (c := 1) dX9_frequency_68 rfl (by decide) rfl rfl ?_
        refine a_goto 34 dX9_frequency_71 (by decide) ?_
        exact hy
      · skip
        refine a_aload_n (q := 49) dX9_frequency_48 rfl rfl rfl ?_
        refine a_getB (q := 52) dX9_frequency_49 fX9_78 rfl rfl rfl ?_
        refine a_iload (q := 54) dX9_frequency_52 rfl rfl ?_
        refine a_ialdBN (q := 55) dX9_frequency_54 rfl (by omega) (by decide) rfl ?_
        refine a_iconst (q := 56) (nI 2) dX9_frequency_55 (by decide) rfl ?_
        refine a_iload_n (q := 57) dX9_frequency_56 rfl rfl rfl ?_
        refine a_imulN (q := 58) dX9_frequency_57 rfl ?_
        refine a_icmp_neN (q := 61) 65 dX9_frequency_58 (by decide) (by omega) (by omega) rfl (fun c58 => ?_) (fun c58 => ?_)
        · have hy := hz false (by
            rw [anyR_f (fun j hj => ?_)]
            by_cases e : j = i
            · rw [e]; exact decide_eq_false c58
            · exact anyR_fE (by rw [← hq]; exact c45) j (by omega))
          refine a_iconst (q := 66) (b2 false) dX9_frequency_65 (by decide) rfl ?_
          refine a_istore (q := 68) dX9_frequency_66 (Nat.le_of_ble_eq_true rfl) rfl rfl ?_
          refine a_iincN (q := 71) (c := 1) dX9_frequency_68 rfl (by decide) rfl rfl ?_
          refine a_goto 34 dX9_frequency_71 (by decide) ?_
          exact hy
        · have hy := hz true (by rw [anyR_t (k := i) (by omega) (decide_eq_true c58)])
          refine a_iconst (q := 62) (b2 true) dX9_frequency_61 (by decide) rfl ?_
          refine a_goto 66 dX9_frequency_62 (by decide) ?_
          refine a_istore (q := 68) dX9_frequency_66 (Nat.le_of_ble_eq_true rfl) rfl rfl ?_
          refine a_iincN (q := 71) (c := 1) dX9_frequency_68 rfl (by decide) rfl rfl ?_
          refine a_goto 34 dX9_frequency_71 (by decide) ?_
          exact hy
theorem l_fq (P : ps_T) (k n : Nat) (hk : k < 24) (hg : gok G) (hn : n ≤ 200) (hY : Y.2.2.1 0 = nI n) (hf : ∀ i, i < 200 → W.2.2.2.2 i < big) (hfo : ∀ p, p < n → W.2.2.2.2 p ≠ 0 → ∀ q, ∃ q', fol G Y.2.1 Y.2.2.1 Y.2.2.2.1 (nI p) q = some q') : ∀ (m p s : Nat) (L4 L5 : Option Value) (q : La), n - p = m → p ≤ n → P (some (.int (nI (fqF G Y W.2.2.2.2 (2 * k) m p s q).1))) 0 A (BM g G T th Y W R Z U (fqF G Y W.2.2.2.2 (2 * k) m p s q).2 h O) → AW g mX9_frequency 0 0 P noX 0 0 4 [some (.ref (g.2.1 + 0)), some (.int (nI k)), some (.int (nI s)), some (.int (nI p)), L4, L5] [] 0 A (BM g G T th Y W R Z U q h O) := by
  intro m
  obtain ⟨g1, g2, g3, g4, g5⟩ := id hg
  induction m with
  | zero =>
    intro p s L4 L5 q hm hp hP
    refine a_iload_n (q := 5) dX9_frequency_4 rfl rfl rfl ?_
    refine a_aload_n (q := 6) dX9_frequency_5 rfl rfl rfl ?_
    refine a_getB (q := 9) dX9_frequency_6 fX9_30 rfl rfl rfl ?_
    refine a_iconst (q := 10) (nI 0) dX9_frequency_9 (by decide) rfl ?_
    refine a_ialdBI (q := 11) dX9_frequency_10 rfl (by omega) (by decide) rfl ?_
    rw [hY]
    refine a_icmp_ge (q := 14) 98 dX9_frequency_11 (by decide) rfl (fun c11 => ?_) (fun c11 => ?_)
    · skip
      refine a_iload_n (q := 99) dX9_frequency_98 rfl rfl rfl ?_
      exact a_iret dX9_frequency_99 rfl rfl (Nat.le_of_ble_eq_true rfl) (Nat.le_of_ble_eq_true rfl) (hP)
    · exact absurd (nI_le (show n ≤ p by omega) (by omega)) c11
  | succ m ih =>
    intro p s L4 L5 q hm hp hP
    have h1 := hf p (by omega)
    unfold big at h1
    unfold fqF at hP
    refine a_iload_n (q := 5) dX9_frequency_4 rfl rfl rfl ?_
    refine a_aload_n (q := 6) dX9_frequency_5 rfl rfl rfl ?_
    refine a_getB (q := 9) dX9_frequency_6 fX9_30 rfl rfl rfl ?_
    refine a_iconst (q := 10) (nI 0) dX9_frequency_9 (by decide) rfl ?_
    refine a_ialdBI (q := 11) dX9_frequency_10 rfl (by omega) (by decide) rfl ?_
    rw [hY]
    refine a_icmp_ge (q := 14) 98 dX9_frequency_11 (by decide) rfl (fun c11 => ?_) (fun c11 => ?_)
    · exact absurd c11 (nI_ge (by omega) (by omega))
    · skip
      refine a_aload_n (q := 15) dX9_frequency_14 rfl rfl rfl ?_
      refine a_getB (q := 18) dX9_frequency_15 fX9_42 rfl rfl rfl ?_
      refine a_iload_n (q := 19) dX9_frequency_18 rfl rfl rfl ?_
      refine a_ialdBN (q := 20) dX9_frequency_19 rfl (by omega) (by decide) rfl ?_
      refine a_if_leN (q := 23) 92 dX9_frequency_20 (by decide) (by omega) rfl (fun c20 => ?_) (fun c20 => ?_)
      · rw [if_pos (by omega)] at hP
        have hy := fun L4 L5 => ih (p + 1) s L4 L5 q (by omega) (by omega) hP
        refine a_iincN (q := 95) (c := 1) dX9_frequency_92 rfl (by decide) rfl rfl ?_
        refine a_goto 4 dX9_frequency_95 (by decide) ?_
        exact hy _ _
      · rw [if_neg (by omega)] at hP
        obtain ⟨q', hq'⟩ := hfo p (by omega) (by omega) q
        rw [show folD G Y (nI p) q = q' by unfold folD; rw [hq']; rfl] at hP
        obtain ⟨f1, f2, f3⟩ := fol_ok g3 g1 hq'
        have hy := fun L4 L5 => ih (p + 1) (s + (if hasL q' (2 * k) = true then W.2.2.2.2 p else 0)) L4 L5 q' (by omega) (by omega) hP
        refine a_aload_n (q := 24) dX9_frequency_23 rfl rfl rfl ?_
        refine a_iload_n (q := 25) dX9_frequency_24 rfl rfl rfl ?_
        refine a_cVB0 (q := 28) _ dX9_frequency_25 kX9_212 (m_follow (nI p) hg q' hq') rfl rfl rfl (Nat.le_of_ble_eq_true rfl) ⟨(Nat.le_of_ble_eq_true rfl), (Nat.le_of_ble_eq_true rfl)⟩ ⟨(Nat.le_of_ble_eq_true rfl), (Nat.le_of_ble_eq_true rfl)⟩ rfl ?_
        refine a_iconst (q := 29) (b2 false) dX9_frequency_28 (by decide) rfl ?_
        refine a_istore (q := 31) dX9_frequency_29 (Nat.le_of_ble_eq_true rfl) rfl rfl ?_
        refine a_iconst (q := 32) (nI 0) dX9_frequency_31 (by decide) rfl ?_
        refine a_istore (q := 34) dX9_frequency_32 (Nat.le_of_ble_eq_true rfl) rfl rfl ?_
        refine l_fq1 (L := q') P k p s hk f3 f2 (fun L5 => ?_) _ 0 false rfl (Nat.zero_le _) rfl
        refine a_iload_n (q := 75) dX9_frequency_74 rfl rfl rfl ?_
        refine a_iload (q := 77) dX9_frequency_75 rfl rfl ?_
        refine a_if_eqZ (q := 80) 89 dX9_frequency_77 (by decide) rfl (fun c77 => ?_) (fun c77 => ?_)
        · rw [if_neg (show ¬ hasL q' (2 * k) = true by rw [c77]; decide)] at hy
          refine a_iconst (q := 90) (nI 0) dX9_frequency_89 (by decide) rfl ?_
          refine a_iaddN (q := 91) dX9_frequency_90 rfl ?_
          refine a_istore_n (q := 92) dX9_frequency_91 rfl (Nat.le_of_ble_eq_true rfl) rfl rfl ?_
          refine a_iincN (q := 95) (c := 1) dX9_frequency_92 rfl (by decide) rfl rfl ?_
          refine a_goto 4 dX9_frequency_95 (by decide) ?_
          exact hy _ _
        · rw [if_pos (show hasL q' (2 * k) = true from c77)] at hy
          refine a_aload_n (q := 81) dX9_frequency_80 rfl rfl rfl ?_
          refine a_getB (q := 84) dX9_frequency_81 fX9_42 rfl rfl rfl ?_
          refine a_iload_n (q := 85) dX9_frequency_84 rfl rfl rfl ?_
          refine a_ialdBN (q := 86) dX9_frequency_85 rfl (by omega) (by decide) rfl ?_
          refine a_goto 90 dX9_frequency_86 (by decide) ?_
          refine a_iaddN (q := 91) dX9_frequency_90 rfl ?_
          refine a_istore_n (q := 92) dX9_frequency_91 rfl (Nat.le_of_ble_eq_true rfl) rfl rfl ?_
          refine a_iincN (q := 95) (c := 1) dX9_frequency_92 rfl (by decide) rfl rfl ?_
          refine a_goto 4 dX9_frequency_95 (by decide) ?_
          exact hy _ _
theorem m_frequency (k n : Nat) (hk : k < 24) (hg : gok G) (hn : n ≤ 200) (hY : Y.2.2.1 0 = nI n) (hf : ∀ i, i < 200 → W.2.2.2.2 i < big) (hfo : ∀ p, p < n → W.2.2.2.2 p ≠ 0 → ∀ q, ∃ q', fol G Y.2.1 Y.2.2.1 Y.2.2.2.1 (nI p) q = some q') : Ct g mX9_frequency [.ref (g.2.1 + 0), .int (nI k)] 0 A (BM g G T th Y W R Z U L h O) 0 0 (rP (some (.int (nI (fqF G Y W.2.2.2.2 (2 * k) n 0 0 L).1))) A (BM g G T th Y W R Z U (fqF G Y W.2.2.2.2 (2 * k) n 0 0 L).2 h O)) noX := by
  refine Ct.of [some (.ref (g.2.1 + 0)), some (.int (nI k)), none, none, none, none] (by decide) rfl (Nat.le_of_ble_eq_true rfl) rfl ?_
  refine a_iconst (q := 1) (nI 0) dX9_frequency_0 (by decide) rfl ?_
  refine a_istore_n (q := 2) dX9_frequency_1 rfl (Nat.le_of_ble_eq_true rfl) rfl rfl ?_
  refine a_iconst (q := 3) (nI 0) dX9_frequency_2 (by decide) rfl ?_
  refine a_istore_n (q := 4) dX9_frequency_3 rfl (Nat.le_of_ble_eq_true rfl) rfl rfl ?_
  exact l_fq _ k n hk hg hn hY hf hfo n 0 0 _ _ L rfl (Nat.zero_le _) ⟨rfl, rfl, rfl, rfl⟩
theorem m_edgeFrequency (k n : Nat) (hk : k < G.2.1) (hg : gok G) (hc : cbl Y.1 (Y.2.2.1 0) = true) (hn : n ≤ 200) (hY : Y.2.2.1 0 = nI n) (hf : ∀ i, i < 200 → W.2.2.2.2 i < big) (hfo : ∀ p, p < n → W.2.2.2.2 p ≠ 0 → ∀ q, ∃ q', fol G Y.2.1 Y.2.2.1 Y.2.2.2.1 (nI p) q = some q') : Ct g mX9_edgeFrequency [.ref (g.2.1 + 0), .int (nI k)] 0 A (BM g G T th Y W R Z U L h O) 0 0 (rP (some (.int (nI (fqF G Y W.2.2.2.2 (2 * k) n 0 0 L).1))) A (BM g G T 0 Y W R Z U (fqF G Y W.2.2.2.2 (2 * k) n 0 0 L).2 h O)) noX := by
  obtain ⟨g1, g2, g3, g4, g5⟩ := id hg
  have hi : inR (nI k) G.2.1 = true := by rw [inR_nI (by unfold big; omega) (by unfold big; omega)]; exact decide_eq_true hk
  have hl : lkN (cbl Y.1 (Y.2.2.1 0)) (inR (nI k) G.2.1) = 0 := by rw [hc, hi]; rfl
  refine Ct.of [some (.ref (g.2.1 + 0)), some (.int (nI k))] (by decide) rfl (Nat.le_of_ble_eq_true rfl) rfl ?_
  refine a_aload_n (q := 1) dX9_edgeFrequency_0 rfl rfl rfl ?_
  refine a_aload_n (q := 2) dX9_edgeFrequency_1 rfl rfl rfl ?_
  refine a_aload_n (q := 3) dX9_edgeFrequency_2 rfl rfl rfl ?_
  refine a_iload_n (q := 4) dX9_edgeFrequency_3 rfl rfl rfl ?_
  refine a_cVBv (q := 7) _ dX9_edgeFrequency_4 kX9_119 (m_isEdge _ g3) rfl rfl rfl (Nat.le_of_ble_eq_true rfl) ⟨(Nat.le_of_ble_eq_true rfl), (Nat.le_of_ble_eq_true rfl)⟩ ⟨(Nat.le_of_ble_eq_true rfl), (Nat.le_of_ble_eq_true rfl)⟩ rfl ?_
  refine a_cVBv (q := 10) _ dX9_edgeFrequency_7 kX9_248 (m_lackC _) rfl rfl rfl (Nat.le_of_ble_eq_true rfl) ⟨(Nat.le_of_ble_eq_true rfl), (Nat.le_of_ble_eq_true rfl)⟩ ⟨(Nat.le_of_ble_eq_true rfl), (Nat.le_of_ble_eq_true rfl)⟩ rfl ?_
  rw [hl]
  refine a_putB (q := 13) dX9_edgeFrequency_10 fX9_81 (fun h => nomatch h) rfl (Nat.le_of_ble_eq_true rfl) rfl rfl rfl ?_
  refine a_aload_n (q := 14) dX9_edgeFrequency_13 rfl rfl rfl ?_
  refine a_getB (q := 17) dX9_edgeFrequency_14 fX9_81 rfl rfl rfl ?_
  refine a_if_leN (q := 20) 24 dX9_edgeFrequency_17 (by decide) (by omega) rfl (fun c17 => ?_) (fun c17 => ?_)
  · skip
    refine a_aload_n (q := 25) dX9_edgeFrequency_24 rfl rfl rfl ?_
    refine a_iload_n (q := 26) dX9_edgeFrequency_25 rfl rfl rfl ?_
    refine a_cVBv (q := 29) _ dX9_edgeFrequency_26 kX9_257 (m_frequency (G := G) (th := 0) k n (by omega) hg hn hY hf hfo) rfl rfl rfl (Nat.le_of_ble_eq_true rfl) ⟨(Nat.le_of_ble_eq_true rfl), (Nat.le_of_ble_eq_true rfl)⟩ ⟨(Nat.le_of_ble_eq_true rfl), (Nat.le_of_ble_eq_true rfl)⟩ rfl ?_
    exact a_iret dX9_edgeFrequency_29 rfl rfl (Nat.le_of_ble_eq_true rfl) (Nat.le_of_ble_eq_true rfl) (⟨rfl, rfl, rfl, rfl⟩)
  · exact absurd c17 (by decide)
theorem mx_edgeFrequency (x : Int32) (hg : gok G) (hl : 0 < lkN (cbl Y.1 (Y.2.2.1 0)) (inR x G.2.1)) : Ct g mX9_edgeFrequency [.ref (g.2.1 + 0), .int x] 0 A (BM g G T th Y W R Z U L h O) 0 0 (rP (some (.int (nI 0))) A (BM g G T (lkN (cbl Y.1 (Y.2.2.1 0)) (inR x G.2.1)) Y W R Z U L h O)) noX := by
  obtain ⟨g1, g2, g3, g4, g5⟩ := id hg
  have h9 := lkN_le (an := cbl Y.1 (Y.2.2.1 0)) (ok := inR x G.2.1)
  refine Ct.of [some (.ref (g.2.1 + 0)), some (.int x)] (by decide) rfl (Nat.le_of_ble_eq_true rfl) rfl ?_
  refine a_aload_n (q := 1) dX9_edgeFrequency_0 rfl rfl rfl ?_
  refine a_aload_n (q := 2) dX9_edgeFrequency_1 rfl rfl rfl ?_
  refine a_aload_n (q := 3) dX9_edgeFrequency_2 rfl rfl rfl ?_
  refine a_iload_n (q := 4) dX9_edgeFrequency_3 rfl rfl rfl ?_
  refine a_cVBv (q := 7) _ dX9_edgeFrequency_4 kX9_119 (m_isEdge _ g3) rfl rfl rfl (Nat.le_of_ble_eq_true rfl) ⟨(Nat.le_of_ble_eq_true rfl), (Nat.le_of_ble_eq_true rfl)⟩ ⟨(Nat.le_of_ble_eq_true rfl), (Nat.le_of_ble_eq_true rfl)⟩ rfl ?_
  refine a_cVBv (q := 10) _ dX9_edgeFrequency_7 kX9_248 (m_lackC _) rfl rfl rfl (Nat.le_of_ble_eq_true rfl) ⟨(Nat.le_of_ble_eq_true rfl), (Nat.le_of_ble_eq_true rfl)⟩ ⟨(Nat.le_of_ble_eq_true rfl), (Nat.le_of_ble_eq_true rfl)⟩ rfl ?_
  refine a_putB (q := 13) dX9_edgeFrequency_10 fX9_81 (fun h => nomatch h) rfl (Nat.le_of_ble_eq_true rfl) rfl rfl rfl ?_
  refine a_aload_n (q := 14) dX9_edgeFrequency_13 rfl rfl rfl ?_
  refine a_getB (q := 17) dX9_edgeFrequency_14 fX9_81 rfl rfl rfl ?_
  refine a_if_leN (q := 20) 24 dX9_edgeFrequency_17 (by decide) (by omega) rfl (fun c17 => ?_) (fun c17 => ?_)
  · omega
  · skip
    refine a_iconst (q := 21) (nI 0) dX9_edgeFrequency_20 (by decide) rfl ?_
    refine a_goto 29 dX9_edgeFrequency_21 (by decide) ?_
    exact a_iret dX9_edgeFrequency_29 rfl rfl (Nat.le_of_ble_eq_true rfl) (Nat.le_of_ble_eq_true rfl) (⟨rfl, rfl, rfl, rfl⟩)
def lx (h x : Int64) : Int64 := 31 * h + x
theorem m_mix (x : Int64) : Ct g mX9_mix [.ref (g.2.1 + 0), .long x] 0 A (BM g G T th Y W R Z U L h O) 0 0 (rP none A (BM g G T th Y W R Z U L (lx h x) O)) noX := by
  refine Ct.of [some (.ref (g.2.1 + 0)), some (.long x), none] (by decide) rfl (Nat.le_of_ble_eq_true rfl) rfl ?_
  refine a_aload_n (q := 1) dX9_mix_0 rfl rfl rfl ?_
  refine a_ldc2 (q := 4) _ dX9_mix_1 jX9_260 rfl ?_
  refine a_aload_n (q := 5) dX9_mix_4 rfl rfl rfl ?_
  refine a_getB (q := 8) dX9_mix_5 fX9_262 rfl rfl rfl ?_
  refine a_lmul (q := 9) dX9_mix_8 rfl ?_
  refine a_lload_n (q := 10) dX9_mix_9 rfl rfl rfl ?_
  refine a_ladd (q := 11) dX9_mix_10 rfl ?_
  refine a_putB (q := 14) dX9_mix_11 fX9_262 (fun h => nomatch h) rfl (Nat.le_of_ble_eq_true rfl) rfl rfl rfl ?_
  exact a_ret dX9_mix_14 rfl (Nat.le_of_ble_eq_true rfl) (Nat.le_of_ble_eq_true rfl) (⟨rfl, rfl, rfl, rfl⟩)
def mlm (vl inc : Nat → Int32) (l : Nat) (h : Int64) : Int64 := mx (mx h (vl l)) (inc l)
def meM (bk : Nat → Bool) (vl inc : Nat → Int32) : Nat → Nat → Int64 → Int64
  | 0, _, h => h
  | m + 1, k, h => meM bk vl inc m (k + 1) (mlm vl inc (mLo bk k true) (mlm vl inc (mLo bk k false) (mx h (b2 (bk k)))))
def maM (G : Gr) (Y : Ya) (h : Int64) : Int64 := mx (mx (meM Y.2.1 Y.2.2.2.1 Y.2.2.2.2.1 G.2.1 0 (mpF Y.2.2.1 G.1 0 h)) (nI (chF G Y.2.1 Y.2.2.2.2.2 false (2 * G.2.1) 0 0))) (nI (chF G Y.2.1 Y.2.2.2.2.2 true (2 * G.2.1) 0 0))
theorem l_mm1 (P : ps_T) (hg : gok G) : ∀ (m k : Nat) (h : Int64), G.1 - k = m → k ≤ G.1 → AW g mX9_mixAnalysis 0 0 P noX 0 0 27 [some (.ref (g.2.1 + 0)), some (.int (nI G.1))] [] 0 A (BM g G T th Y W R Z U L (mpF Y.2.2.1 m k h) O) → AW g mX9_mixAnalysis 0 0 P noX 0 0 2 [some (.ref (g.2.1 + 0)), some (.int (nI k))] [] 0 A (BM g G T th Y W R Z U L h O) := by
  intro m
  obtain ⟨g1, g2, g3, g4, g5⟩ := id hg
  induction m with
  | zero =>
    intro k h hm hk hp
    have hk2 : k = G.1 := by omega
    subst hk2
    refine a_iload_n (q := 3) dX9_mixAnalysis_2 rfl rfl rfl ?_
    refine a_aload_n (q := 4) dX9_mixAnalysis_3 rfl rfl rfl ?_
    refine a_getB (q := 7) dX9_mixAnalysis_4 fX9_7 rfl rfl rfl ?_
    refine a_icmp_geN (q := 10) 27 dX9_mixAnalysis_7 (by decide) (by omega) (by omega) rfl (fun c7 => ?_) (fun c7 => ?_)
    · skip
      exact hp
    · omega
  | succ m ih =>
    intro k h hm hk hp
    unfold mpF at hp
    refine a_iload_n (q := 3) dX9_mixAnalysis_2 rfl rfl rfl ?_
    refine a_aload_n (q := 4) dX9_mixAnalysis_3 rfl rfl rfl ?_
    refine a_getB (q := 7) dX9_mixAnalysis_4 fX9_7 rfl rfl rfl ?_
    refine a_icmp_geN (q := 10) 27 dX9_mixAnalysis_7 (by decide) (by omega) (by omega) rfl (fun c7 => ?_) (fun c7 => ?_)
    · omega
    · skip
      refine a_aload_n (q := 11) dX9_mixAnalysis_10 rfl rfl rfl ?_
      refine a_aload_n (q := 12) dX9_mixAnalysis_11 rfl rfl rfl ?_
      refine a_getB (q := 15) dX9_mixAnalysis_12 fX9_30 rfl rfl rfl ?_
      refine a_iload_n (q := 16) dX9_mixAnalysis_15 rfl rfl rfl ?_
      refine a_ialdBI (q := 17) dX9_mixAnalysis_16 rfl (by omega) (by decide) rfl ?_
      refine a_i2l (q := 18) dX9_mixAnalysis_17 rfl ?_
      refine a_cVB0 (q := 21) _ dX9_mixAnalysis_18 kX9_266 (m_mix (h := h) (Y.2.2.1 k).toInt64) rfl rfl rfl (Nat.le_of_ble_eq_true rfl) ⟨(Nat.le_of_ble_eq_true rfl), (Nat.le_of_ble_eq_true rfl)⟩ ⟨(Nat.le_of_ble_eq_true rfl), (Nat.le_of_ble_eq_true rfl)⟩ rfl ?_
      refine a_iincN (q := 24) (c := 1) dX9_mixAnalysis_21 rfl (by decide) rfl rfl ?_
      refine a_goto 2 dX9_mixAnalysis_24 (by decide) ?_
      exact ih (k + 1) (mx h (Y.2.2.1 k)) (by omega) (by omega) hp
theorem l_mm2 (P : ps_T) (hg : gok G) : ∀ (m k : Nat) (h : Int64), G.2.1 - k = m → k ≤ G.2.1 → AW g mX9_mixAnalysis 0 0 P noX 0 0 125 [some (.ref (g.2.1 + 0)), some (.int (nI G.2.1))] [] 0 A (BM g G T th Y W R Z U L (meM Y.2.1 Y.2.2.2.1 Y.2.2.2.2.1 m k h) O) → AW g mX9_mixAnalysis 0 0 P noX 0 0 29 [some (.ref (g.2.1 + 0)), some (.int (nI k))] [] 0 A (BM g G T th Y W R Z U L h O) := by
  intro m
  obtain ⟨g1, g2, g3, g4, g5⟩ := id hg
  induction m with
  | zero =>
    intro k h hm hk hp
    have hk2 : k = G.2.1 := by omega
    subst hk2
    refine a_iload_n (q := 30) dX9_mixAnalysis_29 rfl rfl rfl ?_
    refine a_aload_n (q := 31) dX9_mixAnalysis_30 rfl rfl rfl ?_
    refine a_getB (q := 34) dX9_mixAnalysis_31 fX9_101 rfl rfl rfl ?_
    refine a_icmp_geN (q := 37) 125 dX9_mixAnalysis_34 (by decide) (by omega) (by omega) rfl (fun c34 => ?_) (fun c34 => ?_)
    · skip
      exact hp
    · omega
  | succ m ih =>
    intro k h hm hk hp
    unfold meM at hp
    have h1 := mLo_lt (bk := Y.2.1) (b := false) (show k < 24 by omega)
    have h2 := mLo_lt (bk := Y.2.1) (b := true) (show k < 24 by omega)
    have hq := ih (k + 1) _ (by omega) (by omega) hp
    have hst : AW g mX9_mixAnalysis 0 0 P noX 0 0 55 [some (.ref (g.2.1 + 0)), some (.int (nI k))] [] 0 A (BM g G T th Y W R Z U L (mx h (b2 (Y.2.1 k))) O) := by
      skip
      refine a_aload_n (q := 56) dX9_mixAnalysis_55 rfl rfl rfl ?_
      refine a_aload_n (q := 57) dX9_mixAnalysis_56 rfl rfl rfl ?_
      refine a_getB (q := 60) dX9_mixAnalysis_57 fX9_33 rfl rfl rfl ?_
      refine a_aload_n (q := 61) dX9_mixAnalysis_60 rfl rfl rfl ?_
      refine a_iload_n (q := 62) dX9_mixAnalysis_61 rfl rfl rfl ?_
      refine a_iconst (q := 63) (b2 false) dX9_mixAnalysis_62 (by decide) rfl ?_
      refine a_cVBv (q := 66) _ dX9_mixAnalysis_63 kX9_196 (m_linkOf (h := mx h (b2 (Y.2.1 k))) k false (by omega)) rfl rfl rfl (Nat.le_of_ble_eq_true rfl) ⟨(Nat.le_of_ble_eq_true rfl), (Nat.le_of_ble_eq_true rfl)⟩ ⟨(Nat.le_of_ble_eq_true rfl), (Nat.le_of_ble_eq_true rfl)⟩ rfl ?_
      refine a_ialdBI (q := 67) dX9_mixAnalysis_66 rfl (by omega) (by decide) rfl ?_
      refine a_i2l (q := 68) dX9_mixAnalysis_67 rfl ?_
      refine a_cVB0 (q := 71) _ dX9_mixAnalysis_68 kX9_266 (m_mix (h := mx h (b2 (Y.2.1 k))) (Y.2.2.2.1 (mLo Y.2.1 k false)).toInt64) rfl rfl rfl (Nat.le_of_ble_eq_true rfl) ⟨(Nat.le_of_ble_eq_true rfl), (Nat.le_of_ble_eq_true rfl)⟩ ⟨(Nat.le_of_ble_eq_true rfl), (Nat.le_of_ble_eq_true rfl)⟩ rfl ?_
      refine a_aload_n (q := 72) dX9_mixAnalysis_71 rfl rfl rfl ?_
      refine a_aload_n (q := 73) dX9_mixAnalysis_72 rfl rfl rfl ?_
      refine a_getB (q := 76) dX9_mixAnalysis_73 fX9_36 rfl rfl rfl ?_
      refine a_aload_n (q := 77) dX9_mixAnalysis_76 rfl rfl rfl ?_
      refine a_iload_n (q := 78) dX9_mixAnalysis_77 rfl rfl rfl ?_
      refine a_iconst (q := 79) (b2 false) dX9_mixAnalysis_78 (by decide) rfl ?_
      refine a_cVBv (q := 82) _ dX9_mixAnalysis_79 kX9_196 (m_linkOf (h := mx (mx h (b2 (Y.2.1 k))) (Y.2.2.2.1 (mLo Y.2.1 k false))) k false (by omega)) rfl rfl rfl (Nat.le_of_ble_eq_true rfl) ⟨(Nat.le_of_ble_eq_true rfl), (Nat.le_of_ble_eq_true rfl)⟩ ⟨(Nat.le_of_ble_eq_true rfl), (Nat.le_of_ble_eq_true rfl)⟩ rfl ?_
      refine a_ialdBI (q := 83) dX9_mixAnalysis_82 rfl (by omega) (by decide) rfl ?_
      refine a_i2l (q := 84) dX9_mixAnalysis_83 rfl ?_
      refine a_cVB0 (q := 87) _ dX9_mixAnalysis_84 kX9_266 (m_mix (h := mx (mx h (b2 (Y.2.1 k))) (Y.2.2.2.1 (mLo Y.2.1 k false))) (Y.2.2.2.2.1 (mLo Y.2.1 k false)).toInt64) rfl rfl rfl (Nat.le_of_ble_eq_true rfl) ⟨(Nat.le_of_ble_eq_true rfl), (Nat.le_of_ble_eq_true rfl)⟩ ⟨(Nat.le_of_ble_eq_true rfl), (Nat.le_of_ble_eq_true rfl)⟩ rfl ?_
      refine a_aload_n (q := 88) dX9_mixAnalysis_87 rfl rfl rfl ?_
      refine a_aload_n (q := 89) dX9_mixAnalysis_88 rfl rfl rfl ?_
      refine a_getB (q := 92) dX9_mixAnalysis_89 fX9_33 rfl rfl rfl ?_
      refine a_aload_n (q := 93) dX9_mixAnalysis_92 rfl rfl rfl ?_
      refine a_iload_n (q := 94) dX9_mixAnalysis_93 rfl rfl rfl ?_
      refine a_iconst (q := 95) (b2 true) dX9_mixAnalysis_94 (by decide) rfl ?_
      refine a_cVBv (q := 98) _ dX9_mixAnalysis_95 kX9_196 (m_linkOf (h := mlm Y.2.2.2.1 Y.2.2.2.2.1 (mLo Y.2.1 k false) (mx h (b2 (Y.2.1 k)))) k true (by omega)) rfl rfl rfl (Nat.le_of_ble_eq_true rfl) ⟨(Nat.le_of_ble_eq_true rfl), (Nat.le_of_ble_eq_true rfl)⟩ ⟨(Nat.le_of_ble_eq_true rfl), (Nat.le_of_ble_eq_true rfl)⟩ rfl ?_
      refine a_ialdBI (q := 99) dX9_mixAnalysis_98 rfl (by omega) (by decide) rfl ?_
      refine a_i2l (q := 100) dX9_mixAnalysis_99 rfl ?_
      refine a_cVB0 (q := 103) _ dX9_mixAnalysis_100 kX9_266 (m_mix (h := mlm Y.2.2.2.1 Y.2.2.2.2.1 (mLo Y.2.1 k false) (mx h (b2 (Y.2.1 k)))) (Y.2.2.2.1 (mLo Y.2.1 k true)).toInt64) rfl rfl rfl (Nat.le_of_ble_eq_true rfl) ⟨(Nat.le_of_ble_eq_true rfl), (Nat.le_of_ble_eq_true rfl)⟩ ⟨(Nat.le_of_ble_eq_true rfl), (Nat.le_of_ble_eq_true rfl)⟩ rfl ?_
      refine a_aload_n (q := 104) dX9_mixAnalysis_103 rfl rfl rfl ?_
      refine a_aload_n (q := 105) dX9_mixAnalysis_104 rfl rfl rfl ?_
      refine a_getB (q := 108) dX9_mixAnalysis_105 fX9_36 rfl rfl rfl ?_
      refine a_aload_n (q := 109) dX9_mixAnalysis_108 rfl rfl rfl ?_
      refine a_iload_n (q := 110) dX9_mixAnalysis_109 rfl rfl rfl ?_
      refine a_iconst (q := 111) (b2 true) dX9_mixAnalysis_110 (by decide) rfl ?_
      refine a_cVBv (q := 114) _ dX9_mixAnalysis_111 kX9_196 (m_linkOf (h := mx (mlm Y.2.2.2.1 Y.2.2.2.2.1 (mLo Y.2.1 k false) (mx h (b2 (Y.2.1 k)))) (Y.2.2.2.1 (mLo Y.2.1 k true))) k true (by omega)) rfl rfl rfl (Nat.le_of_ble_eq_true rfl) ⟨(Nat.le_of_ble_eq_true rfl), (Nat.le_of_ble_eq_true rfl)⟩ ⟨(Nat.le_of_ble_eq_true rfl), (Nat.le_of_ble_eq_true rfl)⟩ rfl ?_
      refine a_ialdBI (q := 115) dX9_mixAnalysis_114 rfl (by omega) (by decide) rfl ?_
      refine a_i2l (q := 116) dX9_mixAnalysis_115 rfl ?_
      refine a_cVB0 (q := 119) _ dX9_mixAnalysis_116 kX9_266 (m_mix (h := mx (mlm Y.2.2.2.1 Y.2.2.2.2.1 (mLo Y.2.1 k false) (mx h (b2 (Y.2.1 k)))) (Y.2.2.2.1 (mLo Y.2.1 k true))) (Y.2.2.2.2.1 (mLo Y.2.1 k true)).toInt64) rfl rfl rfl (Nat.le_of_ble_eq_true rfl) ⟨(Nat.le_of_ble_eq_true rfl), (Nat.le_of_ble_eq_true rfl)⟩ ⟨(Nat.le_of_ble_eq_true rfl), (Nat.le_of_ble_eq_true rfl)⟩ rfl ?_
      refine a_iincN (q := 122) (c := 1) dX9_mixAnalysis_119 rfl (by decide) rfl rfl ?_
      refine a_goto 29 dX9_mixAnalysis_122 (by decide) ?_
      exact hq
    refine a_iload_n (q := 30) dX9_mixAnalysis_29 rfl rfl rfl ?_
    refine a_aload_n (q := 31) dX9_mixAnalysis_30 rfl rfl rfl ?_
    refine a_getB (q := 34) dX9_mixAnalysis_31 fX9_101 rfl rfl rfl ?_
    refine a_icmp_geN (q := 37) 125 dX9_mixAnalysis_34 (by decide) (by omega) (by omega) rfl (fun c34 => ?_) (fun c34 => ?_)
    · omega
    · skip
      refine a_aload_n (q := 38) dX9_mixAnalysis_37 rfl rfl rfl ?_
      refine a_aload_n (q := 39) dX9_mixAnalysis_38 rfl rfl rfl ?_
      refine a_getB (q := 42) dX9_mixAnalysis_39 fX9_26 rfl rfl rfl ?_
      refine a_iload_n (q := 43) dX9_mixAnalysis_42 rfl rfl rfl ?_
      refine a_zaldBN (q := 44) dX9_mixAnalysis_43 rfl (by omega) (by decide) rfl ?_
      refine a_if_eqZ (q := 47) 51 dX9_mixAnalysis_44 (by decide) rfl (fun c44 => ?_) (fun c44 => ?_)
      · rw [show Y.2.1 k = false from c44] at hst
        refine a_lconst (q := 52) 0 dX9_mixAnalysis_51 (by decide) rfl ?_
        refine a_cVB0 (q := 55) _ dX9_mixAnalysis_52 kX9_266 (m_mix (h := h) _) rfl rfl rfl (Nat.le_of_ble_eq_true rfl) ⟨(Nat.le_of_ble_eq_true rfl), (Nat.le_of_ble_eq_true rfl)⟩ ⟨(Nat.le_of_ble_eq_true rfl), (Nat.le_of_ble_eq_true rfl)⟩ rfl ?_
        exact hst
      · rw [show Y.2.1 k = true from c44] at hst
        refine a_lconst (q := 48) 1 dX9_mixAnalysis_47 (by decide) rfl ?_
        refine a_goto 52 dX9_mixAnalysis_48 (by decide) ?_
        refine a_cVB0 (q := 55) _ dX9_mixAnalysis_52 kX9_266 (m_mix (h := h) _) rfl rfl rfl (Nat.le_of_ble_eq_true rfl) ⟨(Nat.le_of_ble_eq_true rfl), (Nat.le_of_ble_eq_true rfl)⟩ ⟨(Nat.le_of_ble_eq_true rfl), (Nat.le_of_ble_eq_true rfl)⟩ rfl ?_
        exact hst
theorem m_mixAnalysis1 (hg : gok G) (hw : ∀ i, i < 24 → G.2.2.2.2 i ≤ 99) (hc : cbl Y.1 (Y.2.2.1 0) = false) : Ct g mX9_mixAnalysis [.ref (g.2.1 + 0)] 0 A (BM g G T th Y W R Z U L h O) 0 0 (rP none A (BM g G T th Y W R Z U L (maM G Y h) O)) noX := by
  refine Ct.of [some (.ref (g.2.1 + 0)), none] (by decide) rfl (Nat.le_of_ble_eq_true rfl) rfl ?_
  refine a_iconst (q := 1) (nI 0) dX9_mixAnalysis_0 (by decide) rfl ?_
  refine a_istore_n (q := 2) dX9_mixAnalysis_1 rfl (Nat.le_of_ble_eq_true rfl) rfl rfl ?_
  refine l_mm1 _ hg _ 0 h rfl (Nat.zero_le _) ?_
  refine a_iconst (q := 28) (nI 0) dX9_mixAnalysis_27 (by decide) rfl ?_
  refine a_istore_n (q := 29) dX9_mixAnalysis_28 rfl (Nat.le_of_ble_eq_true rfl) rfl rfl ?_
  refine l_mm2 _ hg _ 0 _ rfl (Nat.zero_le _) ?_
  refine a_aload_n (q := 126) dX9_mixAnalysis_125 rfl rfl rfl ?_
  refine a_aload_n (q := 127) dX9_mixAnalysis_126 rfl rfl rfl ?_
  refine a_iconst (q := 128) (b2 false) dX9_mixAnalysis_127 (by decide) rfl ?_
  refine a_cVBv (q := 131) _ dX9_mixAnalysis_128 kX9_200 (m_chordSum (h := meM Y.2.1 Y.2.2.2.1 Y.2.2.2.2.1 G.2.1 0 (mpF Y.2.2.1 G.1 0 h)) false hg hw) rfl rfl rfl (Nat.le_of_ble_eq_true rfl) ⟨(Nat.le_of_ble_eq_true rfl), (Nat.le_of_ble_eq_true rfl)⟩ ⟨(Nat.le_of_ble_eq_true rfl), (Nat.le_of_ble_eq_true rfl)⟩ rfl ?_
  refine a_i2l (q := 132) dX9_mixAnalysis_131 rfl ?_
  refine a_cVB0 (q := 135) _ dX9_mixAnalysis_132 kX9_266 (m_mix (h := meM Y.2.1 Y.2.2.2.1 Y.2.2.2.2.1 G.2.1 0 (mpF Y.2.2.1 G.1 0 h)) (nI (chF G Y.2.1 Y.2.2.2.2.2 false (2 * G.2.1) 0 0)).toInt64) rfl rfl rfl (Nat.le_of_ble_eq_true rfl) ⟨(Nat.le_of_ble_eq_true rfl), (Nat.le_of_ble_eq_true rfl)⟩ ⟨(Nat.le_of_ble_eq_true rfl), (Nat.le_of_ble_eq_true rfl)⟩ rfl ?_
  refine a_aload_n (q := 136) dX9_mixAnalysis_135 rfl rfl rfl ?_
  refine a_aload_n (q := 137) dX9_mixAnalysis_136 rfl rfl rfl ?_
  refine a_iconst (q := 138) (b2 true) dX9_mixAnalysis_137 (by decide) rfl ?_
  refine a_cVBv (q := 141) _ dX9_mixAnalysis_138 kX9_200 (m_chordSum (h := mx (meM Y.2.1 Y.2.2.2.1 Y.2.2.2.2.1 G.2.1 0 (mpF Y.2.2.1 G.1 0 h)) (nI (chF G Y.2.1 Y.2.2.2.2.2 false (2 * G.2.1) 0 0))) true hg hw) rfl rfl rfl (Nat.le_of_ble_eq_true rfl) ⟨(Nat.le_of_ble_eq_true rfl), (Nat.le_of_ble_eq_true rfl)⟩ ⟨(Nat.le_of_ble_eq_true rfl), (Nat.le_of_ble_eq_true rfl)⟩ rfl ?_
  refine a_i2l (q := 142) dX9_mixAnalysis_141 rfl ?_
  refine a_cVB0 (q := 145) _ dX9_mixAnalysis_142 kX9_266 (m_mix (h := mx (meM Y.2.1 Y.2.2.2.1 Y.2.2.2.2.1 G.2.1 0 (mpF Y.2.2.1 G.1 0 h)) (nI (chF G Y.2.1 Y.2.2.2.2.2 false (2 * G.2.1) 0 0))) (nI (chF G Y.2.1 Y.2.2.2.2.2 true (2 * G.2.1) 0 0)).toInt64) rfl rfl rfl (Nat.le_of_ble_eq_true rfl) ⟨(Nat.le_of_ble_eq_true rfl), (Nat.le_of_ble_eq_true rfl)⟩ ⟨(Nat.le_of_ble_eq_true rfl), (Nat.le_of_ble_eq_true rfl)⟩ rfl ?_
  refine a_iconst (q := 146) (nI 0) dX9_mixAnalysis_145 (by decide) rfl ?_
  refine a_istore_n (q := 147) dX9_mixAnalysis_146 rfl (Nat.le_of_ble_eq_true rfl) rfl rfl ?_
  refine a_aload_n (q := 148) dX9_mixAnalysis_147 rfl rfl rfl ?_
  refine a_cVBv (q := 151) _ dX9_mixAnalysis_148 kX9_237 (m_counts (h := maM G Y h)) rfl rfl rfl (Nat.le_of_ble_eq_true rfl) ⟨(Nat.le_of_ble_eq_true rfl), (Nat.le_of_ble_eq_true rfl)⟩ ⟨(Nat.le_of_ble_eq_true rfl), (Nat.le_of_ble_eq_true rfl)⟩ rfl ?_
  refine a_if_eqZ (q := 154) 181 dX9_mixAnalysis_151 (by decide) rfl (fun c151 => ?_) (fun c151 => ?_)
  · skip
    exact a_ret dX9_mixAnalysis_181 rfl (Nat.le_of_ble_eq_true rfl) (Nat.le_of_ble_eq_true rfl) (⟨rfl, rfl, rfl, rfl⟩)
  · rw [hc] at c151; cases c151
theorem l_mm3 (P : ps_T) (n : Nat) (hn : n ≤ 200) (hY : Y.2.2.1 0 = nI n) (hc : cbl Y.1 (Y.2.2.1 0) = true) : ∀ (m k : Nat) (h : Int64), n - k = m → k ≤ n → P none 0 A (BM g G T th Y W R Z U L (mtF W.2.2.2.2 m k h) O) → AW g mX9_mixAnalysis 0 0 P noX 0 0 147 [some (.ref (g.2.1 + 0)), some (.int (nI k))] [] 0 A (BM g G T th Y W R Z U L h O) := by
  intro m
  induction m with
  | zero =>
    intro k h hm hk hp
    refine a_aload_n (q := 148) dX9_mixAnalysis_147 rfl rfl rfl ?_
    refine a_cVBv (q := 151) _ dX9_mixAnalysis_148 kX9_237 (m_counts (h := h)) rfl rfl rfl (Nat.le_of_ble_eq_true rfl) ⟨(Nat.le_of_ble_eq_true rfl), (Nat.le_of_ble_eq_true rfl)⟩ ⟨(Nat.le_of_ble_eq_true rfl), (Nat.le_of_ble_eq_true rfl)⟩ rfl ?_
    refine a_if_eqZ (q := 154) 181 dX9_mixAnalysis_151 (by decide) rfl (fun c151 => ?_) (fun c151 => ?_)
    · rw [hc] at c151; cases c151
    · skip
      refine a_iload_n (q := 155) dX9_mixAnalysis_154 rfl rfl rfl ?_
      refine a_aload_n (q := 156) dX9_mixAnalysis_155 rfl rfl rfl ?_
      refine a_getB (q := 159) dX9_mixAnalysis_156 fX9_30 rfl rfl rfl ?_
      refine a_iconst (q := 160) (nI 0) dX9_mixAnalysis_159 (by decide) rfl ?_
      refine a_ialdBI (q := 161) dX9_mixAnalysis_160 rfl (by omega) (by decide) rfl ?_
      rw [hY]
      refine a_icmp_ge (q := 164) 181 dX9_mixAnalysis_161 (by decide) rfl (fun c161 => ?_) (fun c161 => ?_)
      · skip
        exact a_ret dX9_mixAnalysis_181 rfl (Nat.le_of_ble_eq_true rfl) (Nat.le_of_ble_eq_true rfl) (hp)
      · exact absurd (nI_le (show n ≤ k by omega) (by omega)) c161
  | succ m ih =>
    intro k h hm hk hp
    unfold mtF at hp
    refine a_aload_n (q := 148) dX9_mixAnalysis_147 rfl rfl rfl ?_
    refine a_cVBv (q := 151) _ dX9_mixAnalysis_148 kX9_237 (m_counts (h := h)) rfl rfl rfl (Nat.le_of_ble_eq_true rfl) ⟨(Nat.le_of_ble_eq_true rfl), (Nat.le_of_ble_eq_true rfl)⟩ ⟨(Nat.le_of_ble_eq_true rfl), (Nat.le_of_ble_eq_true rfl)⟩ rfl ?_
    refine a_if_eqZ (q := 154) 181 dX9_mixAnalysis_151 (by decide) rfl (fun c151 => ?_) (fun c151 => ?_)
    · rw [hc] at c151; cases c151
    · skip
      refine a_iload_n (q := 155) dX9_mixAnalysis_154 rfl rfl rfl ?_
      refine a_aload_n (q := 156) dX9_mixAnalysis_155 rfl rfl rfl ?_
      refine a_getB (q := 159) dX9_mixAnalysis_156 fX9_30 rfl rfl rfl ?_
      refine a_iconst (q := 160) (nI 0) dX9_mixAnalysis_159 (by decide) rfl ?_
      refine a_ialdBI (q := 161) dX9_mixAnalysis_160 rfl (by omega) (by decide) rfl ?_
      rw [hY]
      refine a_icmp_ge (q := 164) 181 dX9_mixAnalysis_161 (by decide) rfl (fun c161 => ?_) (fun c161 => ?_)
      · exact absurd c161 (nI_ge (by omega) (by omega))
      · skip
        refine a_aload_n (q := 165) dX9_mixAnalysis_164 rfl rfl rfl ?_
        refine a_aload_n (q := 166) dX9_mixAnalysis_165 rfl rfl rfl ?_
        refine a_getB (q := 169) dX9_mixAnalysis_166 fX9_42 rfl rfl rfl ?_
        refine a_iload_n (q := 170) dX9_mixAnalysis_169 rfl rfl rfl ?_
        refine a_ialdBN (q := 171) dX9_mixAnalysis_170 rfl (by omega) (by decide) rfl ?_
        refine a_i2l (q := 172) dX9_mixAnalysis_171 rfl ?_
        refine a_cVB0 (q := 175) _ dX9_mixAnalysis_172 kX9_266 (m_mix (h := h) (nI (W.2.2.2.2 k)).toInt64) rfl rfl rfl (Nat.le_of_ble_eq_true rfl) ⟨(Nat.le_of_ble_eq_true rfl), (Nat.le_of_ble_eq_true rfl)⟩ ⟨(Nat.le_of_ble_eq_true rfl), (Nat.le_of_ble_eq_true rfl)⟩ rfl ?_
        refine a_iincN (q := 178) (c := 1) dX9_mixAnalysis_175 rfl (by decide) rfl rfl ?_
        refine a_goto 147 dX9_mixAnalysis_178 (by decide) ?_
        exact ih (k + 1) (mx h (nI (W.2.2.2.2 k))) (by omega) (by omega) hp
theorem m_mixAnalysis2 (n : Nat) (hn : n ≤ 200) (hY : Y.2.2.1 0 = nI n) (hg : gok G) (hw : ∀ i, i < 24 → G.2.2.2.2 i ≤ 99) (hc : cbl Y.1 (Y.2.2.1 0) = true) : Ct g mX9_mixAnalysis [.ref (g.2.1 + 0)] 0 A (BM g G T th Y W R Z U L h O) 0 0 (rP none A (BM g G T th Y W R Z U L (mtF W.2.2.2.2 n 0 (maM G Y h)) O)) noX := by
  refine Ct.of [some (.ref (g.2.1 + 0)), none] (by decide) rfl (Nat.le_of_ble_eq_true rfl) rfl ?_
  refine a_iconst (q := 1) (nI 0) dX9_mixAnalysis_0 (by decide) rfl ?_
  refine a_istore_n (q := 2) dX9_mixAnalysis_1 rfl (Nat.le_of_ble_eq_true rfl) rfl rfl ?_
  refine l_mm1 _ hg _ 0 h rfl (Nat.zero_le _) ?_
  refine a_iconst (q := 28) (nI 0) dX9_mixAnalysis_27 (by decide) rfl ?_
  refine a_istore_n (q := 29) dX9_mixAnalysis_28 rfl (Nat.le_of_ble_eq_true rfl) rfl rfl ?_
  refine l_mm2 _ hg _ 0 _ rfl (Nat.zero_le _) ?_
  refine a_aload_n (q := 126) dX9_mixAnalysis_125 rfl rfl rfl ?_
  refine a_aload_n (q := 127) dX9_mixAnalysis_126 rfl rfl rfl ?_
  refine a_iconst (q := 128) (b2 false) dX9_mixAnalysis_127 (by decide) rfl ?_
  refine a_cVBv (q := 131) _ dX9_mixAnalysis_128 kX9_200 (m_chordSum (h := meM Y.2.1 Y.2.2.2.1 Y.2.2.2.2.1 G.2.1 0 (mpF Y.2.2.1 G.1 0 h)) false hg hw) rfl rfl rfl (Nat.le_of_ble_eq_true rfl) ⟨(Nat.le_of_ble_eq_true rfl), (Nat.le_of_ble_eq_true rfl)⟩ ⟨(Nat.le_of_ble_eq_true rfl), (Nat.le_of_ble_eq_true rfl)⟩ rfl ?_
  refine a_i2l (q := 132) dX9_mixAnalysis_131 rfl ?_
  refine a_cVB0 (q := 135) _ dX9_mixAnalysis_132 kX9_266 (m_mix (h := meM Y.2.1 Y.2.2.2.1 Y.2.2.2.2.1 G.2.1 0 (mpF Y.2.2.1 G.1 0 h)) (nI (chF G Y.2.1 Y.2.2.2.2.2 false (2 * G.2.1) 0 0)).toInt64) rfl rfl rfl (Nat.le_of_ble_eq_true rfl) ⟨(Nat.le_of_ble_eq_true rfl), (Nat.le_of_ble_eq_true rfl)⟩ ⟨(Nat.le_of_ble_eq_true rfl), (Nat.le_of_ble_eq_true rfl)⟩ rfl ?_
  refine a_aload_n (q := 136) dX9_mixAnalysis_135 rfl rfl rfl ?_
  refine a_aload_n (q := 137) dX9_mixAnalysis_136 rfl rfl rfl ?_
  refine a_iconst (q := 138) (b2 true) dX9_mixAnalysis_137 (by decide) rfl ?_
  refine a_cVBv (q := 141) _ dX9_mixAnalysis_138 kX9_200 (m_chordSum (h := mx (meM Y.2.1 Y.2.2.2.1 Y.2.2.2.2.1 G.2.1 0 (mpF Y.2.2.1 G.1 0 h)) (nI (chF G Y.2.1 Y.2.2.2.2.2 false (2 * G.2.1) 0 0))) true hg hw) rfl rfl rfl (Nat.le_of_ble_eq_true rfl) ⟨(Nat.le_of_ble_eq_true rfl), (Nat.le_of_ble_eq_true rfl)⟩ ⟨(Nat.le_of_ble_eq_true rfl), (Nat.le_of_ble_eq_true rfl)⟩ rfl ?_
  refine a_i2l (q := 142) dX9_mixAnalysis_141 rfl ?_
  refine a_cVB0 (q := 145) _ dX9_mixAnalysis_142 kX9_266 (m_mix (h := mx (meM Y.2.1 Y.2.2.2.1 Y.2.2.2.2.1 G.2.1 0 (mpF Y.2.2.1 G.1 0 h)) (nI (chF G Y.2.1 Y.2.2.2.2.2 false (2 * G.2.1) 0 0))) (nI (chF G Y.2.1 Y.2.2.2.2.2 true (2 * G.2.1) 0 0)).toInt64) rfl rfl rfl (Nat.le_of_ble_eq_true rfl) ⟨(Nat.le_of_ble_eq_true rfl), (Nat.le_of_ble_eq_true rfl)⟩ ⟨(Nat.le_of_ble_eq_true rfl), (Nat.le_of_ble_eq_true rfl)⟩ rfl ?_
  refine a_iconst (q := 146) (nI 0) dX9_mixAnalysis_145 (by decide) rfl ?_
  refine a_istore_n (q := 147) dX9_mixAnalysis_146 rfl (Nat.le_of_ble_eq_true rfl) rfl rfl ?_
  exact l_mm3 _ n hn hY hc n 0 (maM G Y h) rfl (Nat.zero_le _) ⟨rfl, rfl, rfl, rfl⟩
theorem l_md1 (P : ps_T) (hg : gok G) : ∀ (m k : Nat) (h : Int64), G.2.1 - k = m → k ≤ G.2.1 → AW g mX9_digest 0 0 P noX 0 0 79 [some (.ref (g.2.1 + 0)), some (.int (nI G.2.1))] [] 0 A (BM g G T th Y W R Z U L (mgF G m k h) O) → AW g mX9_digest 0 0 P noX 0 0 32 [some (.ref (g.2.1 + 0)), some (.int (nI k))] [] 0 A (BM g G T th Y W R Z U L h O) := by
  intro m
  obtain ⟨g1, g2, g3, g4, g5⟩ := id hg
  induction m with
  | zero =>
    intro k h hm hk hp
    have hk2 : k = G.2.1 := by omega
    subst hk2
    refine a_iload_n (q := 33) dX9_digest_32 rfl rfl rfl ?_
    refine a_aload_n (q := 34) dX9_digest_33 rfl rfl rfl ?_
    refine a_getB (q := 37) dX9_digest_34 fX9_101 rfl rfl rfl ?_
    refine a_icmp_geN (q := 40) 79 dX9_digest_37 (by decide) (by omega) (by omega) rfl (fun c37 => ?_) (fun c37 => ?_)
    · skip
      exact hp
    · omega
  | succ m ih =>
    intro k h hm hk hp
    unfold mgF at hp
    have hq := ih (k + 1) _ (by omega) (by omega) hp
    refine a_iload_n (q := 33) dX9_digest_32 rfl rfl rfl ?_
    refine a_aload_n (q := 34) dX9_digest_33 rfl rfl rfl ?_
    refine a_getB (q := 37) dX9_digest_34 fX9_101 rfl rfl rfl ?_
    refine a_icmp_geN (q := 40) 79 dX9_digest_37 (by decide) (by omega) (by omega) rfl (fun c37 => ?_) (fun c37 => ?_)
    · omega
    · skip
      refine a_aload_n (q := 41) dX9_digest_40 rfl rfl rfl ?_
      refine a_aload_n (q := 42) dX9_digest_41 rfl rfl rfl ?_
      refine a_getB (q := 45) dX9_digest_42 fX9_13 rfl rfl rfl ?_
      refine a_iload_n (q := 46) dX9_digest_45 rfl rfl rfl ?_
      refine a_ialdBN (q := 47) dX9_digest_46 rfl (by omega) (by decide) rfl ?_
      refine a_i2l (q := 48) dX9_digest_47 rfl ?_
      refine a_cVB0 (q := 51) _ dX9_digest_48 kX9_266 (m_mix (h := h) (nI (G.2.2.1 k)).toInt64) rfl rfl rfl (Nat.le_of_ble_eq_true rfl) ⟨(Nat.le_of_ble_eq_true rfl), (Nat.le_of_ble_eq_true rfl)⟩ ⟨(Nat.le_of_ble_eq_true rfl), (Nat.le_of_ble_eq_true rfl)⟩ rfl ?_
      refine a_aload_n (q := 52) dX9_digest_51 rfl rfl rfl ?_
      refine a_aload_n (q := 53) dX9_digest_52 rfl rfl rfl ?_
      refine a_getB (q := 56) dX9_digest_53 fX9_17 rfl rfl rfl ?_
      refine a_iload_n (q := 57) dX9_digest_56 rfl rfl rfl ?_
      refine a_ialdBN (q := 58) dX9_digest_57 rfl (by omega) (by decide) rfl ?_
      refine a_i2l (q := 59) dX9_digest_58 rfl ?_
      refine a_cVB0 (q := 62) _ dX9_digest_59 kX9_266 (m_mix (h := mx h (nI (G.2.2.1 k))) (nI (G.2.2.2.1 k)).toInt64) rfl rfl rfl (Nat.le_of_ble_eq_true rfl) ⟨(Nat.le_of_ble_eq_true rfl), (Nat.le_of_ble_eq_true rfl)⟩ ⟨(Nat.le_of_ble_eq_true rfl), (Nat.le_of_ble_eq_true rfl)⟩ rfl ?_
      refine a_aload_n (q := 63) dX9_digest_62 rfl rfl rfl ?_
      refine a_aload_n (q := 64) dX9_digest_63 rfl rfl rfl ?_
      refine a_getB (q := 67) dX9_digest_64 fX9_20 rfl rfl rfl ?_
      refine a_iload_n (q := 68) dX9_digest_67 rfl rfl rfl ?_
      refine a_ialdBN (q := 69) dX9_digest_68 rfl (by omega) (by decide) rfl ?_
      refine a_i2l (q := 70) dX9_digest_69 rfl ?_
      refine a_cVB0 (q := 73) _ dX9_digest_70 kX9_266 (m_mix (h := mx (mx h (nI (G.2.2.1 k))) (nI (G.2.2.2.1 k))) (nI (G.2.2.2.2 k)).toInt64) rfl rfl rfl (Nat.le_of_ble_eq_true rfl) ⟨(Nat.le_of_ble_eq_true rfl), (Nat.le_of_ble_eq_true rfl)⟩ ⟨(Nat.le_of_ble_eq_true rfl), (Nat.le_of_ble_eq_true rfl)⟩ rfl ?_
      refine a_iincN (q := 76) (c := 1) dX9_digest_73 rfl (by decide) rfl rfl ?_
      refine a_goto 32 dX9_digest_76 (by decide) ?_
      exact hq
theorem l_md2 (P : ps_T) (hT : T.1 ≤ 60) : ∀ (m k : Nat) (h : Int64), T.1 - k = m → k ≤ T.1 → P (some (.long (mtF T.2 m k h))) 0 A (BM g G T th Y W R Z U L (mtF T.2 m k h) O) → AW g mX9_digest 0 0 P noX 0 0 144 [some (.ref (g.2.1 + 0)), some (.int (nI k))] [] 0 A (BM g G T th Y W R Z U L h O) := by
  intro m
  induction m with
  | zero =>
    intro k h hm hk hp
    refine a_iload_n (q := 145) dX9_digest_144 rfl rfl rfl ?_
    refine a_aload_n (q := 146) dX9_digest_145 rfl rfl rfl ?_
    refine a_getB (q := 149) dX9_digest_146 fX9_122 rfl rfl rfl ?_
    refine a_icmp_geN (q := 152) 169 dX9_digest_149 (by decide) (by omega) (by omega) rfl (fun c149 => ?_) (fun c149 => ?_)
    · skip
      refine a_aload_n (q := 170) dX9_digest_169 rfl rfl rfl ?_
      refine a_getB (q := 173) dX9_digest_170 fX9_262 rfl rfl rfl ?_
      exact a_lret dX9_digest_173 rfl (Nat.le_of_ble_eq_true rfl) (Nat.le_of_ble_eq_true rfl) (hp)
    · omega
  | succ m ih =>
    intro k h hm hk hp
    unfold mtF at hp
    refine a_iload_n (q := 145) dX9_digest_144 rfl rfl rfl ?_
    refine a_aload_n (q := 146) dX9_digest_145 rfl rfl rfl ?_
    refine a_getB (q := 149) dX9_digest_146 fX9_122 rfl rfl rfl ?_
    refine a_icmp_geN (q := 152) 169 dX9_digest_149 (by decide) (by omega) (by omega) rfl (fun c149 => ?_) (fun c149 => ?_)
    · omega
    · skip
      refine a_aload_n (q := 153) dX9_digest_152 rfl rfl rfl ?_
      refine a_aload_n (q := 154) dX9_digest_153 rfl rfl rfl ?_
      refine a_getB (q := 157) dX9_digest_154 fX9_23 rfl rfl rfl ?_
      refine a_iload_n (q := 158) dX9_digest_157 rfl rfl rfl ?_
      refine a_ialdBN (q := 159) dX9_digest_158 rfl (by omega) (by decide) rfl ?_
      refine a_i2l (q := 160) dX9_digest_159 rfl ?_
      refine a_cVB0 (q := 163) _ dX9_digest_160 kX9_266 (m_mix (h := h) (nI (T.2 k)).toInt64) rfl rfl rfl (Nat.le_of_ble_eq_true rfl) ⟨(Nat.le_of_ble_eq_true rfl), (Nat.le_of_ble_eq_true rfl)⟩ ⟨(Nat.le_of_ble_eq_true rfl), (Nat.le_of_ble_eq_true rfl)⟩ rfl ?_
      refine a_iincN (q := 166) (c := 1) dX9_digest_163 rfl (by decide) rfl rfl ?_
      refine a_goto 144 dX9_digest_166 (by decide) ?_
      exact ih (k + 1) (mx h (nI (T.2 k))) (by omega) (by omega) hp
def dgM (T : Tx) (W : Wa) (h : Int64) : Int64 := mtF T.2 T.1 0 (mx (mx (mx (mx h (cuN W)) W.2.2.2.1) (oI (hot W.2.2.2.2))) (nI T.1))
theorem l_md3 (P : ps_T) (hT : T.1 ≤ 60) (hf : ∀ i, i < 200 → W.2.2.2.2 i < big) (L1 : Option Value) (hp : P (some (.long (dgM T W h))) 0 A (BM g G T th Y W R Z U L (dgM T W h) O)) : AW g mX9_digest 0 0 P noX 0 0 106 [some (.ref (g.2.1 + 0)), L1] [] 0 A (BM g G T th Y W R Z U L h O) := by
  refine a_aload_n (q := 107) dX9_digest_106 rfl rfl rfl ?_
  refine a_aload_n (q := 108) dX9_digest_107 rfl rfl rfl ?_
  refine a_cVBv (q := 111) _ dX9_digest_108 kX9_245 (m_currentNow (h := h)) rfl rfl rfl (Nat.le_of_ble_eq_true rfl) ⟨(Nat.le_of_ble_eq_true rfl), (Nat.le_of_ble_eq_true rfl)⟩ ⟨(Nat.le_of_ble_eq_true rfl), (Nat.le_of_ble_eq_true rfl)⟩ rfl ?_
  refine a_i2l (q := 112) dX9_digest_111 rfl ?_
  refine a_cVB0 (q := 115) _ dX9_digest_112 kX9_266 (m_mix (h := h) (cuN W).toInt64) rfl rfl rfl (Nat.le_of_ble_eq_true rfl) ⟨(Nat.le_of_ble_eq_true rfl), (Nat.le_of_ble_eq_true rfl)⟩ ⟨(Nat.le_of_ble_eq_true rfl), (Nat.le_of_ble_eq_true rfl)⟩ rfl ?_
  refine a_aload_n (q := 116) dX9_digest_115 rfl rfl rfl ?_
  refine a_aload_n (q := 117) dX9_digest_116 rfl rfl rfl ?_
  refine a_getB (q := 120) dX9_digest_117 fX9_94 rfl rfl rfl ?_
  refine a_i2l (q := 121) dX9_digest_120 rfl ?_
  refine a_cVB0 (q := 124) _ dX9_digest_121 kX9_266 (m_mix (h := mx h (cuN W)) W.2.2.2.1.toInt64) rfl rfl rfl (Nat.le_of_ble_eq_true rfl) ⟨(Nat.le_of_ble_eq_true rfl), (Nat.le_of_ble_eq_true rfl)⟩ ⟨(Nat.le_of_ble_eq_true rfl), (Nat.le_of_ble_eq_true rfl)⟩ rfl ?_
  refine a_aload_n (q := 125) dX9_digest_124 rfl rfl rfl ?_
  refine a_aload_n (q := 126) dX9_digest_125 rfl rfl rfl ?_
  refine a_cVBv (q := 129) _ dX9_digest_126 kX9_254 (m_hottestNow (h := mx (mx h (cuN W)) W.2.2.2.1) hf) rfl rfl rfl (Nat.le_of_ble_eq_true rfl) ⟨(Nat.le_of_ble_eq_true rfl), (Nat.le_of_ble_eq_true rfl)⟩ ⟨(Nat.le_of_ble_eq_true rfl), (Nat.le_of_ble_eq_true rfl)⟩ rfl ?_
  refine a_i2l (q := 130) dX9_digest_129 rfl ?_
  refine a_cVB0 (q := 133) _ dX9_digest_130 kX9_266 (m_mix (h := mx (mx h (cuN W)) W.2.2.2.1) (oI (hot W.2.2.2.2)).toInt64) rfl rfl rfl (Nat.le_of_ble_eq_true rfl) ⟨(Nat.le_of_ble_eq_true rfl), (Nat.le_of_ble_eq_true rfl)⟩ ⟨(Nat.le_of_ble_eq_true rfl), (Nat.le_of_ble_eq_true rfl)⟩ rfl ?_
  refine a_aload_n (q := 134) dX9_digest_133 rfl rfl rfl ?_
  refine a_aload_n (q := 135) dX9_digest_134 rfl rfl rfl ?_
  refine a_getB (q := 138) dX9_digest_135 fX9_122 rfl rfl rfl ?_
  refine a_i2l (q := 139) dX9_digest_138 rfl ?_
  refine a_cVB0 (q := 142) _ dX9_digest_139 kX9_266 (m_mix (h := mx (mx (mx h (cuN W)) W.2.2.2.1) (oI (hot W.2.2.2.2))) (nI T.1).toInt64) rfl rfl rfl (Nat.le_of_ble_eq_true rfl) ⟨(Nat.le_of_ble_eq_true rfl), (Nat.le_of_ble_eq_true rfl)⟩ ⟨(Nat.le_of_ble_eq_true rfl), (Nat.le_of_ble_eq_true rfl)⟩ rfl ?_
  refine a_iconst (q := 143) (nI 0) dX9_digest_142 (by decide) rfl ?_
  refine a_istore_n (q := 144) dX9_digest_143 rfl (Nat.le_of_ble_eq_true rfl) rfl rfl ?_
  exact l_md2 P hT _ 0 (mx (mx (mx (mx h (cuN W)) W.2.2.2.1) (oI (hot W.2.2.2.2))) (nI T.1)) rfl (Nat.zero_le _) hp
theorem m_digest0 (hg : gok G) (hT : T.1 ≤ 60) (hf : ∀ i, i < 200 → W.2.2.2.2 i < big) (ha : Y.1 = false) : Ct g mX9_digest [.ref (g.2.1 + 0)] 0 A (BM g G T th Y W R Z U L h O) 0 0 (fun v z A' B' => v = some (.long (dgM T W (mx (mg G 1831) (b2 false)))) ∧ z = 0 ∧ A' = A ∧ ∃ h', B' = BM g G T 0 Y W R Z U L h' O) noX := by
  refine Ct.of [some (.ref (g.2.1 + 0)), none] (by decide) rfl (Nat.le_of_ble_eq_true rfl) rfl ?_
  refine a_aload_n (q := 1) dX9_digest_0 rfl rfl rfl ?_
  refine a_iconst (q := 2) (nI 0) dX9_digest_1 (by decide) rfl ?_
  refine a_putB (q := 5) dX9_digest_2 fX9_81 (fun h => nomatch h) rfl (Nat.le_of_ble_eq_true rfl) rfl rfl rfl ?_
  refine a_aload_n (q := 6) dX9_digest_5 rfl rfl rfl ?_
  refine a_ldc2 (q := 9) _ dX9_digest_6 jX9_270 rfl ?_
  refine a_putB (q := 12) dX9_digest_9 fX9_262 (fun h => nomatch h) rfl (Nat.le_of_ble_eq_true rfl) rfl rfl rfl ?_
  refine a_aload_n (q := 13) dX9_digest_12 rfl rfl rfl ?_
  refine a_aload_n (q := 14) dX9_digest_13 rfl rfl rfl ?_
  refine a_getB (q := 17) dX9_digest_14 fX9_7 rfl rfl rfl ?_
  refine a_i2l (q := 18) dX9_digest_17 rfl ?_
  refine a_cVB0 (q := 21) _ dX9_digest_18 kX9_266 (m_mix (G := G) (th := 0) (h := 1831) (nI G.1).toInt64) rfl rfl rfl (Nat.le_of_ble_eq_true rfl) ⟨(Nat.le_of_ble_eq_true rfl), (Nat.le_of_ble_eq_true rfl)⟩ ⟨(Nat.le_of_ble_eq_true rfl), (Nat.le_of_ble_eq_true rfl)⟩ rfl ?_
  refine a_aload_n (q := 22) dX9_digest_21 rfl rfl rfl ?_
  refine a_aload_n (q := 23) dX9_digest_22 rfl rfl rfl ?_
  refine a_getB (q := 26) dX9_digest_23 fX9_101 rfl rfl rfl ?_
  refine a_i2l (q := 27) dX9_digest_26 rfl ?_
  refine a_cVB0 (q := 30) _ dX9_digest_27 kX9_266 (m_mix (G := G) (th := 0) (h := mx 1831 (nI G.1)) (nI G.2.1).toInt64) rfl rfl rfl (Nat.le_of_ble_eq_true rfl) ⟨(Nat.le_of_ble_eq_true rfl), (Nat.le_of_ble_eq_true rfl)⟩ ⟨(Nat.le_of_ble_eq_true rfl), (Nat.le_of_ble_eq_true rfl)⟩ rfl ?_
  refine a_iconst (q := 31) (nI 0) dX9_digest_30 (by decide) rfl ?_
  refine a_istore_n (q := 32) dX9_digest_31 rfl (Nat.le_of_ble_eq_true rfl) rfl rfl ?_
  refine l_md1 (th := 0) _ hg _ 0 (mx (mx 1831 (nI G.1)) (nI G.2.1)) rfl (Nat.zero_le _) ?_
  refine a_aload_n (q := 80) dX9_digest_79 rfl rfl rfl ?_
  refine a_aload_n (q := 81) dX9_digest_80 rfl rfl rfl ?_
  refine a_getB (q := 84) dX9_digest_81 fX9_84 rfl rfl rfl ?_
  refine a_if_eqZ (q := 87) 91 dX9_digest_84 (by decide) rfl (fun c84 => ?_) (fun c84 => ?_)
  · skip
    refine a_lconst (q := 92) 0 dX9_digest_91 (by decide) rfl ?_
    refine a_cVB0 (q := 95) _ dX9_digest_92 kX9_266 (m_mix (h := mg G 1831) 0) rfl rfl rfl (Nat.le_of_ble_eq_true rfl) ⟨(Nat.le_of_ble_eq_true rfl), (Nat.le_of_ble_eq_true rfl)⟩ ⟨(Nat.le_of_ble_eq_true rfl), (Nat.le_of_ble_eq_true rfl)⟩ rfl ?_
    refine a_aload_n (q := 96) dX9_digest_95 rfl rfl rfl ?_
    refine a_getB (q := 99) dX9_digest_96 fX9_84 rfl rfl rfl ?_
    refine a_if_eqZ (q := 102) 106 dX9_digest_99 (by decide) rfl (fun c99 => ?_) (fun c99 => ?_)
    · skip
      exact l_md3 (th := 0) (h := mx (mg G 1831) (b2 false)) _ hT hf _ ⟨rfl, rfl, rfl, _, rfl⟩
    · rw [ha] at c99; cases c99
  · rw [ha] at c84; cases c84
theorem m_digest1 (hg : gok G) (hT : T.1 ≤ 60) (hf : ∀ i, i < 200 → W.2.2.2.2 i < big) (ha : Y.1 = true) (h2 : Int64) (hM : Ct g mX9_mixAnalysis [.ref (g.2.1 + 0)] 0 A (BM g G T 0 Y W R Z U L (mx (mg G 1831) (b2 true)) O) 0 0 (rP none A (BM g G T 0 Y W R Z U L h2 O)) noX) : Ct g mX9_digest [.ref (g.2.1 + 0)] 0 A (BM g G T th Y W R Z U L h O) 0 0 (fun v z A' B' => v = some (.long (dgM T W h2)) ∧ z = 0 ∧ A' = A ∧ ∃ h', B' = BM g G T 0 Y W R Z U L h' O) noX := by
  refine Ct.of [some (.ref (g.2.1 + 0)), none] (by decide) rfl (Nat.le_of_ble_eq_true rfl) rfl ?_
  refine a_aload_n (q := 1) dX9_digest_0 rfl rfl rfl ?_
  refine a_iconst (q := 2) (nI 0) dX9_digest_1 (by decide) rfl ?_
  refine a_putB (q := 5) dX9_digest_2 fX9_81 (fun h => nomatch h) rfl (Nat.le_of_ble_eq_true rfl) rfl rfl rfl ?_
  refine a_aload_n (q := 6) dX9_digest_5 rfl rfl rfl ?_
  refine a_ldc2 (q := 9) _ dX9_digest_6 jX9_270 rfl ?_
  refine a_putB (q := 12) dX9_digest_9 fX9_262 (fun h => nomatch h) rfl (Nat.le_of_ble_eq_true rfl) rfl rfl rfl ?_
  refine a_aload_n (q := 13) dX9_digest_12 rfl rfl rfl ?_
  refine a_aload_n (q := 14) dX9_digest_13 rfl rfl rfl ?_
  refine a_getB (q := 17) dX9_digest_14 fX9_7 rfl rfl rfl ?_
  refine a_i2l (q := 18) dX9_digest_17 rfl ?_
  refine a_cVB0 (q := 21) _ dX9_digest_18 kX9_266 (m_mix (G := G) (th := 0) (h := 1831) (nI G.1).toInt64) rfl rfl rfl (Nat.le_of_ble_eq_true rfl) ⟨(Nat.le_of_ble_eq_true rfl), (Nat.le_of_ble_eq_true rfl)⟩ ⟨(Nat.le_of_ble_eq_true rfl), (Nat.le_of_ble_eq_true rfl)⟩ rfl ?_
  refine a_aload_n (q := 22) dX9_digest_21 rfl rfl rfl ?_
  refine a_aload_n (q := 23) dX9_digest_22 rfl rfl rfl ?_
  refine a_getB (q := 26) dX9_digest_23 fX9_101 rfl rfl rfl ?_
  refine a_i2l (q := 27) dX9_digest_26 rfl ?_
  refine a_cVB0 (q := 30) _ dX9_digest_27 kX9_266 (m_mix (G := G) (th := 0) (h := mx 1831 (nI G.1)) (nI G.2.1).toInt64) rfl rfl rfl (Nat.le_of_ble_eq_true rfl) ⟨(Nat.le_of_ble_eq_true rfl), (Nat.le_of_ble_eq_true rfl)⟩ ⟨(Nat.le_of_ble_eq_true rfl), (Nat.le_of_ble_eq_true rfl)⟩ rfl ?_
  refine a_iconst (q := 31) (nI 0) dX9_digest_30 (by decide) rfl ?_
  refine a_istore_n (q := 32) dX9_digest_31 rfl (Nat.le_of_ble_eq_true rfl) rfl rfl ?_
  refine l_md1 (th := 0) _ hg _ 0 (mx (mx 1831 (nI G.1)) (nI G.2.1)) rfl (Nat.zero_le _) ?_
  refine a_aload_n (q := 80) dX9_digest_79 rfl rfl rfl ?_
  refine a_aload_n (q := 81) dX9_digest_80 rfl rfl rfl ?_
  refine a_getB (q := 84) dX9_digest_81 fX9_84 rfl rfl rfl ?_
  refine a_if_eqZ (q := 87) 91 dX9_digest_84 (by decide) rfl (fun c84 => ?_) (fun c84 => ?_)
  · rw [ha] at c84; cases c84
  · skip
    refine a_lconst (q := 88) 1 dX9_digest_87 (by decide) rfl ?_
    refine a_goto 92 dX9_digest_88 (by decide) ?_
    refine a_cVB0 (q := 95) _ dX9_digest_92 kX9_266 (m_mix (h := mg G 1831) 1) rfl rfl rfl (Nat.le_of_ble_eq_true rfl) ⟨(Nat.le_of_ble_eq_true rfl), (Nat.le_of_ble_eq_true rfl)⟩ ⟨(Nat.le_of_ble_eq_true rfl), (Nat.le_of_ble_eq_true rfl)⟩ rfl ?_
    refine a_aload_n (q := 96) dX9_digest_95 rfl rfl rfl ?_
    refine a_getB (q := 99) dX9_digest_96 fX9_84 rfl rfl rfl ?_
    refine a_if_eqZ (q := 102) 106 dX9_digest_99 (by decide) rfl (fun c99 => ?_) (fun c99 => ?_)
    · rw [ha] at c99; cases c99
    · skip
      refine a_aload_n (q := 103) dX9_digest_102 rfl rfl rfl ?_
      refine a_cVB0 (q := 106) _ dX9_digest_103 kX9_272 (hM) rfl rfl rfl (Nat.le_of_ble_eq_true rfl) ⟨(Nat.le_of_ble_eq_true rfl), (Nat.le_of_ble_eq_true rfl)⟩ ⟨(Nat.le_of_ble_eq_true rfl), (Nat.le_of_ble_eq_true rfl)⟩ rfl ?_
      exact l_md3 (th := 0) (h := h2) _ hT hf _ ⟨rfl, rfl, rfl, _, rfl⟩
end MDigest

