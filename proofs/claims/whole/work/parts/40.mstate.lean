/-! ===== what a state of the reference is ===== -/
/-- isAnalysed, back, paths, values, increments, inTree -/
abbrev Ya : Type := Bool × (Nat → Bool) × (Nat → Int32) × (Nat → Int32) × (Nat → Int32) × (Nat → Bool)
/-- isWalking, isOver, at, register, counts -/
abbrev Wa : Type := Bool × Bool × Nat × Int32 × (Nat → Nat)
/-- readNodes, readEdges, readFrom, readTo, stage -/
abbrev Ra : Type := Int32 × Nat × (Nat → Int32) × (Nat → Int32) × Nat
/-- seen, onPath, path, nextEdge, left, leftMany -/
abbrev Za : Type := (Nat → Bool) × (Nat → Bool) × (Nat → Nat) × (Nat → Nat) × (Nat → Nat) × Nat
/-- group, potential, isKnown, isLookedAt -/
abbrev Ua : Type := (Nat → Nat) × (Nat → Int32) × (Nat → Bool) × (Nat → Bool)
abbrev La : Type := (Nat → Nat) × Nat
/-- the answers' cells -/
abbrev Oa : Type := (Nat → Int64) × (Nat → UInt64)
def BM (g : gp_T) (G : Gr) (T : Tx) (th : Nat) (Y : Ya) (W : Wa) (R : Ra) (Z : Za) (U : Ua) (L : La) (h : Int64) (O : Oa) : List va_E :=
  oB 9 (.int (nI th) :: .int (nI G.1) :: .int (nI G.2.1) :: .ref (g.2.1 + 1) :: .ref (g.2.1 + 2) :: .ref (g.2.1 + 3) :: .int (nI T.1) :: .ref (g.2.1 + 4) :: .int (b2 Y.1) :: .ref (g.2.1 + 5) :: .ref (g.2.1 + 6) :: .ref (g.2.1 + 7) :: .ref (g.2.1 + 8) :: .ref (g.2.1 + 9) :: .int (b2 W.1) :: .int (b2 W.2.1) :: .int (nI W.2.2.1) :: .int W.2.2.2.1 :: .ref (g.2.1 + 10) :: .int R.1 :: .int (nI R.2.1) :: .ref (g.2.1 + 11) :: .ref (g.2.1 + 12) :: .int (nI R.2.2.2.2) :: .ref (g.2.1 + 13) :: .ref (g.2.1 + 14) :: .ref (g.2.1 + 15) :: .ref (g.2.1 + 16) :: .ref (g.2.1 + 17) :: .int (nI Z.2.2.2.2.2) :: .ref (g.2.1 + 18) :: .ref (g.2.1 + 19) :: .ref (g.2.1 + 20) :: .ref (g.2.1 + 21) :: .ref (g.2.1 + 22) :: .int (nI L.2) :: .long h :: []) ::
  aN g 24 G.2.2.1 ::
  aN g 24 G.2.2.2.1 ::
  aN g 24 G.2.2.2.2 ::
  aN g 60 T.2 ::
  aB g 24 Y.2.1 ::
  aI g 12 Y.2.2.1 ::
  aI g 48 Y.2.2.2.1 ::
  aI g 48 Y.2.2.2.2.1 ::
  aB g 48 Y.2.2.2.2.2 ::
  aN g 200 W.2.2.2.2 ::
  aI g 24 R.2.2.1 ::
  aI g 24 R.2.2.2.1 ::
  aB g 12 Z.1 ::
  aB g 12 Z.2.1 ::
  aN g 12 Z.2.2.1 ::
  aN g 12 Z.2.2.2.1 ::
  aN g 12 Z.2.2.2.2.1 ::
  aN g 12 U.1 ::
  aI g 12 U.2.1 ::
  aB g 12 U.2.2.1 ::
  aB g 48 U.2.2.2 ::
  aN g 24 L.1 ::
  aJ g 1 O.1 ::
  aD g 1 O.2 :: []
/-- a number, or none -/
def oI : Option Nat → Int32
  | none => -1
  | some k => nI k
def wi (v lo hi : Int32) : Bool := decide (¬ v < lo ∧ ¬ hi < v)
theorem i32_lt {a b : Int32} : a < b ↔ a.toInt < b.toInt := Int32.lt_iff_toInt_lt
theorem i32_le {a b : Int32} : a ≤ b ↔ a.toInt ≤ b.toInt := Int32.le_iff_toInt_le
theorem wi_inR {x : Int32} {n : Nat} (hn : n < 2 ^ 30) : wi x (nI 0) (nI n - nI 1) = inR x n := by
  unfold wi inR
  congr 1
  apply propext
  rw [i32_lt, i32_lt, i32_lt, i32_le, pk_sub_toInt hn (by decide), nI_toInt (show n < 2 ^ 31 by omega), nI_toInt (show 0 < 2 ^ 31 by decide)]
  have h0 : (0 : Int32).toInt = 0 := by decide
  rw [h0]
  omega
theorem wi_inR' {x : Int32} {n : Nat} (h1 : 1 ≤ n) (hn : n < 2 ^ 30) : wi x (nI 0) (nI (n - 1)) = inR x n := by
  rw [← wi_inR hn, pk_sub h1]
/-- the first edge between x and y -/
def ebF (G : Gr) (x y : Int32) : Nat → Nat → Option Nat
  | 0, _ => none
  | m + 1, k => if nI (G.2.2.1 k) = x ∧ nI (G.2.2.2.1 k) = y then some k else ebF G x y m (k + 1)
def ebt (G : Gr) (x y : Int32) : Option Nat := ebF G x y G.2.1 0
def noWa (W : Wa) : Wa := (false, false, W.2.2.1, nI 0, fun _ => 0)
def mFr (G : Gr) (k : Nat) : Nat := if k % 2 = 1 then 0 else G.2.2.1 (k / 2)
def mTo (G : Gr) (bk : Nat → Bool) (k : Nat) : Nat := if k % 2 = 0 ∧ bk (k / 2) = true then G.1 - 1 else G.2.2.2.1 (k / 2)
def mIs (G : Gr) (bk : Nat → Bool) (k : Nat) : Bool := decide (k / 2 < G.2.1 ∧ (k % 2 = 0 ∨ bk (k / 2) = true))
def mKd (bk : Nat → Bool) (k : Nat) : Nat := if k % 2 = 1 then 2 else if bk (k / 2) = true then 1 else 0
def mCb (bk : Nat → Bool) (a b : Nat) : Bool := if mKd bk a = mKd bk b then decide (a < b) else decide (mKd bk a < mKd bk b)
section MBase
variable {g : gp_T} {A : List va_E} {G : Gr} {T : Tx} {th : Nat} {Y : Ya} {W : Wa} {R : Ra} {Z : Za} {U : Ua} {L : La} {h : Int64} {O : Oa}
theorem m_thrown : Ct g mX9_thrown [.ref (g.2.1 + 0)] 0 A (BM g G T th Y W R Z U L h O) 0 0 (rP (some (.int (nI th))) A (BM g G T th Y W R Z U L h O)) noX := by
  refine Ct.of [some (.ref (g.2.1 + 0))] (by decide) rfl (Nat.le_of_ble_eq_true rfl) rfl ?_
  refine a_aload_n (q := 1) dX9_thrown_0 rfl rfl rfl ?_
  refine a_getB (q := 4) dX9_thrown_1 fX9_81 rfl rfl rfl ?_
  exact a_iret dX9_thrown_4 rfl rfl (Nat.le_of_ble_eq_true rfl) (Nat.le_of_ble_eq_true rfl) (⟨rfl, rfl, rfl, rfl⟩)
theorem m_within {B : List va_E} (v lo hi : Int32) : Ct g mX9_within [.int v, .int lo, .int hi] 0 A B 0 0 (rP (some (.int (b2 (wi v lo hi)))) A B) noX := by
  refine Ct.of [some (.int v), some (.int lo), some (.int hi)] (by decide) rfl (Nat.le_of_ble_eq_true rfl) rfl ?_
  refine a_iload_n (q := 1) dX9_within_0 rfl rfl rfl ?_
  refine a_iload_n (q := 2) dX9_within_1 rfl rfl rfl ?_
  refine a_icmp_lt (q := 5) 14 dX9_within_2 (by decide) rfl (fun c2 => ?_) (fun c2 => ?_)
  · skip
    refine a_iconst (q := 15) (b2 false) dX9_within_14 (by decide) rfl ?_
    exact a_iret dX9_within_15 rfl (b2_narrow _) (Nat.le_of_ble_eq_true rfl) (Nat.le_of_ble_eq_true rfl) (⟨by unfold wi; simp [*], rfl, rfl, rfl⟩)
  · skip
    refine a_iload_n (q := 6) dX9_within_5 rfl rfl rfl ?_
    refine a_iload_n (q := 7) dX9_within_6 rfl rfl rfl ?_
    refine a_icmp_gt (q := 10) 14 dX9_within_7 (by decide) rfl (fun c7 => ?_) (fun c7 => ?_)
    · skip
      refine a_iconst (q := 15) (b2 false) dX9_within_14 (by decide) rfl ?_
      exact a_iret dX9_within_15 rfl (b2_narrow _) (Nat.le_of_ble_eq_true rfl) (Nat.le_of_ble_eq_true rfl) (⟨by unfold wi; simp [*], rfl, rfl, rfl⟩)
    · skip
      refine a_iconst (q := 11) (b2 true) dX9_within_10 (by decide) rfl ?_
      refine a_goto 15 dX9_within_11 (by decide) ?_
      exact a_iret dX9_within_15 rfl (b2_narrow _) (Nat.le_of_ble_eq_true rfl) (Nat.le_of_ble_eq_true rfl) (⟨by unfold wi; simp [*], rfl, rfl, rfl⟩)
theorem l_mdis (P : ps_T) : ∀ (m k : Nat) (f : Nat → Nat), 200 - k = m → k ≤ 200 → (∀ i, i < k → f i = 0) → P none 0 A (BM g G T th (false, Y.2) (noWa W) R Z U L h O) → AW g mX9_discard 0 0 P noX 0 0 22 [some (.ref (g.2.1 + 0)), some (.int (nI k))] [] 0 A (BM g G T th (false, Y.2) (false, false, W.2.2.1, nI 0, f) R Z U L h O) := by
  intro m
  induction m with
  | zero =>
    intro k f hm hk hf hp
    refine a_swapB 10 (aN g 200 (fun _ => 0)) rfl (ceq_n (fun i hi => hf i (by omega))) ?_
    refine a_iload_n (q := 23) dX9_discard_22 rfl rfl rfl ?_
    refine a_sipush (q := 26) (nI 200) dX9_discard_23 (by decide) rfl ?_
    refine a_icmp_geN (q := 29) 42 dX9_discard_26 (by decide) (by omega) (by omega) rfl (fun c26 => ?_) (fun c26 => ?_)
    · skip
      exact a_ret dX9_discard_42 rfl (Nat.le_of_ble_eq_true rfl) (Nat.le_of_ble_eq_true rfl) (hp)
    · omega
  | succ m ih =>
    intro k f hm hk hf hp
    refine a_iload_n (q := 23) dX9_discard_22 rfl rfl rfl ?_
    refine a_sipush (q := 26) (nI 200) dX9_discard_23 (by decide) rfl ?_
    refine a_icmp_geN (q := 29) 42 dX9_discard_26 (by decide) (by omega) (by omega) rfl (fun c26 => ?_) (fun c26 => ?_)
    · omega
    · skip
      refine a_aload_n (q := 30) dX9_discard_29 rfl rfl rfl ?_
      refine a_getB (q := 33) dX9_discard_30 fX9_42 rfl rfl rfl ?_
      refine a_iload_n (q := 34) dX9_discard_33 rfl rfl rfl ?_
      refine a_iconst (q := 35) (nI 0) dX9_discard_34 (by decide) rfl ?_
      refine a_iastBN (q := 36) dX9_discard_35 rfl (by omega) (by decide) rfl ?_
      refine a_iincN (q := 39) (c := 1) dX9_discard_36 rfl (by decide) rfl rfl ?_
      refine a_goto 22 dX9_discard_39 (by decide) ?_
      exact ih (k + 1) (va_up f k 0) (by omega) (by omega) (fun i hi => by unfold va_up; split; rfl; exact hf i (by omega)) hp
theorem m_discard : Ct g mX9_discard [.ref (g.2.1 + 0)] 0 A (BM g G T th Y W R Z U L h O) 0 0 (rP none A (BM g G T th (false, Y.2) (noWa W) R Z U L h O)) noX := by
  refine Ct.of [some (.ref (g.2.1 + 0)), none] (by decide) rfl (Nat.le_of_ble_eq_true rfl) rfl ?_
  refine a_aload_n (q := 1) dX9_discard_0 rfl rfl rfl ?_
  refine a_iconst (q := 2) (b2 false) dX9_discard_1 (by decide) rfl ?_
  refine a_putB (q := 5) dX9_discard_2 fX9_84 (fun h => nomatch h) rfl (Nat.le_of_ble_eq_true rfl) (b2_narrow _) rfl rfl ?_
  refine a_aload_n (q := 6) dX9_discard_5 rfl rfl rfl ?_
  refine a_iconst (q := 7) (b2 false) dX9_discard_6 (by decide) rfl ?_
  refine a_putB (q := 10) dX9_discard_7 fX9_88 (fun h => nomatch h) rfl (Nat.le_of_ble_eq_true rfl) (b2_narrow _) rfl rfl ?_
  refine a_aload_n (q := 11) dX9_discard_10 rfl rfl rfl ?_
  refine a_iconst (q := 12) (b2 false) dX9_discard_11 (by decide) rfl ?_
  refine a_putB (q := 15) dX9_discard_12 fX9_91 (fun h => nomatch h) rfl (Nat.le_of_ble_eq_true rfl) (b2_narrow _) rfl rfl ?_
  refine a_aload_n (q := 16) dX9_discard_15 rfl rfl rfl ?_
  refine a_iconst (q := 17) (nI 0) dX9_discard_16 (by decide) rfl ?_
  refine a_putB (q := 20) dX9_discard_17 fX9_94 (fun h => nomatch h) rfl (Nat.le_of_ble_eq_true rfl) rfl rfl rfl ?_
  refine a_iconst (q := 21) (nI 0) dX9_discard_20 (by decide) rfl ?_
  refine a_istore_n (q := 22) dX9_discard_21 rfl (Nat.le_of_ble_eq_true rfl) rfl rfl ?_
  exact l_mdis _ _ 0 W.2.2.2.2 rfl (Nat.zero_le _) (fun i hi => absurd hi (Nat.not_lt_zero i)) ⟨rfl, rfl, rfl, rfl⟩
theorem m_setNodes (x : Int32) (n : Nat) (hx : wi x (nI 2) (nI 12) = true → x = nI n) : Ct g mX9_setNodes [.ref (g.2.1 + 0), .int x] 0 A (BM g G T th Y W R Z U L h O) 0 0 (rP none A (if wi x (nI 2) (nI 12) = true then BM g (n, 0, G.2.2) T 0 (false, Y.2) (noWa W) R Z U L h O else BM g G T 1 Y W R Z U L h O)) noX := by
  refine Ct.of [some (.ref (g.2.1 + 0)), some (.int x)] (by decide) rfl (Nat.le_of_ble_eq_true rfl) rfl ?_
  cases hw : wi x (nI 2) (nI 12) with
  | true =>
    rw [if_pos rfl]
    have hx := hx hw
    subst hx
    refine a_aload_n (q := 1) dX9_setNodes_0 rfl rfl rfl ?_
    refine a_iload_n (q := 2) dX9_setNodes_1 rfl rfl rfl ?_
    refine a_iconst (q := 3) (nI 2) dX9_setNodes_2 (by decide) rfl ?_
    refine a_bipush (q := 5) (nI 12) dX9_setNodes_3 (by decide) rfl ?_
    refine a_cSv (q := 8) _ dX9_setNodes_5 kX9_97 (m_within _ _ _) rfl rfl (Nat.le_of_ble_eq_true rfl) ⟨(Nat.le_of_ble_eq_true rfl), (Nat.le_of_ble_eq_true rfl)⟩ ⟨(Nat.le_of_ble_eq_true rfl), (Nat.le_of_ble_eq_true rfl)⟩ rfl ?_
    refine a_if_eqZ (q := 11) 15 dX9_setNodes_8 (by decide) rfl (fun c8 => ?_) (fun c8 => ?_)
    · rw [hw] at c8; cases c8
    · skip
      refine a_iconst (q := 12) (nI 0) dX9_setNodes_11 (by decide) rfl ?_
      refine a_goto 16 dX9_setNodes_12 (by decide) ?_
      refine a_putB (q := 19) dX9_setNodes_16 fX9_81 (fun h => nomatch h) rfl (Nat.le_of_ble_eq_true rfl) rfl rfl rfl ?_
      refine a_aload_n (q := 20) dX9_setNodes_19 rfl rfl rfl ?_
      refine a_getB (q := 23) dX9_setNodes_20 fX9_81 rfl rfl rfl ?_
      refine a_if_neN (q := 26) 40 dX9_setNodes_23 (by decide) (by omega) rfl (fun c23 => ?_) (fun c23 => ?_)
      · exact absurd c23 (Nat.lt_irrefl 0)
      · skip
        refine a_aload_n (q := 27) dX9_setNodes_26 rfl rfl rfl ?_
        refine a_iload_n (q := 28) dX9_setNodes_27 rfl rfl rfl ?_
        refine a_putB (q := 31) dX9_setNodes_28 fX9_7 (fun h => nomatch h) rfl (Nat.le_of_ble_eq_true rfl) rfl rfl rfl ?_
        refine a_aload_n (q := 32) dX9_setNodes_31 rfl rfl rfl ?_
        refine a_iconst (q := 33) (nI 0) dX9_setNodes_32 (by decide) rfl ?_
        refine a_putB (q := 36) dX9_setNodes_33 fX9_101 (fun h => nomatch h) rfl (Nat.le_of_ble_eq_true rfl) rfl rfl rfl ?_
        refine a_aload_n (q := 37) dX9_setNodes_36 rfl rfl rfl ?_
        refine a_cVB0 (q := 40) _ dX9_setNodes_37 kX9_104 (m_discard (G := (n, 0, G.2.2)) (th := 0)) rfl rfl rfl (Nat.le_of_ble_eq_true rfl) ⟨(Nat.le_of_ble_eq_true rfl), (Nat.le_of_ble_eq_true rfl)⟩ ⟨(Nat.le_of_ble_eq_true rfl), (Nat.le_of_ble_eq_true rfl)⟩ rfl ?_
        exact a_ret dX9_setNodes_40 rfl (Nat.le_of_ble_eq_true rfl) (Nat.le_of_ble_eq_true rfl) (⟨rfl, rfl, rfl, rfl⟩)
  | false =>
    rw [if_neg (by decide)]
    refine a_aload_n (q := 1) dX9_setNodes_0 rfl rfl rfl ?_
    refine a_iload_n (q := 2) dX9_setNodes_1 rfl rfl rfl ?_
    refine a_iconst (q := 3) (nI 2) dX9_setNodes_2 (by decide) rfl ?_
    refine a_bipush (q := 5) (nI 12) dX9_setNodes_3 (by decide) rfl ?_
    refine a_cSv (q := 8) _ dX9_setNodes_5 kX9_97 (m_within _ _ _) rfl rfl (Nat.le_of_ble_eq_true rfl) ⟨(Nat.le_of_ble_eq_true rfl), (Nat.le_of_ble_eq_true rfl)⟩ ⟨(Nat.le_of_ble_eq_true rfl), (Nat.le_of_ble_eq_true rfl)⟩ rfl ?_
    refine a_if_eqZ (q := 11) 15 dX9_setNodes_8 (by decide) rfl (fun c8 => ?_) (fun c8 => ?_)
    · skip
      refine a_iconst (q := 16) (nI 1) dX9_setNodes_15 (by decide) rfl ?_
      refine a_putB (q := 19) dX9_setNodes_16 fX9_81 (fun h => nomatch h) rfl (Nat.le_of_ble_eq_true rfl) rfl rfl rfl ?_
      refine a_aload_n (q := 20) dX9_setNodes_19 rfl rfl rfl ?_
      refine a_getB (q := 23) dX9_setNodes_20 fX9_81 rfl rfl rfl ?_
      refine a_if_neN (q := 26) 40 dX9_setNodes_23 (by decide) (by omega) rfl (fun c23 => ?_) (fun c23 => ?_)
      · skip
        exact a_ret dX9_setNodes_40 rfl (Nat.le_of_ble_eq_true rfl) (Nat.le_of_ble_eq_true rfl) (⟨rfl, rfl, rfl, rfl⟩)
      · exact absurd c23 (by decide)
    · rw [hw] at c8; cases c8
theorem m_isNode (x : Int32) (hn : 1 ≤ G.1) (hn2 : G.1 ≤ 12) : Ct g mX9_isNode [.ref (g.2.1 + 0), .int x] 0 A (BM g G T th Y W R Z U L h O) 0 0 (rP (some (.int (b2 (inR x G.1)))) A (BM g G T th Y W R Z U L h O)) noX := by
  refine Ct.of [some (.ref (g.2.1 + 0)), some (.int x)] (by decide) rfl (Nat.le_of_ble_eq_true rfl) rfl ?_
  rw [← wi_inR' hn (by omega)]
  refine a_iload_n (q := 1) dX9_isNode_0 rfl rfl rfl ?_
  refine a_iconst (q := 2) (nI 0) dX9_isNode_1 (by decide) rfl ?_
  refine a_aload_n (q := 3) dX9_isNode_2 rfl rfl rfl ?_
  refine a_getB (q := 6) dX9_isNode_3 fX9_7 rfl rfl rfl ?_
  refine a_iconst (q := 7) (nI 1) dX9_isNode_6 (by decide) rfl ?_
  refine a_isubN (q := 8) dX9_isNode_7 (by omega) rfl ?_
  refine a_cSv (q := 11) _ dX9_isNode_8 kX9_97 (m_within _ _ _) rfl rfl (Nat.le_of_ble_eq_true rfl) ⟨(Nat.le_of_ble_eq_true rfl), (Nat.le_of_ble_eq_true rfl)⟩ ⟨(Nat.le_of_ble_eq_true rfl), (Nat.le_of_ble_eq_true rfl)⟩ rfl ?_
  exact a_iret dX9_isNode_11 rfl (b2_narrow _) (Nat.le_of_ble_eq_true rfl) (Nat.le_of_ble_eq_true rfl) (⟨rfl, rfl, rfl, rfl⟩)
theorem m_isEdge (x : Int32) (he : G.2.1 ≤ 24) : Ct g mX9_isEdge [.ref (g.2.1 + 0), .int x] 0 A (BM g G T th Y W R Z U L h O) 0 0 (rP (some (.int (b2 (inR x G.2.1)))) A (BM g G T th Y W R Z U L h O)) noX := by
  refine Ct.of [some (.ref (g.2.1 + 0)), some (.int x)] (by decide) rfl (Nat.le_of_ble_eq_true rfl) rfl ?_
  rw [← wi_inR (n := G.2.1) (by omega)]
  refine a_iload_n (q := 1) dX9_isEdge_0 rfl rfl rfl ?_
  refine a_iconst (q := 2) (nI 0) dX9_isEdge_1 (by decide) rfl ?_
  refine a_aload_n (q := 3) dX9_isEdge_2 rfl rfl rfl ?_
  refine a_getB (q := 6) dX9_isEdge_3 fX9_101 rfl rfl rfl ?_
  refine a_iconst (q := 7) (nI 1) dX9_isEdge_6 (by decide) rfl ?_
  refine a_isub (q := 8) dX9_isEdge_7 rfl ?_
  refine a_cSv (q := 11) _ dX9_isEdge_8 kX9_97 (m_within _ _ _) rfl rfl (Nat.le_of_ble_eq_true rfl) ⟨(Nat.le_of_ble_eq_true rfl), (Nat.le_of_ble_eq_true rfl)⟩ ⟨(Nat.le_of_ble_eq_true rfl), (Nat.le_of_ble_eq_true rfl)⟩ rfl ?_
  exact a_iret dX9_isEdge_11 rfl (b2_narrow _) (Nat.le_of_ble_eq_true rfl) (Nat.le_of_ble_eq_true rfl) (⟨rfl, rfl, rfl, rfl⟩)
theorem l_meb (P : ps_T) (x y : Int32) (he : G.2.1 ≤ 24) : ∀ m k : Nat, G.2.1 - k = m → k ≤ G.2.1 → P (some (.int (oI (ebF G x y m k)))) 0 A (BM g G T th Y W R Z U L h O) → AW g mX9_edgeBetween 0 0 P noX 0 0 2 [some (.ref (g.2.1 + 0)), some (.int x), some (.int y), some (.int (nI k))] [] 0 A (BM g G T th Y W R Z U L h O) := by
  intro m
  induction m with
  | zero =>
    intro k hm hk hp
    refine a_iload_n (q := 3) dX9_edgeBetween_2 rfl rfl rfl ?_
    refine a_aload_n (q := 4) dX9_edgeBetween_3 rfl rfl rfl ?_
    refine a_getB (q := 7) dX9_edgeBetween_4 fX9_101 rfl rfl rfl ?_
    refine a_icmp_geN (q := 10) 38 dX9_edgeBetween_7 (by decide) (by omega) (by omega) rfl (fun c7 => ?_) (fun c7 => ?_)
    · skip
      refine a_iconst (q := 39) (-1) dX9_edgeBetween_38 (by decide) rfl ?_
      exact a_iret dX9_edgeBetween_39 rfl rfl (Nat.le_of_ble_eq_true rfl) (Nat.le_of_ble_eq_true rfl) (hp)
    · omega
  | succ m ih =>
    intro k hm hk hp
    unfold ebF at hp
    refine a_iload_n (q := 3) dX9_edgeBetween_2 rfl rfl rfl ?_
    refine a_aload_n (q := 4) dX9_edgeBetween_3 rfl rfl rfl ?_
    refine a_getB (q := 7) dX9_edgeBetween_4 fX9_101 rfl rfl rfl ?_
    refine a_icmp_geN (q := 10) 38 dX9_edgeBetween_7 (by decide) (by omega) (by omega) rfl (fun c7 => ?_) (fun c7 => ?_)
    · omega
    · skip
      refine a_aload_n (q := 11) dX9_edgeBetween_10 rfl rfl rfl ?_
      refine a_getB (q := 14) dX9_edgeBetween_11 fX9_13 rfl rfl rfl ?_
      refine a_iload_n (q := 15) dX9_edgeBetween_14 rfl rfl rfl ?_
      refine a_ialdBN (q := 16) dX9_edgeBetween_15 rfl (by omega) (by decide) rfl ?_
      refine a_iload_n (q := 17) dX9_edgeBetween_16 rfl rfl rfl ?_
      refine a_icmp_ne (q := 20) 32 dX9_edgeBetween_17 (by decide) rfl (fun c17 => ?_) (fun c17 => ?_)
      · rw [if_neg (fun q => c17 q.1)] at hp
        refine a_iincN (q := 35) (c := 1) dX9_edgeBetween_32 rfl (by decide) rfl rfl ?_
        refine a_goto 2 dX9_edgeBetween_35 (by decide) ?_
        exact ih (k + 1) (by omega) (by omega) hp
      · skip
        refine a_aload_n (q := 21) dX9_edgeBetween_20 rfl rfl rfl ?_
        refine a_getB (q := 24) dX9_edgeBetween_21 fX9_17 rfl rfl rfl ?_
        refine a_iload_n (q := 25) dX9_edgeBetween_24 rfl rfl rfl ?_
        refine a_ialdBN (q := 26) dX9_edgeBetween_25 rfl (by omega) (by decide) rfl ?_
        refine a_iload_n (q := 27) dX9_edgeBetween_26 rfl rfl rfl ?_
        refine a_icmp_ne (q := 30) 32 dX9_edgeBetween_27 (by decide) rfl (fun c27 => ?_) (fun c27 => ?_)
        · rw [if_neg (fun q => c27 q.2)] at hp
          refine a_iincN (q := 35) (c := 1) dX9_edgeBetween_32 rfl (by decide) rfl rfl ?_
          refine a_goto 2 dX9_edgeBetween_35 (by decide) ?_
          exact ih (k + 1) (by omega) (by omega) hp
        · rw [if_pos ⟨c17, c27⟩] at hp
          refine a_iload_n (q := 31) dX9_edgeBetween_30 rfl rfl rfl ?_
          exact a_iret dX9_edgeBetween_31 rfl rfl (Nat.le_of_ble_eq_true rfl) (Nat.le_of_ble_eq_true rfl) (hp)
theorem m_edgeBetween (x y : Int32) (he : G.2.1 ≤ 24) : Ct g mX9_edgeBetween [.ref (g.2.1 + 0), .int x, .int y] 0 A (BM g G T th Y W R Z U L h O) 0 0 (rP (some (.int (oI (ebt G x y)))) A (BM g G T th Y W R Z U L h O)) noX := by
  refine Ct.of [some (.ref (g.2.1 + 0)), some (.int x), some (.int y), none] (by decide) rfl (Nat.le_of_ble_eq_true rfl) rfl ?_
  refine a_iconst (q := 1) (nI 0) dX9_edgeBetween_0 (by decide) rfl ?_
  refine a_istore_n (q := 2) dX9_edgeBetween_1 rfl (Nat.le_of_ble_eq_true rfl) rfl rfl ?_
  exact l_meb _ x y he _ 0 rfl (Nat.zero_le _) ⟨rfl, rfl, rfl, rfl⟩
theorem ebF_jn {G : Gr} {x y : Int32} : ∀ m k : Nat, k + m = G.2.1 → (∀ i, i < k → ¬ (nI (G.2.2.1 i) = x ∧ nI (G.2.2.2.1 i) = y)) → ((ebF G x y m k).isSome = jn G x y) ∧ ∀ i, ebF G x y m k = some i → i < G.2.1 ∧ nI (G.2.2.1 i) = x ∧ nI (G.2.2.2.1 i) = y ∧ ∀ j, j < i → ¬ (nI (G.2.2.1 j) = x ∧ nI (G.2.2.2.1 j) = y) := by
  intro m
  induction m with
  | zero =>
    intro k hk hf
    refine ⟨?_, fun i hi => by cases hi⟩
    symm
    exact anyR_f (fun i hi => decide_eq_false (hf i (by omega)))
  | succ m ih =>
    intro k hk hf
    unfold ebF
    split
    · rename_i q
      refine ⟨?_, fun i hi => ?_⟩
      · symm
        exact anyR_t (k := k) (by omega) (decide_eq_true q)
      · cases hi
        exact ⟨by omega, q.1, q.2, hf⟩
    · rename_i q
      exact ih (k + 1) (by omega) (fun i hi => by
        by_cases e : i = k
        · rw [e]; exact q
        · exact hf i (by omega))
theorem ebt_jn {G : Gr} {x y : Int32} : ((ebt G x y).isSome = jn G x y) ∧ ∀ i, ebt G x y = some i → i < G.2.1 ∧ nI (G.2.2.1 i) = x ∧ nI (G.2.2.2.1 i) = y ∧ ∀ j, j < i → ¬ (nI (G.2.2.1 j) = x ∧ nI (G.2.2.2.1 j) = y) := ebF_jn _ 0 (Nat.zero_add _) (fun i hi => absurd hi (Nat.not_lt_zero i))
theorem oI_m1 {o : Option Nat} (h : ∀ k, o = some k → k < 2 ^ 31) : oI o = -1 ↔ o = none := by
  cases o with
  | none => exact ⟨fun _ => rfl, fun _ => rfl⟩
  | some k => exact ⟨fun q => absurd q (nI_m1 (h k rfl)), fun q => by cases q⟩
theorem m_put (a b : Nat) (he : G.2.1 < 24) : Ct g mX9_put [.ref (g.2.1 + 0), .int (nI a), .int (nI b)] 0 A (BM g G T th Y W R Z U L h O) 0 0 (rP none A (BM g (gadd G a b) T th Y W R Z U L h O)) noX := by
  refine Ct.of [some (.ref (g.2.1 + 0)), some (.int (nI a)), some (.int (nI b))] (by decide) rfl (Nat.le_of_ble_eq_true rfl) rfl ?_
  refine a_aload_n (q := 1) dX9_put_0 rfl rfl rfl ?_
  refine a_getB (q := 4) dX9_put_1 fX9_13 rfl rfl rfl ?_
  refine a_aload_n (q := 5) dX9_put_4 rfl rfl rfl ?_
  refine a_getB (q := 8) dX9_put_5 fX9_101 rfl rfl rfl ?_
  refine a_iload_n (q := 9) dX9_put_8 rfl rfl rfl ?_
  refine a_iastBN (q := 10) dX9_put_9 rfl (by omega) (by decide) rfl ?_
  refine a_aload_n (q := 11) dX9_put_10 rfl rfl rfl ?_
  refine a_getB (q := 14) dX9_put_11 fX9_17 rfl rfl rfl ?_
  refine a_aload_n (q := 15) dX9_put_14 rfl rfl rfl ?_
  refine a_getB (q := 18) dX9_put_15 fX9_101 rfl rfl rfl ?_
  refine a_iload_n (q := 19) dX9_put_18 rfl rfl rfl ?_
  refine a_iastBN (q := 20) dX9_put_19 rfl (by omega) (by decide) rfl ?_
  refine a_aload_n (q := 21) dX9_put_20 rfl rfl rfl ?_
  refine a_getB (q := 24) dX9_put_21 fX9_20 rfl rfl rfl ?_
  refine a_aload_n (q := 25) dX9_put_24 rfl rfl rfl ?_
  refine a_getB (q := 28) dX9_put_25 fX9_101 rfl rfl rfl ?_
  refine a_iconst (q := 29) (nI 1) dX9_put_28 (by decide) rfl ?_
  refine a_iastBN (q := 30) dX9_put_29 rfl (by omega) (by decide) rfl ?_
  refine a_aload_n (q := 31) dX9_put_30 rfl rfl rfl ?_
  refine a_dup (q := 32) dX9_put_31 rfl rfl ?_
  refine a_getB (q := 35) dX9_put_32 fX9_101 rfl rfl rfl ?_
  refine a_iconst (q := 36) (nI 1) dX9_put_35 (by decide) rfl ?_
  refine a_iaddN (q := 37) dX9_put_36 rfl ?_
  refine a_putB (q := 40) dX9_put_37 fX9_101 (fun h => nomatch h) rfl (Nat.le_of_ble_eq_true rfl) rfl rfl rfl ?_
  exact a_ret dX9_put_40 rfl (Nat.le_of_ble_eq_true rfl) (Nat.le_of_ble_eq_true rfl) (⟨rfl, rfl, rfl, rfl⟩)
/-- what addEdge says: 0 done, 1 not allowed, 2 full -/
def aeT (G : Gr) (x y : Int32) : Nat := if alw G x y = true then (if G.2.1 = 24 then 2 else 0) else 1
theorem m_addEdge0 (a b : Nat) (hg : gok G) (hx : alw G (nI a) (nI b) = true) (he : G.2.1 < 24) : Ct g mX9_addEdge [.ref (g.2.1 + 0), .int (nI a), .int (nI b)] 0 A (BM g G T th Y W R Z U L h O) 0 0 (rP (some (.int (nI G.2.1))) A (BM g (gadd G a b) T 0 (false, Y.2) (noWa W) R Z U L h O)) noX := by
  obtain ⟨g1, g2, g3, -⟩ := hg
  unfold alw at hx
  simp only [Bool.and_eq_true, Bool.not_eq_true', decide_eq_true_eq] at hx
  obtain ⟨⟨⟨⟨h1, h2⟩, h3⟩, h4⟩, h5⟩ := hx
  have h6 : ebt G (nI a) (nI b) = none := by
    have := (ebt_jn (G := G) (x := nI a) (y := nI b)).1
    rw [h5] at this
    cases hh : ebt G (nI a) (nI b) with
    | none => rfl
    | some k => rw [hh] at this; cases this
  refine Ct.of [some (.ref (g.2.1 + 0)), some (.int (nI a)), some (.int (nI b)), none] (by decide) rfl (Nat.le_of_ble_eq_true rfl) rfl ?_
  refine a_aload_n (q := 1) dX9_addEdge_0 rfl rfl rfl ?_
  refine a_iload_n (q := 2) dX9_addEdge_1 rfl rfl rfl ?_
  refine a_cVBv (q := 5) _ dX9_addEdge_2 kX9_107 (m_isNode _ (by omega) g2) rfl rfl rfl (Nat.le_of_ble_eq_true rfl) ⟨(Nat.le_of_ble_eq_true rfl), (Nat.le_of_ble_eq_true rfl)⟩ ⟨(Nat.le_of_ble_eq_true rfl), (Nat.le_of_ble_eq_true rfl)⟩ rfl ?_
  refine a_if_eqZ (q := 8) 44 dX9_addEdge_5 (by decide) rfl (fun c5 => ?_) (fun c5 => ?_)
  · rw [h1] at c5; cases c5
  · skip
    refine a_aload_n (q := 9) dX9_addEdge_8 rfl rfl rfl ?_
    refine a_iload_n (q := 10) dX9_addEdge_9 rfl rfl rfl ?_
    refine a_cVBv (q := 13) _ dX9_addEdge_10 kX9_107 (m_isNode _ (by omega) g2) rfl rfl rfl (Nat.le_of_ble_eq_true rfl) ⟨(Nat.le_of_ble_eq_true rfl), (Nat.le_of_ble_eq_true rfl)⟩ ⟨(Nat.le_of_ble_eq_true rfl), (Nat.le_of_ble_eq_true rfl)⟩ rfl ?_
    refine a_if_eqZ (q := 16) 44 dX9_addEdge_13 (by decide) rfl (fun c13 => ?_) (fun c13 => ?_)
    · rw [h2] at c13; cases c13
    · skip
      refine a_iload_n (q := 17) dX9_addEdge_16 rfl rfl rfl ?_
      refine a_aload_n (q := 18) dX9_addEdge_17 rfl rfl rfl ?_
      refine a_getB (q := 21) dX9_addEdge_18 fX9_7 rfl rfl rfl ?_
      refine a_iconst (q := 22) (nI 1) dX9_addEdge_21 (by decide) rfl ?_
      refine a_isubN (q := 23) dX9_addEdge_22 (by omega) rfl ?_
      refine a_icmp_eq (q := 26) 44 dX9_addEdge_23 (by decide) rfl (fun c23 => ?_) (fun c23 => ?_)
      · exact absurd c23 h3
      · skip
        refine a_iload_n (q := 27) dX9_addEdge_26 rfl rfl rfl ?_
        refine a_if_eq (q := 30) 44 dX9_addEdge_27 (by decide) rfl (fun c27 => ?_) (fun c27 => ?_)
        · exact absurd c27 h4
        · skip
          refine a_aload_n (q := 31) dX9_addEdge_30 rfl rfl rfl ?_
          refine a_iload_n (q := 32) dX9_addEdge_31 rfl rfl rfl ?_
          refine a_iload_n (q := 33) dX9_addEdge_32 rfl rfl rfl ?_
          refine a_cVBv (q := 36) _ dX9_addEdge_33 kX9_111 (m_edgeBetween _ _ g3) rfl rfl rfl (Nat.le_of_ble_eq_true rfl) ⟨(Nat.le_of_ble_eq_true rfl), (Nat.le_of_ble_eq_true rfl)⟩ ⟨(Nat.le_of_ble_eq_true rfl), (Nat.le_of_ble_eq_true rfl)⟩ rfl ?_
          rw [h6]
          refine a_iconst (q := 37) (-1) dX9_addEdge_36 (by decide) rfl ?_
          refine a_icmp_ne (q := 40) 44 dX9_addEdge_37 (by decide) rfl (fun c37 => ?_) (fun c37 => ?_)
          · exact absurd rfl c37
          · skip
            refine a_iconst (q := 41) (b2 true) dX9_addEdge_40 (by decide) rfl ?_
            refine a_goto 45 dX9_addEdge_41 (by decide) ?_
            refine a_istore_n (q := 46) dX9_addEdge_45 rfl (Nat.le_of_ble_eq_true rfl) rfl rfl ?_
            refine a_aload_n (q := 47) dX9_addEdge_46 rfl rfl rfl ?_
            refine a_iload_n (q := 48) dX9_addEdge_47 rfl rfl rfl ?_
            refine a_if_neZ (q := 51) 55 dX9_addEdge_48 (by decide) rfl (fun c48 => ?_) (fun c48 => ?_)
            · skip
              refine a_aload_n (q := 56) dX9_addEdge_55 rfl rfl rfl ?_
              refine a_getB (q := 59) dX9_addEdge_56 fX9_101 rfl rfl rfl ?_
              refine a_bipush (q := 61) (nI 24) dX9_addEdge_59 (by decide) rfl ?_
              refine a_icmp_neN (q := 64) 68 dX9_addEdge_61 (by decide) (by omega) (by omega) rfl (fun c61 => ?_) (fun c61 => ?_)
              · skip
                refine a_iconst (q := 69) (nI 0) dX9_addEdge_68 (by decide) rfl ?_
                refine a_putB (q := 72) dX9_addEdge_69 fX9_81 (fun h => nomatch h) rfl (Nat.le_of_ble_eq_true rfl) rfl rfl rfl ?_
                refine a_aload_n (q := 73) dX9_addEdge_72 rfl rfl rfl ?_
                refine a_getB (q := 76) dX9_addEdge_73 fX9_81 rfl rfl rfl ?_
                refine a_if_leN (q := 79) 81 dX9_addEdge_76 (by decide) (by omega) rfl (fun c76 => ?_) (fun c76 => ?_)
                · skip
                  refine a_aload_n (q := 82) dX9_addEdge_81 rfl rfl rfl ?_
                  refine a_iload_n (q := 83) dX9_addEdge_82 rfl rfl rfl ?_
                  refine a_iload_n (q := 84) dX9_addEdge_83 rfl rfl rfl ?_
                  refine a_cVB0 (q := 87) _ dX9_addEdge_84 kX9_115 (m_put (th := 0) a b he) rfl rfl rfl (Nat.le_of_ble_eq_true rfl) ⟨(Nat.le_of_ble_eq_true rfl), (Nat.le_of_ble_eq_true rfl)⟩ ⟨(Nat.le_of_ble_eq_true rfl), (Nat.le_of_ble_eq_true rfl)⟩ rfl ?_
                  refine a_aload_n (q := 88) dX9_addEdge_87 rfl rfl rfl ?_
                  refine a_cVB0 (q := 91) _ dX9_addEdge_88 kX9_104 (m_discard (G := gadd G a b) (th := 0)) rfl rfl rfl (Nat.le_of_ble_eq_true rfl) ⟨(Nat.le_of_ble_eq_true rfl), (Nat.le_of_ble_eq_true rfl)⟩ ⟨(Nat.le_of_ble_eq_true rfl), (Nat.le_of_ble_eq_true rfl)⟩ rfl ?_
                  refine a_aload_n (q := 92) dX9_addEdge_91 rfl rfl rfl ?_
                  refine a_getB (q := 95) dX9_addEdge_92 fX9_101 rfl rfl rfl ?_
                  refine a_iconst (q := 96) (nI 1) dX9_addEdge_95 (by decide) rfl ?_
                  refine a_isubN (q := 97) dX9_addEdge_96 (show 1 ≤ G.2.1 + 1 by omega) rfl ?_
                  exact a_iret dX9_addEdge_97 rfl rfl (Nat.le_of_ble_eq_true rfl) (Nat.le_of_ble_eq_true rfl) (⟨by show some (Value.int (nI (G.2.1 + 1 - 1))) = _; rw [Nat.add_sub_cancel], rfl, rfl, rfl⟩)
                · exact absurd c76 (Nat.lt_irrefl 0)
              · omega
            · cases c48
theorem m_addEdge1 (x y : Int32) (hg : gok G) (hx : alw G x y = false) : Ct g mX9_addEdge [.ref (g.2.1 + 0), .int x, .int y] 0 A (BM g G T th Y W R Z U L h O) 0 0 (rP (some (.int (nI 0))) A (BM g G T 1 Y W R Z U L h O)) noX := by
  obtain ⟨g1, g2, g3, -⟩ := hg
  have hno : inR x G.1 = true → inR y G.1 = true → ¬ x = nI (G.1 - 1) → ¬ y = 0 → jn G x y = false → False := by
    intro h1 h2 h3 h4 h5
    unfold alw at hx
    rw [h1, h2, decide_eq_true h3, decide_eq_true h4, h5] at hx
    cases hx
  refine Ct.of [some (.ref (g.2.1 + 0)), some (.int x), some (.int y), none] (by decide) rfl (Nat.le_of_ble_eq_true rfl) rfl ?_
  refine a_aload_n (q := 1) dX9_addEdge_0 rfl rfl rfl ?_
  refine a_iload_n (q := 2) dX9_addEdge_1 rfl rfl rfl ?_
  refine a_cVBv (q := 5) _ dX9_addEdge_2 kX9_107 (m_isNode _ (by omega) g2) rfl rfl rfl (Nat.le_of_ble_eq_true rfl) ⟨(Nat.le_of_ble_eq_true rfl), (Nat.le_of_ble_eq_true rfl)⟩ ⟨(Nat.le_of_ble_eq_true rfl), (Nat.le_of_ble_eq_true rfl)⟩ rfl ?_
  refine a_if_eqZ (q := 8) 44 dX9_addEdge_5 (by decide) rfl (fun c5 => ?_) (fun c5 => ?_)
  · skip
    refine a_iconst (q := 45) (b2 false) dX9_addEdge_44 (by decide) rfl ?_
    refine a_istore_n (q := 46) dX9_addEdge_45 rfl (Nat.le_of_ble_eq_true rfl) rfl rfl ?_
    refine a_aload_n (q := 47) dX9_addEdge_46 rfl rfl rfl ?_
    refine a_iload_n (q := 48) dX9_addEdge_47 rfl rfl rfl ?_
    refine a_if_neZ (q := 51) 55 dX9_addEdge_48 (by decide) rfl (fun c48 => ?_) (fun c48 => ?_)
    · cases c48
    · skip
      refine a_iconst (q := 52) (nI 1) dX9_addEdge_51 (by decide) rfl ?_
      refine a_goto 69 dX9_addEdge_52 (by decide) ?_
      refine a_putB (q := 72) dX9_addEdge_69 fX9_81 (fun h => nomatch h) rfl (Nat.le_of_ble_eq_true rfl) rfl rfl rfl ?_
      refine a_aload_n (q := 73) dX9_addEdge_72 rfl rfl rfl ?_
      refine a_getB (q := 76) dX9_addEdge_73 fX9_81 rfl rfl rfl ?_
      refine a_if_leN (q := 79) 81 dX9_addEdge_76 (by decide) (by omega) rfl (fun c76 => ?_) (fun c76 => ?_)
      · exact absurd c76 (by decide)
      · skip
        refine a_iconst (q := 80) (nI 0) dX9_addEdge_79 (by decide) rfl ?_
        exact a_iret dX9_addEdge_80 rfl rfl (Nat.le_of_ble_eq_true rfl) (Nat.le_of_ble_eq_true rfl) (⟨rfl, rfl, rfl, rfl⟩)
  · skip
    refine a_aload_n (q := 9) dX9_addEdge_8 rfl rfl rfl ?_
    refine a_iload_n (q := 10) dX9_addEdge_9 rfl rfl rfl ?_
    refine a_cVBv (q := 13) _ dX9_addEdge_10 kX9_107 (m_isNode _ (by omega) g2) rfl rfl rfl (Nat.le_of_ble_eq_true rfl) ⟨(Nat.le_of_ble_eq_true rfl), (Nat.le_of_ble_eq_true rfl)⟩ ⟨(Nat.le_of_ble_eq_true rfl), (Nat.le_of_ble_eq_true rfl)⟩ rfl ?_
    refine a_if_eqZ (q := 16) 44 dX9_addEdge_13 (by decide) rfl (fun c13 => ?_) (fun c13 => ?_)
    · skip
      refine a_iconst (q := 45) (b2 false) dX9_addEdge_44 (by decide) rfl ?_
      refine a_istore_n (q := 46) dX9_addEdge_45 rfl (Nat.le_of_ble_eq_true rfl) rfl rfl ?_
      refine a_aload_n (q := 47) dX9_addEdge_46 rfl rfl rfl ?_
      refine a_iload_n (q := 48) dX9_addEdge_47 rfl rfl rfl ?_
      refine a_if_neZ (q := 51) 55 dX9_addEdge_48 (by decide) rfl (fun c48 => ?_) (fun c48 => ?_)
      · cases c48
      · skip
        refine a_iconst (q := 52) (nI 1) dX9_addEdge_51 (by decide) rfl ?_
        refine a_goto 69 dX9_addEdge_52 (by decide) ?_
        refine a_putB (q := 72) dX9_addEdge_69 fX9_81 (fun h => nomatch h) rfl (Nat.le_of_ble_eq_true rfl) rfl rfl rfl ?_
        refine a_aload_n (q := 73) dX9_addEdge_72 rfl rfl rfl ?_
        refine a_getB (q := 76) dX9_addEdge_73 fX9_81 rfl rfl rfl ?_
        refine a_if_leN (q := 79) 81 dX9_addEdge_76 (by decide) (by omega) rfl (fun c76 => ?_) (fun c76 => ?_)
        · exact absurd c76 (by decide)
        · skip
          refine a_iconst (q := 80) (nI 0) dX9_addEdge_79 (by decide) rfl ?_
          exact a_iret dX9_addEdge_80 rfl rfl (Nat.le_of_ble_eq_true rfl) (Nat.le_of_ble_eq_true rfl) (⟨rfl, rfl, rfl, rfl⟩)
    · skip
      refine a_iload_n (q := 17) dX9_addEdge_16 rfl rfl rfl ?_
      refine a_aload_n (q := 18) dX9_addEdge_17 rfl rfl rfl ?_
      refine a_getB (q := 21) dX9_addEdge_18 fX9_7 rfl rfl rfl ?_
      refine a_iconst (q := 22) (nI 1) dX9_addEdge_21 (by decide) rfl ?_
      refine a_isubN (q := 23) dX9_addEdge_22 (by omega) rfl ?_
      refine a_icmp_eq (q := 26) 44 dX9_addEdge_23 (by decide) rfl (fun c23 => ?_) (fun c23 => ?_)
      · skip
        refine a_iconst (q := 45) (b2 false) dX9_addEdge_44 (by decide) rfl ?_
        refine a_istore_n (q := 46) dX9_addEdge_45 rfl (Nat.le_of_ble_eq_true rfl) rfl rfl ?_
        refine a_aload_n (q := 47) dX9_addEdge_46 rfl rfl rfl ?_
        refine a_iload_n (q := 48) dX9_addEdge_47 rfl rfl rfl ?_
        refine a_if_neZ (q := 51) 55 dX9_addEdge_48 (by decide) rfl (fun c48 => ?_) (fun c48 => ?_)
        · cases c48
        · skip
          refine a_iconst (q := 52) (nI 1) dX9_addEdge_51 (by decide) rfl ?_
          refine a_goto 69 dX9_addEdge_52 (by decide) ?_
          refine a_putB (q := 72) dX9_addEdge_69 fX9_81 (fun h => nomatch h) rfl (Nat.le_of_ble_eq_true rfl) rfl rfl rfl ?_
          refine a_aload_n (q := 73) dX9_addEdge_72 rfl rfl rfl ?_
          refine a_getB (q := 76) dX9_addEdge_73 fX9_81 rfl rfl rfl ?_
          refine a_if_leN (q := 79) 81 dX9_addEdge_76 (by decide) (by omega) rfl (fun c76 => ?_) (fun c76 => ?_)
          · exact absurd c76 (by decide)
          · skip
            refine a_iconst (q := 80) (nI 0) dX9_addEdge_79 (by decide) rfl ?_
            exact a_iret dX9_addEdge_80 rfl rfl (Nat.le_of_ble_eq_true rfl) (Nat.le_of_ble_eq_true rfl) (⟨rfl, rfl, rfl, rfl⟩)
      · skip
        refine a_iload_n (q := 27) dX9_addEdge_26 rfl rfl rfl ?_
        refine a_if_eq (q := 30) 44 dX9_addEdge_27 (by decide) rfl (fun c27 => ?_) (fun c27 => ?_)
        · skip
          refine a_iconst (q := 45) (b2 false) dX9_addEdge_44 (by decide) rfl ?_
          refine a_istore_n (q := 46) dX9_addEdge_45 rfl (Nat.le_of_ble_eq_true rfl) rfl rfl ?_
          refine a_aload_n (q := 47) dX9_addEdge_46 rfl rfl rfl ?_
          refine a_iload_n (q := 48) dX9_addEdge_47 rfl rfl rfl ?_
          refine a_if_neZ (q := 51) 55 dX9_addEdge_48 (by decide) rfl (fun c48 => ?_) (fun c48 => ?_)
          · cases c48
          · skip
            refine a_iconst (q := 52) (nI 1) dX9_addEdge_51 (by decide) rfl ?_
            refine a_goto 69 dX9_addEdge_52 (by decide) ?_
            refine a_putB (q := 72) dX9_addEdge_69 fX9_81 (fun h => nomatch h) rfl (Nat.le_of_ble_eq_true rfl) rfl rfl rfl ?_
            refine a_aload_n (q := 73) dX9_addEdge_72 rfl rfl rfl ?_
            refine a_getB (q := 76) dX9_addEdge_73 fX9_81 rfl rfl rfl ?_
            refine a_if_leN (q := 79) 81 dX9_addEdge_76 (by decide) (by omega) rfl (fun c76 => ?_) (fun c76 => ?_)
            · exact absurd c76 (by decide)
            · skip
              refine a_iconst (q := 80) (nI 0) dX9_addEdge_79 (by decide) rfl ?_
              exact a_iret dX9_addEdge_80 rfl rfl (Nat.le_of_ble_eq_true rfl) (Nat.le_of_ble_eq_true rfl) (⟨rfl, rfl, rfl, rfl⟩)
        · skip
          refine a_aload_n (q := 31) dX9_addEdge_30 rfl rfl rfl ?_
          refine a_iload_n (q := 32) dX9_addEdge_31 rfl rfl rfl ?_
          refine a_iload_n (q := 33) dX9_addEdge_32 rfl rfl rfl ?_
          refine a_cVBv (q := 36) _ dX9_addEdge_33 kX9_111 (m_edgeBetween _ _ g3) rfl rfl rfl (Nat.le_of_ble_eq_true rfl) ⟨(Nat.le_of_ble_eq_true rfl), (Nat.le_of_ble_eq_true rfl)⟩ ⟨(Nat.le_of_ble_eq_true rfl), (Nat.le_of_ble_eq_true rfl)⟩ rfl ?_
          refine a_iconst (q := 37) (-1) dX9_addEdge_36 (by decide) rfl ?_
          refine a_icmp_ne (q := 40) 44 dX9_addEdge_37 (by decide) rfl (fun c37 => ?_) (fun c37 => ?_)
          · skip
            refine a_iconst (q := 45) (b2 false) dX9_addEdge_44 (by decide) rfl ?_
            refine a_istore_n (q := 46) dX9_addEdge_45 rfl (Nat.le_of_ble_eq_true rfl) rfl rfl ?_
            refine a_aload_n (q := 47) dX9_addEdge_46 rfl rfl rfl ?_
            refine a_iload_n (q := 48) dX9_addEdge_47 rfl rfl rfl ?_
            refine a_if_neZ (q := 51) 55 dX9_addEdge_48 (by decide) rfl (fun c48 => ?_) (fun c48 => ?_)
            · cases c48
            · skip
              refine a_iconst (q := 52) (nI 1) dX9_addEdge_51 (by decide) rfl ?_
              refine a_goto 69 dX9_addEdge_52 (by decide) ?_
              refine a_putB (q := 72) dX9_addEdge_69 fX9_81 (fun h => nomatch h) rfl (Nat.le_of_ble_eq_true rfl) rfl rfl rfl ?_
              refine a_aload_n (q := 73) dX9_addEdge_72 rfl rfl rfl ?_
              refine a_getB (q := 76) dX9_addEdge_73 fX9_81 rfl rfl rfl ?_
              refine a_if_leN (q := 79) 81 dX9_addEdge_76 (by decide) (by omega) rfl (fun c76 => ?_) (fun c76 => ?_)
              · exact absurd c76 (by decide)
              · skip
                refine a_iconst (q := 80) (nI 0) dX9_addEdge_79 (by decide) rfl ?_
                exact a_iret dX9_addEdge_80 rfl rfl (Nat.le_of_ble_eq_true rfl) (Nat.le_of_ble_eq_true rfl) (⟨rfl, rfl, rfl, rfl⟩)
          · exact (hno c5 c13 c23 c27 (by
            have := (ebt_jn (G := G) (x := x) (y := y)).1
            have h9 : ebt G x y = none := (oI_m1 (fun k hk => by have := (ebt_jn.2 k hk).1; omega)).mp c37
            rw [h9] at this
            exact this.symm)).elim
theorem m_addEdge2 (x y : Int32) (hg : gok G) (hx : alw G x y = true) (he : G.2.1 = 24) : Ct g mX9_addEdge [.ref (g.2.1 + 0), .int x, .int y] 0 A (BM g G T th Y W R Z U L h O) 0 0 (rP (some (.int (nI 0))) A (BM g G T 2 Y W R Z U L h O)) noX := by
  obtain ⟨g1, g2, g3, -⟩ := hg
  unfold alw at hx
  simp only [Bool.and_eq_true, Bool.not_eq_true', decide_eq_true_eq] at hx
  obtain ⟨⟨⟨⟨h1, h2⟩, h3⟩, h4⟩, h5⟩ := hx
  have h6 : ebt G x y = none := by
    have := (ebt_jn (G := G) (x := x) (y := y)).1
    rw [h5] at this
    cases hh : ebt G x y with
    | none => rfl
    | some k => rw [hh] at this; cases this
  refine Ct.of [some (.ref (g.2.1 + 0)), some (.int x), some (.int y), none] (by decide) rfl (Nat.le_of_ble_eq_true rfl) rfl ?_
  refine a_aload_n (q := 1) dX9_addEdge_0 rfl rfl rfl ?_
  refine a_iload_n (q := 2) dX9_addEdge_1 rfl rfl rfl ?_
  refine a_cVBv (q := 5) _ dX9_addEdge_2 kX9_107 (m_isNode _ (by omega) g2) rfl rfl rfl (Nat.le_of_ble_eq_true rfl) ⟨(Nat.le_of_ble_eq_true rfl), (Nat.le_of_ble_eq_true rfl)⟩ ⟨(Nat.le_of_ble_eq_true rfl), (Nat.le_of_ble_eq_true rfl)⟩ rfl ?_
  refine a_if_eqZ (q := 8) 44 dX9_addEdge_5 (by decide) rfl (fun c5 => ?_) (fun c5 => ?_)
  · rw [h1] at c5; cases c5
  · skip
    refine a_aload_n (q := 9) dX9_addEdge_8 rfl rfl rfl ?_
    refine a_iload_n (q := 10) dX9_addEdge_9 rfl rfl rfl ?_
    refine a_cVBv (q := 13) _ dX9_addEdge_10 kX9_107 (m_isNode _ (by omega) g2) rfl rfl rfl (Nat.le_of_ble_eq_true rfl) ⟨(Nat.le_of_ble_eq_true rfl), (Nat.le_of_ble_eq_true rfl)⟩ ⟨(Nat.le_of_ble_eq_true rfl), (Nat.le_of_ble_eq_true rfl)⟩ rfl ?_
    refine a_if_eqZ (q := 16) 44 dX9_addEdge_13 (by decide) rfl (fun c13 => ?_) (fun c13 => ?_)
    · rw [h2] at c13; cases c13
    · skip
      refine a_iload_n (q := 17) dX9_addEdge_16 rfl rfl rfl ?_
      refine a_aload_n (q := 18) dX9_addEdge_17 rfl rfl rfl ?_
      refine a_getB (q := 21) dX9_addEdge_18 fX9_7 rfl rfl rfl ?_
      refine a_iconst (q := 22) (nI 1) dX9_addEdge_21 (by decide) rfl ?_
      refine a_isubN (q := 23) dX9_addEdge_22 (by omega) rfl ?_
      refine a_icmp_eq (q := 26) 44 dX9_addEdge_23 (by decide) rfl (fun c23 => ?_) (fun c23 => ?_)
      · exact absurd c23 h3
      · skip
        refine a_iload_n (q := 27) dX9_addEdge_26 rfl rfl rfl ?_
        refine a_if_eq (q := 30) 44 dX9_addEdge_27 (by decide) rfl (fun c27 => ?_) (fun c27 => ?_)
        · exact absurd c27 h4
        · skip
          refine a_aload_n (q := 31) dX9_addEdge_30 rfl rfl rfl ?_
          refine a_iload_n (q := 32) dX9_addEdge_31 rfl rfl rfl ?_
          refine a_iload_n (q := 33) dX9_addEdge_32 rfl rfl rfl ?_
          refine a_cVBv (q := 36) _ dX9_addEdge_33 kX9_111 (m_edgeBetween _ _ g3) rfl rfl rfl (Nat.le_of_ble_eq_true rfl) ⟨(Nat.le_of_ble_eq_true rfl), (Nat.le_of_ble_eq_true rfl)⟩ ⟨(Nat.le_of_ble_eq_true rfl), (Nat.le_of_ble_eq_true rfl)⟩ rfl ?_
          rw [h6]
          refine a_iconst (q := 37) (-1) dX9_addEdge_36 (by decide) rfl ?_
          refine a_icmp_ne (q := 40) 44 dX9_addEdge_37 (by decide) rfl (fun c37 => ?_) (fun c37 => ?_)
          · exact absurd rfl c37
          · skip
            refine a_iconst (q := 41) (b2 true) dX9_addEdge_40 (by decide) rfl ?_
            refine a_goto 45 dX9_addEdge_41 (by decide) ?_
            refine a_istore_n (q := 46) dX9_addEdge_45 rfl (Nat.le_of_ble_eq_true rfl) rfl rfl ?_
            refine a_aload_n (q := 47) dX9_addEdge_46 rfl rfl rfl ?_
            refine a_iload_n (q := 48) dX9_addEdge_47 rfl rfl rfl ?_
            refine a_if_neZ (q := 51) 55 dX9_addEdge_48 (by decide) rfl (fun c48 => ?_) (fun c48 => ?_)
            · skip
              refine a_aload_n (q := 56) dX9_addEdge_55 rfl rfl rfl ?_
              refine a_getB (q := 59) dX9_addEdge_56 fX9_101 rfl rfl rfl ?_
              refine a_bipush (q := 61) (nI 24) dX9_addEdge_59 (by decide) rfl ?_
              refine a_icmp_neN (q := 64) 68 dX9_addEdge_61 (by decide) (by omega) (by omega) rfl (fun c61 => ?_) (fun c61 => ?_)
              · omega
              · skip
                refine a_iconst (q := 65) (nI 2) dX9_addEdge_64 (by decide) rfl ?_
                refine a_goto 69 dX9_addEdge_65 (by decide) ?_
                refine a_putB (q := 72) dX9_addEdge_69 fX9_81 (fun h => nomatch h) rfl (Nat.le_of_ble_eq_true rfl) rfl rfl rfl ?_
                refine a_aload_n (q := 73) dX9_addEdge_72 rfl rfl rfl ?_
                refine a_getB (q := 76) dX9_addEdge_73 fX9_81 rfl rfl rfl ?_
                refine a_if_leN (q := 79) 81 dX9_addEdge_76 (by decide) (by omega) rfl (fun c76 => ?_) (fun c76 => ?_)
                · exact absurd c76 (by decide)
                · skip
                  refine a_iconst (q := 80) (nI 0) dX9_addEdge_79 (by decide) rfl ?_
                  exact a_iret dX9_addEdge_80 rfl rfl (Nat.le_of_ble_eq_true rfl) (Nat.le_of_ble_eq_true rfl) (⟨rfl, rfl, rfl, rfl⟩)
            · cases c48
end MBase

