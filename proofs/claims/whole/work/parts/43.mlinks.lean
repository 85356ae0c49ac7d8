/-! ===== the reference: links, one by one ===== -/
section MLinks
variable {g : gp_T} {A : List va_E} {G : Gr} {T : Tx} {th : Nat} {Y : Ya} {W : Wa} {R : Ra} {Z : Za} {U : Ua} {L : La} {h : Int64} {O : Oa}
theorem m_linkFrom (k : Nat) (hk : k < 48) : Ct g mX9_linkFrom [.ref (g.2.1 + 0), .int (nI k)] 0 A (BM g G T th Y W R Z U L h O) 0 0 (rP (some (.int (nI (mFr G k)))) A (BM g G T th Y W R Z U L h O)) noX := by
  refine Ct.of [some (.ref (g.2.1 + 0)), some (.int (nI k))] (by decide) rfl (Nat.le_of_ble_eq_true rfl) rfl ?_
  refine a_iload_n (q := 1) dX9_linkFrom_0 rfl rfl rfl ?_
  refine a_iconst (q := 2) (nI 2) dX9_linkFrom_1 (by decide) rfl ?_
  refine a_iremN (q := 3) dX9_linkFrom_2 (by omega) ⟨by omega, by decide⟩ rfl ?_
  refine a_iconst (q := 4) (nI 1) dX9_linkFrom_3 (by decide) rfl ?_
  refine a_icmp_neN (q := 7) 11 dX9_linkFrom_4 (by decide) (by omega) (by omega) rfl (fun c4 => ?_) (fun c4 => ?_)
  · skip
    refine a_aload_n (q := 12) dX9_linkFrom_11 rfl rfl rfl ?_
    refine a_getB (q := 15) dX9_linkFrom_12 fX9_13 rfl rfl rfl ?_
    refine a_iload_n (q := 16) dX9_linkFrom_15 rfl rfl rfl ?_
    refine a_iconst (q := 17) (nI 2) dX9_linkFrom_16 (by decide) rfl ?_
    refine a_idivN (q := 18) dX9_linkFrom_17 (by omega) ⟨by omega, by decide⟩ rfl ?_
    refine a_ialdBN (q := 19) dX9_linkFrom_18 rfl (by omega) (by decide) rfl ?_
    exact a_iret dX9_linkFrom_19 rfl rfl (Nat.le_of_ble_eq_true rfl) (Nat.le_of_ble_eq_true rfl) (⟨by unfold mFr; first | rw [if_neg c4] | rw [if_pos c4], rfl, rfl, rfl⟩)
  · skip
    refine a_iconst (q := 8) (nI 0) dX9_linkFrom_7 (by decide) rfl ?_
    refine a_goto 19 dX9_linkFrom_8 (by decide) ?_
    exact a_iret dX9_linkFrom_19 rfl rfl (Nat.le_of_ble_eq_true rfl) (Nat.le_of_ble_eq_true rfl) (⟨by unfold mFr; first | rw [if_neg c4] | rw [if_pos c4], rfl, rfl, rfl⟩)
theorem m_linkTo (k : Nat) (hk : k < 48) (hn : 1 ≤ G.1) : Ct g mX9_linkTo [.ref (g.2.1 + 0), .int (nI k)] 0 A (BM g G T th Y W R Z U L h O) 0 0 (rP (some (.int (nI (mTo G Y.2.1 k)))) A (BM g G T th Y W R Z U L h O)) noX := by
  refine Ct.of [some (.ref (g.2.1 + 0)), some (.int (nI k))] (by decide) rfl (Nat.le_of_ble_eq_true rfl) rfl ?_
  refine a_iload_n (q := 1) dX9_linkTo_0 rfl rfl rfl ?_
  refine a_iconst (q := 2) (nI 2) dX9_linkTo_1 (by decide) rfl ?_
  refine a_iremN (q := 3) dX9_linkTo_2 (by omega) ⟨by omega, by decide⟩ rfl ?_
  refine a_if_neN (q := 6) 26 dX9_linkTo_3 (by decide) (by omega) rfl (fun c3 => ?_) (fun c3 => ?_)
  · have hs : mTo G Y.2.1 k = G.2.2.2.1 (k / 2) := by unfold mTo; rw [if_neg (fun q => by omega)]
    refine a_aload_n (q := 27) dX9_linkTo_26 rfl rfl rfl ?_
    refine a_getB (q := 30) dX9_linkTo_27 fX9_17 rfl rfl rfl ?_
    refine a_iload_n (q := 31) dX9_linkTo_30 rfl rfl rfl ?_
    refine a_iconst (q := 32) (nI 2) dX9_linkTo_31 (by decide) rfl ?_
    refine a_idivN (q := 33) dX9_linkTo_32 (by omega) ⟨by omega, by decide⟩ rfl ?_
    refine a_ialdBN (q := 34) dX9_linkTo_33 rfl (by omega) (by decide) rfl ?_
    exact a_iret dX9_linkTo_34 rfl rfl (Nat.le_of_ble_eq_true rfl) (Nat.le_of_ble_eq_true rfl) (⟨by rw [hs], rfl, rfl, rfl⟩)
  · skip
    refine a_aload_n (q := 7) dX9_linkTo_6 rfl rfl rfl ?_
    refine a_getB (q := 10) dX9_linkTo_7 fX9_26 rfl rfl rfl ?_
    refine a_iload_n (q := 11) dX9_linkTo_10 rfl rfl rfl ?_
    refine a_iconst (q := 12) (nI 2) dX9_linkTo_11 (by decide) rfl ?_
    refine a_idivN (q := 13) dX9_linkTo_12 (by omega) ⟨by omega, by decide⟩ rfl ?_
    refine a_zaldBN (q := 14) dX9_linkTo_13 rfl (by omega) (by decide) rfl ?_
    refine a_if_eqZ (q := 17) 26 dX9_linkTo_14 (by decide) rfl (fun c14 => ?_) (fun c14 => ?_)
    · have hs : mTo G Y.2.1 k = G.2.2.2.1 (k / 2) := by unfold mTo; rw [if_neg (fun q => by rw [c14] at q; cases q.2)]
      refine a_aload_n (q := 27) dX9_linkTo_26 rfl rfl rfl ?_
      refine a_getB (q := 30) dX9_linkTo_27 fX9_17 rfl rfl rfl ?_
      refine a_iload_n (q := 31) dX9_linkTo_30 rfl rfl rfl ?_
      refine a_iconst (q := 32) (nI 2) dX9_linkTo_31 (by decide) rfl ?_
      refine a_idivN (q := 33) dX9_linkTo_32 (by omega) ⟨by omega, by decide⟩ rfl ?_
      refine a_ialdBN (q := 34) dX9_linkTo_33 rfl (by omega) (by decide) rfl ?_
      exact a_iret dX9_linkTo_34 rfl rfl (Nat.le_of_ble_eq_true rfl) (Nat.le_of_ble_eq_true rfl) (⟨by rw [hs], rfl, rfl, rfl⟩)
    · have hs : mTo G Y.2.1 k = G.1 - 1 := by unfold mTo; rw [if_pos ⟨c3, c14⟩]
      refine a_aload_n (q := 18) dX9_linkTo_17 rfl rfl rfl ?_
      refine a_getB (q := 21) dX9_linkTo_18 fX9_7 rfl rfl rfl ?_
      refine a_iconst (q := 22) (nI 1) dX9_linkTo_21 (by decide) rfl ?_
      refine a_isubN (q := 23) dX9_linkTo_22 (by omega) rfl ?_
      refine a_goto 34 dX9_linkTo_23 (by decide) ?_
      exact a_iret dX9_linkTo_34 rfl rfl (Nat.le_of_ble_eq_true rfl) (Nat.le_of_ble_eq_true rfl) (⟨by rw [hs], rfl, rfl, rfl⟩)
theorem m_isLink (k : Nat) (hk : k < 48) (he : G.2.1 ≤ 24) : Ct g mX9_isLink [.ref (g.2.1 + 0), .int (nI k)] 0 A (BM g G T th Y W R Z U L h O) 0 0 (rP (some (.int (b2 (mIs G Y.2.1 k)))) A (BM g G T th Y W R Z U L h O)) noX := by
  refine Ct.of [some (.ref (g.2.1 + 0)), some (.int (nI k))] (by decide) rfl (Nat.le_of_ble_eq_true rfl) rfl ?_
  refine a_iload_n (q := 1) dX9_isLink_0 rfl rfl rfl ?_
  refine a_iconst (q := 2) (nI 2) dX9_isLink_1 (by decide) rfl ?_
  refine a_idivN (q := 3) dX9_isLink_2 (by omega) ⟨by omega, by decide⟩ rfl ?_
  refine a_aload_n (q := 4) dX9_isLink_3 rfl rfl rfl ?_
  refine a_getB (q := 7) dX9_isLink_4 fX9_101 rfl rfl rfl ?_
  refine a_icmp_geN (q := 10) 31 dX9_isLink_7 (by decide) (by omega) (by omega) rfl (fun c7 => ?_) (fun c7 => ?_)
  · have hs : mIs G Y.2.1 k = false := decide_eq_false (fun q => by omega)
    refine a_iconst (q := 32) (b2 false) dX9_isLink_31 (by decide) rfl ?_
    exact a_iret dX9_isLink_32 rfl (b2_narrow _) (Nat.le_of_ble_eq_true rfl) (Nat.le_of_ble_eq_true rfl) (⟨by rw [hs], rfl, rfl, rfl⟩)
  · skip
    refine a_iload_n (q := 11) dX9_isLink_10 rfl rfl rfl ?_
    refine a_iconst (q := 12) (nI 2) dX9_isLink_11 (by decide) rfl ?_
    refine a_iremN (q := 13) dX9_isLink_12 (by omega) ⟨by omega, by decide⟩ rfl ?_
    refine a_if_eqN (q := 16) 27 dX9_isLink_13 (by decide) (by omega) rfl (fun c13 => ?_) (fun c13 => ?_)
    · have hs : mIs G Y.2.1 k = true := decide_eq_true ⟨c7, Or.inl c13⟩
      refine a_iconst (q := 28) (b2 true) dX9_isLink_27 (by decide) rfl ?_
      refine a_goto 32 dX9_isLink_28 (by decide) ?_
      exact a_iret dX9_isLink_32 rfl (b2_narrow _) (Nat.le_of_ble_eq_true rfl) (Nat.le_of_ble_eq_true rfl) (⟨by rw [hs], rfl, rfl, rfl⟩)
    · skip
      refine a_aload_n (q := 17) dX9_isLink_16 rfl rfl rfl ?_
      refine a_getB (q := 20) dX9_isLink_17 fX9_26 rfl rfl rfl ?_
      refine a_iload_n (q := 21) dX9_isLink_20 rfl rfl rfl ?_
      refine a_iconst (q := 22) (nI 2) dX9_isLink_21 (by decide) rfl ?_
      refine a_idivN (q := 23) dX9_isLink_22 (by omega) ⟨by omega, by decide⟩ rfl ?_
      refine a_zaldBN (q := 24) dX9_isLink_23 rfl (by omega) (by decide) rfl ?_
      refine a_if_eqZ (q := 27) 31 dX9_isLink_24 (by decide) rfl (fun c24 => ?_) (fun c24 => ?_)
      · have hs : mIs G Y.2.1 k = false := decide_eq_false (fun q => by rcases q.2 with z | z; omega; rw [c24] at z; cases z)
        refine a_iconst (q := 32) (b2 false) dX9_isLink_31 (by decide) rfl ?_
        exact a_iret dX9_isLink_32 rfl (b2_narrow _) (Nat.le_of_ble_eq_true rfl) (Nat.le_of_ble_eq_true rfl) (⟨by rw [hs], rfl, rfl, rfl⟩)
      · have hs : mIs G Y.2.1 k = true := decide_eq_true ⟨c7, Or.inr c24⟩
        refine a_iconst (q := 28) (b2 true) dX9_isLink_27 (by decide) rfl ?_
        refine a_goto 32 dX9_isLink_28 (by decide) ?_
        exact a_iret dX9_isLink_32 rfl (b2_narrow _) (Nat.le_of_ble_eq_true rfl) (Nat.le_of_ble_eq_true rfl) (⟨by rw [hs], rfl, rfl, rfl⟩)
theorem m_kind (k : Nat) (hk : k < 48) : Ct g mX9_kind [.ref (g.2.1 + 0), .int (nI k)] 0 A (BM g G T th Y W R Z U L h O) 0 0 (rP (some (.int (nI (mKd Y.2.1 k)))) A (BM g G T th Y W R Z U L h O)) noX := by
  refine Ct.of [some (.ref (g.2.1 + 0)), some (.int (nI k))] (by decide) rfl (Nat.le_of_ble_eq_true rfl) rfl ?_
  refine a_iload_n (q := 1) dX9_kind_0 rfl rfl rfl ?_
  refine a_iconst (q := 2) (nI 2) dX9_kind_1 (by decide) rfl ?_
  refine a_iremN (q := 3) dX9_kind_2 (by omega) ⟨by omega, by decide⟩ rfl ?_
  refine a_iconst (q := 4) (nI 1) dX9_kind_3 (by decide) rfl ?_
  refine a_icmp_neN (q := 7) 11 dX9_kind_4 (by decide) (by omega) (by omega) rfl (fun c4 => ?_) (fun c4 => ?_)
  · skip
    refine a_aload_n (q := 12) dX9_kind_11 rfl rfl rfl ?_
    refine a_getB (q := 15) dX9_kind_12 fX9_26 rfl rfl rfl ?_
    refine a_iload_n (q := 16) dX9_kind_15 rfl rfl rfl ?_
    refine a_iconst (q := 17) (nI 2) dX9_kind_16 (by decide) rfl ?_
    refine a_idivN (q := 18) dX9_kind_17 (by omega) ⟨by omega, by decide⟩ rfl ?_
    refine a_zaldBN (q := 19) dX9_kind_18 rfl (by omega) (by decide) rfl ?_
    refine a_if_eqZ (q := 22) 26 dX9_kind_19 (by decide) rfl (fun c19 => ?_) (fun c19 => ?_)
    · have hs : mKd Y.2.1 k = 0 := by unfold mKd; rw [if_neg c4, if_neg (by rw [c19]; decide)]
      refine a_iconst (q := 27) (nI 0) dX9_kind_26 (by decide) rfl ?_
      exact a_iret dX9_kind_27 rfl rfl (Nat.le_of_ble_eq_true rfl) (Nat.le_of_ble_eq_true rfl) (⟨by rw [hs]; first | done | rfl, rfl, rfl, rfl⟩)
    · have hs : mKd Y.2.1 k = 1 := by unfold mKd; rw [if_neg c4, if_pos c19]
      refine a_iconst (q := 23) (nI 1) dX9_kind_22 (by decide) rfl ?_
      refine a_goto 27 dX9_kind_23 (by decide) ?_
      exact a_iret dX9_kind_27 rfl rfl (Nat.le_of_ble_eq_true rfl) (Nat.le_of_ble_eq_true rfl) (⟨by rw [hs]; first | done | rfl, rfl, rfl, rfl⟩)
  · have hs : mKd Y.2.1 k = 2 := by unfold mKd; rw [if_pos c4]
    refine a_iconst (q := 8) (nI 2) dX9_kind_7 (by decide) rfl ?_
    refine a_goto 27 dX9_kind_8 (by decide) ?_
    exact a_iret dX9_kind_27 rfl rfl (Nat.le_of_ble_eq_true rfl) (Nat.le_of_ble_eq_true rfl) (⟨by rw [hs]; first | done | rfl, rfl, rfl, rfl⟩)
theorem mKd_lt {bk : Nat → Bool} {k : Nat} : mKd bk k < 3 := by
  unfold mKd
  split
  · decide
  · split <;> decide
theorem m_comesBefore (a b : Nat) (ha : a < 48) (hb : b < 48) : Ct g mX9_comesBefore [.ref (g.2.1 + 0), .int (nI a), .int (nI b)] 0 A (BM g G T th Y W R Z U L h O) 0 0 (rP (some (.int (b2 (mCb Y.2.1 a b)))) A (BM g G T th Y W R Z U L h O)) noX := by
  have h1 := mKd_lt (bk := Y.2.1) (k := a)
  have h2 := mKd_lt (bk := Y.2.1) (k := b)
  refine Ct.of [some (.ref (g.2.1 + 0)), some (.int (nI a)), some (.int (nI b))] (by decide) rfl (Nat.le_of_ble_eq_true rfl) rfl ?_
  unfold mCb
  refine a_aload_n (q := 1) dX9_comesBefore_0 rfl rfl rfl ?_
  refine a_iload_n (q := 2) dX9_comesBefore_1 rfl rfl rfl ?_
  refine a_cVBv (q := 5) _ dX9_comesBefore_2 kX9_159 (m_kind a ha) rfl rfl rfl (Nat.le_of_ble_eq_true rfl) ⟨(Nat.le_of_ble_eq_true rfl), (Nat.le_of_ble_eq_true rfl)⟩ ⟨(Nat.le_of_ble_eq_true rfl), (Nat.le_of_ble_eq_true rfl)⟩ rfl ?_
  refine a_aload_n (q := 6) dX9_comesBefore_5 rfl rfl rfl ?_
  refine a_iload_n (q := 7) dX9_comesBefore_6 rfl rfl rfl ?_
  refine a_cVBv (q := 10) _ dX9_comesBefore_7 kX9_159 (m_kind b hb) rfl rfl rfl (Nat.le_of_ble_eq_true rfl) ⟨(Nat.le_of_ble_eq_true rfl), (Nat.le_of_ble_eq_true rfl)⟩ ⟨(Nat.le_of_ble_eq_true rfl), (Nat.le_of_ble_eq_true rfl)⟩ rfl ?_
  refine a_icmp_neN (q := 13) 26 dX9_comesBefore_10 (by decide) (by omega) (by omega) rfl (fun c10 => ?_) (fun c10 => ?_)
  · rw [if_neg c10]
    refine a_aload_n (q := 27) dX9_comesBefore_26 rfl rfl rfl ?_
    refine a_iload_n (q := 28) dX9_comesBefore_27 rfl rfl rfl ?_
    refine a_cVBv (q := 31) _ dX9_comesBefore_28 kX9_159 (m_kind a ha) rfl rfl rfl (Nat.le_of_ble_eq_true rfl) ⟨(Nat.le_of_ble_eq_true rfl), (Nat.le_of_ble_eq_true rfl)⟩ ⟨(Nat.le_of_ble_eq_true rfl), (Nat.le_of_ble_eq_true rfl)⟩ rfl ?_
    refine a_aload_n (q := 32) dX9_comesBefore_31 rfl rfl rfl ?_
    refine a_iload_n (q := 33) dX9_comesBefore_32 rfl rfl rfl ?_
    refine a_cVBv (q := 36) _ dX9_comesBefore_33 kX9_159 (m_kind b hb) rfl rfl rfl (Nat.le_of_ble_eq_true rfl) ⟨(Nat.le_of_ble_eq_true rfl), (Nat.le_of_ble_eq_true rfl)⟩ ⟨(Nat.le_of_ble_eq_true rfl), (Nat.le_of_ble_eq_true rfl)⟩ rfl ?_
    refine a_icmp_geN (q := 39) 43 dX9_comesBefore_36 (by decide) (by omega) (by omega) rfl (fun c36 => ?_) (fun c36 => ?_)
    · skip
      refine a_iconst (q := 44) (b2 false) dX9_comesBefore_43 (by decide) rfl ?_
      exact a_iret dX9_comesBefore_44 rfl (b2_narrow _) (Nat.le_of_ble_eq_true rfl) (Nat.le_of_ble_eq_true rfl) (⟨by first | rw [decide_eq_true c15] | rw [decide_eq_false (show ¬ a < b by omega)] | rw [decide_eq_true c36] | rw [decide_eq_false (show ¬ mKd Y.2.1 a < mKd Y.2.1 b by omega)], rfl, rfl, rfl⟩)
    · skip
      refine a_iconst (q := 40) (b2 true) dX9_comesBefore_39 (by decide) rfl ?_
      refine a_goto 44 dX9_comesBefore_40 (by decide) ?_
      exact a_iret dX9_comesBefore_44 rfl (b2_narrow _) (Nat.le_of_ble_eq_true rfl) (Nat.le_of_ble_eq_true rfl) (⟨by first | rw [decide_eq_true c15] | rw [decide_eq_false (show ¬ a < b by omega)] | rw [decide_eq_true c36] | rw [decide_eq_false (show ¬ mKd Y.2.1 a < mKd Y.2.1 b by omega)], rfl, rfl, rfl⟩)
  · rw [if_pos c10]
    refine a_iload_n (q := 14) dX9_comesBefore_13 rfl rfl rfl ?_
    refine a_iload_n (q := 15) dX9_comesBefore_14 rfl rfl rfl ?_
    refine a_icmp_geN (q := 18) 22 dX9_comesBefore_15 (by decide) (by omega) (by omega) rfl (fun c15 => ?_) (fun c15 => ?_)
    · skip
      refine a_iconst (q := 23) (b2 false) dX9_comesBefore_22 (by decide) rfl ?_
      refine a_goto 44 dX9_comesBefore_23 (by decide) ?_
      exact a_iret dX9_comesBefore_44 rfl (b2_narrow _) (Nat.le_of_ble_eq_true rfl) (Nat.le_of_ble_eq_true rfl) (⟨by first | rw [decide_eq_true c15] | rw [decide_eq_false (show ¬ a < b by omega)] | rw [decide_eq_true c36] | rw [decide_eq_false (show ¬ mKd Y.2.1 a < mKd Y.2.1 b by omega)], rfl, rfl, rfl⟩)
    · skip
      refine a_iconst (q := 19) (b2 true) dX9_comesBefore_18 (by decide) rfl ?_
      refine a_goto 44 dX9_comesBefore_19 (by decide) ?_
      exact a_iret dX9_comesBefore_44 rfl (b2_narrow _) (Nat.le_of_ble_eq_true rfl) (Nat.le_of_ble_eq_true rfl) (⟨by first | rw [decide_eq_true c15] | rw [decide_eq_false (show ¬ a < b by omega)] | rw [decide_eq_true c36] | rw [decide_eq_false (show ¬ mKd Y.2.1 a < mKd Y.2.1 b by omega)], rfl, rfl, rfl⟩)
/-- the reference's next link of v behind o -/
def lbO (bk : Nat → Bool) (k : Nat) : Option Nat → Bool
  | none => true
  | some j => mCb bk j k
def lbB (bk : Nat → Bool) (k : Nat) : Option Nat → Bool
  | none => true
  | some i => mCb bk k i
def lbC (G : Gr) (bk : Nat → Bool) (v : Nat) (o : Option Nat) (k : Nat) (b : Option Nat) : Bool := mIs G bk k && decide (mFr G k = v) && lbO bk k o && lbB bk k b
def lbF (G : Gr) (bk : Nat → Bool) (v : Nat) (o : Option Nat) : Nat → Nat → Option Nat → Option Nat
  | 0, _, b => b
  | m + 1, k, b => lbF G bk v o m (k + 1) (if lbC G bk v o k b = true then some k else b)
def lb (G : Gr) (bk : Nat → Bool) (v : Nat) (o : Option Nat) : Option Nat := lbF G bk v o (2 * G.2.1) 0 none
theorem mFr_lt {G : Gr} {bk : Nat → Bool} {k : Nat} (hg : gok G) (h : mIs G bk k = true) : mFr G k + 1 < G.1 := by
  obtain ⟨h1, -⟩ := of_decide_eq_true h
  unfold mFr
  split
  · have := hg.1; omega
  · exact (hg.2.2.2.1 _ h1).1
theorem mTo_lt {G : Gr} {bk : Nat → Bool} {k : Nat} (hg : gok G) (h : mIs G bk k = true) : mTo G bk k < G.1 := by
  obtain ⟨h1, -⟩ := of_decide_eq_true h
  have := hg.1
  unfold mTo
  split
  · omega
  · exact (hg.2.2.2.1 _ h1).2.2.1
theorem l_mlb (P : ps_T) (hg : gok G) (v : Nat) (hv : v < 12) (o : Option Nat) (ho : ∀ j, o = some j → j < 48) : ∀ (m k : Nat) (b : Option Nat) (L5 L6 : Option Value), 2 * G.2.1 - k = m → k ≤ 2 * G.2.1 → (∀ j, b = some j → j < 48) → P (some (.int (oI (lbF G Y.2.1 v o m k b)))) 0 A (BM g G T th Y W R Z U L h O) → AW g mX9_linkBehind 0 0 P noX 0 0 5 [some (.ref (g.2.1 + 0)), some (.int (nI v)), some (.int (oI o)), some (.int (oI b)), some (.int (nI k)), L5, L6] [] 0 A (BM g G T th Y W R Z U L h O) := by
  intro m
  obtain ⟨g1, g2, g3, g4, g5⟩ := id hg
  induction m with
  | zero =>
    intro k b L5 L6 hm hk hb hp
    refine a_iload (q := 7) dX9_linkBehind_5 rfl rfl ?_
    refine a_iconst (q := 8) (nI 2) dX9_linkBehind_7 (by decide) rfl ?_
    refine a_aload_n (q := 9) dX9_linkBehind_8 rfl rfl rfl ?_
    refine a_getB (q := 12) dX9_linkBehind_9 fX9_101 rfl rfl rfl ?_
    refine a_imulN (q := 13) dX9_linkBehind_12 rfl ?_
    refine a_icmp_geN (q := 16) 102 dX9_linkBehind_13 (by decide) (by omega) (by omega) rfl (fun c13 => ?_) (fun c13 => ?_)
    · skip
      refine a_iload_n (q := 103) dX9_linkBehind_102 rfl rfl rfl ?_
      exact a_iret dX9_linkBehind_103 rfl rfl (Nat.le_of_ble_eq_true rfl) (Nat.le_of_ble_eq_true rfl) (hp)
    · omega
  | succ m ih =>
    intro k b L5 L6 hm hk hb hp
    unfold lbF at hp
    -- whether the link is v's
    have hfin : ∀ (q6 : Bool), lbO Y.2.1 k o = q6 → ∀ q5 : Bool, (mIs G Y.2.1 k && decide (mFr G k = v)) = q5 → AW g mX9_linkBehind 0 0 P noX 0 0 64 [some (.ref (g.2.1 + 0)), some (.int (nI v)), some (.int (oI o)), some (.int (oI b)), some (.int (nI k)), some (.int (b2 q5)), some (.int (b2 q6))] [] 0 A (BM g G T th Y W R Z U L h O) := by
      intro q6 e6 q5 e5
      unfold lbC at hp
      rw [e5, e6] at hp
      cases b with
      | none =>
        refine a_iload (q := 66) dX9_linkBehind_64 rfl rfl ?_
        refine a_if_eqZ (q := 69) 94 dX9_linkBehind_66 (by decide) rfl (fun c66 => ?_) (fun c66 => ?_)
        · rw [c66, Bool.false_and, Bool.false_and, if_neg (by decide)] at hp
          refine a_iload_n (q := 95) dX9_linkBehind_94 rfl rfl rfl ?_
          refine a_istore_n (q := 96) dX9_linkBehind_95 rfl (Nat.le_of_ble_eq_true rfl) rfl rfl ?_
          refine a_iincN (q := 99) (c := 1) dX9_linkBehind_96 rfl (by decide) rfl rfl ?_
          refine a_goto 5 dX9_linkBehind_99 (by decide) ?_
          exact ih (k + 1) _ _ _ (by omega) (by omega) (fun j hj => by cases hj; first | omega | done) hp
        · skip
          refine a_iload (q := 71) dX9_linkBehind_69 rfl rfl ?_
          refine a_if_eqZ (q := 74) 94 dX9_linkBehind_71 (by decide) rfl (fun c71 => ?_) (fun c71 => ?_)
          · rw [c66, c71, Bool.and_false, Bool.false_and, if_neg (by decide)] at hp
            refine a_iload_n (q := 95) dX9_linkBehind_94 rfl rfl rfl ?_
            refine a_istore_n (q := 96) dX9_linkBehind_95 rfl (Nat.le_of_ble_eq_true rfl) rfl rfl ?_
            refine a_iincN (q := 99) (c := 1) dX9_linkBehind_96 rfl (by decide) rfl rfl ?_
            refine a_goto 5 dX9_linkBehind_99 (by decide) ?_
            exact ih (k + 1) _ _ _ (by omega) (by omega) (fun j hj => by cases hj; first | omega | done) hp
          · rw [c66, c71, show lbB Y.2.1 k none = true from rfl, if_pos (by decide)] at hp
            refine a_iload_n (q := 75) dX9_linkBehind_74 rfl rfl rfl ?_
            refine a_iconst (q := 76) (-1) dX9_linkBehind_75 (by decide) rfl ?_
            refine a_icmp_eq (q := 79) 89 dX9_linkBehind_76 (by decide) rfl (fun c76 => ?_) (fun c76 => ?_)
            · skip
              refine a_iload (q := 91) dX9_linkBehind_89 rfl rfl ?_
              refine a_goto 95 dX9_linkBehind_91 (by decide) ?_
              refine a_istore_n (q := 96) dX9_linkBehind_95 rfl (Nat.le_of_ble_eq_true rfl) rfl rfl ?_
              refine a_iincN (q := 99) (c := 1) dX9_linkBehind_96 rfl (by decide) rfl rfl ?_
              refine a_goto 5 dX9_linkBehind_99 (by decide) ?_
              exact ih (k + 1) _ _ _ (by omega) (by omega) (fun j hj => by cases hj; first | omega | done) hp
            · exact absurd rfl c76
      | some i =>
        have hi := hb i rfl
        refine a_iload (q := 66) dX9_linkBehind_64 rfl rfl ?_
        refine a_if_eqZ (q := 69) 94 dX9_linkBehind_66 (by decide) rfl (fun c66 => ?_) (fun c66 => ?_)
        · rw [c66, Bool.false_and, Bool.false_and, if_neg (by decide)] at hp
          refine a_iload_n (q := 95) dX9_linkBehind_94 rfl rfl rfl ?_
          refine a_istore_n (q := 96) dX9_linkBehind_95 rfl (Nat.le_of_ble_eq_true rfl) rfl rfl ?_
          refine a_iincN (q := 99) (c := 1) dX9_linkBehind_96 rfl (by decide) rfl rfl ?_
          refine a_goto 5 dX9_linkBehind_99 (by decide) ?_
          exact ih (k + 1) _ _ _ (by omega) (by omega) (fun j hj => by cases hj; omega) hp
        · skip
          refine a_iload (q := 71) dX9_linkBehind_69 rfl rfl ?_
          refine a_if_eqZ (q := 74) 94 dX9_linkBehind_71 (by decide) rfl (fun c71 => ?_) (fun c71 => ?_)
          · rw [c66, c71, Bool.and_false, Bool.false_and, if_neg (by decide)] at hp
            refine a_iload_n (q := 95) dX9_linkBehind_94 rfl rfl rfl ?_
            refine a_istore_n (q := 96) dX9_linkBehind_95 rfl (Nat.le_of_ble_eq_true rfl) rfl rfl ?_
            refine a_iincN (q := 99) (c := 1) dX9_linkBehind_96 rfl (by decide) rfl rfl ?_
            refine a_goto 5 dX9_linkBehind_99 (by decide) ?_
            exact ih (k + 1) _ _ _ (by omega) (by omega) (fun j hj => by cases hj; omega) hp
          · skip
            refine a_iload_n (q := 75) dX9_linkBehind_74 rfl rfl rfl ?_
            show AW _ _ _ _ _ _ _ _ _ _ (.int (nI i) :: _) _ _ _
            refine a_iconst (q := 76) (-1) dX9_linkBehind_75 (by decide) rfl ?_
            refine a_icmp_eq (q := 79) 89 dX9_linkBehind_76 (by decide) rfl (fun c76 => ?_) (fun c76 => ?_)
            · exact absurd c76 (nI_m1 (by omega))
            · skip
              refine a_aload_n (q := 80) dX9_linkBehind_79 rfl rfl rfl ?_
              refine a_iload (q := 82) dX9_linkBehind_80 rfl rfl ?_
              refine a_iload_n (q := 83) dX9_linkBehind_82 rfl rfl rfl ?_
              refine a_cVBv (q := 86) _ dX9_linkBehind_83 kX9_155 (m_comesBefore k i (by omega) hi) rfl rfl rfl (Nat.le_of_ble_eq_true rfl) ⟨(Nat.le_of_ble_eq_true rfl), (Nat.le_of_ble_eq_true rfl)⟩ ⟨(Nat.le_of_ble_eq_true rfl), (Nat.le_of_ble_eq_true rfl)⟩ rfl ?_
              refine a_if_eqZ (q := 89) 94 dX9_linkBehind_86 (by decide) rfl (fun c86 => ?_) (fun c86 => ?_)
              · rw [c66, c71, show lbB Y.2.1 k (some i) = false from c86, if_neg (by decide)] at hp
                refine a_iload_n (q := 95) dX9_linkBehind_94 rfl rfl rfl ?_
                refine a_istore_n (q := 96) dX9_linkBehind_95 rfl (Nat.le_of_ble_eq_true rfl) rfl rfl ?_
                refine a_iincN (q := 99) (c := 1) dX9_linkBehind_96 rfl (by decide) rfl rfl ?_
                refine a_goto 5 dX9_linkBehind_99 (by decide) ?_
                exact ih (k + 1) _ _ _ (by omega) (by omega) (fun j hj => by cases hj; omega) hp
              · rw [c66, c71, show lbB Y.2.1 k (some i) = true from c86, if_pos (by decide)] at hp
                refine a_iload (q := 91) dX9_linkBehind_89 rfl rfl ?_
                refine a_goto 95 dX9_linkBehind_91 (by decide) ?_
                refine a_istore_n (q := 96) dX9_linkBehind_95 rfl (Nat.le_of_ble_eq_true rfl) rfl rfl ?_
                refine a_iincN (q := 99) (c := 1) dX9_linkBehind_96 rfl (by decide) rfl rfl ?_
                refine a_goto 5 dX9_linkBehind_99 (by decide) ?_
                exact ih (k + 1) _ _ _ (by omega) (by omega) (fun j hj => by cases hj; omega) hp
    have hmid : ∀ q5 : Bool, (mIs G Y.2.1 k && decide (mFr G k = v)) = q5 → AW g mX9_linkBehind 0 0 P noX 0 0 42 [some (.ref (g.2.1 + 0)), some (.int (nI v)), some (.int (oI o)), some (.int (oI b)), some (.int (nI k)), some (.int (b2 q5)), L6] [] 0 A (BM g G T th Y W R Z U L h O) := by
      intro q5 e5
      cases o with
      | none =>
        refine a_iload_n (q := 43) dX9_linkBehind_42 rfl rfl rfl ?_
        refine a_iconst (q := 44) (-1) dX9_linkBehind_43 (by decide) rfl ?_
        refine a_icmp_eq (q := 47) 57 dX9_linkBehind_44 (by decide) rfl (fun c44 => ?_) (fun c44 => ?_)
        · skip
          refine a_iconst (q := 58) (b2 true) dX9_linkBehind_57 (by decide) rfl ?_
          refine a_goto 62 dX9_linkBehind_58 (by decide) ?_
          refine a_istore (q := 64) dX9_linkBehind_62 (Nat.le_of_ble_eq_true rfl) rfl rfl ?_
          exact hfin true rfl q5 e5
        · exact absurd rfl c44
      | some j =>
        have hj := ho j rfl
        refine a_iload_n (q := 43) dX9_linkBehind_42 rfl rfl rfl ?_
        show AW _ _ _ _ _ _ _ _ _ _ (.int (nI j) :: _) _ _ _
        refine a_iconst (q := 44) (-1) dX9_linkBehind_43 (by decide) rfl ?_
        refine a_icmp_eq (q := 47) 57 dX9_linkBehind_44 (by decide) rfl (fun c44 => ?_) (fun c44 => ?_)
        · exact absurd c44 (nI_m1 (by omega))
        · skip
          refine a_aload_n (q := 48) dX9_linkBehind_47 rfl rfl rfl ?_
          refine a_iload_n (q := 49) dX9_linkBehind_48 rfl rfl rfl ?_
          refine a_iload (q := 51) dX9_linkBehind_49 rfl rfl ?_
          refine a_cVBv (q := 54) _ dX9_linkBehind_51 kX9_155 (m_comesBefore j k hj (by omega)) rfl rfl rfl (Nat.le_of_ble_eq_true rfl) ⟨(Nat.le_of_ble_eq_true rfl), (Nat.le_of_ble_eq_true rfl)⟩ ⟨(Nat.le_of_ble_eq_true rfl), (Nat.le_of_ble_eq_true rfl)⟩ rfl ?_
          refine a_if_eqZ (q := 57) 61 dX9_linkBehind_54 (by decide) rfl (fun c54 => ?_) (fun c54 => ?_)
          · have hq := hfin false c54 q5 e5
            refine a_iconst (q := 62) (b2 false) dX9_linkBehind_61 (by decide) rfl ?_
            refine a_istore (q := 64) dX9_linkBehind_62 (Nat.le_of_ble_eq_true rfl) rfl rfl ?_
            exact hq
          · have hq := hfin true c54 q5 e5
            refine a_iconst (q := 58) (b2 true) dX9_linkBehind_57 (by decide) rfl ?_
            refine a_goto 62 dX9_linkBehind_58 (by decide) ?_
            refine a_istore (q := 64) dX9_linkBehind_62 (Nat.le_of_ble_eq_true rfl) rfl rfl ?_
            exact hq
    refine a_iload (q := 7) dX9_linkBehind_5 rfl rfl ?_
    refine a_iconst (q := 8) (nI 2) dX9_linkBehind_7 (by decide) rfl ?_
    refine a_aload_n (q := 9) dX9_linkBehind_8 rfl rfl rfl ?_
    refine a_getB (q := 12) dX9_linkBehind_9 fX9_101 rfl rfl rfl ?_
    refine a_imulN (q := 13) dX9_linkBehind_12 rfl ?_
    refine a_icmp_geN (q := 16) 102 dX9_linkBehind_13 (by decide) (by omega) (by omega) rfl (fun c13 => ?_) (fun c13 => ?_)
    · omega
    · skip
      refine a_aload_n (q := 17) dX9_linkBehind_16 rfl rfl rfl ?_
      refine a_iload (q := 19) dX9_linkBehind_17 rfl rfl ?_
      refine a_cVBv (q := 22) _ dX9_linkBehind_19 kX9_148 (m_isLink k (by omega) g3) rfl rfl rfl (Nat.le_of_ble_eq_true rfl) ⟨(Nat.le_of_ble_eq_true rfl), (Nat.le_of_ble_eq_true rfl)⟩ ⟨(Nat.le_of_ble_eq_true rfl), (Nat.le_of_ble_eq_true rfl)⟩ rfl ?_
      refine a_if_eqZ (q := 25) 39 dX9_linkBehind_22 (by decide) rfl (fun c22 => ?_) (fun c22 => ?_)
      · have hq := hmid false (by rw [c22]; rfl)
        refine a_iconst (q := 40) (b2 false) dX9_linkBehind_39 (by decide) rfl ?_
        refine a_istore (q := 42) dX9_linkBehind_40 (Nat.le_of_ble_eq_true rfl) rfl rfl ?_
        exact hq
      · have h9 := mFr_lt hg c22
        refine a_aload_n (q := 26) dX9_linkBehind_25 rfl rfl rfl ?_
        refine a_iload (q := 28) dX9_linkBehind_26 rfl rfl ?_
        refine a_cVBv (q := 31) _ dX9_linkBehind_28 kX9_151 (m_linkFrom k (by omega)) rfl rfl rfl (Nat.le_of_ble_eq_true rfl) ⟨(Nat.le_of_ble_eq_true rfl), (Nat.le_of_ble_eq_true rfl)⟩ ⟨(Nat.le_of_ble_eq_true rfl), (Nat.le_of_ble_eq_true rfl)⟩ rfl ?_
        refine a_iload_n (q := 32) dX9_linkBehind_31 rfl rfl rfl ?_
        refine a_icmp_neN (q := 35) 39 dX9_linkBehind_32 (by decide) (by omega) (by omega) rfl (fun c32 => ?_) (fun c32 => ?_)
        · have hq := hmid false (by rw [c22, decide_eq_false c32]; rfl)
          refine a_iconst (q := 40) (b2 false) dX9_linkBehind_39 (by decide) rfl ?_
          refine a_istore (q := 42) dX9_linkBehind_40 (Nat.le_of_ble_eq_true rfl) rfl rfl ?_
          exact hq
        · have hq := hmid true (by rw [c22, decide_eq_true c32]; rfl)
          refine a_iconst (q := 36) (b2 true) dX9_linkBehind_35 (by decide) rfl ?_
          refine a_goto 40 dX9_linkBehind_36 (by decide) ?_
          refine a_istore (q := 42) dX9_linkBehind_40 (Nat.le_of_ble_eq_true rfl) rfl rfl ?_
          exact hq
theorem m_linkBehind (hg : gok G) (v : Nat) (hv : v < 12) (o : Option Nat) (ho : ∀ j, o = some j → j < 48) : Ct g mX9_linkBehind [.ref (g.2.1 + 0), .int (nI v), .int (oI o)] 0 A (BM g G T th Y W R Z U L h O) 0 0 (rP (some (.int (oI (lb G Y.2.1 v o)))) A (BM g G T th Y W R Z U L h O)) noX := by
  refine Ct.of [some (.ref (g.2.1 + 0)), some (.int (nI v)), some (.int (oI o)), none, none, none, none] (by decide) rfl (Nat.le_of_ble_eq_true rfl) rfl ?_
  refine a_iconst (q := 1) (-1) dX9_linkBehind_0 (by decide) rfl ?_
  refine a_istore_n (q := 2) dX9_linkBehind_1 rfl (Nat.le_of_ble_eq_true rfl) rfl rfl ?_
  refine a_iconst (q := 3) (nI 0) dX9_linkBehind_2 (by decide) rfl ?_
  refine a_istore (q := 5) dX9_linkBehind_3 (Nat.le_of_ble_eq_true rfl) rfl rfl ?_
  exact l_mlb _ hg v hv o ho _ 0 none _ _ rfl (Nat.zero_le _) (fun j hj => by cases hj) ⟨rfl, rfl, rfl, rfl⟩
/-- what it finds -/
theorem lbF_spec {G : Gr} {bk : Nat → Bool} {v : Nat} {o : Option Nat} : ∀ (m k : Nat) (b : Option Nat), (∀ i, b = some i → i < k ∧ mIs G bk i = true ∧ mFr G i = v ∧ ∀ j, o = some j → mCb bk j i = true) → ∀ i, lbF G bk v o m k b = some i → i < k + m ∧ mIs G bk i = true ∧ mFr G i = v ∧ ∀ j, o = some j → mCb bk j i = true := by
  intro m
  induction m with
  | zero => intro k b hb i hi; exact hb i hi
  | succ m ih =>
    intro k b hb i hi
    unfold lbF at hi
    have := ih (k + 1) _ (fun i' hi' => ?_) i hi
    · exact ⟨by omega, this.2⟩
    · split at hi'
      · rename_i hc
        cases hi'
        unfold lbC at hc
        simp only [Bool.and_eq_true, decide_eq_true_eq] at hc
        refine ⟨by omega, hc.1.1.1, hc.1.1.2, fun j hj => ?_⟩
        subst hj
        exact hc.1.2
      · have := hb i' hi'
        exact ⟨by omega, this.2⟩
theorem lb_spec {G : Gr} {bk : Nat → Bool} {v : Nat} {o : Option Nat} {i : Nat} (h : lb G bk v o = some i) : i < 2 * G.2.1 ∧ mIs G bk i = true ∧ mFr G i = v ∧ ∀ j, o = some j → mCb bk j i = true := by
  have := lbF_spec (2 * G.2.1) 0 none (fun i hi => by cases hi) i h
  rw [Nat.zero_add] at this
  exact this
end MLinks

