/-! ===== the reference: a path, link by link ===== -/
def fkF (G : Gr) (bk : Nat → Bool) (P V : Nat → Int32) (v : Nat) (r : Int32) : Nat → Option Nat → Option Nat
  | 0, _ => none
  | _ + 1, none => none
  | m + 1, some k => if r < V k + P (mTo G bk k) then some k else fkF G bk P V v r m (lb G bk v (some k))
def foF (G : Gr) (bk : Nat → Bool) (P V : Nat → Int32) : Nat → Nat → Int32 → La → Option La
  | 0, v, _, q => if v = G.1 - 1 then some q else none
  | m + 1, v, r, q => if v = G.1 - 1 then some q else match fkF G bk P V v r 144 (lb G bk v none) with
    | none => none
    | some k => foF G bk P V m (mTo G bk k) (r - V k) (va_up q.1 q.2 k, q.2 + 1)
def fol (G : Gr) (bk : Nat → Bool) (P V : Nat → Int32) (x : Int32) (q : La) : Option La := foF G bk P V 12 0 x (q.1, 0)
/-- links of the graph, one at least -/
def lOk (q : La) : Prop := q.2 ≤ 12 ∧ ∀ i, i < q.2 → q.1 i < 48
theorem fkF_spec {G : Gr} {bk : Nat → Bool} {P V : Nat → Int32} {v : Nat} {r : Int32} : ∀ (m : Nat) (o : Option Nat) (k : Nat), (∀ j, o = some j → j < 2 * G.2.1 ∧ mIs G bk j = true ∧ mFr G j = v) → fkF G bk P V v r m o = some k → k < 2 * G.2.1 ∧ mIs G bk k = true ∧ mFr G k = v := by
  intro m
  induction m with
  | zero => intro o k ho h; cases o <;> cases h
  | succ m ih =>
    intro o k ho h
    cases o with
    | none => cases h
    | some j =>
      unfold fkF at h
      split at h
      · cases h; exact ho k rfl
      · exact ih _ k (fun i hi => by have := lb_spec hi; exact ⟨this.1, this.2.1, this.2.2.1⟩) h
theorem foF_ok {G : Gr} {bk : Nat → Bool} {P V : Nat → Int32} (he : G.2.1 ≤ 24) : ∀ (m v : Nat) (r : Int32) (q q' : La), (∀ i, i < q.2 → q.1 i < 48) → foF G bk P V m v r q = some q' → q'.2 ≤ q.2 + m ∧ q.2 ≤ q'.2 ∧ ∀ i, i < q'.2 → q'.1 i < 48 := by
  intro m
  induction m with
  | zero =>
    intro v r q q' hq h
    unfold foF at h
    split at h
    · cases h; exact ⟨Nat.le_refl _, Nat.le_refl _, hq⟩
    · cases h
  | succ m ih =>
    intro v r q q' hq h
    unfold foF at h
    split at h
    · cases h; exact ⟨by omega, Nat.le_refl _, hq⟩
    · split at h
      · cases h
      · rename_i k hk
        have hk2 := fkF_spec 144 _ k (fun i hi => by have := lb_spec hi; exact ⟨this.1, this.2.1, this.2.2.1⟩) hk
        have := ih _ _ _ q' (fun i hi => by
          have hi : i < q.2 + 1 := hi
          show va_up q.1 q.2 k i < 48
          by_cases e : i = q.2
          · rw [e, va_same]; omega
          · rw [va_other e]; exact hq i (by omega)) h
        have t1 : q'.2 ≤ q.2 + 1 + m := this.1
        have t2 : q.2 + 1 ≤ q'.2 := this.2.1
        exact ⟨by omega, by omega, this.2.2⟩
theorem fol_ok {G : Gr} {bk : Nat → Bool} {P V : Nat → Int32} {x : Int32} {q q' : La} (he : G.2.1 ≤ 24) (hn : 2 ≤ G.1) (h : fol G bk P V x q = some q') : 1 ≤ q'.2 ∧ q'.2 ≤ 12 ∧ ∀ i, i < q'.2 → q'.1 i < 48 := by
  unfold fol foF at h
  rw [if_neg (by omega)] at h
  split at h
  · cases h
  · rename_i k hk
    have hk2 := fkF_spec 144 _ k (fun i hi => by have := lb_spec hi; exact ⟨this.1, this.2.1, this.2.2.1⟩) hk
    have := foF_ok he 11 _ _ _ q' (fun i hi => by
      have hi : i < 0 + 1 := hi
      show va_up q.1 0 k i < 48
      rw [show i = 0 by omega, va_same]; omega) h
    have t1 : q'.2 ≤ 0 + 1 + 11 := this.1
    have t2 : 0 + 1 ≤ q'.2 := this.2.1
    exact ⟨by omega, by omega, this.2.2⟩
def bgn (bk : Nat → Bool) (q : La) : Bool := decide (mKd bk (q.1 0) = 2)
def enn (bk : Nat → Bool) (q : La) : Bool := decide (mKd bk (q.1 (q.2 - 1)) = 1)
def vsN (bk : Nat → Bool) (q : La) : Nat := q.2 + 1 - (if bgn bk q = true then 1 else 0) - (if enn bk q = true then 1 else 0)
def vnI (bk : Nat → Bool) (q : La) (k : Nat) : Nat := if bgn bk q = true then k + 1 else k
def vnN (G : Gr) (bk : Nat → Bool) (q : La) (k : Nat) : Nat := if vnI bk q k = 0 then 0 else mTo G bk (q.1 (vnI bk q k - 1))
def enM (bk : Nat → Bool) (q : La) (b : Bool) : Int32 := if b = true then (if enn bk q = true then nI (q.1 (q.2 - 1) / 2) else -1) else (if bgn bk q = true then nI (q.1 0 / 2) else -1)
theorem mPt_lk {an : Bool} {x p : Int32} (h : mPt an x p = true) : lkN an (mPt an x p) = 0 := by
  rw [h]
  cases an with
  | false => cases h
  | true => rfl
theorem mPt_an {an : Bool} {x p : Int32} (h : mPt an x p = true) : an = true := by
  cases an with
  | false => cases h
  | true => rfl
theorem vsN_le {bk : Nat → Bool} {q : La} : vsN bk q ≤ q.2 + 1 := by unfold vsN; omega
section MPaths
variable {g : gp_T} {A : List va_E} {G : Gr} {T : Tx} {th : Nat} {Y : Ya} {W : Wa} {R : Ra} {Z : Za} {U : Ua} {L : La} {h : Int64} {O : Oa}
theorem l_fk (P : ps_T) (x r : Int32) (v : Nat) (hg : gok G) (hv : v < 12) (k : Nat) (hp : AW g mX9_follow 0 0 P noX 0 0 62 [some (.ref (g.2.1 + 0)), some (.int x), some (.int r), some (.int (nI v)), some (.int (nI k))] [] 0 A (BM g G T th Y W R Z U L h O)) : ∀ (m : Nat) (o : Option Nat), (∀ j, o = some j → j < 48 ∧ mIs G Y.2.1 j = true) → fkF G Y.2.1 Y.2.2.1 Y.2.2.2.1 v r m o = some k → AW g mX9_follow 0 0 P noX 0 0 27 [some (.ref (g.2.1 + 0)), some (.int x), some (.int r), some (.int (nI v)), some (.int (oI o))] [] 0 A (BM g G T th Y W R Z U L h O) := by
  intro m
  obtain ⟨g1, g2, g3, g4, g5⟩ := id hg
  induction m with
  | zero => intro o ho h; cases o <;> cases h
  | succ m ih =>
    intro o ho hk
    cases o with
    | none => cases hk
    | some j =>
      obtain ⟨h1, h2⟩ := ho j rfl
      have h4 := mTo_lt hg h2
      unfold fkF at hk
      refine a_iload_n (q := 28) dX9_follow_27 rfl rfl rfl ?_
      refine a_aload_n (q := 29) dX9_follow_28 rfl rfl rfl ?_
      refine a_getB (q := 32) dX9_follow_29 fX9_33 rfl rfl rfl ?_
      refine a_iload (q := 34) dX9_follow_32 rfl rfl ?_
      show AW _ _ _ _ _ _ _ _ _ _ (.int (nI j) :: _) _ _ _
      refine a_ialdBI (q := 35) dX9_follow_34 rfl (by omega) (by decide) rfl ?_
      refine a_aload_n (q := 36) dX9_follow_35 rfl rfl rfl ?_
      refine a_getB (q := 39) dX9_follow_36 fX9_30 rfl rfl rfl ?_
      refine a_aload_n (q := 40) dX9_follow_39 rfl rfl rfl ?_
      refine a_iload (q := 42) dX9_follow_40 rfl rfl ?_
      show AW _ _ _ _ _ _ _ _ _ _ (.int (nI j) :: _) _ _ _
      refine a_cVBv (q := 45) _ dX9_follow_42 kX9_165 (m_linkTo j h1 (by omega)) rfl rfl rfl (Nat.le_of_ble_eq_true rfl) ⟨(Nat.le_of_ble_eq_true rfl), (Nat.le_of_ble_eq_true rfl)⟩ ⟨(Nat.le_of_ble_eq_true rfl), (Nat.le_of_ble_eq_true rfl)⟩ rfl ?_
      refine a_ialdBI (q := 46) dX9_follow_45 rfl (by omega) (by decide) rfl ?_
      refine a_iadd (q := 47) dX9_follow_46 rfl ?_
      refine a_icmp_lt (q := 50) 62 dX9_follow_47 (by decide) rfl (fun c47 => ?_) (fun c47 => ?_)
      · rw [if_pos c47] at hk
        cases hk
        exact hp
      · rw [if_neg c47] at hk
        refine a_aload_n (q := 51) dX9_follow_50 rfl rfl rfl ?_
        refine a_iload_n (q := 52) dX9_follow_51 rfl rfl rfl ?_
        refine a_iload (q := 54) dX9_follow_52 rfl rfl ?_
        refine a_cVBv (q := 57) _ dX9_follow_54 kX9_162 (m_linkBehind hg v hv (some j) (fun i hi => by cases hi; exact h1)) rfl rfl rfl (Nat.le_of_ble_eq_true rfl) ⟨(Nat.le_of_ble_eq_true rfl), (Nat.le_of_ble_eq_true rfl)⟩ ⟨(Nat.le_of_ble_eq_true rfl), (Nat.le_of_ble_eq_true rfl)⟩ rfl ?_
        refine a_istore (q := 59) dX9_follow_57 (Nat.le_of_ble_eq_true rfl) rfl rfl ?_
        refine a_goto 27 dX9_follow_59 (by decide) ?_
        exact ih _ (fun i hi => by have := lb_spec hi; exact ⟨by omega, this.2.1⟩) hk
theorem l_fo (P : ps_T) (x : Int32) (hg : gok G) (q' : La) (hp : P none 0 A (BM g G T th Y W R Z U q' h O)) : ∀ (m v : Nat) (r : Int32) (q : La) (L4 : Option Value), v < G.1 → q.2 + m ≤ 24 → foF G Y.2.1 Y.2.2.1 Y.2.2.2.1 m v r q = some q' → AW g mX9_follow 0 0 P noX 0 0 9 [some (.ref (g.2.1 + 0)), some (.int x), some (.int r), some (.int (nI v)), L4] [] 0 A (BM g G T th Y W R Z U q h O) := by
  intro m
  obtain ⟨g1, g2, g3, g4, g5⟩ := id hg
  induction m with
  | zero =>
    intro v r q L4 hv hq hf
    unfold foF at hf
    refine a_iload_n (q := 10) dX9_follow_9 rfl rfl rfl ?_
    refine a_aload_n (q := 11) dX9_follow_10 rfl rfl rfl ?_
    refine a_getB (q := 14) dX9_follow_11 fX9_7 rfl rfl rfl ?_
    refine a_iconst (q := 15) (nI 1) dX9_follow_14 (by decide) rfl ?_
    refine a_isubN (q := 16) dX9_follow_15 (by omega) rfl ?_
    refine a_icmp_eqN (q := 19) 103 dX9_follow_16 (by decide) (by omega) (by omega) rfl (fun c16 => ?_) (fun c16 => ?_)
    · rw [if_pos c16] at hf
      cases hf
      exact a_ret dX9_follow_103 rfl (Nat.le_of_ble_eq_true rfl) (Nat.le_of_ble_eq_true rfl) (hp)
    · rw [if_neg c16] at hf
      cases hf
  | succ m ih =>
    intro v r q L4 hv hq hf
    unfold foF at hf
    by_cases e : v = G.1 - 1
    · rw [if_pos e] at hf
      cases hf
      refine a_iload_n (q := 10) dX9_follow_9 rfl rfl rfl ?_
      refine a_aload_n (q := 11) dX9_follow_10 rfl rfl rfl ?_
      refine a_getB (q := 14) dX9_follow_11 fX9_7 rfl rfl rfl ?_
      refine a_iconst (q := 15) (nI 1) dX9_follow_14 (by decide) rfl ?_
      refine a_isubN (q := 16) dX9_follow_15 (by omega) rfl ?_
      refine a_icmp_eqN (q := 19) 103 dX9_follow_16 (by decide) (by omega) (by omega) rfl (fun c16 => ?_) (fun c16 => ?_)
      · skip
        exact a_ret dX9_follow_103 rfl (Nat.le_of_ble_eq_true rfl) (Nat.le_of_ble_eq_true rfl) (hp)
      · exact absurd e c16
    · rw [if_neg e] at hf
      split at hf
      · cases hf
      · rename_i k hk
        have hk2 := fkF_spec 144 _ k (fun i hi => by have := lb_spec hi; exact ⟨this.1, this.2.1, this.2.2.1⟩) hk
        have h4 := mTo_lt hg hk2.2.1
        have hq2 := fun L4 => ih (mTo G Y.2.1 k) (r - Y.2.2.2.1 k) (va_up q.1 q.2 k, q.2 + 1) L4 h4 (by show q.2 + 1 + m ≤ 24; omega) hf
        refine a_iload_n (q := 10) dX9_follow_9 rfl rfl rfl ?_
        refine a_aload_n (q := 11) dX9_follow_10 rfl rfl rfl ?_
        refine a_getB (q := 14) dX9_follow_11 fX9_7 rfl rfl rfl ?_
        refine a_iconst (q := 15) (nI 1) dX9_follow_14 (by decide) rfl ?_
        refine a_isubN (q := 16) dX9_follow_15 (by omega) rfl ?_
        refine a_icmp_eqN (q := 19) 103 dX9_follow_16 (by decide) (by omega) (by omega) rfl (fun c16 => ?_) (fun c16 => ?_)
        · exact absurd c16 e
        · skip
          refine a_aload_n (q := 20) dX9_follow_19 rfl rfl rfl ?_
          refine a_iload_n (q := 21) dX9_follow_20 rfl rfl rfl ?_
          refine a_iconst (q := 22) (-1) dX9_follow_21 (by decide) rfl ?_
          refine a_cVBv (q := 25) _ dX9_follow_22 kX9_162 (m_linkBehind (G := G) (L := q) hg v (by omega) none (fun i hi => by cases hi)) rfl rfl rfl (Nat.le_of_ble_eq_true rfl) ⟨(Nat.le_of_ble_eq_true rfl), (Nat.le_of_ble_eq_true rfl)⟩ ⟨(Nat.le_of_ble_eq_true rfl), (Nat.le_of_ble_eq_true rfl)⟩ rfl ?_
          refine a_istore (q := 27) dX9_follow_25 (Nat.le_of_ble_eq_true rfl) rfl rfl ?_
          refine l_fk (L := q) P x r v hg (by omega) k ?_ 144 _ (fun i hi => by have := lb_spec hi; exact ⟨by omega, this.2.1⟩) hk
          refine a_iload_n (q := 63) dX9_follow_62 rfl rfl rfl ?_
          refine a_aload_n (q := 64) dX9_follow_63 rfl rfl rfl ?_
          refine a_getB (q := 67) dX9_follow_64 fX9_33 rfl rfl rfl ?_
          refine a_iload (q := 69) dX9_follow_67 rfl rfl ?_
          show AW _ _ _ _ _ _ _ _ _ _ (.int (nI k) :: _) _ _ _
          refine a_ialdBI (q := 70) dX9_follow_69 rfl (by omega) (by decide) rfl ?_
          refine a_isub (q := 71) dX9_follow_70 rfl ?_
          refine a_istore_n (q := 72) dX9_follow_71 rfl (Nat.le_of_ble_eq_true rfl) rfl rfl ?_
          refine a_aload_n (q := 73) dX9_follow_72 rfl rfl rfl ?_
          refine a_getB (q := 76) dX9_follow_73 fX9_78 rfl rfl rfl ?_
          refine a_aload_n (q := 77) dX9_follow_76 rfl rfl rfl ?_
          refine a_getB (q := 80) dX9_follow_77 fX9_203 rfl rfl rfl ?_
          refine a_iload (q := 82) dX9_follow_80 rfl rfl ?_
          show AW _ _ _ _ _ _ _ _ _ _ (.int (nI k) :: _) _ _ _
          refine a_iastBN (q := 83) dX9_follow_82 rfl (by omega) (by decide) rfl ?_
          refine a_aload_n (q := 84) dX9_follow_83 rfl rfl rfl ?_
          refine a_dup (q := 85) dX9_follow_84 rfl rfl ?_
          refine a_getB (q := 88) dX9_follow_85 fX9_203 rfl rfl rfl ?_
          refine a_iconst (q := 89) (nI 1) dX9_follow_88 (by decide) rfl ?_
          refine a_iaddN (q := 90) dX9_follow_89 rfl ?_
          refine a_putB (q := 93) dX9_follow_90 fX9_203 (fun h => nomatch h) rfl (Nat.le_of_ble_eq_true rfl) rfl rfl rfl ?_
          refine a_aload_n (q := 94) dX9_follow_93 rfl rfl rfl ?_
          refine a_iload (q := 96) dX9_follow_94 rfl rfl ?_
          refine a_cVBv (q := 99) _ dX9_follow_96 kX9_165 (m_linkTo (G := G) (L := (va_up q.1 q.2 k, q.2 + 1)) k (by omega) (by omega)) rfl rfl rfl (Nat.le_of_ble_eq_true rfl) ⟨(Nat.le_of_ble_eq_true rfl), (Nat.le_of_ble_eq_true rfl)⟩ ⟨(Nat.le_of_ble_eq_true rfl), (Nat.le_of_ble_eq_true rfl)⟩ rfl ?_
          refine a_istore_n (q := 100) dX9_follow_99 rfl (Nat.le_of_ble_eq_true rfl) rfl rfl ?_
          refine a_goto 9 dX9_follow_100 (by decide) ?_
          exact hq2 _
theorem m_follow (x : Int32) (hg : gok G) (q' : La) (hf : fol G Y.2.1 Y.2.2.1 Y.2.2.2.1 x L = some q') : Ct g mX9_follow [.ref (g.2.1 + 0), .int x] 0 A (BM g G T th Y W R Z U L h O) 0 0 (rP none A (BM g G T th Y W R Z U q' h O)) noX := by
  obtain ⟨g1, g2, g3, g4, g5⟩ := id hg
  refine Ct.of [some (.ref (g.2.1 + 0)), some (.int x), none, none, none] (by decide) rfl (Nat.le_of_ble_eq_true rfl) rfl ?_
  refine a_aload_n (q := 1) dX9_follow_0 rfl rfl rfl ?_
  refine a_iconst (q := 2) (nI 0) dX9_follow_1 (by decide) rfl ?_
  refine a_putB (q := 5) dX9_follow_2 fX9_203 (fun h => nomatch h) rfl (Nat.le_of_ble_eq_true rfl) rfl rfl rfl ?_
  refine a_iload_n (q := 6) dX9_follow_5 rfl rfl rfl ?_
  refine a_istore_n (q := 7) dX9_follow_6 rfl (Nat.le_of_ble_eq_true rfl) rfl rfl ?_
  refine a_iconst (q := 8) (nI 0) dX9_follow_7 (by decide) rfl ?_
  refine a_istore_n (q := 9) dX9_follow_8 rfl (Nat.le_of_ble_eq_true rfl) rfl rfl ?_
  exact l_fo _ x hg q' ⟨rfl, rfl, rfl, rfl⟩ 12 0 x (L.1, 0) _ (by omega) (by show 0 + 12 ≤ 24; omega) hf
theorem m_beginsInside (h1 : L.1 0 < 48) : Ct g mX9_beginsInside [.ref (g.2.1 + 0)] 0 A (BM g G T th Y W R Z U L h O) 0 0 (rP (some (.int (b2 (bgn Y.2.1 L)))) A (BM g G T th Y W R Z U L h O)) noX := by
  have h2 := mKd_lt (bk := Y.2.1) (k := L.1 0)
  refine Ct.of [some (.ref (g.2.1 + 0))] (by decide) rfl (Nat.le_of_ble_eq_true rfl) rfl ?_
  unfold bgn
  refine a_aload_n (q := 1) dX9_beginsInside_0 rfl rfl rfl ?_
  refine a_aload_n (q := 2) dX9_beginsInside_1 rfl rfl rfl ?_
  refine a_getB (q := 5) dX9_beginsInside_2 fX9_78 rfl rfl rfl ?_
  refine a_iconst (q := 6) (nI 0) dX9_beginsInside_5 (by decide) rfl ?_
  refine a_ialdBN (q := 7) dX9_beginsInside_6 rfl (by omega) (by decide) rfl ?_
  refine a_cVBv (q := 10) _ dX9_beginsInside_7 kX9_159 (m_kind (L.1 0) h1) rfl rfl rfl (Nat.le_of_ble_eq_true rfl) ⟨(Nat.le_of_ble_eq_true rfl), (Nat.le_of_ble_eq_true rfl)⟩ ⟨(Nat.le_of_ble_eq_true rfl), (Nat.le_of_ble_eq_true rfl)⟩ rfl ?_
  refine a_iconst (q := 11) (nI 2) dX9_beginsInside_10 (by decide) rfl ?_
  refine a_icmp_neN (q := 14) 18 dX9_beginsInside_11 (by decide) (by omega) (by omega) rfl (fun c11 => ?_) (fun c11 => ?_)
  · rw [decide_eq_false c11]
    refine a_iconst (q := 19) (b2 false) dX9_beginsInside_18 (by decide) rfl ?_
    exact a_iret dX9_beginsInside_19 rfl (b2_narrow _) (Nat.le_of_ble_eq_true rfl) (Nat.le_of_ble_eq_true rfl) (⟨rfl, rfl, rfl, rfl⟩)
  · rw [decide_eq_true c11]
    refine a_iconst (q := 15) (b2 true) dX9_beginsInside_14 (by decide) rfl ?_
    refine a_goto 19 dX9_beginsInside_15 (by decide) ?_
    exact a_iret dX9_beginsInside_19 rfl (b2_narrow _) (Nat.le_of_ble_eq_true rfl) (Nat.le_of_ble_eq_true rfl) (⟨rfl, rfl, rfl, rfl⟩)
theorem m_endsInside (h0 : 1 ≤ L.2) (h2 : L.2 ≤ 12) (h1 : L.1 (L.2 - 1) < 48) : Ct g mX9_endsInside [.ref (g.2.1 + 0)] 0 A (BM g G T th Y W R Z U L h O) 0 0 (rP (some (.int (b2 (enn Y.2.1 L)))) A (BM g G T th Y W R Z U L h O)) noX := by
  have h3 := mKd_lt (bk := Y.2.1) (k := L.1 (L.2 - 1))
  refine Ct.of [some (.ref (g.2.1 + 0))] (by decide) rfl (Nat.le_of_ble_eq_true rfl) rfl ?_
  unfold enn
  refine a_aload_n (q := 1) dX9_endsInside_0 rfl rfl rfl ?_
  refine a_aload_n (q := 2) dX9_endsInside_1 rfl rfl rfl ?_
  refine a_getB (q := 5) dX9_endsInside_2 fX9_78 rfl rfl rfl ?_
  refine a_aload_n (q := 6) dX9_endsInside_5 rfl rfl rfl ?_
  refine a_getB (q := 9) dX9_endsInside_6 fX9_203 rfl rfl rfl ?_
  refine a_iconst (q := 10) (nI 1) dX9_endsInside_9 (by decide) rfl ?_
  refine a_isubN (q := 11) dX9_endsInside_10 (by omega) rfl ?_
  refine a_ialdBN (q := 12) dX9_endsInside_11 rfl (by omega) (by decide) rfl ?_
  refine a_cVBv (q := 15) _ dX9_endsInside_12 kX9_159 (m_kind (L.1 (L.2 - 1)) h1) rfl rfl rfl (Nat.le_of_ble_eq_true rfl) ⟨(Nat.le_of_ble_eq_true rfl), (Nat.le_of_ble_eq_true rfl)⟩ ⟨(Nat.le_of_ble_eq_true rfl), (Nat.le_of_ble_eq_true rfl)⟩ rfl ?_
  refine a_iconst (q := 16) (nI 1) dX9_endsInside_15 (by decide) rfl ?_
  refine a_icmp_neN (q := 19) 23 dX9_endsInside_16 (by decide) (by omega) (by omega) rfl (fun c16 => ?_) (fun c16 => ?_)
  · rw [decide_eq_false c16]
    refine a_iconst (q := 24) (b2 false) dX9_endsInside_23 (by decide) rfl ?_
    exact a_iret dX9_endsInside_24 rfl (b2_narrow _) (Nat.le_of_ble_eq_true rfl) (Nat.le_of_ble_eq_true rfl) (⟨rfl, rfl, rfl, rfl⟩)
  · rw [decide_eq_true c16]
    refine a_iconst (q := 20) (b2 true) dX9_endsInside_19 (by decide) rfl ?_
    refine a_goto 24 dX9_endsInside_20 (by decide) ?_
    exact a_iret dX9_endsInside_24 rfl (b2_narrow _) (Nat.le_of_ble_eq_true rfl) (Nat.le_of_ble_eq_true rfl) (⟨rfl, rfl, rfl, rfl⟩)
theorem m_visited (h0 : 1 ≤ L.2) (h2 : L.2 ≤ 12) (h1 : ∀ i, i < L.2 → L.1 i < 48) : Ct g mX9_visited [.ref (g.2.1 + 0)] 0 A (BM g G T th Y W R Z U L h O) 0 0 (rP (some (.int (nI (vsN Y.2.1 L)))) A (BM g G T th Y W R Z U L h O)) noX := by
  refine Ct.of [some (.ref (g.2.1 + 0))] (by decide) rfl (Nat.le_of_ble_eq_true rfl) rfl ?_
  unfold vsN
  refine a_aload_n (q := 1) dX9_visited_0 rfl rfl rfl ?_
  refine a_getB (q := 4) dX9_visited_1 fX9_203 rfl rfl rfl ?_
  refine a_iconst (q := 5) (nI 1) dX9_visited_4 (by decide) rfl ?_
  refine a_iaddN (q := 6) dX9_visited_5 rfl ?_
  refine a_aload_n (q := 7) dX9_visited_6 rfl rfl rfl ?_
  refine a_cVBv (q := 10) _ dX9_visited_7 kX9_206 (m_beginsInside (h1 0 (by omega))) rfl rfl rfl (Nat.le_of_ble_eq_true rfl) ⟨(Nat.le_of_ble_eq_true rfl), (Nat.le_of_ble_eq_true rfl)⟩ ⟨(Nat.le_of_ble_eq_true rfl), (Nat.le_of_ble_eq_true rfl)⟩ rfl ?_
  refine a_if_eqZ (q := 13) 17 dX9_visited_10 (by decide) rfl (fun c10 => ?_) (fun c10 => ?_)
  · rw [if_neg (show ¬ bgn Y.2.1 L = true by rw [c10]; decide)]
    refine a_iconst (q := 18) (nI 0) dX9_visited_17 (by decide) rfl ?_
    refine a_isubN (q := 19) dX9_visited_18 (by omega) rfl ?_
    refine a_aload_n (q := 20) dX9_visited_19 rfl rfl rfl ?_
    refine a_cVBv (q := 23) _ dX9_visited_20 kX9_209 (m_endsInside h0 h2 (h1 (L.2 - 1) (by omega))) rfl rfl rfl (Nat.le_of_ble_eq_true rfl) ⟨(Nat.le_of_ble_eq_true rfl), (Nat.le_of_ble_eq_true rfl)⟩ ⟨(Nat.le_of_ble_eq_true rfl), (Nat.le_of_ble_eq_true rfl)⟩ rfl ?_
    refine a_if_eqZ (q := 26) 30 dX9_visited_23 (by decide) rfl (fun c23 => ?_) (fun c23 => ?_)
    · rw [if_neg (show ¬ enn Y.2.1 L = true by rw [c23]; decide)]
      refine a_iconst (q := 31) (nI 0) dX9_visited_30 (by decide) rfl ?_
      refine a_isubN (q := 32) dX9_visited_31 (by omega) rfl ?_
      exact a_iret dX9_visited_32 rfl rfl (Nat.le_of_ble_eq_true rfl) (Nat.le_of_ble_eq_true rfl) (⟨rfl, rfl, rfl, rfl⟩)
    · rw [if_pos (show enn Y.2.1 L = true from c23)]
      refine a_iconst (q := 27) (nI 1) dX9_visited_26 (by decide) rfl ?_
      refine a_goto 31 dX9_visited_27 (by decide) ?_
      refine a_isubN (q := 32) dX9_visited_31 (by omega) rfl ?_
      exact a_iret dX9_visited_32 rfl rfl (Nat.le_of_ble_eq_true rfl) (Nat.le_of_ble_eq_true rfl) (⟨rfl, rfl, rfl, rfl⟩)
  · rw [if_pos (show bgn Y.2.1 L = true from c10)]
    refine a_iconst (q := 14) (nI 1) dX9_visited_13 (by decide) rfl ?_
    refine a_goto 18 dX9_visited_14 (by decide) ?_
    refine a_isubN (q := 19) dX9_visited_18 (by omega) rfl ?_
    refine a_aload_n (q := 20) dX9_visited_19 rfl rfl rfl ?_
    refine a_cVBv (q := 23) _ dX9_visited_20 kX9_209 (m_endsInside h0 h2 (h1 (L.2 - 1) (by omega))) rfl rfl rfl (Nat.le_of_ble_eq_true rfl) ⟨(Nat.le_of_ble_eq_true rfl), (Nat.le_of_ble_eq_true rfl)⟩ ⟨(Nat.le_of_ble_eq_true rfl), (Nat.le_of_ble_eq_true rfl)⟩ rfl ?_
    refine a_if_eqZ (q := 26) 30 dX9_visited_23 (by decide) rfl (fun c23 => ?_) (fun c23 => ?_)
    · rw [if_neg (show ¬ enn Y.2.1 L = true by rw [c23]; decide)]
      refine a_iconst (q := 31) (nI 0) dX9_visited_30 (by decide) rfl ?_
      refine a_isubN (q := 32) dX9_visited_31 (by omega) rfl ?_
      exact a_iret dX9_visited_32 rfl rfl (Nat.le_of_ble_eq_true rfl) (Nat.le_of_ble_eq_true rfl) (⟨rfl, rfl, rfl, rfl⟩)
    · rw [if_pos (show enn Y.2.1 L = true from c23)]
      refine a_iconst (q := 27) (nI 1) dX9_visited_26 (by decide) rfl ?_
      refine a_goto 31 dX9_visited_27 (by decide) ?_
      refine a_isubN (q := 32) dX9_visited_31 (by omega) rfl ?_
      exact a_iret dX9_visited_32 rfl rfl (Nat.le_of_ble_eq_true rfl) (Nat.le_of_ble_eq_true rfl) (⟨rfl, rfl, rfl, rfl⟩)
theorem m_visitedNode (k : Nat) (hk : k < 13) (h0 : 1 ≤ L.2) (h2 : L.2 ≤ 12) (h1 : ∀ i, i < L.2 → L.1 i < 48) (h3 : vnI Y.2.1 L k ≤ L.2) (hn : 1 ≤ G.1) : Ct g mX9_visitedNode [.ref (g.2.1 + 0), .int (nI k)] 0 A (BM g G T th Y W R Z U L h O) 0 0 (rP (some (.int (nI (vnN G Y.2.1 L k)))) A (BM g G T th Y W R Z U L h O)) noX := by
  have hst : ∀ i, i ≤ L.2 → AW g mX9_visitedNode 0 0 (rP (some (.int (nI (if i = 0 then 0 else mTo G Y.2.1 (L.1 (i - 1)))))) A (BM g G T th Y W R Z U L h O)) noX 0 0 15 [some (.ref (g.2.1 + 0)), some (.int (nI k)), some (.int (nI i))] [] 0 A (BM g G T th Y W R Z U L h O) := fun i hi => by
    skip
    refine a_iload_n (q := 16) dX9_visitedNode_15 rfl rfl rfl ?_
    refine a_if_neN (q := 19) 23 dX9_visitedNode_16 (by decide) (by omega) rfl (fun c16 => ?_) (fun c16 => ?_)
    · rw [if_neg (by omega)]
      refine a_aload_n (q := 24) dX9_visitedNode_23 rfl rfl rfl ?_
      refine a_aload_n (q := 25) dX9_visitedNode_24 rfl rfl rfl ?_
      refine a_getB (q := 28) dX9_visitedNode_25 fX9_78 rfl rfl rfl ?_
      refine a_iload_n (q := 29) dX9_visitedNode_28 rfl rfl rfl ?_
      refine a_iconst (q := 30) (nI 1) dX9_visitedNode_29 (by decide) rfl ?_
      refine a_isubN (q := 31) dX9_visitedNode_30 (by omega) rfl ?_
      refine a_ialdBN (q := 32) dX9_visitedNode_31 rfl (by omega) (by decide) rfl ?_
      refine a_cVBv (q := 35) _ dX9_visitedNode_32 kX9_165 (m_linkTo (L.1 (i - 1)) (h1 _ (by omega)) hn) rfl rfl rfl (Nat.le_of_ble_eq_true rfl) ⟨(Nat.le_of_ble_eq_true rfl), (Nat.le_of_ble_eq_true rfl)⟩ ⟨(Nat.le_of_ble_eq_true rfl), (Nat.le_of_ble_eq_true rfl)⟩ rfl ?_
      exact a_iret dX9_visitedNode_35 rfl rfl (Nat.le_of_ble_eq_true rfl) (Nat.le_of_ble_eq_true rfl) (⟨rfl, rfl, rfl, rfl⟩)
    · rw [if_pos (by omega)]
      refine a_iconst (q := 20) (nI 0) dX9_visitedNode_19 (by decide) rfl ?_
      refine a_goto 35 dX9_visitedNode_20 (by decide) ?_
      exact a_iret dX9_visitedNode_35 rfl rfl (Nat.le_of_ble_eq_true rfl) (Nat.le_of_ble_eq_true rfl) (⟨rfl, rfl, rfl, rfl⟩)
  refine Ct.of [some (.ref (g.2.1 + 0)), some (.int (nI k)), none] (by decide) rfl (Nat.le_of_ble_eq_true rfl) rfl ?_
  unfold vnN
  refine a_aload_n (q := 1) dX9_visitedNode_0 rfl rfl rfl ?_
  refine a_cVBv (q := 4) _ dX9_visitedNode_1 kX9_206 (m_beginsInside (h1 0 (by omega))) rfl rfl rfl (Nat.le_of_ble_eq_true rfl) ⟨(Nat.le_of_ble_eq_true rfl), (Nat.le_of_ble_eq_true rfl)⟩ ⟨(Nat.le_of_ble_eq_true rfl), (Nat.le_of_ble_eq_true rfl)⟩ rfl ?_
  refine a_if_eqZ (q := 7) 13 dX9_visitedNode_4 (by decide) rfl (fun c4 => ?_) (fun c4 => ?_)
  · have hs : vnI Y.2.1 L k = k := if_neg (show ¬ bgn Y.2.1 L = true by rw [c4]; decide)
    rw [hs] at h3 ⊢
    refine a_iload_n (q := 14) dX9_visitedNode_13 rfl rfl rfl ?_
    refine a_istore_n (q := 15) dX9_visitedNode_14 rfl (Nat.le_of_ble_eq_true rfl) rfl rfl ?_
    exact hst _ h3
  · have hs : vnI Y.2.1 L k = k + 1 := if_pos (show bgn Y.2.1 L = true from c4)
    rw [hs] at h3 ⊢
    refine a_iload_n (q := 8) dX9_visitedNode_7 rfl rfl rfl ?_
    refine a_iconst (q := 9) (nI 1) dX9_visitedNode_8 (by decide) rfl ?_
    refine a_iaddN (q := 10) dX9_visitedNode_9 rfl ?_
    refine a_goto 14 dX9_visitedNode_10 (by decide) ?_
    refine a_istore_n (q := 15) dX9_visitedNode_14 rfl (Nat.le_of_ble_eq_true rfl) rfl rfl ?_
    exact hst _ h3
theorem m_lengthNow (x : Int32) (hg : gok G) (q' : La) (hf : fol G Y.2.1 Y.2.2.1 Y.2.2.2.1 x L = some q') : Ct g mX9_lengthNow [.ref (g.2.1 + 0), .int x] 0 A (BM g G T th Y W R Z U L h O) 0 0 (rP (some (.int (nI (vsN Y.2.1 q')))) A (BM g G T th Y W R Z U q' h O)) noX := by
  obtain ⟨g1, g2, g3, g4, g5⟩ := id hg
  obtain ⟨f1, f2, f3⟩ := fol_ok g3 g1 hf
  refine Ct.of [some (.ref (g.2.1 + 0)), some (.int x)] (by decide) rfl (Nat.le_of_ble_eq_true rfl) rfl ?_
  refine a_aload_n (q := 1) dX9_lengthNow_0 rfl rfl rfl ?_
  refine a_iload_n (q := 2) dX9_lengthNow_1 rfl rfl rfl ?_
  refine a_cVB0 (q := 5) _ dX9_lengthNow_2 kX9_212 (m_follow x hg q' hf) rfl rfl rfl (Nat.le_of_ble_eq_true rfl) ⟨(Nat.le_of_ble_eq_true rfl), (Nat.le_of_ble_eq_true rfl)⟩ ⟨(Nat.le_of_ble_eq_true rfl), (Nat.le_of_ble_eq_true rfl)⟩ rfl ?_
  refine a_aload_n (q := 6) dX9_lengthNow_5 rfl rfl rfl ?_
  refine a_cVBv (q := 9) _ dX9_lengthNow_6 kX9_216 (m_visited (L := q') f1 f2 f3) rfl rfl rfl (Nat.le_of_ble_eq_true rfl) ⟨(Nat.le_of_ble_eq_true rfl), (Nat.le_of_ble_eq_true rfl)⟩ ⟨(Nat.le_of_ble_eq_true rfl), (Nat.le_of_ble_eq_true rfl)⟩ rfl ?_
  exact a_iret dX9_lengthNow_9 rfl rfl (Nat.le_of_ble_eq_true rfl) (Nat.le_of_ble_eq_true rfl) (⟨rfl, rfl, rfl, rfl⟩)
theorem m_pathLength (x : Int32) (hg : gok G) (ha : mPt Y.1 x (Y.2.2.1 0) = true) (q' : La) (hf : fol G Y.2.1 Y.2.2.1 Y.2.2.2.1 x L = some q') : Ct g mX9_pathLength [.ref (g.2.1 + 0), .int x] 0 A (BM g G T th Y W R Z U L h O) 0 0 (rP (some (.int (nI (vsN Y.2.1 q')))) A (BM g G T 0 Y W R Z U q' h O)) noX := by
  have hl : lkN Y.1 (mPt Y.1 x (Y.2.2.1 0)) = 0 := mPt_lk ha
  refine Ct.of [some (.ref (g.2.1 + 0)), some (.int x)] (by decide) rfl (Nat.le_of_ble_eq_true rfl) rfl ?_
  refine a_aload_n (q := 1) dX9_pathLength_0 rfl rfl rfl ?_
  refine a_aload_n (q := 2) dX9_pathLength_1 rfl rfl rfl ?_
  refine a_aload_n (q := 3) dX9_pathLength_2 rfl rfl rfl ?_
  refine a_iload_n (q := 4) dX9_pathLength_3 rfl rfl rfl ?_
  refine a_cVBv (q := 7) _ dX9_pathLength_4 kX9_219 (m_isPath x) rfl rfl rfl (Nat.le_of_ble_eq_true rfl) ⟨(Nat.le_of_ble_eq_true rfl), (Nat.le_of_ble_eq_true rfl)⟩ ⟨(Nat.le_of_ble_eq_true rfl), (Nat.le_of_ble_eq_true rfl)⟩ rfl ?_
  refine a_cVBv (q := 10) _ dX9_pathLength_7 kX9_192 (m_lack _) rfl rfl rfl (Nat.le_of_ble_eq_true rfl) ⟨(Nat.le_of_ble_eq_true rfl), (Nat.le_of_ble_eq_true rfl)⟩ ⟨(Nat.le_of_ble_eq_true rfl), (Nat.le_of_ble_eq_true rfl)⟩ rfl ?_
  rw [hl]
  refine a_putB (q := 13) dX9_pathLength_10 fX9_81 (fun h => nomatch h) rfl (Nat.le_of_ble_eq_true rfl) rfl rfl rfl ?_
  refine a_aload_n (q := 14) dX9_pathLength_13 rfl rfl rfl ?_
  refine a_getB (q := 17) dX9_pathLength_14 fX9_81 rfl rfl rfl ?_
  refine a_if_leN (q := 20) 24 dX9_pathLength_17 (by decide) (by omega) rfl (fun c17 => ?_) (fun c17 => ?_)
  · skip
    refine a_aload_n (q := 25) dX9_pathLength_24 rfl rfl rfl ?_
    refine a_iload_n (q := 26) dX9_pathLength_25 rfl rfl rfl ?_
    refine a_cVBv (q := 29) _ dX9_pathLength_26 kX9_222 (m_lengthNow (G := G) (th := 0) x hg q' hf) rfl rfl rfl (Nat.le_of_ble_eq_true rfl) ⟨(Nat.le_of_ble_eq_true rfl), (Nat.le_of_ble_eq_true rfl)⟩ ⟨(Nat.le_of_ble_eq_true rfl), (Nat.le_of_ble_eq_true rfl)⟩ rfl ?_
    exact a_iret dX9_pathLength_29 rfl rfl (Nat.le_of_ble_eq_true rfl) (Nat.le_of_ble_eq_true rfl) (⟨rfl, rfl, rfl, rfl⟩)
  · exact absurd c17 (by decide)
theorem mx_pathLength (x : Int32) (hl : 0 < lkN Y.1 (mPt Y.1 x (Y.2.2.1 0))) : Ct g mX9_pathLength [.ref (g.2.1 + 0), .int x] 0 A (BM g G T th Y W R Z U L h O) 0 0 (rP (some (.int (nI 0))) A (BM g G T (lkN Y.1 (mPt Y.1 x (Y.2.2.1 0))) Y W R Z U L h O)) noX := by
  have h9 := lkN_le (an := Y.1) (ok := mPt Y.1 x (Y.2.2.1 0))
  refine Ct.of [some (.ref (g.2.1 + 0)), some (.int x)] (by decide) rfl (Nat.le_of_ble_eq_true rfl) rfl ?_
  refine a_aload_n (q := 1) dX9_pathLength_0 rfl rfl rfl ?_
  refine a_aload_n (q := 2) dX9_pathLength_1 rfl rfl rfl ?_
  refine a_aload_n (q := 3) dX9_pathLength_2 rfl rfl rfl ?_
  refine a_iload_n (q := 4) dX9_pathLength_3 rfl rfl rfl ?_
  refine a_cVBv (q := 7) _ dX9_pathLength_4 kX9_219 (m_isPath x) rfl rfl rfl (Nat.le_of_ble_eq_true rfl) ⟨(Nat.le_of_ble_eq_true rfl), (Nat.le_of_ble_eq_true rfl)⟩ ⟨(Nat.le_of_ble_eq_true rfl), (Nat.le_of_ble_eq_true rfl)⟩ rfl ?_
  refine a_cVBv (q := 10) _ dX9_pathLength_7 kX9_192 (m_lack _) rfl rfl rfl (Nat.le_of_ble_eq_true rfl) ⟨(Nat.le_of_ble_eq_true rfl), (Nat.le_of_ble_eq_true rfl)⟩ ⟨(Nat.le_of_ble_eq_true rfl), (Nat.le_of_ble_eq_true rfl)⟩ rfl ?_
  refine a_putB (q := 13) dX9_pathLength_10 fX9_81 (fun h => nomatch h) rfl (Nat.le_of_ble_eq_true rfl) rfl rfl rfl ?_
  refine a_aload_n (q := 14) dX9_pathLength_13 rfl rfl rfl ?_
  refine a_getB (q := 17) dX9_pathLength_14 fX9_81 rfl rfl rfl ?_
  refine a_if_leN (q := 20) 24 dX9_pathLength_17 (by decide) (by omega) rfl (fun c17 => ?_) (fun c17 => ?_)
  · omega
  · skip
    refine a_iconst (q := 21) (nI 0) dX9_pathLength_20 (by decide) rfl ?_
    refine a_goto 29 dX9_pathLength_21 (by decide) ?_
    exact a_iret dX9_pathLength_29 rfl rfl (Nat.le_of_ble_eq_true rfl) (Nat.le_of_ble_eq_true rfl) (⟨rfl, rfl, rfl, rfl⟩)
theorem m_pathNode (x : Int32) (k : Nat) (hg : gok G) (ha : mPt Y.1 x (Y.2.2.1 0) = true) (q' : La) (hf : fol G Y.2.1 Y.2.2.1 Y.2.2.2.1 x L = some q') (hk : k < vsN Y.2.1 q') : Ct g mX9_pathNode [.ref (g.2.1 + 0), .int x, .int (nI k)] 0 A (BM g G T th Y W R Z U L h O) 0 0 (rP (some (.int (nI (vnN G Y.2.1 q' k)))) A (BM g G T 0 Y W R Z U q' h O)) noX := by
  obtain ⟨g1, g2, g3, g4, g5⟩ := id hg
  obtain ⟨f1, f2, f3⟩ := fol_ok g3 g1 hf
  have h8 := vsN_le (bk := Y.2.1) (q := q')
  have hw : wi (nI k) (nI 0) (nI (vsN Y.2.1 q') - nI 1) = true := by
    rw [wi_inR (by omega), inR_nI (by unfold big; omega) (by unfold big; omega)]
    exact decide_eq_true hk
  have h7 : vnI Y.2.1 q' k ≤ q'.2 ∧ k < 13 := by
    refine ⟨?_, by omega⟩
    unfold vsN at hk
    unfold vnI
    · split
      · rename_i e; rw [if_pos e] at hk; split at hk <;> omega
      · split at hk <;> omega
  refine Ct.of [some (.ref (g.2.1 + 0)), some (.int x), some (.int (nI k))] (by decide) rfl (Nat.le_of_ble_eq_true rfl) rfl ?_
  refine a_aload_n (q := 1) dX9_pathNode_0 rfl rfl rfl ?_
  refine a_aload_n (q := 2) dX9_pathNode_1 rfl rfl rfl ?_
  refine a_aload_n (q := 3) dX9_pathNode_2 rfl rfl rfl ?_
  refine a_iload_n (q := 4) dX9_pathNode_3 rfl rfl rfl ?_
  refine a_cVBv (q := 7) _ dX9_pathNode_4 kX9_219 (m_isPath x) rfl rfl rfl (Nat.le_of_ble_eq_true rfl) ⟨(Nat.le_of_ble_eq_true rfl), (Nat.le_of_ble_eq_true rfl)⟩ ⟨(Nat.le_of_ble_eq_true rfl), (Nat.le_of_ble_eq_true rfl)⟩ rfl ?_
  refine a_if_eqZ (q := 10) 29 dX9_pathNode_7 (by decide) rfl (fun c7 => ?_) (fun c7 => ?_)
  · rw [ha] at c7; cases c7
  · skip
    refine a_iload_n (q := 11) dX9_pathNode_10 rfl rfl rfl ?_
    refine a_iconst (q := 12) (nI 0) dX9_pathNode_11 (by decide) rfl ?_
    refine a_aload_n (q := 13) dX9_pathNode_12 rfl rfl rfl ?_
    refine a_iload_n (q := 14) dX9_pathNode_13 rfl rfl rfl ?_
    refine a_cVBv (q := 17) _ dX9_pathNode_14 kX9_222 (m_lengthNow x hg q' hf) rfl rfl rfl (Nat.le_of_ble_eq_true rfl) ⟨(Nat.le_of_ble_eq_true rfl), (Nat.le_of_ble_eq_true rfl)⟩ ⟨(Nat.le_of_ble_eq_true rfl), (Nat.le_of_ble_eq_true rfl)⟩ rfl ?_
    refine a_iconst (q := 18) (nI 1) dX9_pathNode_17 (by decide) rfl ?_
    refine a_isub (q := 19) dX9_pathNode_18 rfl ?_
    refine a_cSv (q := 22) _ dX9_pathNode_19 kX9_97 (m_within _ _ _) rfl rfl (Nat.le_of_ble_eq_true rfl) ⟨(Nat.le_of_ble_eq_true rfl), (Nat.le_of_ble_eq_true rfl)⟩ ⟨(Nat.le_of_ble_eq_true rfl), (Nat.le_of_ble_eq_true rfl)⟩ rfl ?_
    refine a_if_eqZ (q := 25) 29 dX9_pathNode_22 (by decide) rfl (fun c22 => ?_) (fun c22 => ?_)
    · rw [hw] at c22; cases c22
    · skip
      refine a_iconst (q := 26) (b2 true) dX9_pathNode_25 (by decide) rfl ?_
      refine a_goto 30 dX9_pathNode_26 (by decide) ?_
      refine a_cVBv (q := 33) _ dX9_pathNode_30 kX9_192 (m_lack (L := q') true) rfl rfl rfl (Nat.le_of_ble_eq_true rfl) ⟨(Nat.le_of_ble_eq_true rfl), (Nat.le_of_ble_eq_true rfl)⟩ ⟨(Nat.le_of_ble_eq_true rfl), (Nat.le_of_ble_eq_true rfl)⟩ rfl ?_
      rw [show lkN Y.1 true = 0 by rw [mPt_an ha]; rfl]
      refine a_putB (q := 36) dX9_pathNode_33 fX9_81 (fun h => nomatch h) rfl (Nat.le_of_ble_eq_true rfl) rfl rfl rfl ?_
      refine a_aload_n (q := 37) dX9_pathNode_36 rfl rfl rfl ?_
      refine a_getB (q := 40) dX9_pathNode_37 fX9_81 rfl rfl rfl ?_
      refine a_if_leN (q := 43) 47 dX9_pathNode_40 (by decide) (by omega) rfl (fun c40 => ?_) (fun c40 => ?_)
      · skip
        refine a_aload_n (q := 48) dX9_pathNode_47 rfl rfl rfl ?_
        refine a_iload_n (q := 49) dX9_pathNode_48 rfl rfl rfl ?_
        refine a_cVBv (q := 52) _ dX9_pathNode_49 kX9_225 (m_visitedNode (G := G) (L := q') (th := 0) k h7.2 f1 f2 f3 h7.1 (by omega)) rfl rfl rfl (Nat.le_of_ble_eq_true rfl) ⟨(Nat.le_of_ble_eq_true rfl), (Nat.le_of_ble_eq_true rfl)⟩ ⟨(Nat.le_of_ble_eq_true rfl), (Nat.le_of_ble_eq_true rfl)⟩ rfl ?_
        exact a_iret dX9_pathNode_52 rfl rfl (Nat.le_of_ble_eq_true rfl) (Nat.le_of_ble_eq_true rfl) (⟨rfl, rfl, rfl, rfl⟩)
      · exact absurd c40 (by decide)
theorem mx_pathNode (x y : Int32) (ha : mPt Y.1 x (Y.2.2.1 0) = false) : Ct g mX9_pathNode [.ref (g.2.1 + 0), .int x, .int y] 0 A (BM g G T th Y W R Z U L h O) 0 0 (rP (some (.int (nI 0))) A (BM g G T (lkN Y.1 false) Y W R Z U L h O)) noX := by
  have h9 := lkN_le (an := Y.1) (ok := false)
  have h8 : 0 < lkN Y.1 false := by cases Y.1 <;> decide
  refine Ct.of [some (.ref (g.2.1 + 0)), some (.int x), some (.int y)] (by decide) rfl (Nat.le_of_ble_eq_true rfl) rfl ?_
  refine a_aload_n (q := 1) dX9_pathNode_0 rfl rfl rfl ?_
  refine a_aload_n (q := 2) dX9_pathNode_1 rfl rfl rfl ?_
  refine a_aload_n (q := 3) dX9_pathNode_2 rfl rfl rfl ?_
  refine a_iload_n (q := 4) dX9_pathNode_3 rfl rfl rfl ?_
  refine a_cVBv (q := 7) _ dX9_pathNode_4 kX9_219 (m_isPath x) rfl rfl rfl (Nat.le_of_ble_eq_true rfl) ⟨(Nat.le_of_ble_eq_true rfl), (Nat.le_of_ble_eq_true rfl)⟩ ⟨(Nat.le_of_ble_eq_true rfl), (Nat.le_of_ble_eq_true rfl)⟩ rfl ?_
  refine a_if_eqZ (q := 10) 29 dX9_pathNode_7 (by decide) rfl (fun c7 => ?_) (fun c7 => ?_)
  · skip
    refine a_iconst (q := 30) (b2 false) dX9_pathNode_29 (by decide) rfl ?_
    refine a_cVBv (q := 33) _ dX9_pathNode_30 kX9_192 (m_lack false) rfl rfl rfl (Nat.le_of_ble_eq_true rfl) ⟨(Nat.le_of_ble_eq_true rfl), (Nat.le_of_ble_eq_true rfl)⟩ ⟨(Nat.le_of_ble_eq_true rfl), (Nat.le_of_ble_eq_true rfl)⟩ rfl ?_
    refine a_putB (q := 36) dX9_pathNode_33 fX9_81 (fun h => nomatch h) rfl (Nat.le_of_ble_eq_true rfl) rfl rfl rfl ?_
    refine a_aload_n (q := 37) dX9_pathNode_36 rfl rfl rfl ?_
    refine a_getB (q := 40) dX9_pathNode_37 fX9_81 rfl rfl rfl ?_
    refine a_if_leN (q := 43) 47 dX9_pathNode_40 (by decide) (by omega) rfl (fun c40 => ?_) (fun c40 => ?_)
    · omega
    · skip
      refine a_iconst (q := 44) (nI 0) dX9_pathNode_43 (by decide) rfl ?_
      refine a_goto 52 dX9_pathNode_44 (by decide) ?_
      exact a_iret dX9_pathNode_52 rfl rfl (Nat.le_of_ble_eq_true rfl) (Nat.le_of_ble_eq_true rfl) (⟨rfl, rfl, rfl, rfl⟩)
  · rw [ha] at c7; cases c7
theorem mx_pathNode2 (x y : Int32) (hg : gok G) (ha : mPt Y.1 x (Y.2.2.1 0) = true) (q' : La) (hf : fol G Y.2.1 Y.2.2.1 Y.2.2.2.1 x L = some q') (hy : inR y (vsN Y.2.1 q') = false) : Ct g mX9_pathNode [.ref (g.2.1 + 0), .int x, .int y] 0 A (BM g G T th Y W R Z U L h O) 0 0 (rP (some (.int (nI 0))) A (BM g G T 2 Y W R Z U q' h O)) noX := by
  obtain ⟨g1, g2, g3, g4, g5⟩ := id hg
  obtain ⟨f1, f2, f3⟩ := fol_ok g3 g1 hf
  have h8 := vsN_le (bk := Y.2.1) (q := q')
  have hw : wi y (nI 0) (nI (vsN Y.2.1 q') - nI 1) = false := by
    rw [wi_inR (by omega)]; exact hy
  refine Ct.of [some (.ref (g.2.1 + 0)), some (.int x), some (.int y)] (by decide) rfl (Nat.le_of_ble_eq_true rfl) rfl ?_
  refine a_aload_n (q := 1) dX9_pathNode_0 rfl rfl rfl ?_
  refine a_aload_n (q := 2) dX9_pathNode_1 rfl rfl rfl ?_
  refine a_aload_n (q := 3) dX9_pathNode_2 rfl rfl rfl ?_
  refine a_iload_n (q := 4) dX9_pathNode_3 rfl rfl rfl ?_
  refine a_cVBv (q := 7) _ dX9_pathNode_4 kX9_219 (m_isPath x) rfl rfl rfl (Nat.le_of_ble_eq_true rfl) ⟨(Nat.le_of_ble_eq_true rfl), (Nat.le_of_ble_eq_true rfl)⟩ ⟨(Nat.le_of_ble_eq_true rfl), (Nat.le_of_ble_eq_true rfl)⟩ rfl ?_
  refine a_if_eqZ (q := 10) 29 dX9_pathNode_7 (by decide) rfl (fun c7 => ?_) (fun c7 => ?_)
  · rw [ha] at c7; cases c7
  · skip
    refine a_iload_n (q := 11) dX9_pathNode_10 rfl rfl rfl ?_
    refine a_iconst (q := 12) (nI 0) dX9_pathNode_11 (by decide) rfl ?_
    refine a_aload_n (q := 13) dX9_pathNode_12 rfl rfl rfl ?_
    refine a_iload_n (q := 14) dX9_pathNode_13 rfl rfl rfl ?_
    refine a_cVBv (q := 17) _ dX9_pathNode_14 kX9_222 (m_lengthNow x hg q' hf) rfl rfl rfl (Nat.le_of_ble_eq_true rfl) ⟨(Nat.le_of_ble_eq_true rfl), (Nat.le_of_ble_eq_true rfl)⟩ ⟨(Nat.le_of_ble_eq_true rfl), (Nat.le_of_ble_eq_true rfl)⟩ rfl ?_
    refine a_iconst (q := 18) (nI 1) dX9_pathNode_17 (by decide) rfl ?_
    refine a_isub (q := 19) dX9_pathNode_18 rfl ?_
    refine a_cSv (q := 22) _ dX9_pathNode_19 kX9_97 (m_within _ _ _) rfl rfl (Nat.le_of_ble_eq_true rfl) ⟨(Nat.le_of_ble_eq_true rfl), (Nat.le_of_ble_eq_true rfl)⟩ ⟨(Nat.le_of_ble_eq_true rfl), (Nat.le_of_ble_eq_true rfl)⟩ rfl ?_
    refine a_if_eqZ (q := 25) 29 dX9_pathNode_22 (by decide) rfl (fun c22 => ?_) (fun c22 => ?_)
    · skip
      refine a_iconst (q := 30) (b2 false) dX9_pathNode_29 (by decide) rfl ?_
      refine a_cVBv (q := 33) _ dX9_pathNode_30 kX9_192 (m_lack (L := q') false) rfl rfl rfl (Nat.le_of_ble_eq_true rfl) ⟨(Nat.le_of_ble_eq_true rfl), (Nat.le_of_ble_eq_true rfl)⟩ ⟨(Nat.le_of_ble_eq_true rfl), (Nat.le_of_ble_eq_true rfl)⟩ rfl ?_
      rw [show lkN Y.1 false = 2 by rw [mPt_an ha]; rfl]
      refine a_putB (q := 36) dX9_pathNode_33 fX9_81 (fun h => nomatch h) rfl (Nat.le_of_ble_eq_true rfl) rfl rfl rfl ?_
      refine a_aload_n (q := 37) dX9_pathNode_36 rfl rfl rfl ?_
      refine a_getB (q := 40) dX9_pathNode_37 fX9_81 rfl rfl rfl ?_
      refine a_if_leN (q := 43) 47 dX9_pathNode_40 (by decide) (by omega) rfl (fun c40 => ?_) (fun c40 => ?_)
      · exact absurd c40 (by decide)
      · skip
        refine a_iconst (q := 44) (nI 0) dX9_pathNode_43 (by decide) rfl ?_
        refine a_goto 52 dX9_pathNode_44 (by decide) ?_
        exact a_iret dX9_pathNode_52 rfl rfl (Nat.le_of_ble_eq_true rfl) (Nat.le_of_ble_eq_true rfl) (⟨rfl, rfl, rfl, rfl⟩)
    · rw [hw] at c22; cases c22
theorem m_edgeNow (x : Int32) (b : Bool) (hg : gok G) (q' : La) (hf : fol G Y.2.1 Y.2.2.1 Y.2.2.2.1 x L = some q') : Ct g mX9_edgeNow [.ref (g.2.1 + 0), .int x, .int (b2 b)] 0 A (BM g G T th Y W R Z U L h O) 0 0 (rP (some (.int (enM Y.2.1 q' b))) A (BM g G T th Y W R Z U q' h O)) noX := by
  obtain ⟨g1, g2, g3, g4, g5⟩ := id hg
  obtain ⟨f1, f2, f3⟩ := fol_ok g3 g1 hf
  have f4 := f3 0 (by omega)
  have f5 := f3 (q'.2 - 1) (by omega)
  refine Ct.of [some (.ref (g.2.1 + 0)), some (.int x), some (.int (b2 b))] (by decide) rfl (Nat.le_of_ble_eq_true rfl) rfl ?_
  unfold enM
  refine a_aload_n (q := 1) dX9_edgeNow_0 rfl rfl rfl ?_
  refine a_iload_n (q := 2) dX9_edgeNow_1 rfl rfl rfl ?_
  refine a_cVB0 (q := 5) _ dX9_edgeNow_2 kX9_212 (m_follow x hg q' hf) rfl rfl rfl (Nat.le_of_ble_eq_true rfl) ⟨(Nat.le_of_ble_eq_true rfl), (Nat.le_of_ble_eq_true rfl)⟩ ⟨(Nat.le_of_ble_eq_true rfl), (Nat.le_of_ble_eq_true rfl)⟩ rfl ?_
  refine a_iload_n (q := 6) dX9_edgeNow_5 rfl rfl rfl ?_
  refine a_if_eqZ (q := 9) 34 dX9_edgeNow_6 (by decide) rfl (fun c6 => ?_) (fun c6 => ?_)
  · rw [if_neg (show ¬ b = true by rw [c6]; decide)]
    refine a_aload_n (q := 35) dX9_edgeNow_34 rfl rfl rfl ?_
    refine a_cVBv (q := 38) _ dX9_edgeNow_35 kX9_206 (m_beginsInside (L := q') f4) rfl rfl rfl (Nat.le_of_ble_eq_true rfl) ⟨(Nat.le_of_ble_eq_true rfl), (Nat.le_of_ble_eq_true rfl)⟩ ⟨(Nat.le_of_ble_eq_true rfl), (Nat.le_of_ble_eq_true rfl)⟩ rfl ?_
    refine a_if_eqZ (q := 41) 52 dX9_edgeNow_38 (by decide) rfl (fun c38 => ?_) (fun c38 => ?_)
    · rw [if_neg (show ¬ bgn Y.2.1 q' = true by rw [c38]; decide)]
      refine a_iconst (q := 53) (-1) dX9_edgeNow_52 (by decide) rfl ?_
      exact a_iret dX9_edgeNow_53 rfl rfl (Nat.le_of_ble_eq_true rfl) (Nat.le_of_ble_eq_true rfl) (⟨rfl, rfl, rfl, rfl⟩)
    · rw [if_pos (show bgn Y.2.1 q' = true from c38)]
      refine a_aload_n (q := 42) dX9_edgeNow_41 rfl rfl rfl ?_
      refine a_getB (q := 45) dX9_edgeNow_42 fX9_78 rfl rfl rfl ?_
      refine a_iconst (q := 46) (nI 0) dX9_edgeNow_45 (by decide) rfl ?_
      refine a_ialdBN (q := 47) dX9_edgeNow_46 rfl (by omega) (by decide) rfl ?_
      refine a_iconst (q := 48) (nI 2) dX9_edgeNow_47 (by decide) rfl ?_
      refine a_idivN (q := 49) dX9_edgeNow_48 (by omega) ⟨by omega, by decide⟩ rfl ?_
      refine a_goto 53 dX9_edgeNow_49 (by decide) ?_
      exact a_iret dX9_edgeNow_53 rfl rfl (Nat.le_of_ble_eq_true rfl) (Nat.le_of_ble_eq_true rfl) (⟨rfl, rfl, rfl, rfl⟩)
  · rw [if_pos (show b = true from c6)]
    refine a_aload_n (q := 10) dX9_edgeNow_9 rfl rfl rfl ?_
    refine a_cVBv (q := 13) _ dX9_edgeNow_10 kX9_209 (m_endsInside (L := q') f1 f2 f5) rfl rfl rfl (Nat.le_of_ble_eq_true rfl) ⟨(Nat.le_of_ble_eq_true rfl), (Nat.le_of_ble_eq_true rfl)⟩ ⟨(Nat.le_of_ble_eq_true rfl), (Nat.le_of_ble_eq_true rfl)⟩ rfl ?_
    refine a_if_eqZ (q := 16) 32 dX9_edgeNow_13 (by decide) rfl (fun c13 => ?_) (fun c13 => ?_)
    · rw [if_neg (show ¬ enn Y.2.1 q' = true by rw [c13]; decide)]
      refine a_iconst (q := 33) (-1) dX9_edgeNow_32 (by decide) rfl ?_
      exact a_iret dX9_edgeNow_33 rfl rfl (Nat.le_of_ble_eq_true rfl) (Nat.le_of_ble_eq_true rfl) (⟨rfl, rfl, rfl, rfl⟩)
    · rw [if_pos (show enn Y.2.1 q' = true from c13)]
      refine a_aload_n (q := 17) dX9_edgeNow_16 rfl rfl rfl ?_
      refine a_getB (q := 20) dX9_edgeNow_17 fX9_78 rfl rfl rfl ?_
      refine a_aload_n (q := 21) dX9_edgeNow_20 rfl rfl rfl ?_
      refine a_getB (q := 24) dX9_edgeNow_21 fX9_203 rfl rfl rfl ?_
      refine a_iconst (q := 25) (nI 1) dX9_edgeNow_24 (by decide) rfl ?_
      refine a_isubN (q := 26) dX9_edgeNow_25 (by omega) rfl ?_
      refine a_ialdBN (q := 27) dX9_edgeNow_26 rfl (by omega) (by decide) rfl ?_
      refine a_iconst (q := 28) (nI 2) dX9_edgeNow_27 (by decide) rfl ?_
      refine a_idivN (q := 29) dX9_edgeNow_28 (by omega) ⟨by omega, by decide⟩ rfl ?_
      refine a_goto 33 dX9_edgeNow_29 (by decide) ?_
      exact a_iret dX9_edgeNow_33 rfl rfl (Nat.le_of_ble_eq_true rfl) (Nat.le_of_ble_eq_true rfl) (⟨rfl, rfl, rfl, rfl⟩)
theorem m_pathEdge (x : Int32) (b : Bool) (hg : gok G) (ha : mPt Y.1 x (Y.2.2.1 0) = true) (q' : La) (hf : fol G Y.2.1 Y.2.2.1 Y.2.2.2.1 x L = some q') : Ct g mX9_pathEdge [.ref (g.2.1 + 0), .int x, .int (b2 b)] 0 A (BM g G T th Y W R Z U L h O) 0 0 (rP (some (.int (enM Y.2.1 q' b))) A (BM g G T 0 Y W R Z U q' h O)) noX := by
  have hl : lkN Y.1 (mPt Y.1 x (Y.2.2.1 0)) = 0 := mPt_lk ha
  refine Ct.of [some (.ref (g.2.1 + 0)), some (.int x), some (.int (b2 b))] (by decide) rfl (Nat.le_of_ble_eq_true rfl) rfl ?_
  refine a_aload_n (q := 1) dX9_pathEdge_0 rfl rfl rfl ?_
  refine a_aload_n (q := 2) dX9_pathEdge_1 rfl rfl rfl ?_
  refine a_aload_n (q := 3) dX9_pathEdge_2 rfl rfl rfl ?_
  refine a_iload_n (q := 4) dX9_pathEdge_3 rfl rfl rfl ?_
  refine a_cVBv (q := 7) _ dX9_pathEdge_4 kX9_219 (m_isPath x) rfl rfl rfl (Nat.le_of_ble_eq_true rfl) ⟨(Nat.le_of_ble_eq_true rfl), (Nat.le_of_ble_eq_true rfl)⟩ ⟨(Nat.le_of_ble_eq_true rfl), (Nat.le_of_ble_eq_true rfl)⟩ rfl ?_
  refine a_cVBv (q := 10) _ dX9_pathEdge_7 kX9_192 (m_lack _) rfl rfl rfl (Nat.le_of_ble_eq_true rfl) ⟨(Nat.le_of_ble_eq_true rfl), (Nat.le_of_ble_eq_true rfl)⟩ ⟨(Nat.le_of_ble_eq_true rfl), (Nat.le_of_ble_eq_true rfl)⟩ rfl ?_
  rw [hl]
  refine a_putB (q := 13) dX9_pathEdge_10 fX9_81 (fun h => nomatch h) rfl (Nat.le_of_ble_eq_true rfl) rfl rfl rfl ?_
  refine a_aload_n (q := 14) dX9_pathEdge_13 rfl rfl rfl ?_
  refine a_getB (q := 17) dX9_pathEdge_14 fX9_81 rfl rfl rfl ?_
  refine a_if_leN (q := 20) 24 dX9_pathEdge_17 (by decide) (by omega) rfl (fun c17 => ?_) (fun c17 => ?_)
  · skip
    refine a_aload_n (q := 25) dX9_pathEdge_24 rfl rfl rfl ?_
    refine a_iload_n (q := 26) dX9_pathEdge_25 rfl rfl rfl ?_
    refine a_iload_n (q := 27) dX9_pathEdge_26 rfl rfl rfl ?_
    refine a_cVBv (q := 30) _ dX9_pathEdge_27 kX9_228 (m_edgeNow (G := G) (th := 0) x b hg q' hf) rfl rfl rfl (Nat.le_of_ble_eq_true rfl) ⟨(Nat.le_of_ble_eq_true rfl), (Nat.le_of_ble_eq_true rfl)⟩ ⟨(Nat.le_of_ble_eq_true rfl), (Nat.le_of_ble_eq_true rfl)⟩ rfl ?_
    exact a_iret dX9_pathEdge_30 rfl rfl (Nat.le_of_ble_eq_true rfl) (Nat.le_of_ble_eq_true rfl) (⟨rfl, rfl, rfl, rfl⟩)
  · exact absurd c17 (by decide)
theorem mx_pathEdge (x : Int32) (b : Bool) (hl : 0 < lkN Y.1 (mPt Y.1 x (Y.2.2.1 0))) : Ct g mX9_pathEdge [.ref (g.2.1 + 0), .int x, .int (b2 b)] 0 A (BM g G T th Y W R Z U L h O) 0 0 (rP (some (.int (nI 0))) A (BM g G T (lkN Y.1 (mPt Y.1 x (Y.2.2.1 0))) Y W R Z U L h O)) noX := by
  have h9 := lkN_le (an := Y.1) (ok := mPt Y.1 x (Y.2.2.1 0))
  refine Ct.of [some (.ref (g.2.1 + 0)), some (.int x), some (.int (b2 b))] (by decide) rfl (Nat.le_of_ble_eq_true rfl) rfl ?_
  refine a_aload_n (q := 1) dX9_pathEdge_0 rfl rfl rfl ?_
  refine a_aload_n (q := 2) dX9_pathEdge_1 rfl rfl rfl ?_
  refine a_aload_n (q := 3) dX9_pathEdge_2 rfl rfl rfl ?_
  refine a_iload_n (q := 4) dX9_pathEdge_3 rfl rfl rfl ?_
  refine a_cVBv (q := 7) _ dX9_pathEdge_4 kX9_219 (m_isPath x) rfl rfl rfl (Nat.le_of_ble_eq_true rfl) ⟨(Nat.le_of_ble_eq_true rfl), (Nat.le_of_ble_eq_true rfl)⟩ ⟨(Nat.le_of_ble_eq_true rfl), (Nat.le_of_ble_eq_true rfl)⟩ rfl ?_
  refine a_cVBv (q := 10) _ dX9_pathEdge_7 kX9_192 (m_lack _) rfl rfl rfl (Nat.le_of_ble_eq_true rfl) ⟨(Nat.le_of_ble_eq_true rfl), (Nat.le_of_ble_eq_true rfl)⟩ ⟨(Nat.le_of_ble_eq_true rfl), (Nat.le_of_ble_eq_true rfl)⟩ rfl ?_
  refine a_putB (q := 13) dX9_pathEdge_10 fX9_81 (fun h => nomatch h) rfl (Nat.le_of_ble_eq_true rfl) rfl rfl rfl ?_
  refine a_aload_n (q := 14) dX9_pathEdge_13 rfl rfl rfl ?_
  refine a_getB (q := 17) dX9_pathEdge_14 fX9_81 rfl rfl rfl ?_
  refine a_if_leN (q := 20) 24 dX9_pathEdge_17 (by decide) (by omega) rfl (fun c17 => ?_) (fun c17 => ?_)
  · omega
  · skip
    refine a_iconst (q := 21) (nI 0) dX9_pathEdge_20 (by decide) rfl ?_
    refine a_goto 30 dX9_pathEdge_21 (by decide) ?_
    exact a_iret dX9_pathEdge_30 rfl rfl (Nat.le_of_ble_eq_true rfl) (Nat.le_of_ble_eq_true rfl) (⟨rfl, rfl, rfl, rfl⟩)
/-- the least value of a kind's links at a node -/
def lvC (G : Gr) (bk : Nat → Bool) (x : Int32) (kd k : Nat) : Bool := mIs G bk k && decide (mKd bk k = kd) && (if kd = 2 then decide (nI (mTo G bk k) = x) else decide (nI (mFr G k) = x))
def lvF (G : Gr) (bk : Nat → Bool) (V : Nat → Int32) (x : Int32) (kd : Nat) : Nat → Nat → Int32 → Int32
  | 0, _, b => b
  | m + 1, k, b => lvF G bk V x kd m (k + 1) (if lvC G bk x kd k = true ∧ (b = -1 ∨ V k < b) then V k else b)
def lvR (G : Gr) (bk : Nat → Bool) (V : Nat → Int32) (x : Int32) (kd : Nat) : Int32 := lvF G bk V x kd (2 * G.2.1) 0 (-1)
theorem l_lv (P : ps_T) (x : Int32) (kd : Nat) (hkd : kd < 3) (hg : gok G) : ∀ (m k : Nat) (b : Int32) (L5 : Option Value), 2 * G.2.1 - k = m → k ≤ 2 * G.2.1 → P (some (.int (lvF G Y.2.1 Y.2.2.2.1 x kd m k b))) 0 A (BM g G T th Y W R Z U L h O) → AW g mX9_leastValue 0 0 P noX 0 0 5 [some (.ref (g.2.1 + 0)), some (.int x), some (.int (nI kd)), some (.int b), some (.int (nI k)), L5] [] 0 A (BM g G T th Y W R Z U L h O) := by
  intro m
  obtain ⟨g1, g2, g3, g4, g5⟩ := id hg
  induction m with
  | zero =>
    intro k b L5 hm hk hp
    refine a_iload (q := 7) dX9_leastValue_5 rfl rfl ?_
    refine a_iconst (q := 8) (nI 2) dX9_leastValue_7 (by decide) rfl ?_
    refine a_aload_n (q := 9) dX9_leastValue_8 rfl rfl rfl ?_
    refine a_getB (q := 12) dX9_leastValue_9 fX9_101 rfl rfl rfl ?_
    refine a_imulN (q := 13) dX9_leastValue_12 rfl ?_
    refine a_icmp_geN (q := 16) 109 dX9_leastValue_13 (by decide) (by omega) (by omega) rfl (fun c13 => ?_) (fun c13 => ?_)
    · skip
      refine a_iload_n (q := 110) dX9_leastValue_109 rfl rfl rfl ?_
      exact a_iret dX9_leastValue_110 rfl rfl (Nat.le_of_ble_eq_true rfl) (Nat.le_of_ble_eq_true rfl) (hp)
    · omega
  | succ m ih =>
    intro k b L5 hm hk hp
    unfold lvF at hp
    have h3 := mKd_lt (bk := Y.2.1) (k := k)
    have hfin : ∀ q : Bool, lvC G Y.2.1 x kd k = q → AW g mX9_leastValue 0 0 P noX 0 0 70 [some (.ref (g.2.1 + 0)), some (.int x), some (.int (nI kd)), some (.int b), some (.int (nI k)), some (.int (b2 q))] [] 0 A (BM g G T th Y W R Z U L h O) := fun q e => by
      rw [e] at hp
      refine a_iload (q := 72) dX9_leastValue_70 rfl rfl ?_
      refine a_if_eqZ (q := 75) 101 dX9_leastValue_72 (by decide) rfl (fun c72 => ?_) (fun c72 => ?_)
      · rw [if_neg (fun z => by rw [c72] at z; cases z.1)] at hp
        refine a_iload_n (q := 102) dX9_leastValue_101 rfl rfl rfl ?_
        refine a_istore_n (q := 103) dX9_leastValue_102 rfl (Nat.le_of_ble_eq_true rfl) rfl rfl ?_
        refine a_iincN (q := 106) (c := 1) dX9_leastValue_103 rfl (by decide) rfl rfl ?_
        refine a_goto 5 dX9_leastValue_106 (by decide) ?_
        exact ih (k + 1) _ _ (by omega) (by omega) hp
      · skip
        refine a_iload_n (q := 76) dX9_leastValue_75 rfl rfl rfl ?_
        refine a_iconst (q := 77) (-1) dX9_leastValue_76 (by decide) rfl ?_
        refine a_icmp_eq (q := 80) 91 dX9_leastValue_77 (by decide) rfl (fun c77 => ?_) (fun c77 => ?_)
        · rw [if_pos ⟨c72, Or.inl c77⟩] at hp
          refine a_aload_n (q := 92) dX9_leastValue_91 rfl rfl rfl ?_
          refine a_getB (q := 95) dX9_leastValue_92 fX9_33 rfl rfl rfl ?_
          refine a_iload (q := 97) dX9_leastValue_95 rfl rfl ?_
          refine a_ialdBI (q := 98) dX9_leastValue_97 rfl (by omega) (by decide) rfl ?_
          refine a_goto 102 dX9_leastValue_98 (by decide) ?_
          refine a_istore_n (q := 103) dX9_leastValue_102 rfl (Nat.le_of_ble_eq_true rfl) rfl rfl ?_
          refine a_iincN (q := 106) (c := 1) dX9_leastValue_103 rfl (by decide) rfl rfl ?_
          refine a_goto 5 dX9_leastValue_106 (by decide) ?_
          exact ih (k + 1) _ _ (by omega) (by omega) hp
        · skip
          refine a_aload_n (q := 81) dX9_leastValue_80 rfl rfl rfl ?_
          refine a_getB (q := 84) dX9_leastValue_81 fX9_33 rfl rfl rfl ?_
          refine a_iload (q := 86) dX9_leastValue_84 rfl rfl ?_
          refine a_ialdBI (q := 87) dX9_leastValue_86 rfl (by omega) (by decide) rfl ?_
          refine a_iload_n (q := 88) dX9_leastValue_87 rfl rfl rfl ?_
          refine a_icmp_ge (q := 91) 101 dX9_leastValue_88 (by decide) rfl (fun c88 => ?_) (fun c88 => ?_)
          · rw [if_neg (fun z => by rcases z.2 with w | w; exact c77 w; exact absurd w (by simpa using c88))] at hp
            refine a_iload_n (q := 102) dX9_leastValue_101 rfl rfl rfl ?_
            refine a_istore_n (q := 103) dX9_leastValue_102 rfl (Nat.le_of_ble_eq_true rfl) rfl rfl ?_
            refine a_iincN (q := 106) (c := 1) dX9_leastValue_103 rfl (by decide) rfl rfl ?_
            refine a_goto 5 dX9_leastValue_106 (by decide) ?_
            exact ih (k + 1) _ _ (by omega) (by omega) hp
          · rw [if_pos ⟨c72, Or.inr (by simpa using c88)⟩] at hp
            refine a_aload_n (q := 92) dX9_leastValue_91 rfl rfl rfl ?_
            refine a_getB (q := 95) dX9_leastValue_92 fX9_33 rfl rfl rfl ?_
            refine a_iload (q := 97) dX9_leastValue_95 rfl rfl ?_
            refine a_ialdBI (q := 98) dX9_leastValue_97 rfl (by omega) (by decide) rfl ?_
            refine a_goto 102 dX9_leastValue_98 (by decide) ?_
            refine a_istore_n (q := 103) dX9_leastValue_102 rfl (Nat.le_of_ble_eq_true rfl) rfl rfl ?_
            refine a_iincN (q := 106) (c := 1) dX9_leastValue_103 rfl (by decide) rfl rfl ?_
            refine a_goto 5 dX9_leastValue_106 (by decide) ?_
            exact ih (k + 1) _ _ (by omega) (by omega) hp
    clear hp
    refine a_iload (q := 7) dX9_leastValue_5 rfl rfl ?_
    refine a_iconst (q := 8) (nI 2) dX9_leastValue_7 (by decide) rfl ?_
    refine a_aload_n (q := 9) dX9_leastValue_8 rfl rfl rfl ?_
    refine a_getB (q := 12) dX9_leastValue_9 fX9_101 rfl rfl rfl ?_
    refine a_imulN (q := 13) dX9_leastValue_12 rfl ?_
    refine a_icmp_geN (q := 16) 109 dX9_leastValue_13 (by decide) (by omega) (by omega) rfl (fun c13 => ?_) (fun c13 => ?_)
    · omega
    · skip
      refine a_aload_n (q := 17) dX9_leastValue_16 rfl rfl rfl ?_
      refine a_iload (q := 19) dX9_leastValue_17 rfl rfl ?_
      refine a_cVBv (q := 22) _ dX9_leastValue_19 kX9_148 (m_isLink k (by omega) g3) rfl rfl rfl (Nat.le_of_ble_eq_true rfl) ⟨(Nat.le_of_ble_eq_true rfl), (Nat.le_of_ble_eq_true rfl)⟩ ⟨(Nat.le_of_ble_eq_true rfl), (Nat.le_of_ble_eq_true rfl)⟩ rfl ?_
      refine a_if_eqZ (q := 25) 67 dX9_leastValue_22 (by decide) rfl (fun c22 => ?_) (fun c22 => ?_)
      · have hq := hfin false (by unfold lvC; rw [c22]; rfl)
        refine a_iconst (q := 68) (b2 false) dX9_leastValue_67 (by decide) rfl ?_
        refine a_istore (q := 70) dX9_leastValue_68 (Nat.le_of_ble_eq_true rfl) rfl rfl ?_
        exact hq
      · have h4 := mTo_lt hg c22
        have h5 := mFr_lt hg c22
        refine a_aload_n (q := 26) dX9_leastValue_25 rfl rfl rfl ?_
        refine a_iload (q := 28) dX9_leastValue_26 rfl rfl ?_
        refine a_cVBv (q := 31) _ dX9_leastValue_28 kX9_159 (m_kind k (by omega)) rfl rfl rfl (Nat.le_of_ble_eq_true rfl) ⟨(Nat.le_of_ble_eq_true rfl), (Nat.le_of_ble_eq_true rfl)⟩ ⟨(Nat.le_of_ble_eq_true rfl), (Nat.le_of_ble_eq_true rfl)⟩ rfl ?_
        refine a_iload_n (q := 32) dX9_leastValue_31 rfl rfl rfl ?_
        refine a_icmp_neN (q := 35) 67 dX9_leastValue_32 (by decide) (by omega) (by omega) rfl (fun c32 => ?_) (fun c32 => ?_)
        · have hq := hfin false (by unfold lvC; rw [c22, decide_eq_false c32]; rfl)
          refine a_iconst (q := 68) (b2 false) dX9_leastValue_67 (by decide) rfl ?_
          refine a_istore (q := 70) dX9_leastValue_68 (Nat.le_of_ble_eq_true rfl) rfl rfl ?_
          exact hq
        · skip
          refine a_iload_n (q := 36) dX9_leastValue_35 rfl rfl rfl ?_
          refine a_iconst (q := 37) (nI 2) dX9_leastValue_36 (by decide) rfl ?_
          refine a_icmp_neN (q := 40) 53 dX9_leastValue_37 (by decide) (by omega) (by omega) rfl (fun c37 => ?_) (fun c37 => ?_)
          · skip
            refine a_aload_n (q := 54) dX9_leastValue_53 rfl rfl rfl ?_
            refine a_iload (q := 56) dX9_leastValue_54 rfl rfl ?_
            refine a_cVBv (q := 59) _ dX9_leastValue_56 kX9_151 (m_linkFrom k (by omega)) rfl rfl rfl (Nat.le_of_ble_eq_true rfl) ⟨(Nat.le_of_ble_eq_true rfl), (Nat.le_of_ble_eq_true rfl)⟩ ⟨(Nat.le_of_ble_eq_true rfl), (Nat.le_of_ble_eq_true rfl)⟩ rfl ?_
            refine a_iload_n (q := 60) dX9_leastValue_59 rfl rfl rfl ?_
            refine a_icmp_ne (q := 63) 67 dX9_leastValue_60 (by decide) rfl (fun c60 => ?_) (fun c60 => ?_)
            · have hq := hfin false (by unfold lvC; rw [c22, decide_eq_true c32, if_neg c37, decide_eq_false c60]; rfl)
              refine a_iconst (q := 68) (b2 false) dX9_leastValue_67 (by decide) rfl ?_
              refine a_istore (q := 70) dX9_leastValue_68 (Nat.le_of_ble_eq_true rfl) rfl rfl ?_
              exact hq
            · have hq := hfin true (by unfold lvC; rw [c22, decide_eq_true c32, if_neg c37, decide_eq_true c60]; rfl)
              refine a_iconst (q := 64) (b2 true) dX9_leastValue_63 (by decide) rfl ?_
              refine a_goto 68 dX9_leastValue_64 (by decide) ?_
              refine a_istore (q := 70) dX9_leastValue_68 (Nat.le_of_ble_eq_true rfl) rfl rfl ?_
              exact hq
          · skip
            refine a_aload_n (q := 41) dX9_leastValue_40 rfl rfl rfl ?_
            refine a_iload (q := 43) dX9_leastValue_41 rfl rfl ?_
            refine a_cVBv (q := 46) _ dX9_leastValue_43 kX9_165 (m_linkTo k (by omega) (by omega)) rfl rfl rfl (Nat.le_of_ble_eq_true rfl) ⟨(Nat.le_of_ble_eq_true rfl), (Nat.le_of_ble_eq_true rfl)⟩ ⟨(Nat.le_of_ble_eq_true rfl), (Nat.le_of_ble_eq_true rfl)⟩ rfl ?_
            refine a_iload_n (q := 47) dX9_leastValue_46 rfl rfl rfl ?_
            refine a_icmp_ne (q := 50) 67 dX9_leastValue_47 (by decide) rfl (fun c47 => ?_) (fun c47 => ?_)
            · have hq := hfin false (by unfold lvC; rw [c22, decide_eq_true c32, if_pos c37, decide_eq_false c47]; rfl)
              refine a_iconst (q := 68) (b2 false) dX9_leastValue_67 (by decide) rfl ?_
              refine a_istore (q := 70) dX9_leastValue_68 (Nat.le_of_ble_eq_true rfl) rfl rfl ?_
              exact hq
            · have hq := hfin true (by unfold lvC; rw [c22, decide_eq_true c32, if_pos c37, decide_eq_true c47]; rfl)
              refine a_goto 63 dX9_leastValue_50 (by decide) ?_
              refine a_iconst (q := 64) (b2 true) dX9_leastValue_63 (by decide) rfl ?_
              refine a_goto 68 dX9_leastValue_64 (by decide) ?_
              refine a_istore (q := 70) dX9_leastValue_68 (Nat.le_of_ble_eq_true rfl) rfl rfl ?_
              exact hq
theorem m_leastValue (x : Int32) (kd : Nat) (hkd : kd < 3) (hg : gok G) : Ct g mX9_leastValue [.ref (g.2.1 + 0), .int x, .int (nI kd)] 0 A (BM g G T th Y W R Z U L h O) 0 0 (rP (some (.int (lvR G Y.2.1 Y.2.2.2.1 x kd))) A (BM g G T th Y W R Z U L h O)) noX := by
  refine Ct.of [some (.ref (g.2.1 + 0)), some (.int x), some (.int (nI kd)), none, none, none] (by decide) rfl (Nat.le_of_ble_eq_true rfl) rfl ?_
  refine a_iconst (q := 1) (-1) dX9_leastValue_0 (by decide) rfl ?_
  refine a_istore_n (q := 2) dX9_leastValue_1 rfl (Nat.le_of_ble_eq_true rfl) rfl rfl ?_
  refine a_iconst (q := 3) (nI 0) dX9_leastValue_2 (by decide) rfl ?_
  refine a_istore (q := 5) dX9_leastValue_3 (Nat.le_of_ble_eq_true rfl) rfl rfl ?_
  exact l_lv _ x kd hkd hg _ 0 (-1) _ rfl (Nat.zero_le _) ⟨rfl, rfl, rfl, rfl⟩
/-- the number of the path in the text -/
def fnA (G : Gr) (T : Tx) : Nat → Nat → Bool → Bool
  | 0, _, q => q
  | m + 1, k, q => fnA G T m (k + 1) (q && inR (chN T k) G.1)
def fnF (G : Gr) (T : Tx) (bk : Nat → Bool) (V : Nat → Int32) : Nat → Nat → Int32 → Int32
  | 0, _, s => s
  | m + 1, k, s => match ebt G (chN T (k - 1)) (chN T k) with
    | none => -1
    | some j => if bk j = true then -1 else fnF G T bk V m (k + 1) (s + V (2 * j))
def fnS (G : Gr) (T : Tx) (bk : Nat → Bool) (V : Nat → Int32) : Int32 := if chN T 0 = 0 then nI 0 else lvR G bk V (chN T 0) 2
def fnE (G : Gr) (T : Tx) (bk : Nat → Bool) (V : Nat → Int32) : Int32 := if chN T (T.1 - 1) = nI (G.1 - 1) then nI 0 else lvR G bk V (chN T (T.1 - 1)) 1
def fnR (G : Gr) (T : Tx) (bk : Nat → Bool) (V : Nat → Int32) : Int32 := if fnA G T T.1 0 (decide (0 < T.1)) = true then (if fnS G T bk V = -1 ∨ fnE G T bk V = -1 then -1 else fnF G T bk V (T.1 - 1) 1 (fnS G T bk V + fnE G T bk V)) else -1
theorem l_fn2 (P : ps_T) (hg : gok G) (hT : T.1 ≤ 60) (L1 L2 : Option Value) (y3 y5 : Int32) : ∀ (m k : Nat) (s : Int32) (L7 : Option Value), T.1 - k = m → 1 ≤ k → k ≤ T.1 → P (some (.int (fnF G T Y.2.1 Y.2.2.2.1 m k s))) 0 A (BM g G T th Y W R Z U L h O) → AW g mX9_findNow 0 0 P noX 0 0 148 [some (.ref (g.2.1 + 0)), L1, L2, some (.int y3), some (.int s), some (.int y5), some (.int (nI k)), L7] [] 0 A (BM g G T th Y W R Z U L h O) := by
  intro m
  obtain ⟨g1, g2, g3, g4, g5⟩ := id hg
  induction m with
  | zero =>
    intro k s L7 hm h1 hk hp
    refine a_iload (q := 150) dX9_findNow_148 rfl rfl ?_
    refine a_aload_n (q := 151) dX9_findNow_150 rfl rfl rfl ?_
    refine a_getB (q := 154) dX9_findNow_151 fX9_122 rfl rfl rfl ?_
    refine a_icmp_geN (q := 157) 223 dX9_findNow_154 (by decide) (by omega) (by omega) rfl (fun c154 => ?_) (fun c154 => ?_)
    · skip
      refine a_iload (q := 225) dX9_findNow_223 rfl rfl ?_
      exact a_iret dX9_findNow_225 rfl rfl (Nat.le_of_ble_eq_true rfl) (Nat.le_of_ble_eq_true rfl) (hp)
    · omega
  | succ m ih =>
    intro k s L7 hm h1 hk hp
    unfold fnF at hp
    cases hj : ebt G (chN T (k - 1)) (chN T k) with
    | none =>
      rw [hj] at hp
      refine a_iload (q := 150) dX9_findNow_148 rfl rfl ?_
      refine a_aload_n (q := 151) dX9_findNow_150 rfl rfl rfl ?_
      refine a_getB (q := 154) dX9_findNow_151 fX9_122 rfl rfl rfl ?_
      refine a_icmp_geN (q := 157) 223 dX9_findNow_154 (by decide) (by omega) (by omega) rfl (fun c154 => ?_) (fun c154 => ?_)
      · omega
      · skip
        refine a_aload_n (q := 158) dX9_findNow_157 rfl rfl rfl ?_
        refine a_aload_n (q := 159) dX9_findNow_158 rfl rfl rfl ?_
        refine a_getB (q := 162) dX9_findNow_159 fX9_23 rfl rfl rfl ?_
        refine a_iload (q := 164) dX9_findNow_162 rfl rfl ?_
        refine a_iconst (q := 165) (nI 1) dX9_findNow_164 (by decide) rfl ?_
        refine a_isubN (q := 166) dX9_findNow_165 (by omega) rfl ?_
        refine a_ialdBN (q := 167) dX9_findNow_166 rfl (by omega) (by decide) rfl ?_
        refine a_bipush (q := 169) (nI 97) dX9_findNow_167 (by decide) rfl ?_
        refine a_isub (q := 170) dX9_findNow_169 rfl ?_
        refine a_aload_n (q := 171) dX9_findNow_170 rfl rfl rfl ?_
        refine a_getB (q := 174) dX9_findNow_171 fX9_23 rfl rfl rfl ?_
        refine a_iload (q := 176) dX9_findNow_174 rfl rfl ?_
        refine a_ialdBN (q := 177) dX9_findNow_176 rfl (by omega) (by decide) rfl ?_
        refine a_bipush (q := 179) (nI 97) dX9_findNow_177 (by decide) rfl ?_
        refine a_isub (q := 180) dX9_findNow_179 rfl ?_
        refine a_cVBv (q := 183) _ dX9_findNow_180 kX9_111 (m_edgeBetween (chN T (k - 1)) (chN T k) g3) rfl rfl rfl (Nat.le_of_ble_eq_true rfl) ⟨(Nat.le_of_ble_eq_true rfl), (Nat.le_of_ble_eq_true rfl)⟩ ⟨(Nat.le_of_ble_eq_true rfl), (Nat.le_of_ble_eq_true rfl)⟩ rfl ?_
        rw [hj]
        refine a_istore (q := 185) dX9_findNow_183 (Nat.le_of_ble_eq_true rfl) rfl rfl ?_
        refine a_iload (q := 187) dX9_findNow_185 rfl rfl ?_
        refine a_iconst (q := 188) (-1) dX9_findNow_187 (by decide) rfl ?_
        refine a_icmp_eq (q := 191) 201 dX9_findNow_188 (by decide) rfl (fun c188 => ?_) (fun c188 => ?_)
        · skip
          refine a_iconst (q := 202) (-1) dX9_findNow_201 (by decide) rfl ?_
          exact a_iret dX9_findNow_202 rfl rfl (Nat.le_of_ble_eq_true rfl) (Nat.le_of_ble_eq_true rfl) (hp)
        · exact absurd rfl c188
    | some j =>
      rw [hj] at hp
      have hj2 := (ebt_jn.2 j hj).1
      have hp : P (some (.int (if Y.2.1 j = true then -1 else fnF G T Y.2.1 Y.2.2.2.1 m (k + 1) (s + Y.2.2.2.1 (2 * j))))) 0 A (BM g G T th Y W R Z U L h O) := hp
      refine a_iload (q := 150) dX9_findNow_148 rfl rfl ?_
      refine a_aload_n (q := 151) dX9_findNow_150 rfl rfl rfl ?_
      refine a_getB (q := 154) dX9_findNow_151 fX9_122 rfl rfl rfl ?_
      refine a_icmp_geN (q := 157) 223 dX9_findNow_154 (by decide) (by omega) (by omega) rfl (fun c154 => ?_) (fun c154 => ?_)
      · omega
      · skip
        refine a_aload_n (q := 158) dX9_findNow_157 rfl rfl rfl ?_
        refine a_aload_n (q := 159) dX9_findNow_158 rfl rfl rfl ?_
        refine a_getB (q := 162) dX9_findNow_159 fX9_23 rfl rfl rfl ?_
        refine a_iload (q := 164) dX9_findNow_162 rfl rfl ?_
        refine a_iconst (q := 165) (nI 1) dX9_findNow_164 (by decide) rfl ?_
        refine a_isubN (q := 166) dX9_findNow_165 (by omega) rfl ?_
        refine a_ialdBN (q := 167) dX9_findNow_166 rfl (by omega) (by decide) rfl ?_
        refine a_bipush (q := 169) (nI 97) dX9_findNow_167 (by decide) rfl ?_
        refine a_isub (q := 170) dX9_findNow_169 rfl ?_
        refine a_aload_n (q := 171) dX9_findNow_170 rfl rfl rfl ?_
        refine a_getB (q := 174) dX9_findNow_171 fX9_23 rfl rfl rfl ?_
        refine a_iload (q := 176) dX9_findNow_174 rfl rfl ?_
        refine a_ialdBN (q := 177) dX9_findNow_176 rfl (by omega) (by decide) rfl ?_
        refine a_bipush (q := 179) (nI 97) dX9_findNow_177 (by decide) rfl ?_
        refine a_isub (q := 180) dX9_findNow_179 rfl ?_
        refine a_cVBv (q := 183) _ dX9_findNow_180 kX9_111 (m_edgeBetween (chN T (k - 1)) (chN T k) g3) rfl rfl rfl (Nat.le_of_ble_eq_true rfl) ⟨(Nat.le_of_ble_eq_true rfl), (Nat.le_of_ble_eq_true rfl)⟩ ⟨(Nat.le_of_ble_eq_true rfl), (Nat.le_of_ble_eq_true rfl)⟩ rfl ?_
        rw [hj]
        show AW _ _ _ _ _ _ _ _ _ _ (.int (nI j) :: _) _ _ _
        refine a_istore (q := 185) dX9_findNow_183 (Nat.le_of_ble_eq_true rfl) rfl rfl ?_
        refine a_iload (q := 187) dX9_findNow_185 rfl rfl ?_
        refine a_iconst (q := 188) (-1) dX9_findNow_187 (by decide) rfl ?_
        refine a_icmp_eq (q := 191) 201 dX9_findNow_188 (by decide) rfl (fun c188 => ?_) (fun c188 => ?_)
        · exact absurd c188 (nI_m1 (by omega))
        · skip
          refine a_aload_n (q := 192) dX9_findNow_191 rfl rfl rfl ?_
          refine a_getB (q := 195) dX9_findNow_192 fX9_26 rfl rfl rfl ?_
          refine a_iload (q := 197) dX9_findNow_195 rfl rfl ?_
          refine a_zaldBN (q := 198) dX9_findNow_197 rfl (by omega) (by decide) rfl ?_
          refine a_if_eqZ (q := 201) 203 dX9_findNow_198 (by decide) rfl (fun c198 => ?_) (fun c198 => ?_)
          · rw [if_neg (by rw [c198]; decide)] at hp
            refine a_iload (q := 205) dX9_findNow_203 rfl rfl ?_
            refine a_aload_n (q := 206) dX9_findNow_205 rfl rfl rfl ?_
            refine a_getB (q := 209) dX9_findNow_206 fX9_33 rfl rfl rfl ?_
            refine a_iconst (q := 210) (nI 2) dX9_findNow_209 (by decide) rfl ?_
            refine a_iload (q := 212) dX9_findNow_210 rfl rfl ?_
            refine a_imulN (q := 213) dX9_findNow_212 rfl ?_
            refine a_ialdBI (q := 214) dX9_findNow_213 rfl (by omega) (by decide) rfl ?_
            refine a_iadd (q := 215) dX9_findNow_214 rfl ?_
            refine a_istore (q := 217) dX9_findNow_215 (Nat.le_of_ble_eq_true rfl) rfl rfl ?_
            refine a_iincN (q := 220) (c := 1) dX9_findNow_217 rfl (by decide) rfl rfl ?_
            refine a_goto 148 dX9_findNow_220 (by decide) ?_
            exact ih (k + 1) _ _ (by omega) (by omega) (by omega) hp
          · rw [if_pos c198] at hp
            refine a_iconst (q := 202) (-1) dX9_findNow_201 (by decide) rfl ?_
            exact a_iret dX9_findNow_202 rfl rfl (Nat.le_of_ble_eq_true rfl) (Nat.le_of_ble_eq_true rfl) (hp)
theorem l_fn3 (P : ps_T) (hg : gok G) (hT : T.1 ≤ 60) (h0 : 0 < T.1) (q : Bool) (k : Nat) (hp : P (some (.int (if fnS G T Y.2.1 Y.2.2.2.1 = -1 ∨ fnE G T Y.2.1 Y.2.2.2.1 = -1 then -1 else fnF G T Y.2.1 Y.2.2.2.1 (T.1 - 1) 1 (fnS G T Y.2.1 Y.2.2.2.1 + fnE G T Y.2.1 Y.2.2.2.1)))) 0 A (BM g G T th Y W R Z U L h O)) : AW g mX9_findNow 0 0 P noX 0 0 61 [some (.ref (g.2.1 + 0)), some (.int (b2 q)), some (.int (nI k)), none, none, none, none, none] [] 0 A (BM g G T th Y W R Z U L h O) := by
  obtain ⟨g1, g2, g3, g4, g5⟩ := id hg
  refine a_aload_n (q := 62) dX9_findNow_61 rfl rfl rfl ?_
  refine a_getB (q := 65) dX9_findNow_62 fX9_23 rfl rfl rfl ?_
  refine a_iconst (q := 66) (nI 0) dX9_findNow_65 (by decide) rfl ?_
  refine a_ialdBN (q := 67) dX9_findNow_66 rfl (by omega) (by decide) rfl ?_
  refine a_bipush (q := 69) (nI 97) dX9_findNow_67 (by decide) rfl ?_
  refine a_isub (q := 70) dX9_findNow_69 rfl ?_
  refine a_istore_n (q := 71) dX9_findNow_70 rfl (Nat.le_of_ble_eq_true rfl) rfl rfl ?_
  refine a_aload_n (q := 72) dX9_findNow_71 rfl rfl rfl ?_
  refine a_getB (q := 75) dX9_findNow_72 fX9_23 rfl rfl rfl ?_
  refine a_aload_n (q := 76) dX9_findNow_75 rfl rfl rfl ?_
  refine a_getB (q := 79) dX9_findNow_76 fX9_122 rfl rfl rfl ?_
  refine a_iconst (q := 80) (nI 1) dX9_findNow_79 (by decide) rfl ?_
  refine a_isubN (q := 81) dX9_findNow_80 (by omega) rfl ?_
  refine a_ialdBN (q := 82) dX9_findNow_81 rfl (by omega) (by decide) rfl ?_
  refine a_bipush (q := 84) (nI 97) dX9_findNow_82 (by decide) rfl ?_
  refine a_isub (q := 85) dX9_findNow_84 rfl ?_
  refine a_istore_n (q := 86) dX9_findNow_85 rfl (Nat.le_of_ble_eq_true rfl) rfl rfl ?_
  refine a_iload_n (q := 87) dX9_findNow_86 rfl rfl rfl ?_
  refine a_if_ne (q := 90) 94 dX9_findNow_87 (by decide) rfl (fun c87 => ?_) (fun c87 => ?_)
  · rw [show fnS G T Y.2.1 Y.2.2.2.1 = lvR G Y.2.1 Y.2.2.2.1 (chN T 0) 2 from if_neg c87] at hp
    refine a_aload_n (q := 95) dX9_findNow_94 rfl rfl rfl ?_
    refine a_iload_n (q := 96) dX9_findNow_95 rfl rfl rfl ?_
    refine a_iconst (q := 97) (nI 2) dX9_findNow_96 (by decide) rfl ?_
    refine a_cVBv (q := 100) _ dX9_findNow_97 kX9_231 (m_leastValue (chN T 0) 2 (by decide) hg) rfl rfl rfl (Nat.le_of_ble_eq_true rfl) ⟨(Nat.le_of_ble_eq_true rfl), (Nat.le_of_ble_eq_true rfl)⟩ ⟨(Nat.le_of_ble_eq_true rfl), (Nat.le_of_ble_eq_true rfl)⟩ rfl ?_
    refine a_istore (q := 102) dX9_findNow_100 (Nat.le_of_ble_eq_true rfl) rfl rfl ?_
    refine a_iload_n (q := 103) dX9_findNow_102 rfl rfl rfl ?_
    refine a_aload_n (q := 104) dX9_findNow_103 rfl rfl rfl ?_
    refine a_getB (q := 107) dX9_findNow_104 fX9_7 rfl rfl rfl ?_
    refine a_iconst (q := 108) (nI 1) dX9_findNow_107 (by decide) rfl ?_
    refine a_isubN (q := 109) dX9_findNow_108 (by omega) rfl ?_
    refine a_icmp_ne (q := 112) 116 dX9_findNow_109 (by decide) rfl (fun c109 => ?_) (fun c109 => ?_)
    · rw [show fnE G T Y.2.1 Y.2.2.2.1 = lvR G Y.2.1 Y.2.2.2.1 (chN T (T.1 - 1)) 1 from if_neg c109] at hp
      refine a_aload_n (q := 117) dX9_findNow_116 rfl rfl rfl ?_
      refine a_iload_n (q := 118) dX9_findNow_117 rfl rfl rfl ?_
      refine a_iconst (q := 119) (nI 1) dX9_findNow_118 (by decide) rfl ?_
      refine a_cVBv (q := 122) _ dX9_findNow_119 kX9_231 (m_leastValue (chN T (T.1 - 1)) 1 (by decide) hg) rfl rfl rfl (Nat.le_of_ble_eq_true rfl) ⟨(Nat.le_of_ble_eq_true rfl), (Nat.le_of_ble_eq_true rfl)⟩ ⟨(Nat.le_of_ble_eq_true rfl), (Nat.le_of_ble_eq_true rfl)⟩ rfl ?_
      refine a_istore (q := 124) dX9_findNow_122 (Nat.le_of_ble_eq_true rfl) rfl rfl ?_
      refine a_iload (q := 126) dX9_findNow_124 rfl rfl ?_
      refine a_iconst (q := 127) (-1) dX9_findNow_126 (by decide) rfl ?_
      refine a_icmp_eq (q := 130) 136 dX9_findNow_127 (by decide) rfl (fun c127 => ?_) (fun c127 => ?_)
      · rw [if_pos (Or.inl c127)] at hp
        refine a_iconst (q := 137) (-1) dX9_findNow_136 (by decide) rfl ?_
        exact a_iret dX9_findNow_137 rfl rfl (Nat.le_of_ble_eq_true rfl) (Nat.le_of_ble_eq_true rfl) (hp)
      · skip
        refine a_iload (q := 132) dX9_findNow_130 rfl rfl ?_
        refine a_iconst (q := 133) (-1) dX9_findNow_132 (by decide) rfl ?_
        refine a_icmp_ne (q := 136) 138 dX9_findNow_133 (by decide) rfl (fun c133 => ?_) (fun c133 => ?_)
        · rw [if_neg (fun z => z.elim c127 c133)] at hp
          refine a_iload (q := 140) dX9_findNow_138 rfl rfl ?_
          refine a_iload (q := 142) dX9_findNow_140 rfl rfl ?_
          refine a_iadd (q := 143) dX9_findNow_142 rfl ?_
          refine a_istore (q := 145) dX9_findNow_143 (Nat.le_of_ble_eq_true rfl) rfl rfl ?_
          refine a_iconst (q := 146) (nI 1) dX9_findNow_145 (by decide) rfl ?_
          refine a_istore (q := 148) dX9_findNow_146 (Nat.le_of_ble_eq_true rfl) rfl rfl ?_
          exact l_fn2 P hg hT _ _ _ _ _ 1 _ _ rfl (Nat.le_refl _) (by omega) hp
        · rw [if_pos (Or.inr c133)] at hp
          refine a_iconst (q := 137) (-1) dX9_findNow_136 (by decide) rfl ?_
          exact a_iret dX9_findNow_137 rfl rfl (Nat.le_of_ble_eq_true rfl) (Nat.le_of_ble_eq_true rfl) (hp)
    · rw [show fnE G T Y.2.1 Y.2.2.2.1 = nI 0 from if_pos c109] at hp
      refine a_iconst (q := 113) (nI 0) dX9_findNow_112 (by decide) rfl ?_
      refine a_goto 122 dX9_findNow_113 (by decide) ?_
      refine a_istore (q := 124) dX9_findNow_122 (Nat.le_of_ble_eq_true rfl) rfl rfl ?_
      refine a_iload (q := 126) dX9_findNow_124 rfl rfl ?_
      refine a_iconst (q := 127) (-1) dX9_findNow_126 (by decide) rfl ?_
      refine a_icmp_eq (q := 130) 136 dX9_findNow_127 (by decide) rfl (fun c127 => ?_) (fun c127 => ?_)
      · rw [if_pos (Or.inl c127)] at hp
        refine a_iconst (q := 137) (-1) dX9_findNow_136 (by decide) rfl ?_
        exact a_iret dX9_findNow_137 rfl rfl (Nat.le_of_ble_eq_true rfl) (Nat.le_of_ble_eq_true rfl) (hp)
      · skip
        refine a_iload (q := 132) dX9_findNow_130 rfl rfl ?_
        refine a_iconst (q := 133) (-1) dX9_findNow_132 (by decide) rfl ?_
        refine a_icmp_ne (q := 136) 138 dX9_findNow_133 (by decide) rfl (fun c133 => ?_) (fun c133 => ?_)
        · rw [if_neg (fun z => z.elim c127 c133)] at hp
          refine a_iload (q := 140) dX9_findNow_138 rfl rfl ?_
          refine a_iload (q := 142) dX9_findNow_140 rfl rfl ?_
          refine a_iadd (q := 143) dX9_findNow_142 rfl ?_
          refine a_istore (q := 145) dX9_findNow_143 (Nat.le_of_ble_eq_true rfl) rfl rfl ?_
          refine a_iconst (q := 146) (nI 1) dX9_findNow_145 (by decide) rfl ?_
          refine a_istore (q := 148) dX9_findNow_146 (Nat.le_of_ble_eq_true rfl) rfl rfl ?_
          exact l_fn2 P hg hT _ _ _ _ _ 1 _ _ rfl (Nat.le_refl _) (by omega) hp
        · rw [if_pos (Or.inr c133)] at hp
          refine a_iconst (q := 137) (-1) dX9_findNow_136 (by decide) rfl ?_
          exact a_iret dX9_findNow_137 rfl rfl (Nat.le_of_ble_eq_true rfl) (Nat.le_of_ble_eq_true rfl) (hp)
  · rw [show fnS G T Y.2.1 Y.2.2.2.1 = nI 0 from if_pos c87] at hp
    refine a_iconst (q := 91) (nI 0) dX9_findNow_90 (by decide) rfl ?_
    refine a_goto 100 dX9_findNow_91 (by decide) ?_
    refine a_istore (q := 102) dX9_findNow_100 (Nat.le_of_ble_eq_true rfl) rfl rfl ?_
    refine a_iload_n (q := 103) dX9_findNow_102 rfl rfl rfl ?_
    refine a_aload_n (q := 104) dX9_findNow_103 rfl rfl rfl ?_
    refine a_getB (q := 107) dX9_findNow_104 fX9_7 rfl rfl rfl ?_
    refine a_iconst (q := 108) (nI 1) dX9_findNow_107 (by decide) rfl ?_
    refine a_isubN (q := 109) dX9_findNow_108 (by omega) rfl ?_
    refine a_icmp_ne (q := 112) 116 dX9_findNow_109 (by decide) rfl (fun c109 => ?_) (fun c109 => ?_)
    · rw [show fnE G T Y.2.1 Y.2.2.2.1 = lvR G Y.2.1 Y.2.2.2.1 (chN T (T.1 - 1)) 1 from if_neg c109] at hp
      refine a_aload_n (q := 117) dX9_findNow_116 rfl rfl rfl ?_
      refine a_iload_n (q := 118) dX9_findNow_117 rfl rfl rfl ?_
      refine a_iconst (q := 119) (nI 1) dX9_findNow_118 (by decide) rfl ?_
      refine a_cVBv (q := 122) _ dX9_findNow_119 kX9_231 (m_leastValue (chN T (T.1 - 1)) 1 (by decide) hg) rfl rfl rfl (Nat.le_of_ble_eq_true rfl) ⟨(Nat.le_of_ble_eq_true rfl), (Nat.le_of_ble_eq_true rfl)⟩ ⟨(Nat.le_of_ble_eq_true rfl), (Nat.le_of_ble_eq_true rfl)⟩ rfl ?_
      refine a_istore (q := 124) dX9_findNow_122 (Nat.le_of_ble_eq_true rfl) rfl rfl ?_
      refine a_iload (q := 126) dX9_findNow_124 rfl rfl ?_
      refine a_iconst (q := 127) (-1) dX9_findNow_126 (by decide) rfl ?_
      refine a_icmp_eq (q := 130) 136 dX9_findNow_127 (by decide) rfl (fun c127 => ?_) (fun c127 => ?_)
      · rw [if_pos (Or.inl c127)] at hp
        refine a_iconst (q := 137) (-1) dX9_findNow_136 (by decide) rfl ?_
        exact a_iret dX9_findNow_137 rfl rfl (Nat.le_of_ble_eq_true rfl) (Nat.le_of_ble_eq_true rfl) (hp)
      · skip
        refine a_iload (q := 132) dX9_findNow_130 rfl rfl ?_
        refine a_iconst (q := 133) (-1) dX9_findNow_132 (by decide) rfl ?_
        refine a_icmp_ne (q := 136) 138 dX9_findNow_133 (by decide) rfl (fun c133 => ?_) (fun c133 => ?_)
        · rw [if_neg (fun z => z.elim c127 c133)] at hp
          refine a_iload (q := 140) dX9_findNow_138 rfl rfl ?_
          refine a_iload (q := 142) dX9_findNow_140 rfl rfl ?_
          refine a_iadd (q := 143) dX9_findNow_142 rfl ?_
          refine a_istore (q := 145) dX9_findNow_143 (Nat.le_of_ble_eq_true rfl) rfl rfl ?_
          refine a_iconst (q := 146) (nI 1) dX9_findNow_145 (by decide) rfl ?_
          refine a_istore (q := 148) dX9_findNow_146 (Nat.le_of_ble_eq_true rfl) rfl rfl ?_
          exact l_fn2 P hg hT _ _ _ _ _ 1 _ _ rfl (Nat.le_refl _) (by omega) hp
        · rw [if_pos (Or.inr c133)] at hp
          refine a_iconst (q := 137) (-1) dX9_findNow_136 (by decide) rfl ?_
          exact a_iret dX9_findNow_137 rfl rfl (Nat.le_of_ble_eq_true rfl) (Nat.le_of_ble_eq_true rfl) (hp)
    · rw [show fnE G T Y.2.1 Y.2.2.2.1 = nI 0 from if_pos c109] at hp
      refine a_iconst (q := 113) (nI 0) dX9_findNow_112 (by decide) rfl ?_
      refine a_goto 122 dX9_findNow_113 (by decide) ?_
      refine a_istore (q := 124) dX9_findNow_122 (Nat.le_of_ble_eq_true rfl) rfl rfl ?_
      refine a_iload (q := 126) dX9_findNow_124 rfl rfl ?_
      refine a_iconst (q := 127) (-1) dX9_findNow_126 (by decide) rfl ?_
      refine a_icmp_eq (q := 130) 136 dX9_findNow_127 (by decide) rfl (fun c127 => ?_) (fun c127 => ?_)
      · rw [if_pos (Or.inl c127)] at hp
        refine a_iconst (q := 137) (-1) dX9_findNow_136 (by decide) rfl ?_
        exact a_iret dX9_findNow_137 rfl rfl (Nat.le_of_ble_eq_true rfl) (Nat.le_of_ble_eq_true rfl) (hp)
      · skip
        refine a_iload (q := 132) dX9_findNow_130 rfl rfl ?_
        refine a_iconst (q := 133) (-1) dX9_findNow_132 (by decide) rfl ?_
        refine a_icmp_ne (q := 136) 138 dX9_findNow_133 (by decide) rfl (fun c133 => ?_) (fun c133 => ?_)
        · rw [if_neg (fun z => z.elim c127 c133)] at hp
          refine a_iload (q := 140) dX9_findNow_138 rfl rfl ?_
          refine a_iload (q := 142) dX9_findNow_140 rfl rfl ?_
          refine a_iaddN (q := 143) dX9_findNow_142 rfl ?_
          refine a_istore (q := 145) dX9_findNow_143 (Nat.le_of_ble_eq_true rfl) rfl rfl ?_
          refine a_iconst (q := 146) (nI 1) dX9_findNow_145 (by decide) rfl ?_
          refine a_istore (q := 148) dX9_findNow_146 (Nat.le_of_ble_eq_true rfl) rfl rfl ?_
          exact l_fn2 P hg hT _ _ _ _ _ 1 _ _ rfl (Nat.le_refl _) (by omega) hp
        · rw [if_pos (Or.inr c133)] at hp
          refine a_iconst (q := 137) (-1) dX9_findNow_136 (by decide) rfl ?_
          exact a_iret dX9_findNow_137 rfl rfl (Nat.le_of_ble_eq_true rfl) (Nat.le_of_ble_eq_true rfl) (hp)
theorem l_fn1 (P : ps_T) (hg : gok G) (hT : T.1 ≤ 60) (hp : P (some (.int (fnR G T Y.2.1 Y.2.2.2.1))) 0 A (BM g G T th Y W R Z U L h O)) : ∀ (m k : Nat) (q : Bool), T.1 - k = m → k ≤ T.1 → fnA G T T.1 0 (decide (0 < T.1)) = fnA G T m k q → AW g mX9_findNow 0 0 P noX 0 0 15 [some (.ref (g.2.1 + 0)), some (.int (b2 q)), some (.int (nI k)), none, none, none, none, none] [] 0 A (BM g G T th Y W R Z U L h O) := by
  intro m
  obtain ⟨g1, g2, g3, g4, g5⟩ := id hg
  induction m with
  | zero =>
    intro k q hm hk he
    have he : fnA G T T.1 0 (decide (0 < T.1)) = q := he
    unfold fnR at hp
    rw [he] at hp
    refine a_iload_n (q := 16) dX9_findNow_15 rfl rfl rfl ?_
    refine a_aload_n (q := 17) dX9_findNow_16 rfl rfl rfl ?_
    refine a_getB (q := 20) dX9_findNow_17 fX9_122 rfl rfl rfl ?_
    refine a_icmp_geN (q := 23) 55 dX9_findNow_20 (by decide) (by omega) (by omega) rfl (fun c20 => ?_) (fun c20 => ?_)
    · skip
      refine a_iload_n (q := 56) dX9_findNow_55 rfl rfl rfl ?_
      refine a_if_neZ (q := 59) 61 dX9_findNow_56 (by decide) rfl (fun c56 => ?_) (fun c56 => ?_)
      · rw [if_pos c56] at hp
        have h0 : 0 < T.1 := by
          rcases Nat.eq_zero_or_pos T.1 with z | z
          · exfalso
            rw [z] at he
            rw [c56] at he
            have he : decide (0 < 0) = true := he
            exact absurd he (by decide)
          · exact z
        exact l_fn3 P hg hT h0 q _ hp
      · rw [if_neg (by rw [c56]; decide)] at hp
        refine a_iconst (q := 60) (-1) dX9_findNow_59 (by decide) rfl ?_
        exact a_iret dX9_findNow_60 rfl rfl (Nat.le_of_ble_eq_true rfl) (Nat.le_of_ble_eq_true rfl) (hp)
    · omega
  | succ m ih =>
    intro k q hm hk he
    have he : fnA G T T.1 0 (decide (0 < T.1)) = fnA G T m (k + 1) (q && inR (chN T k) G.1) := he
    refine a_iload_n (q := 16) dX9_findNow_15 rfl rfl rfl ?_
    refine a_aload_n (q := 17) dX9_findNow_16 rfl rfl rfl ?_
    refine a_getB (q := 20) dX9_findNow_17 fX9_122 rfl rfl rfl ?_
    refine a_icmp_geN (q := 23) 55 dX9_findNow_20 (by decide) (by omega) (by omega) rfl (fun c20 => ?_) (fun c20 => ?_)
    · omega
    · skip
      refine a_iload_n (q := 24) dX9_findNow_23 rfl rfl rfl ?_
      refine a_if_eqZ (q := 27) 47 dX9_findNow_24 (by decide) rfl (fun c24 => ?_) (fun c24 => ?_)
      · rw [c24, Bool.false_and] at he
        refine a_iconst (q := 48) (b2 false) dX9_findNow_47 (by decide) rfl ?_
        refine a_istore_n (q := 49) dX9_findNow_48 rfl (Nat.le_of_ble_eq_true rfl) rfl rfl ?_
        refine a_iincN (q := 52) (c := 1) dX9_findNow_49 rfl (by decide) rfl rfl ?_
        refine a_goto 15 dX9_findNow_52 (by decide) ?_
        exact ih (k + 1) _ (by omega) (by omega) he
      · skip
        refine a_aload_n (q := 28) dX9_findNow_27 rfl rfl rfl ?_
        refine a_aload_n (q := 29) dX9_findNow_28 rfl rfl rfl ?_
        refine a_getB (q := 32) dX9_findNow_29 fX9_23 rfl rfl rfl ?_
        refine a_iload_n (q := 33) dX9_findNow_32 rfl rfl rfl ?_
        refine a_ialdBN (q := 34) dX9_findNow_33 rfl (by omega) (by decide) rfl ?_
        refine a_bipush (q := 36) (nI 97) dX9_findNow_34 (by decide) rfl ?_
        refine a_isub (q := 37) dX9_findNow_36 rfl ?_
        refine a_cVBv (q := 40) _ dX9_findNow_37 kX9_107 (m_isNode (chN T k) (by omega) g2) rfl rfl rfl (Nat.le_of_ble_eq_true rfl) ⟨(Nat.le_of_ble_eq_true rfl), (Nat.le_of_ble_eq_true rfl)⟩ ⟨(Nat.le_of_ble_eq_true rfl), (Nat.le_of_ble_eq_true rfl)⟩ rfl ?_
        refine a_if_eqZ (q := 43) 47 dX9_findNow_40 (by decide) rfl (fun c40 => ?_) (fun c40 => ?_)
        · rw [c24, show inR (chN T k) G.1 = false from c40] at he
          refine a_iconst (q := 48) (b2 false) dX9_findNow_47 (by decide) rfl ?_
          refine a_istore_n (q := 49) dX9_findNow_48 rfl (Nat.le_of_ble_eq_true rfl) rfl rfl ?_
          refine a_iincN (q := 52) (c := 1) dX9_findNow_49 rfl (by decide) rfl rfl ?_
          refine a_goto 15 dX9_findNow_52 (by decide) ?_
          exact ih (k + 1) _ (by omega) (by omega) he
        · rw [c24, show inR (chN T k) G.1 = true from c40] at he
          refine a_iconst (q := 44) (b2 true) dX9_findNow_43 (by decide) rfl ?_
          refine a_goto 48 dX9_findNow_44 (by decide) ?_
          refine a_istore_n (q := 49) dX9_findNow_48 rfl (Nat.le_of_ble_eq_true rfl) rfl rfl ?_
          refine a_iincN (q := 52) (c := 1) dX9_findNow_49 rfl (by decide) rfl rfl ?_
          refine a_goto 15 dX9_findNow_52 (by decide) ?_
          exact ih (k + 1) _ (by omega) (by omega) he
theorem m_findNow (hg : gok G) (hT : T.1 ≤ 60) : Ct g mX9_findNow [.ref (g.2.1 + 0)] 0 A (BM g G T th Y W R Z U L h O) 0 0 (rP (some (.int (fnR G T Y.2.1 Y.2.2.2.1))) A (BM g G T th Y W R Z U L h O)) noX := by
  have hq := fun q (e : decide (0 < T.1) = q) => l_fn1 (g := g) (A := A) (G := G) (T := T) (th := th) (Y := Y) (W := W) (R := R) (Z := Z) (U := U) (L := L) (h := h) (O := O) (rP (some (.int (fnR G T Y.2.1 Y.2.2.2.1))) A (BM g G T th Y W R Z U L h O)) hg hT ⟨rfl, rfl, rfl, rfl⟩ T.1 0 q rfl (Nat.zero_le _) (by rw [e])
  refine Ct.of [some (.ref (g.2.1 + 0)), none, none, none, none, none, none, none] (by decide) rfl (Nat.le_of_ble_eq_true rfl) rfl ?_
  refine a_aload_n (q := 1) dX9_findNow_0 rfl rfl rfl ?_
  refine a_getB (q := 4) dX9_findNow_1 fX9_122 rfl rfl rfl ?_
  refine a_if_leN (q := 7) 11 dX9_findNow_4 (by decide) (by omega) rfl (fun c4 => ?_) (fun c4 => ?_)
  · have hz := hq false (decide_eq_false (by omega))
    refine a_iconst (q := 12) (b2 false) dX9_findNow_11 (by decide) rfl ?_
    refine a_istore_n (q := 13) dX9_findNow_12 rfl (Nat.le_of_ble_eq_true rfl) rfl rfl ?_
    refine a_iconst (q := 14) (nI 0) dX9_findNow_13 (by decide) rfl ?_
    refine a_istore_n (q := 15) dX9_findNow_14 rfl (Nat.le_of_ble_eq_true rfl) rfl rfl ?_
    exact hz
  · have hz := hq true (decide_eq_true (by omega))
    refine a_iconst (q := 8) (b2 true) dX9_findNow_7 (by decide) rfl ?_
    refine a_goto 12 dX9_findNow_8 (by decide) ?_
    refine a_istore_n (q := 13) dX9_findNow_12 rfl (Nat.le_of_ble_eq_true rfl) rfl rfl ?_
    refine a_iconst (q := 14) (nI 0) dX9_findNow_13 (by decide) rfl ?_
    refine a_istore_n (q := 15) dX9_findNow_14 rfl (Nat.le_of_ble_eq_true rfl) rfl rfl ?_
    exact hz
theorem m_findPath (hg : gok G) (hT : T.1 ≤ 60) (ha : Y.1 = true) : Ct g mX9_findPath [.ref (g.2.1 + 0)] 0 A (BM g G T th Y W R Z U L h O) 0 0 (rP (some (.int (fnR G T Y.2.1 Y.2.2.2.1))) A (BM g G T 0 Y W R Z U L h O)) noX := by
  refine Ct.of [some (.ref (g.2.1 + 0))] (by decide) rfl (Nat.le_of_ble_eq_true rfl) rfl ?_
  refine a_aload_n (q := 1) dX9_findPath_0 rfl rfl rfl ?_
  refine a_aload_n (q := 2) dX9_findPath_1 rfl rfl rfl ?_
  refine a_getB (q := 5) dX9_findPath_2 fX9_84 rfl rfl rfl ?_
  refine a_if_eqZ (q := 8) 12 dX9_findPath_5 (by decide) rfl (fun c5 => ?_) (fun c5 => ?_)
  · rw [ha] at c5; cases c5
  · skip
    refine a_iconst (q := 9) (nI 0) dX9_findPath_8 (by decide) rfl ?_
    refine a_goto 13 dX9_findPath_9 (by decide) ?_
    refine a_putB (q := 16) dX9_findPath_13 fX9_81 (fun h => nomatch h) rfl (Nat.le_of_ble_eq_true rfl) rfl rfl rfl ?_
    refine a_aload_n (q := 17) dX9_findPath_16 rfl rfl rfl ?_
    refine a_getB (q := 20) dX9_findPath_17 fX9_81 rfl rfl rfl ?_
    refine a_if_leN (q := 23) 27 dX9_findPath_20 (by decide) (by omega) rfl (fun c20 => ?_) (fun c20 => ?_)
    · skip
      refine a_aload_n (q := 28) dX9_findPath_27 rfl rfl rfl ?_
      refine a_cVBv (q := 31) _ dX9_findPath_28 kX9_234 (m_findNow (G := G) (th := 0) hg hT) rfl rfl rfl (Nat.le_of_ble_eq_true rfl) ⟨(Nat.le_of_ble_eq_true rfl), (Nat.le_of_ble_eq_true rfl)⟩ ⟨(Nat.le_of_ble_eq_true rfl), (Nat.le_of_ble_eq_true rfl)⟩ rfl ?_
      exact a_iret dX9_findPath_31 rfl rfl (Nat.le_of_ble_eq_true rfl) (Nat.le_of_ble_eq_true rfl) (⟨rfl, rfl, rfl, rfl⟩)
    · exact absurd c20 (by decide)
theorem mx_findPath (ha : Y.1 = false) : Ct g mX9_findPath [.ref (g.2.1 + 0)] 0 A (BM g G T th Y W R Z U L h O) 0 0 (rP (some (.int (nI 0))) A (BM g G T 1 Y W R Z U L h O)) noX := by
  refine Ct.of [some (.ref (g.2.1 + 0))] (by decide) rfl (Nat.le_of_ble_eq_true rfl) rfl ?_
  refine a_aload_n (q := 1) dX9_findPath_0 rfl rfl rfl ?_
  refine a_aload_n (q := 2) dX9_findPath_1 rfl rfl rfl ?_
  refine a_getB (q := 5) dX9_findPath_2 fX9_84 rfl rfl rfl ?_
  refine a_if_eqZ (q := 8) 12 dX9_findPath_5 (by decide) rfl (fun c5 => ?_) (fun c5 => ?_)
  · skip
    refine a_iconst (q := 13) (nI 1) dX9_findPath_12 (by decide) rfl ?_
    refine a_putB (q := 16) dX9_findPath_13 fX9_81 (fun h => nomatch h) rfl (Nat.le_of_ble_eq_true rfl) rfl rfl rfl ?_
    refine a_aload_n (q := 17) dX9_findPath_16 rfl rfl rfl ?_
    refine a_getB (q := 20) dX9_findPath_17 fX9_81 rfl rfl rfl ?_
    refine a_if_leN (q := 23) 27 dX9_findPath_20 (by decide) (by omega) rfl (fun c20 => ?_) (fun c20 => ?_)
    · exact absurd c20 (by decide)
    · skip
      refine a_iconst (q := 24) (nI 0) dX9_findPath_23 (by decide) rfl ?_
      refine a_goto 31 dX9_findPath_24 (by decide) ?_
      exact a_iret dX9_findPath_31 rfl rfl (Nat.le_of_ble_eq_true rfl) (Nat.le_of_ble_eq_true rfl) (⟨rfl, rfl, rfl, rfl⟩)
  · rw [ha] at c5; cases c5
end MPaths

