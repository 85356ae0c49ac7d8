/-! ===== the reference: a path, link by link ===== -/
def fkF (G : Gr) (bk : Nat → Bool) (P V : Nat → Int32) (v : Nat) (r : Int32) : Nat → Option Nat → Option Nat
  | 0, _ => none
  | _ + 1, none => none
  | m + 1, some k => if r < V k + P (mTo G bk k) then some k else fkF G bk P V v r m (lb G bk v (some k))
def foF (G : Gr) (bk : Nat → Bool) (P V : Nat → Int32) : Nat → Nat → Int32 → La → Option La
  | 0, v, _, q => if v = G.1 - 1 then some q else none
  | m + 1, v, r, q => if v = G.1 - 1 then some q else match fkF G bk P V v r 144 (lb G bk v none) with
    | none => none
    | some k => foF G bk P V m (mTo G bk k) (r - V k) (va_up q.1 q.2 k, q.2 + 1)
def fol (G : Gr) (bk : Nat → Bool) (P V : Nat → Int32) (x : Int32) (q : La) : Option La := foF G bk P V 12 0 x (q.1, 0)
/-- links of the graph, one at least -/
def lOk (q : La) : Prop := q.2 ≤ 12 ∧ ∀ i, i < q.2 → q.1 i < 48
theorem fkF_spec {G : Gr} {bk : Nat → Bool} {P V : Nat → Int32} {v : Nat} {r : Int32} : ∀ (m : Nat) (o : Option Nat) (k : Nat), (∀ j, o = some j → j < 2 * G.2.1 ∧ mIs G bk j = true ∧ mFr G j = v) → fkF G bk P V v r m o = some k → k < 2 * G.2.1 ∧ mIs G bk k = true ∧ mFr G k = v := by
  intro m
  induction m with
  | zero => intro o k ho h; cases o <;> cases h
  | succ m ih =>
    intro o k ho h
    cases o with
    | none => cases h
    | some j =>
      unfold fkF at h
      split at h
      · cases h; exact ho k rfl
      · exact ih _ k (fun i hi => by have := lb_spec hi; exact ⟨this.1, this.2.1, this.2.2.1⟩) h
theorem foF_ok {G : Gr} {bk : Nat → Bool} {P V : Nat → Int32} (he : G.2.1 ≤ 24) : ∀ (m v : Nat) (r : Int32) (q q' : La), (∀ i, i < q.2 → q.1 i < 48) → foF G bk P V m v r q = some q' → q'.2 ≤ q.2 + m ∧ q.2 ≤ q'.2 ∧ ∀ i, i < q'.2 → q'.1 i < 48 := by
  intro m
  induction m with
  | zero =>
    intro v r q q' hq h
    unfold foF at h
    split at h
    · cases h; exact ⟨Nat.le_refl _, Nat.le_refl _, hq⟩
    · cases h
  | succ m ih =>
    intro v r q q' hq h
    unfold foF at h
    split at h
    · cases h; exact ⟨by omega, Nat.le_refl _, hq⟩
    · split at h
      · cases h
      · rename_i k hk
        have hk2 := fkF_spec 144 _ k (fun i hi => by have := lb_spec hi; exact ⟨this.1, this.2.1, this.2.2.1⟩) hk
        have := ih _ _ _ q' (fun i hi => by
          have hi : i < q.2 + 1 := hi
          show va_up q.1 q.2 k i < 48
          by_cases e : i = q.2
          · rw [e, va_same]; omega
          · rw [va_other e]; exact hq i (by omega)) h
        have t1 : q'.2 ≤ q.2 + 1 + m := this.1
        have t2 : q.2 + 1 ≤ q'.2 := this.2.1
        exact ⟨by omega, by omega, this.2.2⟩
theorem fol_ok {G : Gr} {bk : Nat → Bool} {P V : Nat → Int32} {x : Int32} {q q' : La} (he : G.2.1 ≤ 24) (hn : 2 ≤ G.1) (h : fol G bk P V x q = some q') : 1 ≤ q'.2 ∧ q'.2 ≤ 12 ∧ ∀ i, i < q'.2 → q'.1 i < 48 := by
  unfold fol foF at h
  rw [if_neg (by omega)] at h
  split at h
  · cases h
  · rename_i k hk
    have hk2 := fkF_spec 144 _ k (fun i hi => by have := lb_spec hi; exact ⟨this.1, this.2.1, this.2.2.1⟩) hk
    have := foF_ok he 11 _ _ _ q' (fun i hi => by
      have hi : i < 0 + 1 := hi
      show va_up q.1 0 k i < 48
      rw [show i = 0 by omega, va_same]; omega) h
    have t1 : q'.2 ≤ 0 + 1 + 11 := this.1
    have t2 : 0 + 1 ≤ q'.2 := this.2.1
    exact ⟨by omega, by omega, this.2.2⟩
def bgn (bk : Nat → Bool) (q : La) : Bool := decide (mKd bk (q.1 0) = 2)
def enn (bk : Nat → Bool) (q : La) : Bool := decide (mKd bk (q.1 (q.2 - 1)) = 1)
def vsN (bk : Nat → Bool) (q : La) : Nat := q.2 + 1 - (if bgn bk q = true then 1 else 0) - (if enn bk q = true then 1 else 0)
def vnI (bk : Nat → Bool) (q : La) (k : Nat) : Nat := if bgn bk q = true then k + 1 else k
def vnN (G : Gr) (bk : Nat → Bool) (q : La) (k : Nat) : Nat := if vnI bk q k = 0 then 0 else mTo G bk (q.1 (vnI bk q k - 1))
def enM (bk : Nat → Bool) (q : La) (b : Bool) : Int32 := if b = true then (if enn bk q = true then nI (q.1 (q.2 - 1) / 2) else -1) else (if bgn bk q = true then nI (q.1 0 / 2) else -1)
section MPaths
variable {g : gp_T} {A : List va_E} {G : Gr} {T : Tx} {th : Nat} {Y : Ya} {W : Wa} {R : Ra} {Z : Za} {U : Ua} {L : La} {h : Int64} {O : Oa}
theorem l_fk (P : ps_T) (x r : Int32) (v : Nat) (hg : gok G) (hv : v < 12) (k : Nat) (hp : AW g mX9_follow 0 0 P noX 0 0 62 [some (.ref (g.2.1 + 0)), some (.int x), some (.int r), some (.int (nI v)), some (.int (nI k))] [] 0 A (BM g G T th Y W R Z U L h O)) : ∀ (m : Nat) (o : Option Nat), (∀ j, o = some j → j < 48 ∧ mIs G Y.2.1 j = true) → fkF G Y.2.1 Y.2.2.1 Y.2.2.2.1 v r m o = some k → AW g mX9_follow 0 0 P noX 0 0 27 [some (.ref (g.2.1 + 0)), some (.int x), some (.int r), some (.int (nI v)), some (.int (oI o))] [] 0 A (BM g G T th Y W R Z U L h O) := by
  intro m
  obtain ⟨g1, g2, g3, g4, g5⟩ := id hg
  induction m with
  | zero => intro o ho h; cases o <;> cases h
  | succ m ih =>
    intro o ho hk
    cases o with
    | none => cases hk
    | some j =>
      obtain ⟨h1, h2⟩ := ho j rfl
      have h4 := mTo_lt hg h2
      unfold fkF at hk
      refine a_iload_n (q := 28) dX9_follow_27 rfl rfl rfl ?_
      refine a_aload_n (q := 29) dX9_follow_28 rfl rfl rfl ?_
      refine a_getB (q := 32) dX9_follow_29 fX9_33 rfl rfl rfl ?_
      refine a_iload (q := 34) dX9_follow_32 rfl rfl ?_
      show AW _ _ _ _ _ _ _ _ _ _ (.int (nI j) :: _) _ _ _
      refine a_ialdBI (q := 35) dX9_follow_34 rfl (by omega) (by decide) rfl ?_
      refine a_aload_n (q := 36) dX9_follow_35 rfl rfl rfl ?_
      refine a_getB (q := 39) dX9_follow_36 fX9_30 rfl rfl rfl ?_
      refine a_aload_n (q := 40) dX9_follow_39 rfl rfl rfl ?_
      refine a_iload (q := 42) dX9_follow_40 rfl rfl ?_
      show AW _ _ _ _ _ _ _ _ _ _ (.int (nI j) :: _) _ _ _
      refine a_cVBv (q := 45) _ dX9_follow_42 kX9_165 (m_linkTo j h1 (by omega)) rfl rfl rfl (Nat.le_of_ble_eq_true rfl) ⟨(Nat.le_of_ble_eq_true rfl), (Nat.le_of_ble_eq_true rfl)⟩ ⟨(Nat.le_of_ble_eq_true rfl), (Nat.le_of_ble_eq_true rfl)⟩ rfl ?_
      refine a_ialdBI (q := 46) dX9_follow_45 rfl (by omega) (by decide) rfl ?_
      refine a_iadd (q := 47) dX9_follow_46 rfl ?_
      refine a_icmp_lt (q := 50) 62 dX9_follow_47 (by decide) rfl (fun c47 => ?_) (fun c47 => ?_)
      · rw [if_pos c47] at hk
        cases hk
        exact hp
      · rw [if_neg c47] at hk
        refine a_aload_n (q := 51) dX9_follow_50 rfl rfl rfl ?_
        refine a_iload_n (q := 52) dX9_follow_51 rfl rfl rfl ?_
        refine a_iload (q := 54) dX9_follow_52 rfl rfl ?_
        refine a_cVBv (q := 57) _ dX9_follow_54 kX9_162 (m_linkBehind hg v hv (some j) (fun i hi => by cases hi; exact h1)) rfl rfl rfl (Nat.le_of_ble_eq_true rfl) ⟨(Nat.le_of_ble_eq_true rfl), (Nat.le_of_ble_eq_true rfl)⟩ ⟨(Nat.le_of_ble_eq_true rfl), (Nat.le_of_ble_eq_true rfl)⟩ rfl ?_
        refine a_istore (q := 59) dX9_follow_57 (Nat.le_of_ble_eq_true rfl) rfl rfl ?_
        refine a_goto 27 dX9_follow_59 (by decide) ?_
        exact ih _ (fun i hi => by have := lb_spec hi; exact ⟨by omega, this.2.1⟩) hk
theorem l_fo (P : ps_T) (x : Int32) (hg : gok G) (q' : La) (hp : P none 0 A (BM g G T th Y W R Z U q' h O)) : ∀ (m v : Nat) (r : Int32) (q : La) (L4 : Option Value), v < G.1 → q.2 + m ≤ 24 → foF G Y.2.1 Y.2.2.1 Y.2.2.2.1 m v r q = some q' → AW g mX9_follow 0 0 P noX 0 0 9 [some (.ref (g.2.1 + 0)), some (.int x), some (.int r), some (.int (nI v)), L4] [] 0 A (BM g G T th Y W R Z U q h O) := by
  intro m
  obtain ⟨g1, g2, g3, g4, g5⟩ := id hg
  induction m with
  | zero =>
    intro v r q L4 hv hq hf
    unfold foF at hf
    refine a_iload_n (q := 10) dX9_follow_9 rfl rfl rfl ?_
    refine a_aload_n (q := 11) dX9_follow_10 rfl rfl rfl ?_
    refine a_getB (q := 14) dX9_follow_11 fX9_7 rfl rfl rfl ?_
    refine a_iconst (q := 15) (nI 1) dX9_follow_14 (by decide) rfl ?_
    refine a_isubN (q := 16) dX9_follow_15 (by omega) rfl ?_
    refine a_icmp_eqN (q := 19) 103 dX9_follow_16 (by decide) (by omega) (by omega) rfl (fun c16 => ?_) (fun c16 => ?_)
    · rw [if_pos c16] at hf
      cases hf
      exact a_ret dX9_follow_103 rfl (Nat.le_of_ble_eq_true rfl) (Nat.le_of_ble_eq_true rfl) (hp)
    · rw [if_neg c16] at hf
      cases hf
  | succ m ih =>
    intro v r q L4 hv hq hf
    unfold foF at hf
    by_cases e : v = G.1 - 1
    · rw [if_pos e] at hf
      cases hf
      refine a_iload_n (q := 10) dX9_follow_9 rfl rfl rfl ?_
      refine a_aload_n (q := 11) dX9_follow_10 rfl rfl rfl ?_
      refine a_getB (q := 14) dX9_follow_11 fX9_7 rfl rfl rfl ?_
      refine a_iconst (q := 15) (nI 1) dX9_follow_14 (by decide) rfl ?_
      refine a_isubN (q := 16) dX9_follow_15 (by omega) rfl ?_
      refine a_icmp_eqN (q := 19) 103 dX9_follow_16 (by decide) (by omega) (by omega) rfl (fun c16 => ?_) (fun c16 => ?_)
      · skip
        exact a_ret dX9_follow_103 rfl (Nat.le_of_ble_eq_true rfl) (Nat.le_of_ble_eq_true rfl) (hp)
      · exact absurd e c16
    · rw [if_neg e] at hf
      split at hf
      · cases hf
      · rename_i k hk
        have hk2 := fkF_spec 144 _ k (fun i hi => by have := lb_spec hi; exact ⟨this.1, this.2.1, this.2.2.1⟩) hk
        have h4 := mTo_lt hg hk2.2.1
        have hq2 := fun L4 => ih (mTo G Y.2.1 k) (r - Y.2.2.2.1 k) (va_up q.1 q.2 k, q.2 + 1) L4 h4 (by show q.2 + 1 + m ≤ 24; omega) hf
        refine a_iload_n (q := 10) dX9_follow_9 rfl rfl rfl ?_
        refine a_aload_n (q := 11) dX9_follow_10 rfl rfl rfl ?_
        refine a_getB (q := 14) dX9_follow_11 fX9_7 rfl rfl rfl ?_
        refine a_iconst (q := 15) (nI 1) dX9_follow_14 (by decide) rfl ?_
        refine a_isubN (q := 16) dX9_follow_15 (by omega) rfl ?_
        refine a_icmp_eqN (q := 19) 103 dX9_follow_16 (by decide) (by omega) (by omega) rfl (fun c16 => ?_) (fun c16 => ?_)
        · exact absurd c16 e
        · skip
          refine a_aload_n (q := 20) dX9_follow_19 rfl rfl rfl ?_
          refine a_iload_n (q := 21) dX9_follow_20 rfl rfl rfl ?_
          refine a_iconst (q := 22) (-1) dX9_follow_21 (by decide) rfl ?_
          refine a_cVBv (q := 25) _ dX9_follow_22 kX9_162 (m_linkBehind (G := G) (L := q) hg v (by omega) none (fun i hi => by cases hi)) rfl rfl rfl (Nat.le_of_ble_eq_true rfl) ⟨(Nat.le_of_ble_eq_true rfl), (Nat.le_of_ble_eq_true rfl)⟩ ⟨(Nat.le_of_ble_eq_true rfl), (Nat.le_of_ble_eq_true rfl)⟩ rfl ?_
          refine a_istore (q := 27) dX9_follow_25 (Nat.le_of_ble_eq_true rfl) rfl rfl ?_
          refine l_fk (L := q) P x r v hg (by omega) k ?_ 144 _ (fun i hi => by have := lb_spec hi; exact ⟨by omega, this.2.1⟩) hk
          refine a_iload_n (q := 63) dX9_follow_62 rfl rfl rfl ?_
          refine a_aload_n (q := 64) dX9_follow_63 rfl rfl rfl ?_
          refine a_getB (q := 67) dX9_follow_64 fX9_33 rfl rfl rfl ?_
          refine a_iload (q := 69) dX9_follow_67 rfl rfl ?_
          show AW _ _ _ _ _ _ _ _ _ _ (.int (nI k) :: _) _ _ _
          refine a_ialdBI (q := 70) dX9_follow_69 rfl (by omega) (by decide) rfl ?_
          refine a_isub (q := 71) dX9_follow_70 rfl ?_
          refine a_istore_n (q := 72) dX9_follow_71 rfl (Nat.le_of_ble_eq_true rfl) rfl rfl ?_
          refine a_aload_n (q := 73) dX9_follow_72 rfl rfl rfl ?_
          refine a_getB (q := 76) dX9_follow_73 fX9_78 rfl rfl rfl ?_
          refine a_aload_n (q := 77) dX9_follow_76 rfl rfl rfl ?_
          refine a_getB (q := 80) dX9_follow_77 fX9_203 rfl rfl rfl ?_
          refine a_iload (q := 82) dX9_follow_80 rfl rfl ?_
          show AW _ _ _ _ _ _ _ _ _ _ (.int (nI k) :: _) _ _ _
          refine a_iastBN (q := 83) dX9_follow_82 rfl (by omega) (by decide) rfl ?_
          refine a_aload_n (q := 84) dX9_follow_83 rfl rfl rfl ?_
          refine a_dup (q := 85) dX9_follow_84 rfl rfl ?_
          refine a_getB (q := 88) dX9_follow_85 fX9_203 rfl rfl rfl ?_
          refine a_iconst (q := 89) (nI 1) dX9_follow_88 (by decide) rfl ?_
          refine a_iaddN (q := 90) dX9_follow_89 rfl ?_
          refine a_putB (q := 93) dX9_follow_90 fX9_203 (fun h => nomatch h) rfl (Nat.le_of_ble_eq_true rfl) rfl rfl rfl ?_
          refine a_aload_n (q := 94) dX9_follow_93 rfl rfl rfl ?_
          refine a_iload (q := 96) dX9_follow_94 rfl rfl ?_
          refine a_cVBv (q := 99) _ dX9_follow_96 kX9_165 (m_linkTo (G := G) (L := (va_up q.1 q.2 k, q.2 + 1)) k (by omega) (by omega)) rfl rfl rfl (Nat.le_of_ble_eq_true rfl) ⟨(Nat.le_of_ble_eq_true rfl), (Nat.le_of_ble_eq_true rfl)⟩ ⟨(Nat.le_of_ble_eq_true rfl), (Nat.le_of_ble_eq_true rfl)⟩ rfl ?_
          refine a_istore_n (q := 100) dX9_follow_99 rfl (Nat.le_of_ble_eq_true rfl) rfl rfl ?_
          refine a_goto 9 dX9_follow_100 (by decide) ?_
          exact hq2 _
theorem m_follow (x : Int32) (hg : gok G) (q' : La) (hf : fol G Y.2.1 Y.2.2.1 Y.2.2.2.1 x L = some q') : Ct g mX9_follow [.ref (g.2.1 + 0), .int x] 0 A (BM g G T th Y W R Z U L h O) 0 0 (rP none A (BM g G T th Y W R Z U q' h O)) noX := by
  obtain ⟨g1, g2, g3, g4, g5⟩ := id hg
  refine Ct.of [some (.ref (g.2.1 + 0)), some (.int x), none, none, none] (by decide) rfl (Nat.le_of_ble_eq_true rfl) rfl ?_
  refine a_aload_n (q := 1) dX9_follow_0 rfl rfl rfl ?_
  refine a_iconst (q := 2) (nI 0) dX9_follow_1 (by decide) rfl ?_
  refine a_putB (q := 5) dX9_follow_2 fX9_203 (fun h => nomatch h) rfl (Nat.le_of_ble_eq_true rfl) rfl rfl rfl ?_
  refine a_iload_n (q := 6) dX9_follow_5 rfl rfl rfl ?_
  refine a_istore_n (q := 7) dX9_follow_6 rfl (Nat.le_of_ble_eq_true rfl) rfl rfl ?_
  refine a_iconst (q := 8) (nI 0) dX9_follow_7 (by decide) rfl ?_
  refine a_istore_n (q := 9) dX9_follow_8 rfl (Nat.le_of_ble_eq_true rfl) rfl rfl ?_
  exact l_fo _ x hg q' ⟨rfl, rfl, rfl, rfl⟩ 12 0 x (L.1, 0) _ (by omega) (by show 0 + 12 ≤ 24; omega) hf
theorem m_beginsInside (h1 : L.1 0 < 48) : Ct g mX9_beginsInside [.ref (g.2.1 + 0)] 0 A (BM g G T th Y W R Z U L h O) 0 0 (rP (some (.int (b2 (bgn Y.2.1 L)))) A (BM g G T th Y W R Z U L h O)) noX := by
  have h2 := mKd_lt (bk := Y.2.1) (k := L.1 0)
  refine Ct.of [some (.ref (g.2.1 + 0))] (by decide) rfl (Nat.le_of_ble_eq_true rfl) rfl ?_
  unfold bgn
  refine a_aload_n (q := 1) dX9_beginsInside_0 rfl rfl rfl ?_
  refine a_aload_n (q := 2) dX9_beginsInside_1 rfl rfl rfl ?_
  refine a_getB (q := 5) dX9_beginsInside_2 fX9_78 rfl rfl rfl ?_
  refine a_iconst (q := 6) (nI 0) dX9_beginsInside_5 (by decide) rfl ?_
  refine a_ialdBN (q := 7) dX9_beginsInside_6 rfl (by omega) (by decide) rfl ?_
  refine a_cVBv (q := 10) _ dX9_beginsInside_7 kX9_159 (m_kind (L.1 0) h1) rfl rfl rfl (Nat.le_of_ble_eq_true rfl) ⟨(Nat.le_of_ble_eq_true rfl), (Nat.le_of_ble_eq_true rfl)⟩ ⟨(Nat.le_of_ble_eq_true rfl), (Nat.le_of_ble_eq_true rfl)⟩ rfl ?_
  refine a_iconst (q := 11) (nI 2) dX9_beginsInside_10 (by decide) rfl ?_
  refine a_icmp_neN (q := 14) 18 dX9_beginsInside_11 (by decide) (by omega) (by omega) rfl (fun c11 => ?_) (fun c11 => ?_)
  · rw [decide_eq_false c11]
    refine a_iconst (q := 19) (b2 false) dX9_beginsInside_18 (by decide) rfl ?_
    exact a_iret dX9_beginsInside_19 rfl (b2_narrow _) (Nat.le_of_ble_eq_true rfl) (Nat.le_of_ble_eq_true rfl) (⟨rfl, rfl, rfl, rfl⟩)
  · rw [decide_eq_true c11]
    refine a_iconst (q := 15) (b2 true) dX9_beginsInside_14 (by decide) rfl ?_
    refine a_goto 19 dX9_beginsInside_15 (by decide) ?_
    exact a_iret dX9_beginsInside_19 rfl (b2_narrow _) (Nat.le_of_ble_eq_true rfl) (Nat.le_of_ble_eq_true rfl) (⟨rfl, rfl, rfl, rfl⟩)
theorem m_endsInside (h0 : 1 ≤ L.2) (h2 : L.2 ≤ 12) (h1 : L.1 (L.2 - 1) < 48) : Ct g mX9_endsInside [.ref (g.2.1 + 0)] 0 A (BM g G T th Y W R Z U L h O) 0 0 (rP (some (.int (b2 (enn Y.2.1 L)))) A (BM g G T th Y W R Z U L h O)) noX := by
  have h3 := mKd_lt (bk := Y.2.1) (k := L.1 (L.2 - 1))
  refine Ct.of [some (.ref (g.2.1 + 0))] (by decide) rfl (Nat.le_of_ble_eq_true rfl) rfl ?_
  unfold enn
  refine a_aload_n (q := 1) dX9_endsInside_0 rfl rfl rfl ?_
  refine a_aload_n (q := 2) dX9_endsInside_1 rfl rfl rfl ?_
  refine a_getB (q := 5) dX9_endsInside_2 fX9_78 rfl rfl rfl ?_
  refine a_aload_n (q := 6) dX9_endsInside_5 rfl rfl rfl ?_
  refine a_getB (q := 9) dX9_endsInside_6 fX9_203 rfl rfl rfl ?_
  refine a_iconst (q := 10) (nI 1) dX9_endsInside_9 (by decide) rfl ?_
  refine a_isubN (q := 11) dX9_endsInside_10 (by omega) rfl ?_
  refine a_ialdBN (q := 12) dX9_endsInside_11 rfl (by omega) (by decide) rfl ?_
  refine a_cVBv (q := 15) _ dX9_endsInside_12 kX9_159 (m_kind (L.1 (L.2 - 1)) h1) rfl rfl rfl (Nat.le_of_ble_eq_true rfl) ⟨(Nat.le_of_ble_eq_true rfl), (Nat.le_of_ble_eq_true rfl)⟩ ⟨(Nat.le_of_ble_eq_true rfl), (Nat.le_of_ble_eq_true rfl)⟩ rfl ?_
  refine a_iconst (q := 16) (nI 1) dX9_endsInside_15 (by decide) rfl ?_
  refine a_icmp_neN (q := 19) 23 dX9_endsInside_16 (by decide) (by omega) (by omega) rfl (fun c16 => ?_) (fun c16 => ?_)
  · rw [decide_eq_false c16]
    refine a_iconst (q := 24) (b2 false) dX9_endsInside_23 (by decide) rfl ?_
    exact a_iret dX9_endsInside_24 rfl (b2_narrow _) (Nat.le_of_ble_eq_true rfl) (Nat.le_of_ble_eq_true rfl) (⟨rfl, rfl, rfl, rfl⟩)
  · rw [decide_eq_true c16]
    refine a_iconst (q := 20) (b2 true) dX9_endsInside_19 (by decide) rfl ?_
    refine a_goto 24 dX9_endsInside_20 (by decide) ?_
    exact a_iret dX9_endsInside_24 rfl (b2_narrow _) (Nat.le_of_ble_eq_true rfl) (Nat.le_of_ble_eq_true rfl) (⟨rfl, rfl, rfl, rfl⟩)
theorem m_visited (h0 : 1 ≤ L.2) (h2 : L.2 ≤ 12) (h1 : ∀ i, i < L.2 → L.1 i < 48) : Ct g mX9_visited [.ref (g.2.1 + 0)] 0 A (BM g G T th Y W R Z U L h O) 0 0 (rP (some (.int (nI (vsN Y.2.1 L)))) A (BM g G T th Y W R Z U L h O)) noX := by
  refine Ct.of [some (.ref (g.2.1 + 0))] (by decide) rfl (Nat.le_of_ble_eq_true rfl) rfl ?_
  unfold vsN
  refine a_aload_n (q := 1) dX9_visited_0 rfl rfl rfl ?_
  refine a_getB (q := 4) dX9_visited_1 fX9_203 rfl rfl rfl ?_
  refine a_iconst (q := 5) (nI 1) dX9_visited_4 (by decide) rfl ?_
  refine a_iaddN (q := 6) dX9_visited_5 rfl ?_
  refine a_aload_n (q := 7) dX9_visited_6 rfl rfl rfl ?_
  refine a_cVBv (q := 10) _ dX9_visited_7 kX9_206 (m_beginsInside (h1 0 (by omega))) rfl rfl rfl (Nat.le_of_ble_eq_true rfl) ⟨(Nat.le_of_ble_eq_true rfl), (Nat.le_of_ble_eq_true rfl)⟩ ⟨(Nat.le_of_ble_eq_true rfl), (Nat.le_of_ble_eq_true rfl)⟩ rfl ?_
  refine a_if_eqZ (q := 13) 17 dX9_visited_10 (by decide) rfl (fun c10 => ?_) (fun c10 => ?_)
  · rw [if_neg (show ¬ bgn Y.2.1 L = true by rw [c10]; decide)]
    refine a_iconst (q := 18) (nI 0) dX9_visited_17 (by decide) rfl ?_
    refine a_isubN (q := 19) dX9_visited_18 (by omega) rfl ?_
    refine a_aload_n (q := 20) dX9_visited_19 rfl rfl rfl ?_
    refine a_cVBv (q := 23) _ dX9_visited_20 kX9_209 (m_endsInside h0 h2 (h1 (L.2 - 1) (by omega))) rfl rfl rfl (Nat.le_of_ble_eq_true rfl) ⟨(Nat.le_of_ble_eq_true rfl), (Nat.le_of_ble_eq_true rfl)⟩ ⟨(Nat.le_of_ble_eq_true rfl), (Nat.le_of_ble_eq_true rfl)⟩ rfl ?_
    refine a_if_eqZ (q := 26) 30 dX9_visited_23 (by decide) rfl (fun c23 => ?_) (fun c23 => ?_)
    · rw [if_neg (show ¬ enn Y.2.1 L = true by rw [c23]; decide)]
      refine a_iconst (q := 31) (nI 0) dX9_visited_30 (by decide) rfl ?_
      refine a_isubN (q := 32) dX9_visited_31 (by omega) rfl ?_
      exact a_iret dX9_visited_32 rfl rfl (Nat.le_of_ble_eq_true rfl) (Nat.le_of_ble_eq_true rfl) (⟨rfl, rfl, rfl, rfl⟩)
    · rw [if_pos (show enn Y.2.1 L = true from c23)]
      refine a_iconst (q := 27) (nI 1) dX9_visited_26 (by decide) rfl ?_
      refine a_goto 31 dX9_visited_27 (by decide) ?_
      refine a_isubN (q := 32) dX9_visited_31 (by omega) rfl ?_
      exact a_iret dX9_visited_32 rfl rfl (Nat.le_of_ble_eq_true rfl) (Nat.le_of_ble_eq_true rfl) (⟨rfl, rfl, rfl, rfl⟩)
  · rw [if_pos (show bgn Y.2.1 L = true from c10)]
    refine a_iconst (q := 14) (nI 1) dX9_visited_13 (by decide) rfl ?_
    refine a_goto 18 dX9_visited_14 (by decide) ?_
    refine a_isubN (q := 19) dX9_visited_18 (by omega) rfl ?_
    refine a_aload_n (q := 20) dX9_visited_19 rfl rfl rfl ?_
    refine a_cVBv (q := 23) _ dX9_visited_20 kX9_209 (m_endsInside h0 h2 (h1 (L.2 - 1) (by omega))) rfl rfl rfl (Nat.le_of_ble_eq_true rfl) ⟨(Nat.le_of_ble_eq_true rfl), (Nat.le_of_ble_eq_true rfl)⟩ ⟨(Nat.le_of_ble_eq_true rfl), (Nat.le_of_ble_eq_true rfl)⟩ rfl ?_
    refine a_if_eqZ (q := 26) 30 dX9_visited_23 (by decide) rfl (fun c23 => ?_) (fun c23 => ?_)
    · rw [if_neg (show ¬ enn Y.2.1 L = true by rw [c23]; decide)]
      refine a_iconst (q := 31) (nI 0) dX9_visited_30 (by decide) rfl ?_
      refine a_isubN (q := 32) dX9_visited_31 (by omega) rfl ?_
      exact a_iret dX9_visited_32 rfl rfl (Nat.le_of_ble_eq_true rfl) (Nat.le_of_ble_eq_true rfl) (⟨rfl, rfl, rfl, rfl⟩)
    · rw [if_pos (show enn Y.2.1 L = true from c23)]
      refine a_iconst (q := 27) (nI 1) dX9_visited_26 (by decide) rfl ?_
      refine a_goto 31 dX9_visited_27 (by decide) ?_
      refine a_isubN (q := 32) dX9_visited_31 (by omega) rfl ?_
      exact a_iret dX9_visited_32 rfl rfl (Nat.le_of_ble_eq_true rfl) (Nat.le_of_ble_eq_true rfl) (⟨rfl, rfl, rfl, rfl⟩)
theorem m_visitedNode (k : Nat) (hk : k < 12) (h0 : 1 ≤ L.2) (h2 : L.2 ≤ 12) (h1 : ∀ i, i < L.2 → L.1 i < 48) (h3 : vnI Y.2.1 L k ≤ L.2) (hn : 1 ≤ G.1) : Ct g mX9_visitedNode [.ref (g.2.1 + 0), .int (nI k)] 0 A (BM g G T th Y W R Z U L h O) 0 0 (rP (some (.int (nI (vnN G Y.2.1 L k)))) A (BM g G T th Y W R Z U L h O)) noX := by
  have hst : ∀ i, i ≤ L.2 → AW g mX9_visitedNode 0 0 (rP (some (.int (nI (if i = 0 then 0 else mTo G Y.2.1 (L.1 (i - 1)))))) A (BM g G T th Y W R Z U L h O)) noX 0 0 15 [some (.ref (g.2.1 + 0)), some (.int (nI k)), some (.int (nI i))] [] 0 A (BM g G T th Y W R Z U L h O) := fun i hi => by
    skip
    refine a_iload_n (q := 16) dX9_visitedNode_15 rfl rfl rfl ?_
    refine a_if_neN (q := 19) 23 dX9_visitedNode_16 (by decide) (by omega) rfl (fun c16 => ?_) (fun c16 => ?_)
    · rw [if_neg (by omega)]
      refine a_aload_n (q := 24) dX9_visitedNode_23 rfl rfl rfl ?_
      refine a_aload_n (q := 25) dX9_visitedNode_24 rfl rfl rfl ?_
      refine a_getB (q := 28) dX9_visitedNode_25 fX9_78 rfl rfl rfl ?_
      refine a_iload_n (q := 29) dX9_visitedNode_28 rfl rfl rfl ?_
      refine a_iconst (q := 30) (nI 1) dX9_visitedNode_29 (by decide) rfl ?_
      refine a_isubN (q := 31) dX9_visitedNode_30 (by omega) rfl ?_
      refine a_ialdBN (q := 32) dX9_visitedNode_31 rfl (by omega) (by decide) rfl ?_
      refine a_cVBv (q := 35) _ dX9_visitedNode_32 kX9_165 (m_linkTo (L.1 (i - 1)) (h1 _ (by omega)) hn) rfl rfl rfl (Nat.le_of_ble_eq_true rfl) ⟨(Nat.le_of_ble_eq_true rfl), (Nat.le_of_ble_eq_true rfl)⟩ ⟨(Nat.le_of_ble_eq_true rfl), (Nat.le_of_ble_eq_true rfl)⟩ rfl ?_
      exact a_iret dX9_visitedNode_35 rfl rfl (Nat.le_of_ble_eq_true rfl) (Nat.le_of_ble_eq_true rfl) (⟨rfl, rfl, rfl, rfl⟩)
    · rw [if_pos (by omega)]
      refine a_iconst (q := 20) (nI 0) dX9_visitedNode_19 (by decide) rfl ?_
      refine a_goto 35 dX9_visitedNode_20 (by decide) ?_
      exact a_iret dX9_visitedNode_35 rfl rfl (Nat.le_of_ble_eq_true rfl) (Nat.le_of_ble_eq_true rfl) (⟨rfl, rfl, rfl, rfl⟩)
  refine Ct.of [some (.ref (g.2.1 + 0)), some (.int (nI k)), none] (by decide) rfl (Nat.le_of_ble_eq_true rfl) rfl ?_
  unfold vnN
  refine a_aload_n (q := 1) dX9_visitedNode_0 rfl rfl rfl ?_
  refine a_cVBv (q := 4) _ dX9_visitedNode_1 kX9_206 (m_beginsInside (h1 0 (by omega))) rfl rfl rfl (Nat.le_of_ble_eq_true rfl) ⟨(Nat.le_of_ble_eq_true rfl), (Nat.le_of_ble_eq_true rfl)⟩ ⟨(Nat.le_of_ble_eq_true rfl), (Nat.le_of_ble_eq_true rfl)⟩ rfl ?_
  refine a_if_eqZ (q := 7) 13 dX9_visitedNode_4 (by decide) rfl (fun c4 => ?_) (fun c4 => ?_)
  · have hs : vnI Y.2.1 L k = k := if_neg (show ¬ bgn Y.2.1 L = true by rw [c4]; decide)
    rw [hs] at h3 ⊢
    refine a_iload_n (q := 14) dX9_visitedNode_13 rfl rfl rfl ?_
    refine a_istore_n (q := 15) dX9_visitedNode_14 rfl (Nat.le_of_ble_eq_true rfl) rfl rfl ?_
    exact hst _ h3
  · have hs : vnI Y.2.1 L k = k + 1 := if_pos (show bgn Y.2.1 L = true from c4)
    rw [hs] at h3 ⊢
    refine a_iload_n (q := 8) dX9_visitedNode_7 rfl rfl rfl ?_
    refine a_iconst (q := 9) (nI 1) dX9_visitedNode_8 (by decide) rfl ?_
    refine a_iaddN (q := 10) dX9_visitedNode_9 rfl ?_
    refine a_goto 14 dX9_visitedNode_10 (by decide) ?_
    refine a_istore_n (q := 15) dX9_visitedNode_14 rfl (Nat.le_of_ble_eq_true rfl) rfl rfl ?_
    exact hst _ h3
theorem m_lengthNow (x : Int32) (hg : gok G) (q' : La) (hf : fol G Y.2.1 Y.2.2.1 Y.2.2.2.1 x L = some q') : Ct g mX9_lengthNow [.ref (g.2.1 + 0), .int x] 0 A (BM g G T th Y W R Z U L h O) 0 0 (rP (some (.int (nI (vsN Y.2.1 q')))) A (BM g G T th Y W R Z U q' h O)) noX := by
  obtain ⟨g1, g2, g3, g4, g5⟩ := id hg
  obtain ⟨f1, f2, f3⟩ := fol_ok g3 g1 hf
  refine Ct.of [some (.ref (g.2.1 + 0)), some (.int x)] (by decide) rfl (Nat.le_of_ble_eq_true rfl) rfl ?_
  refine a_aload_n (q := 1) dX9_lengthNow_0 rfl rfl rfl ?_
  refine a_iload_n (q := 2) dX9_lengthNow_1 rfl rfl rfl ?_
  refine a_cVB0 (q := 5) _ dX9_lengthNow_2 kX9_212 (m_follow x hg q' hf) rfl rfl rfl (Nat.le_of_ble_eq_true rfl) ⟨(Nat.le_of_ble_eq_true rfl), (Nat.le_of_ble_eq_true rfl)⟩ ⟨(Nat.le_of_ble_eq_true rfl), (Nat.le_of_ble_eq_true rfl)⟩ rfl ?_
  refine a_aload_n (q := 6) dX9_lengthNow_5 rfl rfl rfl ?_
  refine a_cVBv (q := 9) _ dX9_lengthNow_6 kX9_216 (m_visited (L := q') f1 f2 f3) rfl rfl rfl (Nat.le_of_ble_eq_true rfl) ⟨(Nat.le_of_ble_eq_true rfl), (Nat.le_of_ble_eq_true rfl)⟩ ⟨(Nat.le_of_ble_eq_true rfl), (Nat.le_of_ble_eq_true rfl)⟩ rfl ?_
  exact a_iret dX9_lengthNow_9 rfl rfl (Nat.le_of_ble_eq_true rfl) (Nat.le_of_ble_eq_true rfl) (⟨rfl, rfl, rfl, rfl⟩)
theorem m_pathLength (x : Int32) (hg : gok G) (ha : mPt Y.1 x (Y.2.2.1 0) = true) (q' : La) (hf : fol G Y.2.1 Y.2.2.1 Y.2.2.2.1 x L = some q') : Ct g mX9_pathLength [.ref (g.2.1 + 0), .int x] 0 A (BM g G T th Y W R Z U L h O) 0 0 (rP (some (.int (nI (vsN Y.2.1 q')))) A (BM g G T 0 Y W R Z U q' h O)) noX := by
  have hl : lkN Y.1 (mPt Y.1 x (Y.2.2.1 0)) = 0 := by rw [ha]; unfold mPt at ha; rw [(Bool.and_eq_true _ _ ▸ ha).1]; rfl
  refine Ct.of [some (.ref (g.2.1 + 0)), some (.int x)] (by decide) rfl (Nat.le_of_ble_eq_true rfl) rfl ?_
  refine a_aload_n (q := 1) dX9_pathLength_0 rfl rfl rfl ?_
  refine a_aload_n (q := 2) dX9_pathLength_1 rfl rfl rfl ?_
  refine a_aload_n (q := 3) dX9_pathLength_2 rfl rfl rfl ?_
  refine a_iload_n (q := 4) dX9_pathLength_3 rfl rfl rfl ?_
  refine a_cVBv (q := 7) _ dX9_pathLength_4 kX9_219 (m_isPath x) rfl rfl rfl (Nat.le_of_ble_eq_true rfl) ⟨(Nat.le_of_ble_eq_true rfl), (Nat.le_of_ble_eq_true rfl)⟩ ⟨(Nat.le_of_ble_eq_true rfl), (Nat.le_of_ble_eq_true rfl)⟩ rfl ?_
  refine a_cVBv (q := 10) _ dX9_pathLength_7 kX9_192 (m_lack _) rfl rfl rfl (Nat.le_of_ble_eq_true rfl) ⟨(Nat.le_of_ble_eq_true rfl), (Nat.le_of_ble_eq_true rfl)⟩ ⟨(Nat.le_of_ble_eq_true rfl), (Nat.le_of_ble_eq_true rfl)⟩ rfl ?_
  rw [hl]
  refine a_putB (q := 13) dX9_pathLength_10 fX9_81 (fun h => nomatch h) rfl (Nat.le_of_ble_eq_true rfl) rfl rfl rfl ?_
  refine a_aload_n (q := 14) dX9_pathLength_13 rfl rfl rfl ?_
  refine a_getB (q := 17) dX9_pathLength_14 fX9_81 rfl rfl rfl ?_
  refine a_if_leN (q := 20) 24 dX9_pathLength_17 (by decide) (by omega) rfl (fun c17 => ?_) (fun c17 => ?_)
  · skip
    refine a_aload_n (q := 25) dX9_pathLength_24 rfl rfl rfl ?_
    refine a_iload_n (q := 26) dX9_pathLength_25 rfl rfl rfl ?_
    refine a_cVBv (q := 29) _ dX9_pathLength_26 kX9_222 (m_lengthNow (G := G) (th := 0) x hg q' hf) rfl rfl rfl (Nat.le_of_ble_eq_true rfl) ⟨(Nat.le_of_ble_eq_true rfl), (Nat.le_of_ble_eq_true rfl)⟩ ⟨(Nat.le_of_ble_eq_true rfl), (Nat.le_of_ble_eq_true rfl)⟩ rfl ?_
    exact a_iret dX9_pathLength_29 rfl rfl (Nat.le_of_ble_eq_true rfl) (Nat.le_of_ble_eq_true rfl) (⟨rfl, rfl, rfl, rfl⟩)
  · exact absurd c17 (by decide)
theorem mx_pathLength (x : Int32) (hl : 0 < lkN Y.1 (mPt Y.1 x (Y.2.2.1 0))) : Ct g mX9_pathLength [.ref (g.2.1 + 0), .int x] 0 A (BM g G T th Y W R Z U L h O) 0 0 (rP (some (.int (nI 0))) A (BM g G T (lkN Y.1 (mPt Y.1 x (Y.2.2.1 0))) Y W R Z U L h O)) noX := by
  have h9 := lkN_le (an := Y.1) (ok := mPt Y.1 x (Y.2.2.1 0))
  refine Ct.of [some (.ref (g.2.1 + 0)), some (.int x)] (by decide) rfl (Nat.le_of_ble_eq_true rfl) rfl ?_
  refine a_aload_n (q := 1) dX9_pathLength_0 rfl rfl rfl ?_
  refine a_aload_n (q := 2) dX9_pathLength_1 rfl rfl rfl ?_
  refine a_aload_n (q := 3) dX9_pathLength_2 rfl rfl rfl ?_
  refine a_iload_n (q := 4) dX9_pathLength_3 rfl rfl rfl ?_
  refine a_cVBv (q := 7) _ dX9_pathLength_4 kX9_219 (m_isPath x) rfl rfl rfl (Nat.le_of_ble_eq_true rfl) ⟨(Nat.le_of_ble_eq_true rfl), (Nat.le_of_ble_eq_true rfl)⟩ ⟨(Nat.le_of_ble_eq_true rfl), (Nat.le_of_ble_eq_true rfl)⟩ rfl ?_
  refine a_cVBv (q := 10) _ dX9_pathLength_7 kX9_192 (m_lack _) rfl rfl rfl (Nat.le_of_ble_eq_true rfl) ⟨(Nat.le_of_ble_eq_true rfl), (Nat.le_of_ble_eq_true rfl)⟩ ⟨(Nat.le_of_ble_eq_true rfl), (Nat.le_of_ble_eq_true rfl)⟩ rfl ?_
  refine a_putB (q := 13) dX9_pathLength_10 fX9_81 (fun h => nomatch h) rfl (Nat.le_of_ble_eq_true rfl) rfl rfl rfl ?_
  refine a_aload_n (q := 14) dX9_pathLength_13 rfl rfl rfl ?_
  refine a_getB (q := 17) dX9_pathLength_14 fX9_81 rfl rfl rfl ?_
  refine a_if_leN (q := 20) 24 dX9_pathLength_17 (by decide) (by omega) rfl (fun c17 => ?_) (fun c17 => ?_)
  · omega
  · skip
    refine a_iconst (q := 21) (nI 0) dX9_pathLength_20 (by decide) rfl ?_
    refine a_goto 29 dX9_pathLength_21 (by decide) ?_
    exact a_iret dX9_pathLength_29 rfl rfl (Nat.le_of_ble_eq_true rfl) (Nat.le_of_ble_eq_true rfl) (⟨rfl, rfl, rfl, rfl⟩)
theorem m_edgeNow (x : Int32) (b : Bool) (hg : gok G) (q' : La) (hf : fol G Y.2.1 Y.2.2.1 Y.2.2.2.1 x L = some q') : Ct g mX9_edgeNow [.ref (g.2.1 + 0), .int x, .int (b2 b)] 0 A (BM g G T th Y W R Z U L h O) 0 0 (rP (some (.int (enM Y.2.1 q' b))) A (BM g G T th Y W R Z U q' h O)) noX := by
  obtain ⟨g1, g2, g3, g4, g5⟩ := id hg
  obtain ⟨f1, f2, f3⟩ := fol_ok g3 g1 hf
  have f4 := f3 0 (by omega)
  have f5 := f3 (q'.2 - 1) (by omega)
  refine Ct.of [some (.ref (g.2.1 + 0)), some (.int x), some (.int (b2 b))] (by decide) rfl (Nat.le_of_ble_eq_true rfl) rfl ?_
  unfold enM
  refine a_aload_n (q := 1) dX9_edgeNow_0 rfl rfl rfl ?_
  refine a_iload_n (q := 2) dX9_edgeNow_1 rfl rfl rfl ?_
  refine a_cVB0 (q := 5) _ dX9_edgeNow_2 kX9_212 (m_follow x hg q' hf) rfl rfl rfl (Nat.le_of_ble_eq_true rfl) ⟨(Nat.le_of_ble_eq_true rfl), (Nat.le_of_ble_eq_true rfl)⟩ ⟨(Nat.le_of_ble_eq_true rfl), (Nat.le_of_ble_eq_true rfl)⟩ rfl ?_
  refine a_iload_n (q := 6) dX9_edgeNow_5 rfl rfl rfl ?_
  refine a_if_eqZ (q := 9) 34 dX9_edgeNow_6 (by decide) rfl (fun c6 => ?_) (fun c6 => ?_)
  · rw [if_neg (show ¬ b = true by rw [c6]; decide)]
    refine a_aload_n (q := 35) dX9_edgeNow_34 rfl rfl rfl ?_
    refine a_cVBv (q := 38) _ dX9_edgeNow_35 kX9_206 (m_beginsInside (L := q') f4) rfl rfl rfl (Nat.le_of_ble_eq_true rfl) ⟨(Nat.le_of_ble_eq_true rfl), (Nat.le_of_ble_eq_true rfl)⟩ ⟨(Nat.le_of_ble_eq_true rfl), (Nat.le_of_ble_eq_true rfl)⟩ rfl ?_
    refine a_if_eqZ (q := 41) 52 dX9_edgeNow_38 (by decide) rfl (fun c38 => ?_) (fun c38 => ?_)
    · rw [if_neg (show ¬ bgn Y.2.1 q' = true by rw [c38]; decide)]
      refine a_iconst (q := 53) (-1) dX9_edgeNow_52 (by decide) rfl ?_
      exact a_iret dX9_edgeNow_53 rfl rfl (Nat.le_of_ble_eq_true rfl) (Nat.le_of_ble_eq_true rfl) (⟨rfl, rfl, rfl, rfl⟩)
    · rw [if_pos (show bgn Y.2.1 q' = true from c38)]
      refine a_aload_n (q := 42) dX9_edgeNow_41 rfl rfl rfl ?_
      refine a_getB (q := 45) dX9_edgeNow_42 fX9_78 rfl rfl rfl ?_
      refine a_iconst (q := 46) (nI 0) dX9_edgeNow_45 (by decide) rfl ?_
      refine a_ialdBN (q := 47) dX9_edgeNow_46 rfl (by omega) (by decide) rfl ?_
      refine a_iconst (q := 48) (nI 2) dX9_edgeNow_47 (by decide) rfl ?_
      refine a_idivN (q := 49) dX9_edgeNow_48 (by omega) ⟨by omega, by decide⟩ rfl ?_
      refine a_goto 53 dX9_edgeNow_49 (by decide) ?_
      exact a_iret dX9_edgeNow_53 rfl rfl (Nat.le_of_ble_eq_true rfl) (Nat.le_of_ble_eq_true rfl) (⟨rfl, rfl, rfl, rfl⟩)
  · rw [if_pos (show b = true from c6)]
    refine a_aload_n (q := 10) dX9_edgeNow_9 rfl rfl rfl ?_
    refine a_cVBv (q := 13) _ dX9_edgeNow_10 kX9_209 (m_endsInside (L := q') f1 f2 f5) rfl rfl rfl (Nat.le_of_ble_eq_true rfl) ⟨(Nat.le_of_ble_eq_true rfl), (Nat.le_of_ble_eq_true rfl)⟩ ⟨(Nat.le_of_ble_eq_true rfl), (Nat.le_of_ble_eq_true rfl)⟩ rfl ?_
    refine a_if_eqZ (q := 16) 32 dX9_edgeNow_13 (by decide) rfl (fun c13 => ?_) (fun c13 => ?_)
    · rw [if_neg (show ¬ enn Y.2.1 q' = true by rw [c13]; decide)]
      refine a_iconst (q := 33) (-1) dX9_edgeNow_32 (by decide) rfl ?_
      exact a_iret dX9_edgeNow_33 rfl rfl (Nat.le_of_ble_eq_true rfl) (Nat.le_of_ble_eq_true rfl) (⟨rfl, rfl, rfl, rfl⟩)
    · rw [if_pos (show enn Y.2.1 q' = true from c13)]
      refine a_aload_n (q := 17) dX9_edgeNow_16 rfl rfl rfl ?_
      refine a_getB (q := 20) dX9_edgeNow_17 fX9_78 rfl rfl rfl ?_
      refine a_aload_n (q := 21) dX9_edgeNow_20 rfl rfl rfl ?_
      refine a_getB (q := 24) dX9_edgeNow_21 fX9_203 rfl rfl rfl ?_
      refine a_iconst (q := 25) (nI 1) dX9_edgeNow_24 (by decide) rfl ?_
      refine a_isubN (q := 26) dX9_edgeNow_25 (by omega) rfl ?_
      refine a_ialdBN (q := 27) dX9_edgeNow_26 rfl (by omega) (by decide) rfl ?_
      refine a_iconst (q := 28) (nI 2) dX9_edgeNow_27 (by decide) rfl ?_
      refine a_idivN (q := 29) dX9_edgeNow_28 (by omega) ⟨by omega, by decide⟩ rfl ?_
      refine a_goto 33 dX9_edgeNow_29 (by decide) ?_
      exact a_iret dX9_edgeNow_33 rfl rfl (Nat.le_of_ble_eq_true rfl) (Nat.le_of_ble_eq_true rfl) (⟨rfl, rfl, rfl, rfl⟩)
theorem m_pathEdge (x : Int32) (b : Bool) (hg : gok G) (ha : mPt Y.1 x (Y.2.2.1 0) = true) (q' : La) (hf : fol G Y.2.1 Y.2.2.1 Y.2.2.2.1 x L = some q') : Ct g mX9_pathEdge [.ref (g.2.1 + 0), .int x, .int (b2 b)] 0 A (BM g G T th Y W R Z U L h O) 0 0 (rP (some (.int (enM Y.2.1 q' b))) A (BM g G T 0 Y W R Z U q' h O)) noX := by
  have hl : lkN Y.1 (mPt Y.1 x (Y.2.2.1 0)) = 0 := by rw [ha]; unfold mPt at ha; rw [(Bool.and_eq_true _ _ ▸ ha).1]; rfl
  refine Ct.of [some (.ref (g.2.1 + 0)), some (.int x), some (.int (b2 b))] (by decide) rfl (Nat.le_of_ble_eq_true rfl) rfl ?_
  refine a_aload_n (q := 1) dX9_pathEdge_0 rfl rfl rfl ?_
  refine a_aload_n (q := 2) dX9_pathEdge_1 rfl rfl rfl ?_
  refine a_aload_n (q := 3) dX9_pathEdge_2 rfl rfl rfl ?_
  refine a_iload_n (q := 4) dX9_pathEdge_3 rfl rfl rfl ?_
  refine a_cVBv (q := 7) _ dX9_pathEdge_4 kX9_219 (m_isPath x) rfl rfl rfl (Nat.le_of_ble_eq_true rfl) ⟨(Nat.le_of_ble_eq_true rfl), (Nat.le_of_ble_eq_true rfl)⟩ ⟨(Nat.le_of_ble_eq_true rfl), (Nat.le_of_ble_eq_true rfl)⟩ rfl ?_
  refine a_cVBv (q := 10) _ dX9_pathEdge_7 kX9_192 (m_lack _) rfl rfl rfl (Nat.le_of_ble_eq_true rfl) ⟨(Nat.le_of_ble_eq_true rfl), (Nat.le_of_ble_eq_true rfl)⟩ ⟨(Nat.le_of_ble_eq_true rfl), (Nat.le_of_ble_eq_true rfl)⟩ rfl ?_
  rw [hl]
  refine a_putB (q := 13) dX9_pathEdge_10 fX9_81 (fun h => nomatch h) rfl (Nat.le_of_ble_eq_true rfl) rfl rfl rfl ?_
  refine a_aload_n (q := 14) dX9_pathEdge_13 rfl rfl rfl ?_
  refine a_getB (q := 17) dX9_pathEdge_14 fX9_81 rfl rfl rfl ?_
  refine a_if_leN (q := 20) 24 dX9_pathEdge_17 (by decide) (by omega) rfl (fun c17 => ?_) (fun c17 => ?_)
  · skip
    refine a_aload_n (q := 25) dX9_pathEdge_24 rfl rfl rfl ?_
    refine a_iload_n (q := 26) dX9_pathEdge_25 rfl rfl rfl ?_
    refine a_iload_n (q := 27) dX9_pathEdge_26 rfl rfl rfl ?_
    refine a_cVBv (q := 30) _ dX9_pathEdge_27 kX9_228 (m_edgeNow (G := G) (th := 0) x b hg q' hf) rfl rfl rfl (Nat.le_of_ble_eq_true rfl) ⟨(Nat.le_of_ble_eq_true rfl), (Nat.le_of_ble_eq_true rfl)⟩ ⟨(Nat.le_of_ble_eq_true rfl), (Nat.le_of_ble_eq_true rfl)⟩ rfl ?_
    exact a_iret dX9_pathEdge_30 rfl rfl (Nat.le_of_ble_eq_true rfl) (Nat.le_of_ble_eq_true rfl) (⟨rfl, rfl, rfl, rfl⟩)
  · exact absurd c17 (by decide)
theorem mx_pathEdge (x : Int32) (b : Bool) (hl : 0 < lkN Y.1 (mPt Y.1 x (Y.2.2.1 0))) : Ct g mX9_pathEdge [.ref (g.2.1 + 0), .int x, .int (b2 b)] 0 A (BM g G T th Y W R Z U L h O) 0 0 (rP (some (.int (nI 0))) A (BM g G T (lkN Y.1 (mPt Y.1 x (Y.2.2.1 0))) Y W R Z U L h O)) noX := by
  have h9 := lkN_le (an := Y.1) (ok := mPt Y.1 x (Y.2.2.1 0))
  refine Ct.of [some (.ref (g.2.1 + 0)), some (.int x), some (.int (b2 b))] (by decide) rfl (Nat.le_of_ble_eq_true rfl) rfl ?_
  refine a_aload_n (q := 1) dX9_pathEdge_0 rfl rfl rfl ?_
  refine a_aload_n (q := 2) dX9_pathEdge_1 rfl rfl rfl ?_
  refine a_aload_n (q := 3) dX9_pathEdge_2 rfl rfl rfl ?_
  refine a_iload_n (q := 4) dX9_pathEdge_3 rfl rfl rfl ?_
  refine a_cVBv (q := 7) _ dX9_pathEdge_4 kX9_219 (m_isPath x) rfl rfl rfl (Nat.le_of_ble_eq_true rfl) ⟨(Nat.le_of_ble_eq_true rfl), (Nat.le_of_ble_eq_true rfl)⟩ ⟨(Nat.le_of_ble_eq_true rfl), (Nat.le_of_ble_eq_true rfl)⟩ rfl ?_
  refine a_cVBv (q := 10) _ dX9_pathEdge_7 kX9_192 (m_lack _) rfl rfl rfl (Nat.le_of_ble_eq_true rfl) ⟨(Nat.le_of_ble_eq_true rfl), (Nat.le_of_ble_eq_true rfl)⟩ ⟨(Nat.le_of_ble_eq_true rfl), (Nat.le_of_ble_eq_true rfl)⟩ rfl ?_
  refine a_putB (q := 13) dX9_pathEdge_10 fX9_81 (fun h => nomatch h) rfl (Nat.le_of_ble_eq_true rfl) rfl rfl rfl ?_
  refine a_aload_n (q := 14) dX9_pathEdge_13 rfl rfl rfl ?_
  refine a_getB (q := 17) dX9_pathEdge_14 fX9_81 rfl rfl rfl ?_
  refine a_if_leN (q := 20) 24 dX9_pathEdge_17 (by decide) (by omega) rfl (fun c17 => ?_) (fun c17 => ?_)
  · omega
  · skip
    refine a_iconst (q := 21) (nI 0) dX9_pathEdge_20 (by decide) rfl ?_
    refine a_goto 30 dX9_pathEdge_21 (by decide) ?_
    exact a_iret dX9_pathEdge_30 rfl rfl (Nat.le_of_ble_eq_true rfl) (Nat.le_of_ble_eq_true rfl) (⟨rfl, rfl, rfl, rfl⟩)
end MPaths

