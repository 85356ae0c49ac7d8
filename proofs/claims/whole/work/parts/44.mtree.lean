/-! ===== the reference: do all nodes end, the numbers, the tree ===== -/
def aeS (G : Gr) (x : Int32) (k : Nat) : Int32 := x ||| (if (x >>> (nI (G.2.2.2.1 k) &&& 31)) &&& nI 1 = nI 1 then nI 1 <<< (nI (G.2.2.1 k) &&& 31) else nI 0)
def aeF (G : Gr) : Nat → Nat → Int32 → Int32
  | 0, _, x => x
  | m + 1, k, x => aeF G m (k + 1) (aeS G x k)
def aeN (G : Gr) : Nat → Int32 → Int32
  | 0, x => x
  | m + 1, x => aeN G m (aeF G G.2.1 0 x)
def aeA (G : Gr) : Bool := decide (aeN G G.1 (nI 1 <<< (nI (G.1 - 1) &&& 31)) = (nI 1 <<< (nI G.1 &&& 31)) - nI 1)
/-- where a link stands among all -/
def cod (bk : Nat → Bool) (k : Nat) : Nat := mKd bk k * 48 + k
theorem cod_lt {bk : Nat → Bool} {k : Nat} (hk : k < 48) : cod bk k < 144 := by
  unfold cod
  have := mKd_lt (bk := bk) (k := k)
  omega
theorem mCb_cod {bk : Nat → Bool} {a b : Nat} (ha : a < 48) (hb : b < 48) : mCb bk a b = decide (cod bk a < cod bk b) := by
  unfold mCb cod
  have h1 := mKd_lt (bk := bk) (k := a)
  have h2 := mKd_lt (bk := bk) (k := b)
  split
  · rename_i h
    rw [h]
    exact decide_eq_decide.mpr ⟨fun q => by omega, fun q => by omega⟩
  · exact decide_eq_decide.mpr ⟨fun q => by omega, fun q => by omega⟩
/-- one node's links are numbered -/
def nbF (G : Gr) (bk : Nat → Bool) (P : Nat → Int32) (v : Nat) : Nat → Option Nat → Int32 → (Nat → Int32) → Int32 × (Nat → Int32)
  | 0, _, c, V => (c, V)
  | _ + 1, none, c, V => (c, V)
  | m + 1, some k, c, V => nbF G bk P v m (lb G bk v (some k)) (c + P (mTo G bk k)) (va_up V k c)
abbrev Nu : Type := (Nat → Int32) × (Nat → Int32)
def nuS (G : Gr) (bk : Nat → Bool) (v : Nat) (x : Nu) : Nu := if v = G.1 - 1 then x else (va_up x.1 v (nbF G bk x.1 v 144 (lb G bk v none) (nI 0) x.2).1, (nbF G bk x.1 v 144 (lb G bk v none) (nI 0) x.2).2)
def nuF (G : Gr) (bk : Nat → Bool) (l : Nat → Nat) : Nat → Nat → Nu → Nu
  | 0, _, x => x
  | m + 1, i, x => nuF G bk l m (i + 1) (nuS G bk (l i) x)
def nu0 (G : Gr) (V : Nat → Int32) : Nu := (va_up (fun _ => nI 0) (G.1 - 1) (nI 1), V)
/-- which link is heavier -/
def hvr (G : Gr) (bk : Nat → Bool) (a b : Nat) : Bool := if G.2.2.2.2 (a / 2) = G.2.2.2.2 (b / 2) then mCb bk a b else decide (G.2.2.2.2 (b / 2) < G.2.2.2.2 (a / 2))
def mjn (n : Nat) (f : Nat → Nat) (a b : Nat) : Nat → Nat := fun i => if i < n ∧ f i = a then b else f i
def hvB (G : Gr) (bk : Nat → Bool) (k : Nat) : Option Nat → Bool
  | none => true
  | some i => hvr G bk k i
def hvC (G : Gr) (bk sn : Nat → Bool) (k : Nat) (b : Option Nat) : Bool := mIs G bk k && !sn k && hvB G bk k b
def hvF (G : Gr) (bk sn : Nat → Bool) : Nat → Nat → Option Nat → Option Nat
  | 0, _, b => b
  | m + 1, k, b => hvF G bk sn m (k + 1) (if hvC G bk sn k b = true then some k else b)
def hvy (G : Gr) (bk sn : Nat → Bool) : Option Nat := hvF G bk sn (2 * G.2.1) 0 none
/-- group, in the tree, looked at -/
abbrev Gt : Type := (Nat → Nat) × (Nat → Bool) × (Nat → Bool)
def gtS (G : Gr) (bk : Nat → Bool) (k : Nat) (x : Gt) : Gt := if x.1 (mFr G k) = x.1 (mTo G bk k) then (x.1, x.2.1, va_up x.2.2 k true) else (mjn G.1 x.1 (x.1 (mTo G bk k)) (x.1 (mFr G k)), va_up x.2.1 k true, va_up x.2.2 k true)
def gtF (G : Gr) (bk : Nat → Bool) : Nat → Option Nat → Gt → Gt
  | 0, _, x => x
  | _ + 1, none, x => x
  | m + 1, some k, x => gtF G bk m (hvy G bk (gtS G bk k x).2.2) (gtS G bk k x)
section MTree
variable {g : gp_T} {A : List va_E} {G : Gr} {T : Tx} {th : Nat} {Y : Ya} {W : Wa} {R : Ra} {Z : Za} {U : Ua} {L : La} {h : Int64} {O : Oa}
theorem l_ae1 (P : ps_T) (hg : gok G) (r : Nat) (hr : r < 12) : ∀ (m k : Nat) (x : Int32), G.2.1 - k = m → k ≤ G.2.1 → AW g mX9_allEnd 0 0 P noX 0 0 64 [some (.ref (g.2.1 + 0)), some (.int (aeF G m k x)), some (.int (nI r)), some (.int (nI G.2.1))] [] 0 A (BM g G T th Y W R Z U L h O) → AW g mX9_allEnd 0 0 P noX 0 0 21 [some (.ref (g.2.1 + 0)), some (.int x), some (.int (nI r)), some (.int (nI k))] [] 0 A (BM g G T th Y W R Z U L h O) := by
  intro m
  obtain ⟨g1, g2, g3, g4, g5⟩ := id hg
  induction m with
  | zero =>
    intro k x hm hk hp
    have hk2 : k = G.2.1 := by omega
    subst hk2
    refine a_iload_n (q := 22) dX9_allEnd_21 rfl rfl rfl ?_
    refine a_aload_n (q := 23) dX9_allEnd_22 rfl rfl rfl ?_
    refine a_getB (q := 26) dX9_allEnd_23 fX9_101 rfl rfl rfl ?_
    refine a_icmp_geN (q := 29) 64 dX9_allEnd_26 (by decide) (by omega) (by omega) rfl (fun c26 => ?_) (fun c26 => ?_)
    · skip
      exact hp
    · omega
  | succ m ih =>
    intro k x hm hk hp
    unfold aeF at hp
    refine a_iload_n (q := 22) dX9_allEnd_21 rfl rfl rfl ?_
    refine a_aload_n (q := 23) dX9_allEnd_22 rfl rfl rfl ?_
    refine a_getB (q := 26) dX9_allEnd_23 fX9_101 rfl rfl rfl ?_
    refine a_icmp_geN (q := 29) 64 dX9_allEnd_26 (by decide) (by omega) (by omega) rfl (fun c26 => ?_) (fun c26 => ?_)
    · omega
    · skip
      refine a_iload_n (q := 30) dX9_allEnd_29 rfl rfl rfl ?_
      refine a_iload_n (q := 31) dX9_allEnd_30 rfl rfl rfl ?_
      refine a_aload_n (q := 32) dX9_allEnd_31 rfl rfl rfl ?_
      refine a_getB (q := 35) dX9_allEnd_32 fX9_17 rfl rfl rfl ?_
      refine a_iload_n (q := 36) dX9_allEnd_35 rfl rfl rfl ?_
      refine a_ialdBN (q := 37) dX9_allEnd_36 rfl (by omega) (by decide) rfl ?_
      refine a_ishr (q := 38) dX9_allEnd_37 rfl ?_
      refine a_iconst (q := 39) (nI 1) dX9_allEnd_38 (by decide) rfl ?_
      refine a_iand (q := 40) dX9_allEnd_39 rfl ?_
      refine a_iconst (q := 41) (nI 1) dX9_allEnd_40 (by decide) rfl ?_
      refine a_icmp_ne (q := 44) 55 dX9_allEnd_41 (by decide) rfl (fun c41 => ?_) (fun c41 => ?_)
      · have hs : aeS G x k = x ||| nI 0 := by unfold aeS; rw [if_neg c41]
        refine a_iconst (q := 56) (nI 0) dX9_allEnd_55 (by decide) rfl ?_
        refine a_ior (q := 57) dX9_allEnd_56 rfl ?_
        refine a_istore_n (q := 58) dX9_allEnd_57 rfl (Nat.le_of_ble_eq_true rfl) rfl rfl ?_
        refine a_iincN (q := 61) (c := 1) dX9_allEnd_58 rfl (by decide) rfl rfl ?_
        refine a_goto 21 dX9_allEnd_61 (by decide) ?_
        rw [hs] at hp
        exact ih (k + 1) _ (by omega) (by omega) hp
      · have hs : aeS G x k = x ||| (nI 1 <<< (nI (G.2.2.1 k) &&& 31)) := by unfold aeS; rw [if_pos c41]
        refine a_iconst (q := 45) (nI 1) dX9_allEnd_44 (by decide) rfl ?_
        refine a_aload_n (q := 46) dX9_allEnd_45 rfl rfl rfl ?_
        refine a_getB (q := 49) dX9_allEnd_46 fX9_13 rfl rfl rfl ?_
        refine a_iload_n (q := 50) dX9_allEnd_49 rfl rfl rfl ?_
        refine a_ialdBN (q := 51) dX9_allEnd_50 rfl (by omega) (by decide) rfl ?_
        refine a_ishl (q := 52) dX9_allEnd_51 rfl ?_
        refine a_goto 56 dX9_allEnd_52 (by decide) ?_
        refine a_ior (q := 57) dX9_allEnd_56 rfl ?_
        refine a_istore_n (q := 58) dX9_allEnd_57 rfl (Nat.le_of_ble_eq_true rfl) rfl rfl ?_
        refine a_iincN (q := 61) (c := 1) dX9_allEnd_58 rfl (by decide) rfl rfl ?_
        refine a_goto 21 dX9_allEnd_61 (by decide) ?_
        rw [hs] at hp
        exact ih (k + 1) _ (by omega) (by omega) hp
theorem l_ae2 (P : ps_T) (hg : gok G) : ∀ (m r : Nat) (x : Int32) (L3 : Option Value), G.1 - r = m → r ≤ G.1 → P (some (.int (b2 (decide (aeN G m x = (nI 1 <<< (nI G.1 &&& 31)) - nI 1))))) 0 A (BM g G T th Y W R Z U L h O) → AW g mX9_allEnd 0 0 P noX 0 0 11 [some (.ref (g.2.1 + 0)), some (.int x), some (.int (nI r)), L3] [] 0 A (BM g G T th Y W R Z U L h O) := by
  intro m
  obtain ⟨g1, g2, g3, g4, g5⟩ := id hg
  induction m with
  | zero =>
    intro r x L3 hm hk hp
    unfold aeN at hp
    refine a_iload_n (q := 12) dX9_allEnd_11 rfl rfl rfl ?_
    refine a_aload_n (q := 13) dX9_allEnd_12 rfl rfl rfl ?_
    refine a_getB (q := 16) dX9_allEnd_13 fX9_7 rfl rfl rfl ?_
    refine a_icmp_geN (q := 19) 70 dX9_allEnd_16 (by decide) (by omega) (by omega) rfl (fun c16 => ?_) (fun c16 => ?_)
    · skip
      refine a_iload_n (q := 71) dX9_allEnd_70 rfl rfl rfl ?_
      refine a_iconst (q := 72) (nI 1) dX9_allEnd_71 (by decide) rfl ?_
      refine a_aload_n (q := 73) dX9_allEnd_72 rfl rfl rfl ?_
      refine a_getB (q := 76) dX9_allEnd_73 fX9_7 rfl rfl rfl ?_
      refine a_ishl (q := 77) dX9_allEnd_76 rfl ?_
      refine a_iconst (q := 78) (nI 1) dX9_allEnd_77 (by decide) rfl ?_
      refine a_isub (q := 79) dX9_allEnd_78 rfl ?_
      refine a_icmp_ne (q := 82) 86 dX9_allEnd_79 (by decide) rfl (fun c79 => ?_) (fun c79 => ?_)
      · rw [decide_eq_false c79] at hp
        refine a_iconst (q := 87) (b2 false) dX9_allEnd_86 (by decide) rfl ?_
        exact a_iret dX9_allEnd_87 rfl (b2_narrow _) (Nat.le_of_ble_eq_true rfl) (Nat.le_of_ble_eq_true rfl) (hp)
      · rw [decide_eq_true c79] at hp
        refine a_iconst (q := 83) (b2 true) dX9_allEnd_82 (by decide) rfl ?_
        refine a_goto 87 dX9_allEnd_83 (by decide) ?_
        exact a_iret dX9_allEnd_87 rfl (b2_narrow _) (Nat.le_of_ble_eq_true rfl) (Nat.le_of_ble_eq_true rfl) (hp)
    · omega
  | succ m ih =>
    intro r x L3 hm hk hp
    unfold aeN at hp
    refine a_iload_n (q := 12) dX9_allEnd_11 rfl rfl rfl ?_
    refine a_aload_n (q := 13) dX9_allEnd_12 rfl rfl rfl ?_
    refine a_getB (q := 16) dX9_allEnd_13 fX9_7 rfl rfl rfl ?_
    refine a_icmp_geN (q := 19) 70 dX9_allEnd_16 (by decide) (by omega) (by omega) rfl (fun c16 => ?_) (fun c16 => ?_)
    · omega
    · skip
      refine a_iconst (q := 20) (nI 0) dX9_allEnd_19 (by decide) rfl ?_
      refine a_istore_n (q := 21) dX9_allEnd_20 rfl (Nat.le_of_ble_eq_true rfl) rfl rfl ?_
      refine l_ae1 P hg r (by omega) _ 0 x rfl (Nat.zero_le _) ?_
      refine a_iincN (q := 67) (c := 1) dX9_allEnd_64 rfl (by decide) rfl rfl ?_
      refine a_goto 11 dX9_allEnd_67 (by decide) ?_
      exact ih (r + 1) _ _ (by omega) (by omega) hp
theorem m_allEnd (hg : gok G) : Ct g mX9_allEnd [.ref (g.2.1 + 0)] 0 A (BM g G T th Y W R Z U L h O) 0 0 (rP (some (.int (b2 (aeA G)))) A (BM g G T th Y W R Z U L h O)) noX := by
  obtain ⟨g1, g2, g3, g4, g5⟩ := id hg
  refine Ct.of [some (.ref (g.2.1 + 0)), none, none, none] (by decide) rfl (Nat.le_of_ble_eq_true rfl) rfl ?_
  refine a_iconst (q := 1) (nI 1) dX9_allEnd_0 (by decide) rfl ?_
  refine a_aload_n (q := 2) dX9_allEnd_1 rfl rfl rfl ?_
  refine a_getB (q := 5) dX9_allEnd_2 fX9_7 rfl rfl rfl ?_
  refine a_iconst (q := 6) (nI 1) dX9_allEnd_5 (by decide) rfl ?_
  refine a_isubN (q := 7) dX9_allEnd_6 (by omega) rfl ?_
  refine a_ishl (q := 8) dX9_allEnd_7 rfl ?_
  refine a_istore_n (q := 9) dX9_allEnd_8 rfl (Nat.le_of_ble_eq_true rfl) rfl rfl ?_
  refine a_iconst (q := 10) (nI 0) dX9_allEnd_9 (by decide) rfl ?_
  refine a_istore_n (q := 11) dX9_allEnd_10 rfl (Nat.le_of_ble_eq_true rfl) rfl rfl ?_
  exact l_ae2 _ hg _ 0 _ _ rfl (Nat.zero_le _) ⟨rfl, rfl, rfl, rfl⟩
theorem l_nu1 (P : ps_T) (v a b : Nat) (hg : gok G) (hv : v < 12) (i : Nat) (p : Nat → Int32) (hY : True) : ∀ (m : Nat) (o : Option Nat) (c : Int32) (V : Nat → Int32), (∀ k, o = some k → k < 48 ∧ mIs G Y.2.1 k = true ∧ 144 ≤ cod Y.2.1 k + m) → AW g mX9_number 0 0 P noX 0 0 110 [some (.ref (g.2.1 + 0)), some (.int (nI i)), some (.int (nI v)), some (.int (nbF G Y.2.1 p v m o c V).1), some (.int (oI none))] [] 0 A (BM g G T th (Y.1, Y.2.1, p, (nbF G Y.2.1 p v m o c V).2, Y.2.2.2.2) W R Z U L h O) → AW g mX9_number 0 0 P noX 0 0 70 [some (.ref (g.2.1 + 0)), some (.int (nI i)), some (.int (nI v)), some (.int c), some (.int (oI o))] [] 0 A (BM g G T th (Y.1, Y.2.1, p, V, Y.2.2.2.2) W R Z U L h O) := by
  intro m
  obtain ⟨g1, g2, g3, g4, g5⟩ := id hg
  induction m with
  | zero =>
    intro o c V ho hp
    cases o with
    | none =>
      refine a_iload (q := 72) dX9_number_70 rfl rfl ?_
      refine a_iconst (q := 73) (-1) dX9_number_72 (by decide) rfl ?_
      refine a_icmp_eq (q := 76) 110 dX9_number_73 (by decide) rfl (fun c73 => ?_) (fun c73 => ?_)
      · skip
        exact hp
      · exact absurd rfl c73
    | some k =>
      obtain ⟨h1, h2, h3⟩ := ho k rfl
      have := cod_lt (bk := Y.2.1) h1
      omega
  | succ m ih =>
    intro o c V ho hp
    cases o with
    | none =>
      refine a_iload (q := 72) dX9_number_70 rfl rfl ?_
      refine a_iconst (q := 73) (-1) dX9_number_72 (by decide) rfl ?_
      refine a_icmp_eq (q := 76) 110 dX9_number_73 (by decide) rfl (fun c73 => ?_) (fun c73 => ?_)
      · skip
        exact hp
      · exact absurd rfl c73
    | some k =>
      obtain ⟨h1, h2, h3⟩ := ho k rfl
      have h4 := mTo_lt hg h2
      unfold nbF at hp
      refine a_iload (q := 72) dX9_number_70 rfl rfl ?_
      show AW _ _ _ _ _ _ _ _ _ _ (.int (nI k) :: _) _ _ _
      refine a_iconst (q := 73) (-1) dX9_number_72 (by decide) rfl ?_
      refine a_icmp_eq (q := 76) 110 dX9_number_73 (by decide) rfl (fun c73 => ?_) (fun c73 => ?_)
      · exact absurd c73 (nI_m1 (by omega))
      · skip
        refine a_aload_n (q := 77) dX9_number_76 rfl rfl rfl ?_
        refine a_getB (q := 80) dX9_number_77 fX9_33 rfl rfl rfl ?_
        refine a_iload (q := 82) dX9_number_80 rfl rfl ?_
        show AW _ _ _ _ _ _ _ _ _ _ (.int (nI k) :: _) _ _ _
        refine a_iload_n (q := 83) dX9_number_82 rfl rfl rfl ?_
        refine a_iastBI (q := 84) dX9_number_83 rfl (by omega) (by decide) rfl ?_
        refine a_iload_n (q := 85) dX9_number_84 rfl rfl rfl ?_
        refine a_aload_n (q := 86) dX9_number_85 rfl rfl rfl ?_
        refine a_getB (q := 89) dX9_number_86 fX9_30 rfl rfl rfl ?_
        refine a_aload_n (q := 90) dX9_number_89 rfl rfl rfl ?_
        refine a_iload (q := 92) dX9_number_90 rfl rfl ?_
        show AW _ _ _ _ _ _ _ _ _ _ (.int (nI k) :: _) _ _ _
        refine a_cVBv (q := 95) _ dX9_number_92 kX9_165 (m_linkTo (G := G) (Y := (Y.1, Y.2.1, p, va_up V k c, Y.2.2.2.2)) k h1 (by omega)) rfl rfl rfl (Nat.le_of_ble_eq_true rfl) ⟨(Nat.le_of_ble_eq_true rfl), (Nat.le_of_ble_eq_true rfl)⟩ ⟨(Nat.le_of_ble_eq_true rfl), (Nat.le_of_ble_eq_true rfl)⟩ rfl ?_
        refine a_ialdBI (q := 96) dX9_number_95 rfl (show mTo G Y.2.1 k < 12 by omega) (by decide) rfl ?_
        refine a_iadd (q := 97) dX9_number_96 rfl ?_
        refine a_istore_n (q := 98) dX9_number_97 rfl (Nat.le_of_ble_eq_true rfl) rfl rfl ?_
        refine a_aload_n (q := 99) dX9_number_98 rfl rfl rfl ?_
        refine a_iload_n (q := 100) dX9_number_99 rfl rfl rfl ?_
        refine a_iload (q := 102) dX9_number_100 rfl rfl ?_
        refine a_cVBv (q := 105) _ dX9_number_102 kX9_162 (m_linkBehind (G := G) (Y := (Y.1, Y.2.1, p, va_up V k c, Y.2.2.2.2)) hg v hv (some k) (fun j hj => by cases hj; exact h1)) rfl rfl rfl (Nat.le_of_ble_eq_true rfl) ⟨(Nat.le_of_ble_eq_true rfl), (Nat.le_of_ble_eq_true rfl)⟩ ⟨(Nat.le_of_ble_eq_true rfl), (Nat.le_of_ble_eq_true rfl)⟩ rfl ?_
        refine a_istore (q := 107) dX9_number_105 (Nat.le_of_ble_eq_true rfl) rfl rfl ?_
        refine a_goto 70 dX9_number_107 (by decide) ?_
        exact ih (lb G Y.2.1 v (some k)) _ _ (fun j hj => by
        have q := lb_spec hj
        have hj4 : j < 48 := by omega
        refine ⟨hj4, q.2.1, ?_⟩
        have := q.2.2.2 k rfl
        rw [mCb_cod h1 hj4] at this
        have := of_decide_eq_true this
        omega) hp
theorem l_nu2 (P : ps_T) (hg : gok G) (hl : ∀ i, i < Z.2.2.2.2.2 → Z.2.2.2.2.1 i < G.1) (h12 : Z.2.2.2.2.2 ≤ 12) : ∀ (m i : Nat) (x : Nu) (L2 L3 L4 : Option Value), Z.2.2.2.2.2 - i = m → i ≤ Z.2.2.2.2.2 → P none 0 A (BM g G T th (Y.1, Y.2.1, (nuF G Y.2.1 Z.2.2.2.2.1 m i x).1, (nuF G Y.2.1 Z.2.2.2.2.1 m i x).2, Y.2.2.2.2) W R Z U L h O) → AW g mX9_number 0 0 P noX 0 0 35 [some (.ref (g.2.1 + 0)), some (.int (nI i)), L2, L3, L4] [] 0 A (BM g G T th (Y.1, Y.2.1, x.1, x.2, Y.2.2.2.2) W R Z U L h O) := by
  intro m
  obtain ⟨g1, g2, g3, g4, g5⟩ := id hg
  induction m with
  | zero =>
    intro i x L2 L3 L4 hm hi hp
    refine a_iload_n (q := 36) dX9_number_35 rfl rfl rfl ?_
    refine a_aload_n (q := 37) dX9_number_36 rfl rfl rfl ?_
    refine a_getB (q := 40) dX9_number_37 fX9_145 rfl rfl rfl ?_
    refine a_icmp_geN (q := 43) 123 dX9_number_40 (by decide) (by omega) (by omega) rfl (fun c40 => ?_) (fun c40 => ?_)
    · skip
      exact a_ret dX9_number_123 rfl (Nat.le_of_ble_eq_true rfl) (Nat.le_of_ble_eq_true rfl) (hp)
    · omega
  | succ m ih =>
    intro i x L2 L3 L4 hm hi hp
    have h1 := hl i (by omega)
    unfold nuF at hp
    refine a_iload_n (q := 36) dX9_number_35 rfl rfl rfl ?_
    refine a_aload_n (q := 37) dX9_number_36 rfl rfl rfl ?_
    refine a_getB (q := 40) dX9_number_37 fX9_145 rfl rfl rfl ?_
    refine a_icmp_geN (q := 43) 123 dX9_number_40 (by decide) (by omega) (by omega) rfl (fun c40 => ?_) (fun c40 => ?_)
    · omega
    · skip
      refine a_aload_n (q := 44) dX9_number_43 rfl rfl rfl ?_
      refine a_getB (q := 47) dX9_number_44 fX9_63 rfl rfl rfl ?_
      refine a_iload_n (q := 48) dX9_number_47 rfl rfl rfl ?_
      refine a_ialdBN (q := 49) dX9_number_48 rfl (by omega) (by decide) rfl ?_
      refine a_istore_n (q := 50) dX9_number_49 rfl (Nat.le_of_ble_eq_true rfl) rfl rfl ?_
      refine a_iload_n (q := 51) dX9_number_50 rfl rfl rfl ?_
      refine a_aload_n (q := 52) dX9_number_51 rfl rfl rfl ?_
      refine a_getB (q := 55) dX9_number_52 fX9_7 rfl rfl rfl ?_
      refine a_iconst (q := 56) (nI 1) dX9_number_55 (by decide) rfl ?_
      refine a_isubN (q := 57) dX9_number_56 (by omega) rfl ?_
      refine a_icmp_eqN (q := 60) 117 dX9_number_57 (by decide) (by omega) (by omega) rfl (fun c57 => ?_) (fun c57 => ?_)
      · rw [show nuS G Y.2.1 (Z.2.2.2.2.1 i) x = x from if_pos c57] at hp
        have hq := fun L2 L3 L4 => ih (i + 1) x L2 L3 L4 (by omega) (by omega) hp
        refine a_iincN (q := 120) (c := 1) dX9_number_117 rfl (by decide) rfl rfl ?_
        refine a_goto 35 dX9_number_120 (by decide) ?_
        exact hq _ _ _
      · rw [show nuS G Y.2.1 (Z.2.2.2.2.1 i) x = (va_up x.1 (Z.2.2.2.2.1 i) (nbF G Y.2.1 x.1 (Z.2.2.2.2.1 i) 144 (lb G Y.2.1 (Z.2.2.2.2.1 i) none) (nI 0) x.2).1, (nbF G Y.2.1 x.1 (Z.2.2.2.2.1 i) 144 (lb G Y.2.1 (Z.2.2.2.2.1 i) none) (nI 0) x.2).2) from if_neg c57] at hp
        have hq := fun L2 L3 L4 => ih (i + 1) (va_up x.1 (Z.2.2.2.2.1 i) (nbF G Y.2.1 x.1 (Z.2.2.2.2.1 i) 144 (lb G Y.2.1 (Z.2.2.2.2.1 i) none) (nI 0) x.2).1, (nbF G Y.2.1 x.1 (Z.2.2.2.2.1 i) 144 (lb G Y.2.1 (Z.2.2.2.2.1 i) none) (nI 0) x.2).2) L2 L3 L4 (by omega) (by omega) hp
        refine a_iconst (q := 61) (nI 0) dX9_number_60 (by decide) rfl ?_
        refine a_istore_n (q := 62) dX9_number_61 rfl (Nat.le_of_ble_eq_true rfl) rfl rfl ?_
        refine a_aload_n (q := 63) dX9_number_62 rfl rfl rfl ?_
        refine a_iload_n (q := 64) dX9_number_63 rfl rfl rfl ?_
        refine a_iconst (q := 65) (-1) dX9_number_64 (by decide) rfl ?_
        refine a_cVBv (q := 68) _ dX9_number_65 kX9_162 (m_linkBehind (G := G) (Y := (Y.1, Y.2.1, x.1, x.2, Y.2.2.2.2)) hg (Z.2.2.2.2.1 i) (by omega) none (fun j hj => by cases hj)) rfl rfl rfl (Nat.le_of_ble_eq_true rfl) ⟨(Nat.le_of_ble_eq_true rfl), (Nat.le_of_ble_eq_true rfl)⟩ ⟨(Nat.le_of_ble_eq_true rfl), (Nat.le_of_ble_eq_true rfl)⟩ rfl ?_
        refine a_istore (q := 70) dX9_number_68 (Nat.le_of_ble_eq_true rfl) rfl rfl ?_
        refine l_nu1 (Y := Y) P (Z.2.2.2.2.1 i) 0 0 hg (by omega) i x.1 trivial 144 (lb G Y.2.1 (Z.2.2.2.2.1 i) none) (nI 0) x.2 (fun j hj => by
          have q := lb_spec hj
          exact ⟨by omega, q.2.1, by omega⟩) ?_
        refine a_aload_n (q := 111) dX9_number_110 rfl rfl rfl ?_
        refine a_getB (q := 114) dX9_number_111 fX9_30 rfl rfl rfl ?_
        refine a_iload_n (q := 115) dX9_number_114 rfl rfl rfl ?_
        refine a_iload_n (q := 116) dX9_number_115 rfl rfl rfl ?_
        refine a_iastBI (q := 117) dX9_number_116 rfl (by omega) (by decide) rfl ?_
        refine a_iincN (q := 120) (c := 1) dX9_number_117 rfl (by decide) rfl rfl ?_
        refine a_goto 35 dX9_number_120 (by decide) ?_
        exact hq _ _ _
theorem l_nu0 (P : ps_T) (hg : gok G) (hl : ∀ i, i < Z.2.2.2.2.2 → Z.2.2.2.2.1 i < G.1) (h12 : Z.2.2.2.2.2 ≤ 12) (hp : P none 0 A (BM g G T th (Y.1, Y.2.1, (nuF G Y.2.1 Z.2.2.2.2.1 Z.2.2.2.2.2 0 (nu0 G Y.2.2.2.1)).1, (nuF G Y.2.1 Z.2.2.2.2.1 Z.2.2.2.2.2 0 (nu0 G Y.2.2.2.1)).2, Y.2.2.2.2) W R Z U L h O)) : ∀ (m k : Nat) (f : Nat → Int32), 12 - k = m → k ≤ 12 → (∀ i, i < k → f i = nI 0) → AW g mX9_number 0 0 P noX 0 0 2 [some (.ref (g.2.1 + 0)), some (.int (nI k)), none, none, none] [] 0 A (BM g G T th (Y.1, Y.2.1, f, Y.2.2.2) W R Z U L h O) := by
  intro m
  obtain ⟨g1, g2, g3, g4, g5⟩ := id hg
  induction m with
  | zero =>
    intro k f hm hk hf
    refine a_swapB 6 (aI g 12 (fun _ => nI 0)) rfl (ceq_i (fun i hi => hf i (by omega))) ?_
    refine a_iload_n (q := 3) dX9_number_2 rfl rfl rfl ?_
    refine a_bipush (q := 5) (nI 12) dX9_number_3 (by decide) rfl ?_
    refine a_icmp_geN (q := 8) 21 dX9_number_5 (by decide) (by omega) (by omega) rfl (fun c5 => ?_) (fun c5 => ?_)
    · skip
      refine a_aload_n (q := 22) dX9_number_21 rfl rfl rfl ?_
      refine a_getB (q := 25) dX9_number_22 fX9_30 rfl rfl rfl ?_
      refine a_aload_n (q := 26) dX9_number_25 rfl rfl rfl ?_
      refine a_getB (q := 29) dX9_number_26 fX9_7 rfl rfl rfl ?_
      refine a_iconst (q := 30) (nI 1) dX9_number_29 (by decide) rfl ?_
      refine a_isubN (q := 31) dX9_number_30 (by omega) rfl ?_
      refine a_iconst (q := 32) (nI 1) dX9_number_31 (by decide) rfl ?_
      refine a_iastBI (q := 33) dX9_number_32 rfl (by omega) (by decide) rfl ?_
      refine a_iconst (q := 34) (nI 0) dX9_number_33 (by decide) rfl ?_
      refine a_istore_n (q := 35) dX9_number_34 rfl (Nat.le_of_ble_eq_true rfl) rfl rfl ?_
      exact l_nu2 (Y := Y) P hg hl h12 _ 0 (nu0 G Y.2.2.2.1) _ _ _ rfl (Nat.zero_le _) hp
    · omega
  | succ m ih =>
    intro k f hm hk hf
    refine a_iload_n (q := 3) dX9_number_2 rfl rfl rfl ?_
    refine a_bipush (q := 5) (nI 12) dX9_number_3 (by decide) rfl ?_
    refine a_icmp_geN (q := 8) 21 dX9_number_5 (by decide) (by omega) (by omega) rfl (fun c5 => ?_) (fun c5 => ?_)
    · omega
    · skip
      refine a_aload_n (q := 9) dX9_number_8 rfl rfl rfl ?_
      refine a_getB (q := 12) dX9_number_9 fX9_30 rfl rfl rfl ?_
      refine a_iload_n (q := 13) dX9_number_12 rfl rfl rfl ?_
      refine a_iconst (q := 14) (nI 0) dX9_number_13 (by decide) rfl ?_
      refine a_iastBI (q := 15) dX9_number_14 rfl (by omega) (by decide) rfl ?_
      refine a_iincN (q := 18) (c := 1) dX9_number_15 rfl (by decide) rfl rfl ?_
      refine a_goto 2 dX9_number_18 (by decide) ?_
      exact ih (k + 1) (va_up f k (nI 0)) (by omega) (by omega) (fun i hi => by unfold va_up; split; rfl; exact hf i (by omega))
theorem m_number (hg : gok G) (hl : ∀ i, i < Z.2.2.2.2.2 → Z.2.2.2.2.1 i < G.1) (h12 : Z.2.2.2.2.2 ≤ 12) : Ct g mX9_number [.ref (g.2.1 + 0)] 0 A (BM g G T th Y W R Z U L h O) 0 0 (rP none A (BM g G T th (Y.1, Y.2.1, (nuF G Y.2.1 Z.2.2.2.2.1 Z.2.2.2.2.2 0 (nu0 G Y.2.2.2.1)).1, (nuF G Y.2.1 Z.2.2.2.2.1 Z.2.2.2.2.2 0 (nu0 G Y.2.2.2.1)).2, Y.2.2.2.2) W R Z U L h O)) noX := by
  refine Ct.of [some (.ref (g.2.1 + 0)), none, none, none, none] (by decide) rfl (Nat.le_of_ble_eq_true rfl) rfl ?_
  refine a_iconst (q := 1) (nI 0) dX9_number_0 (by decide) rfl ?_
  refine a_istore_n (q := 2) dX9_number_1 rfl (Nat.le_of_ble_eq_true rfl) rfl rfl ?_
  exact l_nu0 (Y := Y) _ hg hl h12 ⟨rfl, rfl, rfl, rfl⟩ _ 0 Y.2.2.1 rfl (Nat.zero_le _) (fun i hi => absurd hi (Nat.not_lt_zero i))
theorem m_isHeavier (a b : Nat) (ha : a < 48) (hb : b < 48) (hw : ∀ i, i < 24 → G.2.2.2.2 i < big) : Ct g mX9_isHeavier [.ref (g.2.1 + 0), .int (nI a), .int (nI b)] 0 A (BM g G T th Y W R Z U L h O) 0 0 (rP (some (.int (b2 (hvr G Y.2.1 a b)))) A (BM g G T th Y W R Z U L h O)) noX := by
  have h1 := hw (a / 2) (by omega)
  have h2 := hw (b / 2) (by omega)
  unfold big at h1 h2
  refine Ct.of [some (.ref (g.2.1 + 0)), some (.int (nI a)), some (.int (nI b)), none, none] (by decide) rfl (Nat.le_of_ble_eq_true rfl) rfl ?_
  unfold hvr
  refine a_aload_n (q := 1) dX9_isHeavier_0 rfl rfl rfl ?_
  refine a_getB (q := 4) dX9_isHeavier_1 fX9_20 rfl rfl rfl ?_
  refine a_iload_n (q := 5) dX9_isHeavier_4 rfl rfl rfl ?_
  refine a_iconst (q := 6) (nI 2) dX9_isHeavier_5 (by decide) rfl ?_
  refine a_idivN (q := 7) dX9_isHeavier_6 (by omega) ⟨by omega, by decide⟩ rfl ?_
  refine a_ialdBN (q := 8) dX9_isHeavier_7 rfl (by omega) (by decide) rfl ?_
  refine a_istore_n (q := 9) dX9_isHeavier_8 rfl (Nat.le_of_ble_eq_true rfl) rfl rfl ?_
  refine a_aload_n (q := 10) dX9_isHeavier_9 rfl rfl rfl ?_
  refine a_getB (q := 13) dX9_isHeavier_10 fX9_20 rfl rfl rfl ?_
  refine a_iload_n (q := 14) dX9_isHeavier_13 rfl rfl rfl ?_
  refine a_iconst (q := 15) (nI 2) dX9_isHeavier_14 (by decide) rfl ?_
  refine a_idivN (q := 16) dX9_isHeavier_15 (by omega) ⟨by omega, by decide⟩ rfl ?_
  refine a_ialdBN (q := 17) dX9_isHeavier_16 rfl (by omega) (by decide) rfl ?_
  refine a_istore (q := 19) dX9_isHeavier_17 (Nat.le_of_ble_eq_true rfl) rfl rfl ?_
  refine a_iload_n (q := 20) dX9_isHeavier_19 rfl rfl rfl ?_
  refine a_iload (q := 22) dX9_isHeavier_20 rfl rfl ?_
  refine a_icmp_neN (q := 25) 34 dX9_isHeavier_22 (by decide) (by omega) (by omega) rfl (fun c22 => ?_) (fun c22 => ?_)
  · rw [if_neg c22]
    refine a_iload_n (q := 35) dX9_isHeavier_34 rfl rfl rfl ?_
    refine a_iload (q := 37) dX9_isHeavier_35 rfl rfl ?_
    refine a_icmp_leN (q := 40) 44 dX9_isHeavier_37 (by decide) (by omega) (by omega) rfl (fun c37 => ?_) (fun c37 => ?_)
    · skip
      refine a_iconst (q := 45) (b2 false) dX9_isHeavier_44 (by decide) rfl ?_
      exact a_iret dX9_isHeavier_45 rfl (b2_narrow _) (Nat.le_of_ble_eq_true rfl) (Nat.le_of_ble_eq_true rfl) (⟨by first | rfl | rw [decide_eq_true c37] | rw [decide_eq_false (by omega)], rfl, rfl, rfl⟩)
    · skip
      refine a_iconst (q := 41) (b2 true) dX9_isHeavier_40 (by decide) rfl ?_
      refine a_goto 45 dX9_isHeavier_41 (by decide) ?_
      exact a_iret dX9_isHeavier_45 rfl (b2_narrow _) (Nat.le_of_ble_eq_true rfl) (Nat.le_of_ble_eq_true rfl) (⟨by first | rfl | rw [decide_eq_true c37] | rw [decide_eq_false (by omega)], rfl, rfl, rfl⟩)
  · rw [if_pos c22]
    refine a_aload_n (q := 26) dX9_isHeavier_25 rfl rfl rfl ?_
    refine a_iload_n (q := 27) dX9_isHeavier_26 rfl rfl rfl ?_
    refine a_iload_n (q := 28) dX9_isHeavier_27 rfl rfl rfl ?_
    refine a_cVBv (q := 31) _ dX9_isHeavier_28 kX9_155 (m_comesBefore a b ha hb) rfl rfl rfl (Nat.le_of_ble_eq_true rfl) ⟨(Nat.le_of_ble_eq_true rfl), (Nat.le_of_ble_eq_true rfl)⟩ ⟨(Nat.le_of_ble_eq_true rfl), (Nat.le_of_ble_eq_true rfl)⟩ rfl ?_
    refine a_goto 45 dX9_isHeavier_31 (by decide) ?_
    exact a_iret dX9_isHeavier_45 rfl (b2_narrow _) (Nat.le_of_ble_eq_true rfl) (Nat.le_of_ble_eq_true rfl) (⟨by first | rfl | rw [decide_eq_true c37] | rw [decide_eq_false (by omega)], rfl, rfl, rfl⟩)
theorem mjn_big {n : Nat} {f : Nat → Nat} {a b : Nat} (hf : ∀ i, i < n → f i < 12) (hb : b < 12) : ∀ i, i < n → mjn n f a b i < 12 := by
  intro i hi
  unfold mjn
  split
  · exact hb
  · exact hf i hi
theorem mjn_succ {k : Nat} {f : Nat → Nat} {a b : Nat} : va_up (mjn k f a b) k (if f k = a then b else f k) = mjn (k + 1) f a b := by
  funext i
  by_cases e : i = k
  · subst e
    rw [va_same]
    unfold mjn
    by_cases q : f i = a
    · rw [if_pos q, if_pos ⟨by omega, q⟩]
    · rw [if_neg q, if_neg (fun z => q z.2)]
  · rw [va_other e]
    unfold mjn
    by_cases q : f i = a
    · by_cases z : i < k
      · rw [if_pos ⟨z, q⟩, if_pos ⟨by omega, q⟩]
      · rw [if_neg (fun y => z y.1), if_neg (fun y => by omega)]
    · rw [if_neg (fun z => q z.2), if_neg (fun z => q z.2)]
theorem mjn_at {k : Nat} {f : Nat → Nat} {a b : Nat} : mjn k f a b k = f k := if_neg (fun q => by omega)
theorem l_mjoin (P : ps_T) (hg : gok G) (s t a b : Nat) (f : Nat → Nat) (hf : ∀ i, i < G.1 → f i < 12) (ha : a < 12) (hb : b < 12) (hp : P none 0 A (BM g G T th Y W R Z (mjn G.1 f a b, U.2) L h O)) : ∀ m k : Nat, G.1 - k = m → k ≤ G.1 → AW g mX9_join 0 0 P noX 0 0 18 [some (.ref (g.2.1 + 0)), some (.int (nI s)), some (.int (nI t)), some (.int (nI a)), some (.int (nI b)), some (.int (nI k))] [] 0 A (BM g G T th Y W R Z (mjn k f a b, U.2) L h O) := by
  intro m
  obtain ⟨g1, g2, g3, g4, g5⟩ := id hg
  induction m with
  | zero =>
    intro k hm hk
    have hk2 : k = G.1 := by omega
    subst hk2
    refine a_iload (q := 20) dX9_join_18 rfl rfl ?_
    refine a_aload_n (q := 21) dX9_join_20 rfl rfl rfl ?_
    refine a_getB (q := 24) dX9_join_21 fX9_7 rfl rfl rfl ?_
    refine a_icmp_geN (q := 27) 63 dX9_join_24 (by decide) (by omega) (by omega) rfl (fun c24 => ?_) (fun c24 => ?_)
    · skip
      exact a_ret dX9_join_63 rfl (Nat.le_of_ble_eq_true rfl) (Nat.le_of_ble_eq_true rfl) (hp)
    · omega
  | succ m ih =>
    intro k hm hk
    have h1 := hf k (by omega)
    have h2 : (mjn k f a b, U.2).1 k < 12 := by show mjn k f a b k < 12; rw [mjn_at]; exact h1
    have h3 := ih (k + 1) (by omega) (by omega)
    rw [← mjn_succ] at h3
    refine a_iload (q := 20) dX9_join_18 rfl rfl ?_
    refine a_aload_n (q := 21) dX9_join_20 rfl rfl rfl ?_
    refine a_getB (q := 24) dX9_join_21 fX9_7 rfl rfl rfl ?_
    refine a_icmp_geN (q := 27) 63 dX9_join_24 (by decide) (by omega) (by omega) rfl (fun c24 => ?_) (fun c24 => ?_)
    · omega
    · skip
      refine a_aload_n (q := 28) dX9_join_27 rfl rfl rfl ?_
      refine a_getB (q := 31) dX9_join_28 fX9_66 rfl rfl rfl ?_
      refine a_iload (q := 33) dX9_join_31 rfl rfl ?_
      refine a_aload_n (q := 34) dX9_join_33 rfl rfl rfl ?_
      refine a_getB (q := 37) dX9_join_34 fX9_66 rfl rfl rfl ?_
      refine a_iload (q := 39) dX9_join_37 rfl rfl ?_
      refine a_ialdBN (q := 40) dX9_join_39 rfl (by omega) (by decide) rfl ?_
      refine a_iload_n (q := 41) dX9_join_40 rfl rfl rfl ?_
      refine a_icmp_neN (q := 44) 49 dX9_join_41 (by decide) (by omega) (by omega) rfl (fun c41 => ?_) (fun c41 => ?_)
      · have c41 : mjn k f a b k ≠ a := c41
        rw [mjn_at] at c41
        rw [if_neg c41, ← mjn_at (k := k) (f := f) (a := a) (b := b), show va_up (mjn k f a b) k (mjn k f a b k) = va_up (mjn k f a b) k ((mjn k f a b, U.2).1 k) from rfl] at h3
        refine a_aload_n (q := 50) dX9_join_49 rfl rfl rfl ?_
        refine a_getB (q := 53) dX9_join_50 fX9_66 rfl rfl rfl ?_
        refine a_iload (q := 55) dX9_join_53 rfl rfl ?_
        refine a_ialdBN (q := 56) dX9_join_55 rfl (by omega) (by decide) rfl ?_
        refine a_iastBN (q := 57) dX9_join_56 rfl (by omega) (by decide) rfl ?_
        refine a_iincN (q := 60) (c := 1) dX9_join_57 rfl (by decide) rfl rfl ?_
        refine a_goto 18 dX9_join_60 (by decide) ?_
        exact h3
      · have c41 : mjn k f a b k = a := c41
        rw [mjn_at] at c41
        rw [if_pos c41] at h3
        refine a_iload (q := 46) dX9_join_44 rfl rfl ?_
        refine a_goto 56 dX9_join_46 (by decide) ?_
        refine a_iastBN (q := 57) dX9_join_56 rfl (by omega) (by decide) rfl ?_
        refine a_iincN (q := 60) (c := 1) dX9_join_57 rfl (by decide) rfl rfl ?_
        refine a_goto 18 dX9_join_60 (by decide) ?_
        exact h3
theorem m_join (hg : gok G) (s t : Nat) (hs : s < G.1) (ht : t < G.1) (hf : ∀ i, i < G.1 → U.1 i < 12) : Ct g mX9_join [.ref (g.2.1 + 0), .int (nI s), .int (nI t)] 0 A (BM g G T th Y W R Z U L h O) 0 0 (rP none A (BM g G T th Y W R Z (mjn G.1 U.1 (U.1 t) (U.1 s), U.2) L h O)) noX := by
  obtain ⟨g1, g2, g3, g4, g5⟩ := id hg
  have h1 := hf s hs
  have h2 := hf t ht
  refine Ct.of [some (.ref (g.2.1 + 0)), some (.int (nI s)), some (.int (nI t)), none, none, none] (by decide) rfl (Nat.le_of_ble_eq_true rfl) rfl ?_
  refine a_aload_n (q := 1) dX9_join_0 rfl rfl rfl ?_
  refine a_getB (q := 4) dX9_join_1 fX9_66 rfl rfl rfl ?_
  refine a_iload_n (q := 5) dX9_join_4 rfl rfl rfl ?_
  refine a_ialdBN (q := 6) dX9_join_5 rfl (by omega) (by decide) rfl ?_
  refine a_istore_n (q := 7) dX9_join_6 rfl (Nat.le_of_ble_eq_true rfl) rfl rfl ?_
  refine a_aload_n (q := 8) dX9_join_7 rfl rfl rfl ?_
  refine a_getB (q := 11) dX9_join_8 fX9_66 rfl rfl rfl ?_
  refine a_iload_n (q := 12) dX9_join_11 rfl rfl rfl ?_
  refine a_ialdBN (q := 13) dX9_join_12 rfl (by omega) (by decide) rfl ?_
  refine a_istore (q := 15) dX9_join_13 (Nat.le_of_ble_eq_true rfl) rfl rfl ?_
  refine a_iconst (q := 16) (nI 0) dX9_join_15 (by decide) rfl ?_
  refine a_istore (q := 18) dX9_join_16 (Nat.le_of_ble_eq_true rfl) rfl rfl ?_
  refine a_swapB 18 (aN g 12 (mjn 0 U.1 (U.1 t) (U.1 s))) rfl (ceq_n (fun i hi => (if_neg (fun q => Nat.not_lt_zero _ q.1)).symm)) ?_
  exact l_mjoin _ hg s t _ _ U.1 hf h2 h1 ⟨rfl, rfl, rfl, rfl⟩ _ 0 rfl (Nat.zero_le _)
end MTree

