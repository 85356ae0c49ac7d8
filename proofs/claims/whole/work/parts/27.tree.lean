/-! ===== PathProfiler$Tree ===== -/
def wgt (G : Gr) (l : Nat) : Nat := G.2.2.2.2 (l % 24)
/-- a link goes into the order -/
def siF (G : Gr) (l : Nat) : Nat → (Nat → Nat) → (Nat → Nat)
  | 0, o => va_up o 0 l
  | p + 1, o => if wgt G (o p) < wgt G l then siF G l p (va_up o (p + 1) (o p)) else va_up o (p + 1) l
/-- all links, sorted: order and its length -/
abbrev Or : Type := (Nat → Nat) × Nat
def sin (G : Gr) (l : Nat) (x : Or) : Or := (siF G l x.2 x.1, x.2 + 1)
def slF (G : Gr) (bk : Nat → Bool) : Nat → Nat → Or → Or
  | 0, _, x => x
  | m + 1, l, x => slF G bk m (l + 1) (if lvd G bk l = true then sin G l x else x)
theorem siF_lt {G : Gr} {l b : Nat} (hl : l < b) : ∀ (p : Nat) (o : Nat → Nat), (∀ i, i < p → o i < b) → (∀ i, p < i → ∀ n, i < n → o i < b ∨ True) → ∀ i, i ≤ p → siF G l p o i < b := by
  intro p
  induction p with
  | zero =>
    intro o h1 _ i hi
    unfold siF
    rw [show i = 0 by omega, va_same]; exact hl
  | succ p ih =>
    intro o h1 _ i hi
    unfold siF
    split
    · rcases Nat.lt_or_ge i (p + 1) with q | q
      · refine ih _ (fun j hj => ?_) (fun _ _ _ _ => Or.inr trivial) i (by omega)
        rw [va_other (by omega)]; exact h1 j (by omega)
      · have : i = p + 1 := by omega
        subst this
        have key : ∀ (p : Nat) (o : Nat → Nat), siF G l p o (p + 1) = o (p + 1) := by
          intro p
          induction p with
          | zero => intro o; unfold siF; exact va_other (by omega)
          | succ p _ =>
            intro o
            have key2 : ∀ (p q : Nat) (o : Nat → Nat), p < q → siF G l p o q = o q := by
              intro p
              induction p with
              | zero => intro q o hq; unfold siF; exact va_other (by omega)
              | succ p ih2 =>
                intro q o hq
                unfold siF
                split
                · rw [ih2 q _ (by omega), va_other (by omega)]
                · exact va_other (by omega)
            exact key2 _ _ o (by omega)
        rw [key, va_same]
        exact h1 p (by omega)
    · by_cases e : i = p + 1
      · rw [e, va_same]; exact hl
      · rw [va_other e]; exact h1 i (by omega)
theorem siF_beyond {G : Gr} {l : Nat} : ∀ (p q : Nat) (o : Nat → Nat), p < q → siF G l p o q = o q := by
  intro p
  induction p with
  | zero => intro q o hq; unfold siF; exact va_other (by omega)
  | succ p ih2 =>
    intro q o hq
    unfold siF
    split
    · rw [ih2 q _ (by omega), va_other (by omega)]
    · exact va_other (by omega)
/-- an order that the sort may have come to, before link l -/
def oOk (l : Nat) (x : Or) : Prop := x.2 ≤ l ∧ ∀ i, i < x.2 → x.1 i < l
theorem sin_ok {G : Gr} {l : Nat} {x : Or} (h : oOk l x) : oOk (l + 1) (sin G l x) := by
  refine ⟨Nat.succ_le_succ h.1, fun i hi => ?_⟩
  have hi' : i < x.2 + 1 := hi
  exact siF_lt (b := l + 1) (by omega) x.2 x.1 (fun j hj => by have := h.2 j hj; omega) (fun _ _ _ _ => Or.inr trivial) i (by omega)
/-- joining: all of part a becomes part b -/
def jpa (n : Nat) (pa : Nat → Nat) (a b : Nat) : Nat → Nat := fun i => if i < n ∧ pa i = a then b else pa i
def jpo (n : Nat) (pa : Nat → Nat) (po : Nat → Int32) (a : Nat) (s : Int32) : Nat → Int32 := fun i => if i < n ∧ pa i = a then po i + s else po i
/-- chords, their weight, parts, potentials -/
abbrev Ts : Type := Nat × Nat × (Nat → Nat) × (Nat → Int32)
def jon (G : Gr) (vl : Nat → Int32) (l : Nat) (x : Ts) : Ts := (x.1, x.2.1, jpa G.1 x.2.2.1 (x.2.2.1 (ltN G l)) (x.2.2.1 (lsN G l)), jpo G.1 x.2.2.1 x.2.2.2 (x.2.2.1 (ltN G l)) (x.2.2.2 (lsN G l) + vl l - x.2.2.2 (ltN G l)))
def csd (G : Gr) (vl : Nat → Int32) (l : Nat) (x : Ts) : Ts := if x.2.2.1 (lsN G l) = x.2.2.1 (ltN G l) then (x.1 + 1, x.2.1 + wgt G l, x.2.2) else jon G vl l x
def trF (G : Gr) (vl : Nat → Int32) (o : Nat → Nat) : Nat → Nat → Ts → Ts
  | 0, _, x => x
  | m + 1, j, x => trF G vl o m (j + 1) (csd G vl (o j) x)
def icv (G : Gr) (vl po : Nat → Int32) (l : Nat) : Int32 := vl l + po (lsN G l) - po (ltN G l)
def ciF (G : Gr) (vl po : Nat → Int32) (o : Nat → Nat) : Nat → Nat → (Nat → Int32) → (Nat → Int32)
  | 0, _, f => f
  | m + 1, j, f => ciF G vl po o m (j + 1) (va_up f (o j) (icv G vl po (o j)))
/-- a tree's cells out of these -/
def mkE (inc : Nat → Int32) (x : Or) (t : Ts) : Tr := (inc, t.1, t.2.1, x.1, x.2, t.2.2.1, t.2.2.2)
section TreeC
variable {g : gp_T} {B : List va_E} {G : Gr} {T : Tx} {R : Rd} {S : Se} {K : Lk} {E : Tr} {Q : Pa} {V : Wk} {an : Bool}
theorem c_weightOf (l : Nat) (hl : l < big) : Ct g mX6_weightOf [.ref (g.1 + 25), .int (nI l)] 0 (CA g G T R S K E Q V an) B 0 0 (rP (some (.int (nI (wgt G l)))) (CA g G T R S K E Q V an) B) noX := by
  unfold big at hl
  refine Ct.of [some (.ref (g.1 + 25)), some (.int (nI l))] (by decide) rfl (Nat.le_of_ble_eq_true rfl) rfl ?_
  refine a_aload_n (q := 1) dX6_weightOf_0 rfl rfl rfl ?_
  refine a_getA (q := 4) dX6_weightOf_1 fX6_34 rfl rfl rfl ?_
  refine a_getA (q := 7) dX6_weightOf_4 fX6_55 rfl rfl rfl ?_
  refine a_iload_n (q := 8) dX6_weightOf_7 rfl rfl rfl ?_
  refine a_bipush (q := 10) (nI 24) dX6_weightOf_8 (by decide) rfl ?_
  refine a_iremN (q := 11) dX6_weightOf_10 (by omega) ⟨by omega, by decide⟩ rfl ?_
  refine a_ialdAN (q := 12) dX6_weightOf_11 rfl (by omega) (by decide) rfl ?_
  exact a_iret dX6_weightOf_12 rfl rfl (Nat.le_of_ble_eq_true rfl) (Nat.le_of_ble_eq_true rfl) (⟨rfl, rfl, rfl, rfl⟩)
theorem l_sortIn (P : ps_T) (l : Nat) (hl : l < 72) (hw : ∀ i, i < 24 → G.2.2.2.2 i < big) (t : Ts) (inc : Nat → Int32) (n : Nat) (hn : n < 72) : ∀ (p : Nat) (o : Nat → Nat), p ≤ n → (∀ i, i < p → o i < 72) → P none 0 (CA g G T R S K (mkE inc (siF G l p o, n + 1) t) Q V an) B → AW g mX6_sortIn 0 0 P noX 0 0 5 [some (.ref (g.1 + 25)), some (.int (nI l)), some (.int (nI p))] [] 0 (CA g G T R S K (mkE inc (o, n) t) Q V an) B := by
  have hw2 : ∀ x, wgt G x < 2 ^ 31 := fun x => hw (x % 24) (by omega)
  intro p
  induction p with
  | zero =>
    intro o hp ho hP
    refine a_iload_n (q := 6) dX6_sortIn_5 rfl rfl rfl ?_
    refine a_if_leN (q := 9) 49 dX6_sortIn_6 (by decide) (by omega) rfl (fun c6 => ?_) (fun c6 => ?_)
    · skip
      refine a_aload_n (q := 50) dX6_sortIn_49 rfl rfl rfl ?_
      refine a_getA (q := 53) dX6_sortIn_50 fX6_22 rfl rfl rfl ?_
      refine a_iload_n (q := 54) dX6_sortIn_53 rfl rfl rfl ?_
      refine a_iload_n (q := 55) dX6_sortIn_54 rfl rfl rfl ?_
      refine a_iastAN (q := 56) dX6_sortIn_55 rfl (by omega) (by decide) rfl ?_
      refine a_aload_n (q := 57) dX6_sortIn_56 rfl rfl rfl ?_
      refine a_dup (q := 58) dX6_sortIn_57 rfl rfl ?_
      refine a_getA (q := 61) dX6_sortIn_58 fX6_25 rfl rfl rfl ?_
      refine a_iconst (q := 62) (nI 1) dX6_sortIn_61 (by decide) rfl ?_
      refine a_iaddN (q := 63) dX6_sortIn_62 rfl ?_
      refine a_putA (q := 66) dX6_sortIn_63 fX6_25 (fun h => nomatch h) rfl (Nat.le_of_ble_eq_true rfl) rfl rfl rfl ?_
      exact a_ret dX6_sortIn_66 rfl (Nat.le_of_ble_eq_true rfl) (Nat.le_of_ble_eq_true rfl) (hP)
    · omega
  | succ p ih =>
    intro o hp ho hP
    have h1 := hw2 (o p)
    have h2 := hw2 l
    have h3 := ho p (by omega)
    unfold siF at hP
    refine a_iload_n (q := 6) dX6_sortIn_5 rfl rfl rfl ?_
    refine a_if_leN (q := 9) 49 dX6_sortIn_6 (by decide) (by omega) rfl (fun c6 => ?_) (fun c6 => ?_)
    · omega
    · skip
      refine a_aload_n (q := 10) dX6_sortIn_9 rfl rfl rfl ?_
      refine a_aload_n (q := 11) dX6_sortIn_10 rfl rfl rfl ?_
      refine a_getA (q := 14) dX6_sortIn_11 fX6_22 rfl rfl rfl ?_
      refine a_iload_n (q := 15) dX6_sortIn_14 rfl rfl rfl ?_
      refine a_iconst (q := 16) (nI 1) dX6_sortIn_15 (by decide) rfl ?_
      refine a_isubN (q := 17) dX6_sortIn_16 (by omega) rfl ?_
      refine a_ialdAN (q := 18) dX6_sortIn_17 rfl (by omega) (by decide) rfl ?_
      show AW _ _ _ _ _ _ _ _ _ _ (.int (nI (o p)) :: _) _ _ _
      refine a_cVAv (q := 21) _ dX6_sortIn_18 kX6_68 (c_weightOf (o p) (by unfold big; omega)) rfl rfl rfl (Nat.le_of_ble_eq_true rfl) ⟨(Nat.le_of_ble_eq_true rfl), (Nat.le_of_ble_eq_true rfl)⟩ ⟨(Nat.le_of_ble_eq_true rfl), (Nat.le_of_ble_eq_true rfl)⟩ rfl ?_
      refine a_aload_n (q := 22) dX6_sortIn_21 rfl rfl rfl ?_
      refine a_iload_n (q := 23) dX6_sortIn_22 rfl rfl rfl ?_
      refine a_cVAv (q := 26) _ dX6_sortIn_23 kX6_68 (c_weightOf l (by unfold big; omega)) rfl rfl rfl (Nat.le_of_ble_eq_true rfl) ⟨(Nat.le_of_ble_eq_true rfl), (Nat.le_of_ble_eq_true rfl)⟩ ⟨(Nat.le_of_ble_eq_true rfl), (Nat.le_of_ble_eq_true rfl)⟩ rfl ?_
      refine a_icmp_geN (q := 29) 49 dX6_sortIn_26 (by decide) (by omega) (by omega) rfl (fun c26 => ?_) (fun c26 => ?_)
      · rw [if_neg (by omega)] at hP
        refine a_aload_n (q := 50) dX6_sortIn_49 rfl rfl rfl ?_
        refine a_getA (q := 53) dX6_sortIn_50 fX6_22 rfl rfl rfl ?_
        refine a_iload_n (q := 54) dX6_sortIn_53 rfl rfl rfl ?_
        refine a_iload_n (q := 55) dX6_sortIn_54 rfl rfl rfl ?_
        refine a_iastAN (q := 56) dX6_sortIn_55 rfl (by omega) (by decide) rfl ?_
        refine a_aload_n (q := 57) dX6_sortIn_56 rfl rfl rfl ?_
        refine a_dup (q := 58) dX6_sortIn_57 rfl rfl ?_
        refine a_getA (q := 61) dX6_sortIn_58 fX6_25 rfl rfl rfl ?_
        refine a_iconst (q := 62) (nI 1) dX6_sortIn_61 (by decide) rfl ?_
        refine a_iaddN (q := 63) dX6_sortIn_62 rfl ?_
        refine a_putA (q := 66) dX6_sortIn_63 fX6_25 (fun h => nomatch h) rfl (Nat.le_of_ble_eq_true rfl) rfl rfl rfl ?_
        exact a_ret dX6_sortIn_66 rfl (Nat.le_of_ble_eq_true rfl) (Nat.le_of_ble_eq_true rfl) (hP)
      · rw [if_pos (by omega)] at hP
        refine a_aload_n (q := 30) dX6_sortIn_29 rfl rfl rfl ?_
        refine a_getA (q := 33) dX6_sortIn_30 fX6_22 rfl rfl rfl ?_
        refine a_iload_n (q := 34) dX6_sortIn_33 rfl rfl rfl ?_
        refine a_aload_n (q := 35) dX6_sortIn_34 rfl rfl rfl ?_
        refine a_getA (q := 38) dX6_sortIn_35 fX6_22 rfl rfl rfl ?_
        refine a_iload_n (q := 39) dX6_sortIn_38 rfl rfl rfl ?_
        refine a_iconst (q := 40) (nI 1) dX6_sortIn_39 (by decide) rfl ?_
        refine a_isubN (q := 41) dX6_sortIn_40 (by omega) rfl ?_
        refine a_ialdAN (q := 42) dX6_sortIn_41 rfl (by omega) (by decide) rfl ?_
        refine a_iastAN (q := 43) dX6_sortIn_42 rfl (by omega) (by decide) rfl ?_
        refine a_iincD (q := 46) dX6_sortIn_43 rfl (by decide) rfl rfl ?_
        refine a_goto 5 dX6_sortIn_46 (by decide) ?_
        exact ih (va_up o (p + 1) (o p)) (by omega) (fun i hi => by rw [va_other (by omega)]; exact ho i (by omega)) hP
theorem c_sortIn (l : Nat) (hl : l < 72) (hw : ∀ i, i < 24 → G.2.2.2.2 i < big) (t : Ts) (inc : Nat → Int32) (x : Or) (hx : oOk l x) : Ct g mX6_sortIn [.ref (g.1 + 25), .int (nI l)] 0 (CA g G T R S K (mkE inc x t) Q V an) B 0 0 (rP none (CA g G T R S K (mkE inc (sin G l x) t) Q V an) B) noX := by
  have hx1 := hx.1
  refine Ct.of [some (.ref (g.1 + 25)), some (.int (nI l)), none] (by decide) rfl (Nat.le_of_ble_eq_true rfl) rfl ?_
  refine a_aload_n (q := 1) dX6_sortIn_0 rfl rfl rfl ?_
  refine a_getA (q := 4) dX6_sortIn_1 fX6_25 rfl rfl rfl ?_
  refine a_istore_n (q := 5) dX6_sortIn_4 rfl (Nat.le_of_ble_eq_true rfl) rfl rfl ?_
  exact l_sortIn _ l hl hw t inc x.2 (by omega) _ x.1 (Nat.le_refl _) (fun i hi => by have := hx.2 i hi; omega) ⟨rfl, rfl, rfl, rfl⟩
theorem l_sortLinks (P : ps_T) (hg : gok G) (hw : ∀ i, i < 24 → G.2.2.2.2 i < big) (t : Ts) (inc vl p : Nat → Int32) : ∀ (m l : Nat) (x : Or), 72 - l = m → l ≤ 72 → oOk l x → P none 0 (CA g G T R S (lsr G S.1, ltg G S.1, vl, p) (mkE inc (slF G S.1 m l x) t) Q V an) B → AW g mX6_sortLinks 0 0 P noX 0 0 7 [some (.ref (g.1 + 25)), some (.int (nI l))] [] 0 (CA g G T R S (lsr G S.1, ltg G S.1, vl, p) (mkE inc x t) Q V an) B := by
  intro m
  induction m with
  | zero =>
    intro l x hm hl hx hp
    refine a_iload_n (q := 8) dX6_sortLinks_7 rfl rfl rfl ?_
    refine a_bipush (q := 10) (nI 72) dX6_sortLinks_8 (by decide) rfl ?_
    refine a_icmp_geN (q := 13) 37 dX6_sortLinks_10 (by decide) (by omega) (by omega) rfl (fun c10 => ?_) (fun c10 => ?_)
    · skip
      exact a_ret dX6_sortLinks_37 rfl (Nat.le_of_ble_eq_true rfl) (Nat.le_of_ble_eq_true rfl) (hp)
    · omega
  | succ m ih =>
    intro l x hm hl hx hp
    unfold slF at hp
    refine a_iload_n (q := 8) dX6_sortLinks_7 rfl rfl rfl ?_
    refine a_bipush (q := 10) (nI 72) dX6_sortLinks_8 (by decide) rfl ?_
    refine a_icmp_geN (q := 13) 37 dX6_sortLinks_10 (by decide) (by omega) (by omega) rfl (fun c10 => ?_) (fun c10 => ?_)
    · omega
    · skip
      refine a_aload_n (q := 14) dX6_sortLinks_13 rfl rfl rfl ?_
      refine a_getA (q := 17) dX6_sortLinks_14 fX6_38 rfl rfl rfl ?_
      refine a_getA (q := 20) dX6_sortLinks_17 fX6_60 rfl rfl rfl ?_
      refine a_iload_n (q := 21) dX6_sortLinks_20 rfl rfl rfl ?_
      refine a_ialdAI (q := 22) dX6_sortLinks_21 rfl (by omega) (by decide) rfl ?_
      refine a_iconst (q := 23) (-1) dX6_sortLinks_22 (by decide) rfl ?_
      refine a_icmp_eq (q := 26) 31 dX6_sortLinks_23 (by decide) rfl (fun c23 => ?_) (fun c23 => ?_)
      · have c23 : lsr G S.1 l = -1 := c23
        rw [if_neg (by rw [(lsr_m1 hg).mp c23]; decide)] at hp
        have hx2 : oOk (l + 1) x := ⟨by have := hx.1; omega, fun i hi => by have := hx.2 i hi; omega⟩
        refine a_iincN (q := 34) (c := 1) dX6_sortLinks_31 rfl (by decide) rfl rfl ?_
        refine a_goto 7 dX6_sortLinks_34 (by decide) ?_
        exact ih (l + 1) _ (by omega) (by omega) hx2 hp
      · have c23 : ¬ lsr G S.1 l = -1 := c23
        have hv : lvd G S.1 l = true := by
          cases hh : lvd G S.1 l with
          | true => rfl
          | false => exact absurd ((lsr_m1 hg).mpr hh) c23
        rw [if_pos hv] at hp
        have hx2 := sin_ok (G := G) hx
        refine a_aload_n (q := 27) dX6_sortLinks_26 rfl rfl rfl ?_
        refine a_iload_n (q := 28) dX6_sortLinks_27 rfl rfl rfl ?_
        refine a_cVA0 (q := 31) _ dX6_sortLinks_28 kX6_65 (c_sortIn l (by omega) hw t inc x hx) rfl rfl rfl (Nat.le_of_ble_eq_true rfl) ⟨(Nat.le_of_ble_eq_true rfl), (Nat.le_of_ble_eq_true rfl)⟩ ⟨(Nat.le_of_ble_eq_true rfl), (Nat.le_of_ble_eq_true rfl)⟩ rfl ?_
        refine a_iincN (q := 34) (c := 1) dX6_sortLinks_31 rfl (by decide) rfl rfl ?_
        refine a_goto 7 dX6_sortLinks_34 (by decide) ?_
        exact ih (l + 1) _ (by omega) (by omega) hx2 hp
theorem c_sortLinks (hg : gok G) (hw : ∀ i, i < 24 → G.2.2.2.2 i < big) (vl p : Nat → Int32) : Ct g mX6_sortLinks [.ref (g.1 + 25)] 0 (CA g G T R S (lsr G S.1, ltg G S.1, vl, p) E Q V an) B 0 0 (rP none (CA g G T R S (lsr G S.1, ltg G S.1, vl, p) (mkE E.1 (slF G S.1 72 0 (E.2.2.2.1, 0)) (E.2.1, E.2.2.1, E.2.2.2.2.2)) Q V an) B) noX := by
  refine Ct.of [some (.ref (g.1 + 25)), none] (by decide) rfl (Nat.le_of_ble_eq_true rfl) rfl ?_
  refine a_aload_n (q := 1) dX6_sortLinks_0 rfl rfl rfl ?_
  refine a_iconst (q := 2) (nI 0) dX6_sortLinks_1 (by decide) rfl ?_
  refine a_putA (q := 5) dX6_sortLinks_2 fX6_25 (fun h => nomatch h) rfl (Nat.le_of_ble_eq_true rfl) rfl rfl rfl ?_
  refine a_iconst (q := 6) (nI 0) dX6_sortLinks_5 (by decide) rfl ?_
  refine a_istore_n (q := 7) dX6_sortLinks_6 rfl (Nat.le_of_ble_eq_true rfl) rfl rfl ?_
  exact l_sortLinks _ hg hw (E.2.1, E.2.2.1, E.2.2.2.2.2) E.1 vl p _ 0 (E.2.2.2.1, 0) rfl (Nat.zero_le _) ⟨Nat.le_refl _, fun i hi => absurd hi (Nat.not_lt_zero i)⟩ ⟨rfl, rfl, rfl, rfl⟩
/-- the tree's state at its beginning -/
def pl0 (G : Gr) (x : Ts) : Prop := x.1 = 0 ∧ x.2.1 = 0 ∧ (∀ i, i < G.1 → x.2.2.1 i = (if i = G.1 - 1 then 0 else i)) ∧ ∀ i, i < G.1 → x.2.2.2 i = nI 0
theorem l_plant (P : ps_T) (hg : gok G) (inc : Nat → Int32) (x : Or) (hp : ∀ t : Ts, pl0 G t → P none 0 (CA g G T R S K (mkE inc x t) Q V an) B) : ∀ (m k : Nat) (pa : Nat → Nat) (po : Nat → Int32), G.1 - k = m → k ≤ G.1 → (∀ i, i < k → pa i = i ∧ po i = nI 0) → AW g mX6_plant 0 0 P noX 0 0 12 [some (.ref (g.1 + 25)), some (.int (nI k))] [] 0 (CA g G T R S K (mkE inc x (0, 0, pa, po)) Q V an) B := by
  intro m
  have h12 := hg.2.1
  have h1 := hg.1
  induction m with
  | zero =>
    intro k pa po hm hk hf
    have hk2 : k = G.1 := by omega
    subst hk2
    refine a_iload_n (q := 13) dX6_plant_12 rfl rfl rfl ?_
    refine a_aload_n (q := 14) dX6_plant_13 rfl rfl rfl ?_
    refine a_getA (q := 17) dX6_plant_14 fX6_34 rfl rfl rfl ?_
    refine a_getA (q := 20) dX6_plant_17 fX6_72 rfl rfl rfl ?_
    refine a_icmp_geN (q := 23) 43 dX6_plant_20 (by decide) (by omega) (by omega) rfl (fun c20 => ?_) (fun c20 => ?_)
    · skip
      refine a_aload_n (q := 44) dX6_plant_43 rfl rfl rfl ?_
      refine a_getA (q := 47) dX6_plant_44 fX6_28 rfl rfl rfl ?_
      refine a_aload_n (q := 48) dX6_plant_47 rfl rfl rfl ?_
      refine a_getA (q := 51) dX6_plant_48 fX6_34 rfl rfl rfl ?_
      refine a_cVAv (q := 54) _ dX6_plant_51 kX6_75 (c_exit (G := G) rfl (by omega)) rfl rfl rfl (Nat.le_of_ble_eq_true rfl) ⟨(Nat.le_of_ble_eq_true rfl), (Nat.le_of_ble_eq_true rfl)⟩ ⟨(Nat.le_of_ble_eq_true rfl), (Nat.le_of_ble_eq_true rfl)⟩ rfl ?_
      refine a_aload_n (q := 55) dX6_plant_54 rfl rfl rfl ?_
      refine a_getA (q := 58) dX6_plant_55 fX6_28 rfl rfl rfl ?_
      refine a_iconst (q := 59) (nI 0) dX6_plant_58 (by decide) rfl ?_
      refine a_ialdAN (q := 60) dX6_plant_59 rfl (by omega) (by decide) rfl ?_
      refine a_iastAN (q := 61) dX6_plant_60 rfl (by omega) (by decide) rfl ?_
      exact a_ret dX6_plant_61 rfl (Nat.le_of_ble_eq_true rfl) (Nat.le_of_ble_eq_true rfl) (hp (0, 0, va_up pa (G.1 - 1) (pa 0), po) ⟨rfl, rfl, fun i hi => by
          show va_up pa (G.1 - 1) (pa 0) i = _
          by_cases e : i = G.1 - 1
          · rw [e, va_same, if_pos rfl]; exact (hf 0 (by omega)).1
          · rw [va_other e, if_neg e]; exact (hf i hi).1, fun i hi => (hf i hi).2⟩)
    · omega
  | succ m ih =>
    intro k pa po hm hk hf
    refine a_iload_n (q := 13) dX6_plant_12 rfl rfl rfl ?_
    refine a_aload_n (q := 14) dX6_plant_13 rfl rfl rfl ?_
    refine a_getA (q := 17) dX6_plant_14 fX6_34 rfl rfl rfl ?_
    refine a_getA (q := 20) dX6_plant_17 fX6_72 rfl rfl rfl ?_
    refine a_icmp_geN (q := 23) 43 dX6_plant_20 (by decide) (by omega) (by omega) rfl (fun c20 => ?_) (fun c20 => ?_)
    · omega
    · skip
      refine a_aload_n (q := 24) dX6_plant_23 rfl rfl rfl ?_
      refine a_getA (q := 27) dX6_plant_24 fX6_28 rfl rfl rfl ?_
      refine a_iload_n (q := 28) dX6_plant_27 rfl rfl rfl ?_
      refine a_iload_n (q := 29) dX6_plant_28 rfl rfl rfl ?_
      refine a_iastAN (q := 30) dX6_plant_29 rfl (by omega) (by decide) rfl ?_
      refine a_aload_n (q := 31) dX6_plant_30 rfl rfl rfl ?_
      refine a_getA (q := 34) dX6_plant_31 fX6_31 rfl rfl rfl ?_
      refine a_iload_n (q := 35) dX6_plant_34 rfl rfl rfl ?_
      refine a_iconst (q := 36) (nI 0) dX6_plant_35 (by decide) rfl ?_
      refine a_iastAI (q := 37) dX6_plant_36 rfl (by omega) (by decide) rfl ?_
      refine a_iincN (q := 40) (c := 1) dX6_plant_37 rfl (by decide) rfl rfl ?_
      refine a_goto 12 dX6_plant_40 (by decide) ?_
      exact ih (k + 1) (va_up pa k k) (va_up po k (nI 0)) (by omega) (by omega) (fun i hi => by
      by_cases e : i = k
      · rw [e, va_same, va_same]; exact ⟨rfl, rfl⟩
      · rw [va_other e, va_other e]; exact hf i (by omega))
theorem c_plant (hg : gok G) (inc : Nat → Int32) (x : Or) (t : Ts) : Ct g mX6_plant [.ref (g.1 + 25)] 0 (CA g G T R S K (mkE inc x t) Q V an) B 0 0 (fun v z A' B' => v = none ∧ z = 0 ∧ B' = B ∧ ∃ t, pl0 G t ∧ A' = CA g G T R S K (mkE inc x t) Q V an) noX := by
  refine Ct.of [some (.ref (g.1 + 25)), none] (by decide) rfl (Nat.le_of_ble_eq_true rfl) rfl ?_
  refine a_aload_n (q := 1) dX6_plant_0 rfl rfl rfl ?_
  refine a_iconst (q := 2) (nI 0) dX6_plant_1 (by decide) rfl ?_
  refine a_putA (q := 5) dX6_plant_2 fX6_15 (fun h => nomatch h) rfl (Nat.le_of_ble_eq_true rfl) rfl rfl rfl ?_
  refine a_aload_n (q := 6) dX6_plant_5 rfl rfl rfl ?_
  refine a_iconst (q := 7) (nI 0) dX6_plant_6 (by decide) rfl ?_
  refine a_putA (q := 10) dX6_plant_7 fX6_19 (fun h => nomatch h) rfl (Nat.le_of_ble_eq_true rfl) rfl rfl rfl ?_
  refine a_iconst (q := 11) (nI 0) dX6_plant_10 (by decide) rfl ?_
  refine a_istore_n (q := 12) dX6_plant_11 rfl (Nat.le_of_ble_eq_true rfl) rfl rfl ?_
  exact l_plant _ hg inc x (fun t ht => ⟨rfl, rfl, rfl, t, ht, rfl⟩) _ 0 t.2.2.1 t.2.2.2 rfl (Nat.zero_le _) (fun i hi => absurd hi (Nat.not_lt_zero i))
theorem l_join (P : ps_T) (hg : gok G) (inc : Nat → Int32) (x : Or) (cn cw l s t a b : Nat) (sh : Int32) (pa : Nat → Nat) (po : Nat → Int32) (hpa : ∀ i, i < G.1 → pa i < big) (ha : a < big) (hp : P none 0 (CA g G T R S K (mkE inc x (cn, cw, jpa G.1 pa a b, jpo G.1 pa po a sh)) Q V an) B) : ∀ m k : Nat, G.1 - k = m → k ≤ G.1 → AW g mX6_join 0 0 P noX 0 0 64 [some (.ref (g.1 + 25)), some (.int (nI l)), some (.int (nI s)), some (.int (nI t)), some (.int sh), some (.int (nI b)), some (.int (nI a)), some (.int (nI k))] [] 0 (CA g G T R S K (mkE inc x (cn, cw, jpa k pa a b, jpo k pa po a sh)) Q V an) B := by
  intro m
  have h12 := hg.2.1
  unfold big at *
  induction m with
  | zero =>
    intro k hm hk
    have hk2 : k = G.1 := by omega
    subst hk2
    refine a_iload (q := 66) dX6_join_64 rfl rfl ?_
    refine a_aload_n (q := 67) dX6_join_66 rfl rfl rfl ?_
    refine a_getA (q := 70) dX6_join_67 fX6_34 rfl rfl rfl ?_
    refine a_getA (q := 73) dX6_join_70 fX6_72 rfl rfl rfl ?_
    refine a_icmp_geN (q := 76) 115 dX6_join_73 (by decide) (by omega) (by omega) rfl (fun c73 => ?_) (fun c73 => ?_)
    · skip
      exact a_ret dX6_join_115 rfl (Nat.le_of_ble_eq_true rfl) (Nat.le_of_ble_eq_true rfl) (hp)
    · omega
  | succ m ih =>
    intro k hm hk
    have h9 := hpa k (by omega)
    have e0 : jpa k pa a b k = pa k := if_neg (fun q => Nat.lt_irrefl _ q.1)
    have e1 : jpo k pa po a sh k = po k := if_neg (fun q => Nat.lt_irrefl _ q.1)
    refine a_iload (q := 66) dX6_join_64 rfl rfl ?_
    refine a_aload_n (q := 67) dX6_join_66 rfl rfl rfl ?_
    refine a_getA (q := 70) dX6_join_67 fX6_34 rfl rfl rfl ?_
    refine a_getA (q := 73) dX6_join_70 fX6_72 rfl rfl rfl ?_
    refine a_icmp_geN (q := 76) 115 dX6_join_73 (by decide) (by omega) (by omega) rfl (fun c73 => ?_) (fun c73 => ?_)
    · omega
    · skip
      refine a_aload_n (q := 77) dX6_join_76 rfl rfl rfl ?_
      refine a_getA (q := 80) dX6_join_77 fX6_28 rfl rfl rfl ?_
      refine a_iload (q := 82) dX6_join_80 rfl rfl ?_
      refine a_ialdAN (q := 83) dX6_join_82 rfl (by omega) (by decide) rfl ?_
      show AW _ _ _ _ _ _ _ _ _ _ (.int (nI (jpa k pa a b k)) :: _) _ _ _
      rw [e0]
      refine a_iload (q := 85) dX6_join_83 rfl rfl ?_
      refine a_icmp_neN (q := 88) 109 dX6_join_85 (by decide) (by omega) (by omega) rfl (fun c85 => ?_) (fun c85 => ?_)
      · have e2 : jpa k pa a b = jpa (k + 1) pa a b := by
          funext i
          unfold jpa
          by_cases q : i = k
          · rw [q, if_neg (fun z => Nat.lt_irrefl _ z.1), if_neg (fun z => c85 z.2)]
          · simp only [show i < k + 1 ↔ i < k by omega]
        have e3 : jpo k pa po a sh = jpo (k + 1) pa po a sh := by
          funext i
          unfold jpo
          by_cases q : i = k
          · rw [q, if_neg (fun z => Nat.lt_irrefl _ z.1), if_neg (fun z => c85 z.2)]
          · simp only [show i < k + 1 ↔ i < k by omega]
        have hih := ih (k + 1) (by omega) (by omega)
        rw [← e2, ← e3] at hih
        refine a_iincN (q := 112) (c := 1) dX6_join_109 rfl (by decide) rfl rfl ?_
        refine a_goto 64 dX6_join_112 (by decide) ?_
        exact hih
      · have e2 : va_up (jpa k pa a b) k b = jpa (k + 1) pa a b := by
          funext i
          by_cases q : i = k
          · rw [q, va_same]; unfold jpa; rw [if_pos ⟨Nat.lt_succ_self _, c85⟩]
          · rw [va_other q]; unfold jpa; simp only [show i < k + 1 ↔ i < k by omega]
        have e3 : va_up (jpo k pa po a sh) k (po k + sh) = jpo (k + 1) pa po a sh := by
          funext i
          by_cases q : i = k
          · rw [q, va_same]; unfold jpo; rw [if_pos ⟨Nat.lt_succ_self _, c85⟩]
          · rw [va_other q]; unfold jpo; simp only [show i < k + 1 ↔ i < k by omega]
        have hih := ih (k + 1) (by omega) (by omega)
        rw [← e2, ← e3] at hih
        refine a_aload_n (q := 89) dX6_join_88 rfl rfl rfl ?_
        refine a_getA (q := 92) dX6_join_89 fX6_28 rfl rfl rfl ?_
        refine a_iload (q := 94) dX6_join_92 rfl rfl ?_
        refine a_iload (q := 96) dX6_join_94 rfl rfl ?_
        refine a_iastAN (q := 97) dX6_join_96 rfl (by omega) (by decide) rfl ?_
        refine a_aload_n (q := 98) dX6_join_97 rfl rfl rfl ?_
        refine a_getA (q := 101) dX6_join_98 fX6_31 rfl rfl rfl ?_
        refine a_iload (q := 103) dX6_join_101 rfl rfl ?_
        refine a_dup2 (q := 104) dX6_join_103 rfl rfl rfl ?_
        refine a_ialdAI (q := 105) dX6_join_104 rfl (by omega) (by decide) rfl ?_
        show AW _ _ _ _ _ _ _ _ _ _ (.int (jpo k pa po a sh k) :: _) _ _ _
        rw [e1]
        refine a_iload (q := 107) dX6_join_105 rfl rfl ?_
        refine a_iadd (q := 108) dX6_join_107 rfl ?_
        refine a_iastAI (q := 109) dX6_join_108 rfl (by omega) (by decide) rfl ?_
        refine a_iincN (q := 112) (c := 1) dX6_join_109 rfl (by decide) rfl rfl ?_
        refine a_goto 64 dX6_join_112 (by decide) ?_
        exact hih
theorem c_join (hg : gok G) (inc vl p : Nat → Int32) (x : Or) (t : Ts) (l : Nat) (hl : l < 72) (hv : lvd G S.1 l = true) (hpa : ∀ i, i < G.1 → t.2.2.1 i < big) : Ct g mX6_join [.ref (g.1 + 25), .int (nI l)] 0 (CA g G T R S (lsr G S.1, ltg G S.1, vl, p) (mkE inc x t) Q V an) B 0 0 (rP none (CA g G T R S (lsr G S.1, ltg G S.1, vl, p) (mkE inc x (jon G vl l t)) Q V an) B) noX := by
  have h12 := hg.2.1
  have h1 := lsN_lt hg hv
  have h2 := (ltN_lt hg hv).1
  refine Ct.of [some (.ref (g.1 + 25)), some (.int (nI l)), none, none, none, none, none, none] (by decide) rfl (Nat.le_of_ble_eq_true rfl) rfl ?_
  refine a_aload_n (q := 1) dX6_join_0 rfl rfl rfl ?_
  refine a_getA (q := 4) dX6_join_1 fX6_38 rfl rfl rfl ?_
  refine a_getA (q := 7) dX6_join_4 fX6_60 rfl rfl rfl ?_
  refine a_iload_n (q := 8) dX6_join_7 rfl rfl rfl ?_
  refine a_ialdAI (q := 9) dX6_join_8 rfl (by omega) (by decide) rfl ?_
  show AW _ _ _ _ _ _ _ _ _ _ (.int (lsr G S.1 l) :: _) _ _ _
  rw [lsr_v hv]
  refine a_istore_n (q := 10) dX6_join_9 rfl (Nat.le_of_ble_eq_true rfl) rfl rfl ?_
  refine a_aload_n (q := 11) dX6_join_10 rfl rfl rfl ?_
  refine a_getA (q := 14) dX6_join_11 fX6_38 rfl rfl rfl ?_
  refine a_getA (q := 17) dX6_join_14 fX6_79 rfl rfl rfl ?_
  refine a_iload_n (q := 18) dX6_join_17 rfl rfl rfl ?_
  refine a_ialdAI (q := 19) dX6_join_18 rfl (by omega) (by decide) rfl ?_
  show AW _ _ _ _ _ _ _ _ _ _ (.int (ltg G S.1 l) :: _) _ _ _
  rw [ltg_v hv]
  refine a_istore_n (q := 20) dX6_join_19 rfl (Nat.le_of_ble_eq_true rfl) rfl rfl ?_
  refine a_aload_n (q := 21) dX6_join_20 rfl rfl rfl ?_
  refine a_getA (q := 24) dX6_join_21 fX6_31 rfl rfl rfl ?_
  refine a_iload_n (q := 25) dX6_join_24 rfl rfl rfl ?_
  refine a_ialdAI (q := 26) dX6_join_25 rfl (by omega) (by decide) rfl ?_
  refine a_aload_n (q := 27) dX6_join_26 rfl rfl rfl ?_
  refine a_getA (q := 30) dX6_join_27 fX6_38 rfl rfl rfl ?_
  refine a_getA (q := 33) dX6_join_30 fX6_85 rfl rfl rfl ?_
  refine a_iload_n (q := 34) dX6_join_33 rfl rfl rfl ?_
  refine a_ialdAI (q := 35) dX6_join_34 rfl (by omega) (by decide) rfl ?_
  refine a_iadd (q := 36) dX6_join_35 rfl ?_
  refine a_aload_n (q := 37) dX6_join_36 rfl rfl rfl ?_
  refine a_getA (q := 40) dX6_join_37 fX6_31 rfl rfl rfl ?_
  refine a_iload_n (q := 41) dX6_join_40 rfl rfl rfl ?_
  refine a_ialdAI (q := 42) dX6_join_41 rfl (by omega) (by decide) rfl ?_
  refine a_isub (q := 43) dX6_join_42 rfl ?_
  refine a_istore (q := 45) dX6_join_43 (Nat.le_of_ble_eq_true rfl) rfl rfl ?_
  refine a_aload_n (q := 46) dX6_join_45 rfl rfl rfl ?_
  refine a_getA (q := 49) dX6_join_46 fX6_28 rfl rfl rfl ?_
  refine a_iload_n (q := 50) dX6_join_49 rfl rfl rfl ?_
  refine a_ialdAN (q := 51) dX6_join_50 rfl (by omega) (by decide) rfl ?_
  refine a_istore (q := 53) dX6_join_51 (Nat.le_of_ble_eq_true rfl) rfl rfl ?_
  refine a_aload_n (q := 54) dX6_join_53 rfl rfl rfl ?_
  refine a_getA (q := 57) dX6_join_54 fX6_28 rfl rfl rfl ?_
  refine a_iload_n (q := 58) dX6_join_57 rfl rfl rfl ?_
  refine a_ialdAN (q := 59) dX6_join_58 rfl (by omega) (by decide) rfl ?_
  refine a_istore (q := 61) dX6_join_59 (Nat.le_of_ble_eq_true rfl) rfl rfl ?_
  refine a_iconst (q := 62) (nI 0) dX6_join_61 (by decide) rfl ?_
  refine a_istore (q := 64) dX6_join_62 (Nat.le_of_ble_eq_true rfl) rfl rfl ?_
  have h0 : jpa 0 t.2.2.1 (t.2.2.1 (ltN G l)) (t.2.2.1 (lsN G l)) = t.2.2.1 := by funext i; exact if_neg (fun q => Nat.not_lt_zero _ q.1)
  have h3 : jpo 0 t.2.2.1 t.2.2.2 (t.2.2.1 (ltN G l)) (t.2.2.2 (lsN G l) + vl l - t.2.2.2 (ltN G l)) = t.2.2.2 := by funext i; exact if_neg (fun q => Nat.not_lt_zero _ q.1)
  have h4 := l_join (g := g) (B := B) (T := T) (R := R) (S := S) (K := (lsr G S.1, ltg G S.1, vl, p)) (Q := Q) (V := V) (an := an) (rP none (CA g G T R S (lsr G S.1, ltg G S.1, vl, p) (mkE inc x (jon G vl l t)) Q V an) B) hg inc x t.1 t.2.1 l (lsN G l) (ltN G l) (t.2.2.1 (ltN G l)) (t.2.2.1 (lsN G l)) (t.2.2.2 (lsN G l) + vl l - t.2.2.2 (ltN G l)) t.2.2.1 t.2.2.2 hpa (hpa _ (by omega)) ⟨rfl, rfl, rfl, rfl⟩ _ 0 rfl (Nat.zero_le _)
  rw [h0, h3] at h4
  exact h4
theorem c_consider (hg : gok G) (inc vl p : Nat → Int32) (x : Or) (t : Ts) (l : Nat) (hl : l < 72) (hv : lvd G S.1 l = true) (hpa : ∀ i, i < G.1 → t.2.2.1 i < big) : Ct g mX6_consider [.ref (g.1 + 25), .int (nI l)] 0 (CA g G T R S (lsr G S.1, ltg G S.1, vl, p) (mkE inc x t) Q V an) B 0 0 (rP none (CA g G T R S (lsr G S.1, ltg G S.1, vl, p) (mkE inc x (csd G vl l t)) Q V an) B) noX := by
  have h12 := hg.2.1
  have h1 := lsN_lt hg hv
  have h2 := (ltN_lt hg hv).1
  have h3 := hpa (lsN G l) (by omega)
  have h4 := hpa (ltN G l) (by omega)
  unfold big at h3 h4
  unfold csd
  refine Ct.of [some (.ref (g.1 + 25)), some (.int (nI l))] (by decide) rfl (Nat.le_of_ble_eq_true rfl) rfl ?_
  refine a_aload_n (q := 1) dX6_consider_0 rfl rfl rfl ?_
  refine a_getA (q := 4) dX6_consider_1 fX6_28 rfl rfl rfl ?_
  refine a_aload_n (q := 5) dX6_consider_4 rfl rfl rfl ?_
  refine a_getA (q := 8) dX6_consider_5 fX6_38 rfl rfl rfl ?_
  refine a_getA (q := 11) dX6_consider_8 fX6_60 rfl rfl rfl ?_
  refine a_iload_n (q := 12) dX6_consider_11 rfl rfl rfl ?_
  refine a_ialdAI (q := 13) dX6_consider_12 rfl (by omega) (by decide) rfl ?_
  show AW _ _ _ _ _ _ _ _ _ _ (.int (lsr G S.1 l) :: _) _ _ _
  rw [lsr_v hv]
  refine a_ialdAN (q := 14) dX6_consider_13 rfl (by omega) (by decide) rfl ?_
  show AW _ _ _ _ _ _ _ _ _ _ (.int (nI (t.2.2.1 (lsN G l))) :: _) _ _ _
  refine a_aload_n (q := 15) dX6_consider_14 rfl rfl rfl ?_
  refine a_getA (q := 18) dX6_consider_15 fX6_28 rfl rfl rfl ?_
  refine a_aload_n (q := 19) dX6_consider_18 rfl rfl rfl ?_
  refine a_getA (q := 22) dX6_consider_19 fX6_38 rfl rfl rfl ?_
  refine a_getA (q := 25) dX6_consider_22 fX6_79 rfl rfl rfl ?_
  refine a_iload_n (q := 26) dX6_consider_25 rfl rfl rfl ?_
  refine a_ialdAI (q := 27) dX6_consider_26 rfl (by omega) (by decide) rfl ?_
  show AW _ _ _ _ _ _ _ _ _ _ (.int (ltg G S.1 l) :: _) _ _ _
  rw [ltg_v hv]
  refine a_ialdAN (q := 28) dX6_consider_27 rfl (by omega) (by decide) rfl ?_
  show AW _ _ _ _ _ _ _ _ _ _ (.int (nI (t.2.2.1 (ltN G l))) :: _) _ _ _
  refine a_icmp_neN (q := 31) 58 dX6_consider_28 (by decide) (by omega) (by omega) rfl (fun c28 => ?_) (fun c28 => ?_)
  · rw [if_neg c28]
    refine a_aload_n (q := 59) dX6_consider_58 rfl rfl rfl ?_
    refine a_iload_n (q := 60) dX6_consider_59 rfl rfl rfl ?_
    refine a_cVA0 (q := 63) _ dX6_consider_60 kX6_82 (c_join hg inc vl p x t l hl hv hpa) rfl rfl rfl (Nat.le_of_ble_eq_true rfl) ⟨(Nat.le_of_ble_eq_true rfl), (Nat.le_of_ble_eq_true rfl)⟩ ⟨(Nat.le_of_ble_eq_true rfl), (Nat.le_of_ble_eq_true rfl)⟩ rfl ?_
    exact a_ret dX6_consider_63 rfl (Nat.le_of_ble_eq_true rfl) (Nat.le_of_ble_eq_true rfl) (⟨rfl, rfl, rfl, rfl⟩)
  · rw [if_pos c28]
    refine a_aload_n (q := 32) dX6_consider_31 rfl rfl rfl ?_
    refine a_dup (q := 33) dX6_consider_32 rfl rfl ?_
    refine a_getA (q := 36) dX6_consider_33 fX6_15 rfl rfl rfl ?_
    refine a_iconst (q := 37) (nI 1) dX6_consider_36 (by decide) rfl ?_
    refine a_iaddN (q := 38) dX6_consider_37 rfl ?_
    refine a_putA (q := 41) dX6_consider_38 fX6_15 (fun h => nomatch h) rfl (Nat.le_of_ble_eq_true rfl) rfl rfl rfl ?_
    refine a_aload_n (q := 42) dX6_consider_41 rfl rfl rfl ?_
    refine a_dup (q := 43) dX6_consider_42 rfl rfl ?_
    refine a_getA (q := 46) dX6_consider_43 fX6_19 rfl rfl rfl ?_
    refine a_aload_n (q := 47) dX6_consider_46 rfl rfl rfl ?_
    refine a_iload_n (q := 48) dX6_consider_47 rfl rfl rfl ?_
    refine a_cVAv (q := 51) _ dX6_consider_48 kX6_68 (c_weightOf (E := mkE inc x (t.1 + 1, t.2)) l (by unfold big; omega)) rfl rfl rfl (Nat.le_of_ble_eq_true rfl) ⟨(Nat.le_of_ble_eq_true rfl), (Nat.le_of_ble_eq_true rfl)⟩ ⟨(Nat.le_of_ble_eq_true rfl), (Nat.le_of_ble_eq_true rfl)⟩ rfl ?_
    refine a_iaddN (q := 52) dX6_consider_51 rfl ?_
    refine a_putA (q := 55) dX6_consider_52 fX6_19 (fun h => nomatch h) rfl (Nat.le_of_ble_eq_true rfl) rfl rfl rfl ?_
    refine a_goto 63 dX6_consider_55 (by decide) ?_
    exact a_ret dX6_consider_63 rfl (Nat.le_of_ble_eq_true rfl) (Nat.le_of_ble_eq_true rfl) (⟨rfl, rfl, rfl, rfl⟩)
theorem l_cinc (P : ps_T) (hg : gok G) (vl p : Nat → Int32) (x : Or) (t : Ts) (hx : x.2 ≤ 72) (ho : ∀ i, i < x.2 → x.1 i < 72 ∧ lvd G S.1 (x.1 i) = true) : ∀ (m j : Nat) (inc : Nat → Int32) (L2 : Option Value), x.2 - j = m → j ≤ x.2 → P none 0 (CA g G T R S (lsr G S.1, ltg G S.1, vl, p) (mkE (ciF G vl t.2.2.2 x.1 m j inc) x t) Q V an) B → AW g mX6_computeIncrements 0 0 P noX 0 0 2 [some (.ref (g.1 + 25)), some (.int (nI j)), L2] [] 0 (CA g G T R S (lsr G S.1, ltg G S.1, vl, p) (mkE inc x t) Q V an) B := by
  intro m
  have h12 := hg.2.1
  induction m with
  | zero =>
    intro j inc L2 hm hj hp
    refine a_iload_n (q := 3) dX6_computeIncrements_2 rfl rfl rfl ?_
    refine a_aload_n (q := 4) dX6_computeIncrements_3 rfl rfl rfl ?_
    refine a_getA (q := 7) dX6_computeIncrements_4 fX6_25 rfl rfl rfl ?_
    show AW _ _ _ _ _ _ _ _ _ _ (.int (nI x.2) :: _) _ _ _
    refine a_icmp_geN (q := 10) 68 dX6_computeIncrements_7 (by decide) (by omega) (by omega) rfl (fun c7 => ?_) (fun c7 => ?_)
    · skip
      exact a_ret dX6_computeIncrements_68 rfl (Nat.le_of_ble_eq_true rfl) (Nat.le_of_ble_eq_true rfl) (hp)
    · omega
  | succ m ih =>
    intro j inc L2 hm hj hp
    obtain ⟨h1, hv⟩ := ho j (by omega)
    have h2 := lsN_lt hg hv
    have h3 := (ltN_lt hg hv).1
    refine a_iload_n (q := 3) dX6_computeIncrements_2 rfl rfl rfl ?_
    refine a_aload_n (q := 4) dX6_computeIncrements_3 rfl rfl rfl ?_
    refine a_getA (q := 7) dX6_computeIncrements_4 fX6_25 rfl rfl rfl ?_
    show AW _ _ _ _ _ _ _ _ _ _ (.int (nI x.2) :: _) _ _ _
    refine a_icmp_geN (q := 10) 68 dX6_computeIncrements_7 (by decide) (by omega) (by omega) rfl (fun c7 => ?_) (fun c7 => ?_)
    · omega
    · skip
      refine a_aload_n (q := 11) dX6_computeIncrements_10 rfl rfl rfl ?_
      refine a_getA (q := 14) dX6_computeIncrements_11 fX6_22 rfl rfl rfl ?_
      refine a_iload_n (q := 15) dX6_computeIncrements_14 rfl rfl rfl ?_
      refine a_ialdAN (q := 16) dX6_computeIncrements_15 rfl (by omega) (by decide) rfl ?_
      show AW _ _ _ _ _ _ _ _ _ _ (.int (nI (x.1 j)) :: _) _ _ _
      refine a_istore_n (q := 17) dX6_computeIncrements_16 rfl (Nat.le_of_ble_eq_true rfl) rfl rfl ?_
      refine a_aload_n (q := 18) dX6_computeIncrements_17 rfl rfl rfl ?_
      refine a_getA (q := 21) dX6_computeIncrements_18 fX6_9 rfl rfl rfl ?_
      refine a_iload_n (q := 22) dX6_computeIncrements_21 rfl rfl rfl ?_
      refine a_aload_n (q := 23) dX6_computeIncrements_22 rfl rfl rfl ?_
      refine a_getA (q := 26) dX6_computeIncrements_23 fX6_38 rfl rfl rfl ?_
      refine a_getA (q := 29) dX6_computeIncrements_26 fX6_85 rfl rfl rfl ?_
      refine a_iload_n (q := 30) dX6_computeIncrements_29 rfl rfl rfl ?_
      refine a_ialdAI (q := 31) dX6_computeIncrements_30 rfl (by omega) (by decide) rfl ?_
      refine a_aload_n (q := 32) dX6_computeIncrements_31 rfl rfl rfl ?_
      refine a_getA (q := 35) dX6_computeIncrements_32 fX6_31 rfl rfl rfl ?_
      refine a_aload_n (q := 36) dX6_computeIncrements_35 rfl rfl rfl ?_
      refine a_getA (q := 39) dX6_computeIncrements_36 fX6_38 rfl rfl rfl ?_
      refine a_getA (q := 42) dX6_computeIncrements_39 fX6_60 rfl rfl rfl ?_
      refine a_iload_n (q := 43) dX6_computeIncrements_42 rfl rfl rfl ?_
      refine a_ialdAI (q := 44) dX6_computeIncrements_43 rfl (by omega) (by decide) rfl ?_
      show AW _ _ _ _ _ _ _ _ _ _ (.int (lsr G S.1 (x.1 j)) :: _) _ _ _
      rw [lsr_v hv]
      refine a_ialdAI (q := 45) dX6_computeIncrements_44 rfl (by omega) (by decide) rfl ?_
      refine a_iadd (q := 46) dX6_computeIncrements_45 rfl ?_
      refine a_aload_n (q := 47) dX6_computeIncrements_46 rfl rfl rfl ?_
      refine a_getA (q := 50) dX6_computeIncrements_47 fX6_31 rfl rfl rfl ?_
      refine a_aload_n (q := 51) dX6_computeIncrements_50 rfl rfl rfl ?_
      refine a_getA (q := 54) dX6_computeIncrements_51 fX6_38 rfl rfl rfl ?_
      refine a_getA (q := 57) dX6_computeIncrements_54 fX6_79 rfl rfl rfl ?_
      refine a_iload_n (q := 58) dX6_computeIncrements_57 rfl rfl rfl ?_
      refine a_ialdAI (q := 59) dX6_computeIncrements_58 rfl (by omega) (by decide) rfl ?_
      show AW _ _ _ _ _ _ _ _ _ _ (.int (ltg G S.1 (x.1 j)) :: _) _ _ _
      rw [ltg_v hv]
      refine a_ialdAI (q := 60) dX6_computeIncrements_59 rfl (by omega) (by decide) rfl ?_
      refine a_isub (q := 61) dX6_computeIncrements_60 rfl ?_
      refine a_iastAI (q := 62) dX6_computeIncrements_61 rfl (by omega) (by decide) rfl ?_
      refine a_iincN (q := 65) (c := 1) dX6_computeIncrements_62 rfl (by decide) rfl rfl ?_
      refine a_goto 2 dX6_computeIncrements_65 (by decide) ?_
      exact ih (j + 1) _ _ (by omega) (by omega) hp
theorem c_cinc (hg : gok G) (inc vl p : Nat → Int32) (x : Or) (t : Ts) (hx : x.2 ≤ 72) (ho : ∀ i, i < x.2 → x.1 i < 72 ∧ lvd G S.1 (x.1 i) = true) : Ct g mX6_computeIncrements [.ref (g.1 + 25)] 0 (CA g G T R S (lsr G S.1, ltg G S.1, vl, p) (mkE inc x t) Q V an) B 0 0 (rP none (CA g G T R S (lsr G S.1, ltg G S.1, vl, p) (mkE (ciF G vl t.2.2.2 x.1 x.2 0 inc) x t) Q V an) B) noX := by
  refine Ct.of [some (.ref (g.1 + 25)), none, none] (by decide) rfl (Nat.le_of_ble_eq_true rfl) rfl ?_
  refine a_iconst (q := 1) (nI 0) dX6_computeIncrements_0 (by decide) rfl ?_
  refine a_istore_n (q := 2) dX6_computeIncrements_1 rfl (Nat.le_of_ble_eq_true rfl) rfl rfl ?_
  exact l_cinc _ hg vl p x t hx ho _ 0 inc _ rfl (Nat.zero_le _) ⟨rfl, rfl, rfl, rfl⟩
/-- what the sort comes to: valid links, each below 72 -/
theorem siF_mem {G : Gr} {l : Nat} {q : Nat → Prop} (hq : q l) : ∀ (p : Nat) (o : Nat → Nat), (∀ i, i < p → q (o i)) → ∀ i, i ≤ p → q (siF G l p o i) := by
  intro p
  induction p with
  | zero =>
    intro o h1 i hi
    unfold siF
    rw [show i = 0 by omega, va_same]; exact hq
  | succ p ih =>
    intro o h1 i hi
    unfold siF
    split
    · rcases Nat.lt_or_ge i (p + 1) with z | z
      · refine ih _ (fun j hj => ?_) i (by omega)
        rw [va_other (by omega)]; exact h1 j (by omega)
      · rw [show i = p + 1 by omega, siF_beyond p (p + 1) _ (by omega), va_same]
        exact h1 p (by omega)
    · by_cases e : i = p + 1
      · rw [e, va_same]; exact hq
      · rw [va_other e]; exact h1 i (by omega)
theorem slF_ok {G : Gr} {bk : Nat → Bool} : ∀ (m l : Nat) (x : Or), l + m ≤ 72 → oOk l x → (∀ i, i < x.2 → lvd G bk (x.1 i) = true) → oOk (l + m) (slF G bk m l x) ∧ ∀ i, i < (slF G bk m l x).2 → lvd G bk ((slF G bk m l x).1 i) = true := by
  intro m
  induction m with
  | zero => intro l x _ h1 h2; exact ⟨h1, h2⟩
  | succ m ih =>
    intro l x hl h1 h2
    unfold slF
    rw [show l + (m + 1) = (l + 1) + m by omega]
    split
    · rename_i hv
      refine ih (l + 1) _ (by omega) (sin_ok h1) (fun i hi => ?_)
      have hi' : i < x.2 + 1 := hi
      exact siF_mem (q := fun l => lvd G bk l = true) hv x.2 x.1 h2 i (by omega)
    · exact ih (l + 1) _ (by omega) ⟨by have := h1.1; omega, fun i hi => by have := h1.2 i hi; omega⟩ h2
/-- parts stay small -/
def paS (G : Gr) (t : Ts) : Prop := ∀ i, i < G.1 → t.2.2.1 i < big
theorem csd_paS {G : Gr} {bk : Nat → Bool} {vl : Nat → Int32} {l : Nat} {t : Ts} (hg : gok G) (hv : lvd G bk l = true) (h : paS G t) : paS G (csd G vl l t) := by
  unfold csd
  split
  · exact h
  · intro i hi
    have h1 := lsN_lt hg hv
    show jpa G.1 t.2.2.1 (t.2.2.1 (ltN G l)) (t.2.2.1 (lsN G l)) i < big
    unfold jpa
    split
    · exact h _ (by omega)
    · exact h i hi
theorem l_tree (P : ps_T) (hg : gok G) (inc vl p : Nat → Int32) (x : Or) (hx : x.2 ≤ 72) (ho : ∀ i, i < x.2 → x.1 i < 72 ∧ lvd G S.1 (x.1 i) = true) : ∀ (m j : Nat) (t : Ts), x.2 - j = m → j ≤ x.2 → paS G t → P none 0 (CA g G T R S (lsr G S.1, ltg G S.1, vl, p) (mkE (ciF G vl (trF G vl x.1 m j t).2.2.2 x.1 x.2 0 inc) x (trF G vl x.1 m j t)) Q V an) B → AW g mX6_build 0 0 P noX 0 0 10 [some (.ref (g.1 + 25)), some (.int (nI j))] [] 0 (CA g G T R S (lsr G S.1, ltg G S.1, vl, p) (mkE inc x t) Q V an) B := by
  intro m
  induction m with
  | zero =>
    intro j t hm hj ht hp
    refine a_iload_n (q := 11) dX6_build_10 rfl rfl rfl ?_
    refine a_aload_n (q := 12) dX6_build_11 rfl rfl rfl ?_
    refine a_getA (q := 15) dX6_build_12 fX6_25 rfl rfl rfl ?_
    show AW _ _ _ _ _ _ _ _ _ _ (.int (nI x.2) :: _) _ _ _
    refine a_icmp_geN (q := 18) 34 dX6_build_15 (by decide) (by omega) (by omega) rfl (fun c15 => ?_) (fun c15 => ?_)
    · skip
      refine a_aload_n (q := 35) dX6_build_34 rfl rfl rfl ?_
      refine a_cVA0 (q := 38) _ dX6_build_35 kX6_52 (c_cinc hg inc vl p x t hx ho) rfl rfl rfl (Nat.le_of_ble_eq_true rfl) ⟨(Nat.le_of_ble_eq_true rfl), (Nat.le_of_ble_eq_true rfl)⟩ ⟨(Nat.le_of_ble_eq_true rfl), (Nat.le_of_ble_eq_true rfl)⟩ rfl ?_
      exact a_ret dX6_build_38 rfl (Nat.le_of_ble_eq_true rfl) (Nat.le_of_ble_eq_true rfl) (hp)
    · omega
  | succ m ih =>
    intro j t hm hj ht hp
    obtain ⟨h1, hv⟩ := ho j (by omega)
    refine a_iload_n (q := 11) dX6_build_10 rfl rfl rfl ?_
    refine a_aload_n (q := 12) dX6_build_11 rfl rfl rfl ?_
    refine a_getA (q := 15) dX6_build_12 fX6_25 rfl rfl rfl ?_
    show AW _ _ _ _ _ _ _ _ _ _ (.int (nI x.2) :: _) _ _ _
    refine a_icmp_geN (q := 18) 34 dX6_build_15 (by decide) (by omega) (by omega) rfl (fun c15 => ?_) (fun c15 => ?_)
    · omega
    · skip
      refine a_aload_n (q := 19) dX6_build_18 rfl rfl rfl ?_
      refine a_aload_n (q := 20) dX6_build_19 rfl rfl rfl ?_
      refine a_getA (q := 23) dX6_build_20 fX6_22 rfl rfl rfl ?_
      refine a_iload_n (q := 24) dX6_build_23 rfl rfl rfl ?_
      refine a_ialdAN (q := 25) dX6_build_24 rfl (by omega) (by decide) rfl ?_
      show AW _ _ _ _ _ _ _ _ _ _ (.int (nI (x.1 j)) :: _) _ _ _
      refine a_cVA0 (q := 28) _ dX6_build_25 kX6_48 (c_consider hg inc vl p x t (x.1 j) h1 hv ht) rfl rfl rfl (Nat.le_of_ble_eq_true rfl) ⟨(Nat.le_of_ble_eq_true rfl), (Nat.le_of_ble_eq_true rfl)⟩ ⟨(Nat.le_of_ble_eq_true rfl), (Nat.le_of_ble_eq_true rfl)⟩ rfl ?_
      refine a_iincN (q := 31) (c := 1) dX6_build_28 rfl (by decide) rfl rfl ?_
      refine a_goto 10 dX6_build_31 (by decide) ?_
      exact ih (j + 1) _ (by omega) (by omega) (csd_paS hg hv ht) hp
/-- the order of the links; the tree -/
def ord (G : Gr) (bk : Nat → Bool) (o : Nat → Nat) : Or := slF G bk 72 0 (o, 0)
theorem ord_ok {G : Gr} {bk : Nat → Bool} {o : Nat → Nat} : (ord G bk o).2 ≤ 72 ∧ ∀ i, i < (ord G bk o).2 → (ord G bk o).1 i < 72 ∧ lvd G bk ((ord G bk o).1 i) = true := by
  have h := slF_ok (G := G) (bk := bk) 72 0 (o, 0) (by omega) ⟨Nat.le_refl _, fun i hi => absurd hi (Nat.not_lt_zero i)⟩ (fun i hi => absurd hi (Nat.not_lt_zero i))
  exact ⟨h.1.1, fun i hi => ⟨h.1.2 i hi, h.2 i hi⟩⟩
theorem c_tree (hg : gok G) (hw : ∀ i, i < 24 → G.2.2.2.2 i < big) (vl p : Nat → Int32) : Ct g mX6_build [.ref (g.1 + 25)] 0 (CA g G T R S (lsr G S.1, ltg G S.1, vl, p) E Q V an) B 0 0 (fun v z A' B' => v = none ∧ z = 0 ∧ B' = B ∧ ∃ t0, pl0 G t0 ∧ A' = CA g G T R S (lsr G S.1, ltg G S.1, vl, p) (mkE (ciF G vl (trF G vl (ord G S.1 E.2.2.2.1).1 (ord G S.1 E.2.2.2.1).2 0 t0).2.2.2 (ord G S.1 E.2.2.2.1).1 (ord G S.1 E.2.2.2.1).2 0 E.1) (ord G S.1 E.2.2.2.1) (trF G vl (ord G S.1 E.2.2.2.1).1 (ord G S.1 E.2.2.2.1).2 0 t0)) Q V an) noX := by
  have h12 := hg.2.1
  refine Ct.of [some (.ref (g.1 + 25)), none] (by decide) rfl (Nat.le_of_ble_eq_true rfl) rfl ?_
  refine a_aload_n (q := 1) dX6_build_0 rfl rfl rfl ?_
  refine a_cVA0 (q := 4) _ dX6_build_1 kX6_42 (c_sortLinks hg hw vl p) rfl rfl rfl (Nat.le_of_ble_eq_true rfl) ⟨(Nat.le_of_ble_eq_true rfl), (Nat.le_of_ble_eq_true rfl)⟩ ⟨(Nat.le_of_ble_eq_true rfl), (Nat.le_of_ble_eq_true rfl)⟩ rfl ?_
  refine a_aload_n (q := 5) dX6_build_4 rfl rfl rfl ?_
  refine a_callVA (q := 8) _ dX6_build_5 kX6_45 (c_plant hg E.1 (ord G S.1 E.2.2.2.1) (E.2.1, E.2.2.1, E.2.2.2.2.2)) rfl rfl rfl (Nat.le_of_ble_eq_true rfl) ⟨(Nat.le_of_ble_eq_true rfl), (Nat.le_of_ble_eq_true rfl)⟩ ⟨(Nat.le_of_ble_eq_true rfl), (Nat.le_of_ble_eq_true rfl)⟩ rfl (fun v9 z9 A9 B9 h9 => ?_) (fun E9 z9 A9 B9 h9 => h9.elim)
  obtain ⟨rfl, rfl, rfl, t0, ht0, rfl⟩ := h9
  show AW _ _ _ _ _ _ _ _ _ _ [] _ _ _
  refine a_iconst (q := 9) (nI 0) dX6_build_8 (by decide) rfl ?_
  refine a_istore_n (q := 10) dX6_build_9 rfl (Nat.le_of_ble_eq_true rfl) rfl rfl ?_
  exact l_tree _ hg E.1 vl p _ ord_ok.1 ord_ok.2 _ 0 t0 rfl (Nat.zero_le _) (fun i hi => by
  rw [ht0.2.2.1 i hi]
  unfold big
  split <;> omega) ⟨rfl, rfl, rfl, t0, ht0, rfl⟩
end TreeC

