/-! ===== findPath of the two ===== -/
section Find2
variable {G : Gr} {bc bm : Nat → Bool} {V p f : Nat → Int32} {np nv : Nat → Nat} {T : Tx}
theorem fnA_spec : ∀ (m k : Nat) (q : Bool), fnA G T m k q = true ↔ q = true ∧ ∀ i, k ≤ i → i < k + m → inR (chN T i) G.1 = true := by
  intro m
  induction m with
  | zero => intro k q; exact ⟨fun h => ⟨h, fun i h1 h2 => by omega⟩, fun h => h.1⟩
  | succ m ih =>
    intro k q
    unfold fnA
    rw [ih, Bool.and_eq_true]
    constructor
    · rintro ⟨⟨h1, h2⟩, h3⟩
      refine ⟨h1, fun i z1 z2 => ?_⟩
      by_cases e : i = k
      · rw [e]; exact h2
      · exact h3 i (by omega) (by omega)
    · rintro ⟨h1, h2⟩
      exact ⟨⟨h1, h2 k (Nat.le_refl _) (by omega)⟩, fun i z1 z2 => h2 i (by omega) (by omega)⟩
theorem plv_m1 {K : Lk} {x : Int32} : plv K (-1) x = -1 := if_pos (Or.inl rfl)
theorem plv_m2 {K : Lk} {s : Int32} : plv K s (-1) = -1 := if_pos (Or.inr rfl)
theorem plv_v {K : Lk} {s l : Nat} (hs : s < 2 ^ 31) (hl : l < 2 ^ 31) : plv K (nI s) (nI l) = nI s + K.2.2.1 l := by
  unfold plv
  rw [if_neg (fun z => by rcases z with q | q; exact nI_m1 hs q; exact nI_m1 hl q), nI_clamp hl]
theorem fpF_m1 {K : Lk} : ∀ (m k : Nat), fpF G K T m k (-1) = -1
  | 0, _ => rfl
  | m + 1, k => by unfold fpF; rw [plv_m1]; exact fpF_m1 m (k + 1)
theorem fpE_m1 {K : Lk} : fpE G K T (-1) = -1 := by
  unfold fpE
  split
  · rfl
  · exact plv_m1
theorem i32_6 (s e v : Int32) : s + e + v = s + v + e := by grind
/-- the middle of the path -/
theorem mid_loop (hg : gok G) (hb : bE G bc bm) (hL : lad G bc p f np nv) (hV : ∀ k, mIs G bm k = true → V k = f (c2 bm k)) {c : Nat → Nat} (hc : ∀ i, i < T.1 → chN T i = nI (c i) ∧ c i < G.1) : ∀ (m k S0 : Nat), k + m = T.1 → 1 ≤ k → S0 + np (c (k - 1)) ≤ np 0 →
    (∃ S1, fpF G (lsr G bc, ltg G bc, f, p) T m k (nI S0) = nI S1 ∧ S1 + np (c (T.1 - 1)) ≤ np 0 ∧ ∀ e, fnF G T bm V m k (nI S0 + e) = nI S1 + e) ∨ (fpF G (lsr G bc, ltg G bc, f, p) T m k (nI S0) = -1 ∧ ∀ e, fnF G T bm V m k (nI S0 + e) = -1) := by
  have g1 := hg.1
  have hn0 := (hL.1 0 (by omega)).2
  intro m
  induction m with
  | zero =>
    intro k S0 hk h1 hS
    have : k = T.1 := by omega
    subst this
    exact Or.inl ⟨S0, rfl, hS, fun e => rfl⟩
  | succ m ih =>
    intro k S0 hk h1 hS
    unfold fpF fnF
    obtain ⟨c1, c2'⟩ := hc (k - 1) (by omega)
    obtain ⟨c3, c4⟩ := hc k (by omega)
    rw [c1, c3]
    rcases mid_bt hg hb hL hV c2' c4 with ⟨z1, z2⟩ | ⟨j, z1, z2, z3, z4, z5, z6⟩
    · right
      rw [z1, plv_m2]
      refine ⟨fpF_m1 _ _, fun e => ?_⟩
      cases hj : ebt G (nI (c (k - 1))) (nI (c k)) with
      | none => rfl
      | some j =>
        show (if bm j = true then -1 else _) = _
        rw [if_pos (z2 j hj)]
    · have hj72 := z4.1
      have hl := lsN_lt hg z4.2.1
      rw [z4.2.2] at hl
      have hld := (hL.2.2.2 _ hl).1 j z4
      rw [z5] at hld
      rw [z3, plv_v (by omega) (by omega), show ((lsr G bc, ltg G bc, f, p) : Lk).2.2.1 j = f j from rfl, hL.2.1 j z4.1 z4.2.1, nI_add, z1]
      have hstep : ∀ e : Int32, (match (some j : Option Nat) with
          | none => (-1 : Int32)
          | some j => if bm j = true then -1 else fnF G T bm V m (k + 1) (nI S0 + e + V (2 * j))) = fnF G T bm V m (k + 1) (nI (S0 + nv j) + e) := fun e => by
        show (if bm j = true then -1 else fnF G T bm V m (k + 1) (nI S0 + e + V (2 * j))) = _
        rw [if_neg (by rw [z2]; decide), z6, i32_6, nI_add]
      rcases ih (k + 1) (S0 + nv j) (by omega) (by omega) (by rw [show k + 1 - 1 = k by omega]; omega) with ⟨S1, y1, y2, y3⟩ | ⟨y1, y2⟩
      · exact Or.inl ⟨S1, y1, y2, fun e => (hstep e).trans (y3 e)⟩
      · exact Or.inr ⟨y1, fun e => (hstep e).trans (y2 e)⟩
theorem fnd_good (hg : gok G) (hb : bE G bc bm) (hL : lad G bc p f np nv) (hV : ∀ k, mIs G bm k = true → V k = f (c2 bm k)) (h0 : 0 < T.1) {c : Nat → Nat} (hc : ∀ i, i < T.1 → chN T i = nI (c i) ∧ c i < G.1) : fnd G (lsr G bc, ltg G bc, f, p) T = if fnS G T bm V = -1 ∨ fnE G T bm V = -1 then -1 else fnF G T bm V (T.1 - 1) 1 (fnS G T bm V + fnE G T bm V) := by
  have g1 := hg.1
  have g2 := hg.2.1
  have hn0 := (hL.1 0 (by omega)).2
  obtain ⟨c1, c2'⟩ := hc 0 h0
  obtain ⟨c3, c4⟩ := hc (T.1 - 1) (by omega)
  unfold fnd
  rw [if_neg (by omega)]
  -- the start
  have hst : (fpS G (lsr G bc, ltg G bc, f, p) T = -1 ∧ fnS G T bm V = -1) ∨ ∃ S0, fpS G (lsr G bc, ltg G bc, f, p) T = nI S0 ∧ fnS G T bm V = nI S0 ∧ S0 + np (c 0) ≤ np 0 := by
    unfold fpS fnS
    by_cases e : chN T 0 = 0
    · rw [if_pos e, if_pos e]
      have : c 0 = 0 := by
        rw [c1] at e
        exact (nI_eq (b := 0) (by omega) (by omega)).mp e
      exact Or.inr ⟨0, rfl, rfl, by rw [this]; omega⟩
    · rw [if_neg e, if_neg e]
      rcases st_bt hg hb hL hV (chN T 0) with ⟨z1, z2⟩ | ⟨l, z1, z2, z3, z4⟩
      · left; rw [z1, z2]; exact ⟨plv_m2, rfl⟩
      · right
        have hl72 := z1.1
        have hld := (hL.2.2.2 0 (by omega)).1 l z1
        have ht : ltN G l = c 0 := by
          rw [ltg_v z1.2.1, c1] at z2
          have := (ltN_lt hg z1.2.1).1
          exact (nI_eq (by omega) (by omega)).mp z2
        rw [ht] at hld
        rw [z3, z4, plv_v (by decide) (by omega), show ((lsr G bc, ltg G bc, f, p) : Lk).2.2.1 l = f l from rfl, hL.2.1 l z1.1 z1.2.1, nI_add, Nat.zero_add]
        exact ⟨nv l, rfl, rfl, hld⟩
  rcases hst with ⟨s1, s2⟩ | ⟨S0, s1, s2, s3⟩
  · rw [s1, s2, fpF_m1, fpE_m1, if_pos (Or.inl rfl)]
  · rw [s1, s2]
    have hS0 : nI S0 ≠ -1 := nI_m1 (by omega)
    rcases mid_loop hg hb hL hV hc (T.1 - 1) 1 S0 (by omega) (Nat.le_refl _) s3 with ⟨S1, y1, y2, y3⟩ | ⟨y1, y2⟩
    · rw [y1, y3]
      unfold fpE fnE
      by_cases e : chN T (T.1 - 1) = nI (G.1 - 1)
      · rw [if_pos e, if_pos e, if_neg (fun z => by rcases z with q | q; exact hS0 q; exact nI_m1 (by decide) q), nI_add, Nat.add_zero]
      · rw [if_neg e, if_neg e, c3]
        have ha : c (T.1 - 1) + 1 < G.1 := by
          rcases Nat.lt_or_ge (c (T.1 - 1) + 1) G.1 with w | w
          · exact w
          · exfalso; apply e; rw [c3, show c (T.1 - 1) = G.1 - 1 by omega]
        rcases en_bt hg hb hL hV ha with ⟨z1, z2⟩ | ⟨l, z1, z2, z3, z4⟩
        · rw [z1, z2, plv_m2, if_pos (Or.inr rfl)]
        · have hl72 := z1.1
          have hld := (hL.2.2.2 _ ha).1 l z1
          have hna := (hL.1 _ c4).2
          rw [z3, z4, plv_v (by omega) (by omega), if_neg (fun z => by rcases z with q | q; exact hS0 q; exact nI_m1 (by omega) q)]
          rw [show ((lsr G bc, ltg G bc, f, p) : Lk).2.2.1 l = f l from rfl, hL.2.1 l z1.1 z1.2.1]
    · rw [y1, y2, fpE_m1]
      split <;> rfl
/-- no link leads to what is no node -/
theorem btw_bad (hg : gok G) {kd : Nat} {x y : Int32} (hy : inR y G.1 = false) : btw G (lsr G bc, ltg G bc, f, p) kd x y = -1 := by
  have g2 := hg.2.1
  unfold btw
  by_cases hx : inR x G.1 = true
  · rw [if_pos hx]
    rcases btF_spec (K := (lsr G bc, ltg G bc, f, p)) (x := x) (y := y) 24 kd with ⟨h1, -⟩ | ⟨l, -, -, h3, -, -⟩
    · exact h1
    · exfalso
      have h3 : lsr G bc l = x ∧ ltg G bc l = y := h3
      obtain ⟨a, a1, a2⟩ := inR_true hx (by unfold big; omega)
      rw [a2] at h3
      obtain ⟨z1, -⟩ := (lsr_eq hg (by omega)).mp h3.1
      have := (ltN_lt hg z1).1
      rw [← h3.2, ltg_v z1, inR_nI (by unfold big; omega) (by unfold big; omega), decide_eq_true this] at hy
      cases hy
  · rw [if_neg hx]
theorem fpF_bad (hg : gok G) {i : Nat} (hi : inR (chN T i) G.1 = false) : ∀ (m k : Nat) (s : Int32), k ≤ i → i < k + m → fpF G (lsr G bc, ltg G bc, f, p) T m k s = -1 := by
  intro m
  induction m with
  | zero => intro k s h1 h2; omega
  | succ m ih =>
    intro k s h1 h2
    unfold fpF
    by_cases e : k = i
    · rw [e, btw_bad hg hi, plv_m2]; exact fpF_m1 _ _
    · exact ih (k + 1) _ (by omega) (by omega)
theorem fnd_fnR (hg : gok G) (hb : bE G bc bm) (hL : lad G bc p f np nv) (hV : ∀ k, mIs G bm k = true → V k = f (c2 bm k)) : fnd G (lsr G bc, ltg G bc, f, p) T = fnR G T bm V := by
  have g1 := hg.1
  have g2 := hg.2.1
  unfold fnR
  by_cases e : fnA G T T.1 0 (decide (0 < T.1)) = true
  · rw [if_pos e]
    obtain ⟨h1, h2⟩ := (fnA_spec _ _ _).mp e
    refine fnd_good hg hb hL hV (of_decide_eq_true h1) (c := fun i => (chN T i).toNatClampNeg) (fun i hi => ?_)
    obtain ⟨a, a1, a2⟩ := inR_true (h2 i (Nat.zero_le _) (by omega)) (by unfold big; omega)
    show chN T i = nI (chN T i).toNatClampNeg ∧ (chN T i).toNatClampNeg < G.1
    rw [a2, nI_clamp (show a < 2 ^ 31 by omega)]
    exact ⟨rfl, a1⟩
  · rw [if_neg e]
    unfold fnd
    by_cases h0 : T.1 = 0
    · rw [if_pos h0]
    · rw [if_neg h0]
      have : ∃ i, i < T.1 ∧ inR (chN T i) G.1 = false := by
        apply Classical.byContradiction
        intro q
        apply e
        refine (fnA_spec _ _ _).mpr ⟨decide_eq_true (by omega), fun i _ hi => ?_⟩
        cases hh : inR (chN T i) G.1 with
        | true => rfl
        | false => exact absurd ⟨i, by omega, hh⟩ q
      obtain ⟨i, i1, i2⟩ := this
      by_cases hi : i = 0
      · subst hi
        have hne : ¬ chN T 0 = 0 := fun q => by
          rw [q, show (0 : Int32) = nI 0 from by decide, inR_nI (by decide) (by unfold big; omega), decide_eq_true (by omega)] at i2
          cases i2
        have hs : fpS G (lsr G bc, ltg G bc, f, p) T = -1 := by
          unfold fpS
          rw [if_neg hne, btw_bad hg i2, plv_m2]
        rw [hs, fpF_m1, fpE_m1]
      · rw [fpF_bad hg i2 (T.1 - 1) 1 _ (by omega) (by omega), fpE_m1]
end Find2

