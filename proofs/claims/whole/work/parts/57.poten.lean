/-! ===== the trees at their ends; the potentials ===== -/
theorem gtF_none {G : Gr} {bm : Nat → Bool} {x : Gt} : ∀ m : Nat, gtF G bm m none x = x
  | 0 => rfl
  | _ + 1 => rfl
theorem sumN_zero {f : Nat → Nat} : ∀ n : Nat, (∀ i, i < n → f i = 0) → sumN f n = 0
  | 0, _ => rfl
  | n + 1, h => by unfold sumN; rw [sumN_zero n (fun i hi => h i (by omega)), h n (by omega)]
theorem cnt_strict {p q : Nat → Bool} {t : Nat} : ∀ n : Nat, (∀ i, i < n → p i = true → q i = true) → t < n → p t = false → q t = true → cnt n p + 1 ≤ cnt n q
  | 0, _, h, _, _ => absurd h (Nat.not_lt_zero _)
  | n + 1, hm, ht, hp, hq => by
    rw [cnt_succ, cnt_succ]
    rcases Nat.lt_or_ge t n with z | z
    · have := cnt_strict n (fun i hi => hm i (by omega)) z hp hq
      cases hh : p n with
      | false => simp; omega
      | true => rw [hm n (by omega) hh]; simp; omega
    · have e : t = n := by omega
      subst e
      have := cnt_mono t (fun i hi => hm i (by omega))
      rw [hp, hq]; simp; omega
theorem i32_1 (a v z : Int32) : a - z + v = a + v - z := by grind
theorem i32_2 (a v z : Int32) : a + v - z - v = a - z := by grind
theorem i32_3 (a b v z : Int32) : v + (a - z) - (b - z) = v + a - b := by grind
section Poten
variable {G : Gr} {bc bm : Nat → Bool} {vc : Nat → Int32}
theorem gI_0 (hg : gok G) {o : Nat → Nat} {x : Gt} {t : Ts} (hx : gt0 G x) (ht : pl0 G t) : gI G bm vc o 0 x t := by
  have he := hg.2.2.1
  have g1 := hg.1
  obtain ⟨x1, x2, x3⟩ := hx
  obtain ⟨t1, t2, t3, t4⟩ := ht
  have hs : ∀ k, mIs G bm k = true → x.2.2 k = false ∧ x.2.1 k = false := fun k hk => by
    have := mIs_lt he hk
    exact ⟨x3 k (by omega), x2 k (by omega)⟩
  refine ⟨fun i hi => by rw [x1 i hi, t3 i hi], fun k hk => ?_, ⟨?_, ?_⟩, fun k hk z => ?_, fun k hk z => ?_, ⟨?_, ?_⟩, fun k hk z => ?_, fun K h0 _ a b ha hb q => ?_⟩
  · rw [(hs k hk).1]
    exact ⟨fun z => (by cases z), fun ⟨i, z, _⟩ => (by omega)⟩
  · rw [t1, sumN_zero _ (fun i hi => by unfold cs1; rw [x3 i (by omega), if_neg (by decide)])]
  · rw [t2, sumN_zero _ (fun i hi => by unfold cs1; rw [x3 i (by omega), if_neg (by decide)])]
  · rw [(hs k hk).2] at z; cases z
  · rw [(hs k hk).2] at z; cases z
  · rw [t4 0 (by omega), t4 (G.1 - 1) (by omega)]
  · rw [t3 0 (by omega), t3 (G.1 - 1) (by omega), if_neg (by omega), if_pos rfl]
  · rw [(hs k hk).1] at z; cases z
  · rw [t3 a ha, t3 b hb] at q
    by_cases e1 : a = G.1 - 1
    · rw [if_pos e1] at q
      by_cases e2 : b = G.1 - 1
      · rw [e1, e2]
      · rw [if_neg e2] at q
        rw [e1, ← q]; exact h0.symm
    · rw [if_neg e1] at q
      by_cases e2 : b = G.1 - 1
      · rw [if_pos e2] at q
        rw [e2, q]; exact h0
      · rw [if_neg e2] at q
        rw [q]
theorem gI_loop (hg : gok G) (hb : bE G bc bm) {y : Or} (hs : srt G bc 72 y) : ∀ (m j fuel : Nat) (x : Gt) (t : Ts), j + m = y.2 → 48 ≤ cnt 48 x.2.2 + fuel → gI G bm vc y.1 j x t → gI G bm vc y.1 y.2 (gtF G bm fuel (hvy G bm x.2.2) x) (trF G vc y.1 m j t) := by
  have he := hg.2.2.1
  intro m
  induction m with
  | zero =>
    intro j fuel x t hj hc h
    have : j = y.2 := by omega
    subst this
    rw [hvy_end he hb hs h.2.1, gtF_none]
    exact h
  | succ m ih =>
    intro j fuel x t hj hc h
    have hn := hvy_next he hb hs (show j < y.2 by omega) h.2.1
    have hsp := hvy_spec hn
    have hlt := cnt_lt 48 (show m2 (y.1 j) < 48 by omega) hsp.2.2
    obtain ⟨fu, rfl⟩ : ∃ fu, fuel = fu + 1 := ⟨fuel - 1, by omega⟩
    rw [hn]
    unfold gtF trF
    refine ih (j + 1) fu _ _ (by omega) ?_ (gI_step hg hb hs (by omega) h)
    rw [gtS_sn, cnt_up (p := x.2.2) hsp.2.2 (va_same _ _ _) (fun i hi => va_other hi) 48 (by omega)]
    omega
/-- the trees, when all links were looked at -/
theorem gI_end (hg : gok G) (hb : bE G bc bm) {y : Or} (hs : srt G bc 72 y) {x : Gt} {t : Ts} (hx : gt0 G x) (ht : pl0 G t) : gI G bm vc y.1 y.2 (gtR G bm x) (trF G vc y.1 y.2 0 t) :=
  gI_loop hg hb hs y.2 0 48 x t (by omega) (by omega) (gI_0 hg hx ht)
/-- potentials: what is known is right -/
def lpI (G : Gr) (po : Nat → Int32) (x : Lp) : Prop := ∀ v, v < G.1 → x.2 v = true → x.1 v = po v - po 0
/-- a tree's links carry the potentials -/
def trI (G : Gr) (bm it : Nat → Bool) (V po : Nat → Int32) : Prop := ∀ k, k < 2 * G.2.1 → it k = true → mIs G bm k = true ∧ po (mTo G bm k) = po (mFr G k) + V k
theorem lpS_I (hg : gok G) {it : Nat → Bool} {V po : Nat → Int32} (hT : trI G bm it V po) {k : Nat} (hk : k < 2 * G.2.1) {x : Lp} (h : lpI G po x) : lpI G po (lpS G bm it V k x) ∧ ∀ v, x.2 v = true → (lpS G bm it V k x).2 v = true := by
  unfold lpS
  by_cases e : it k = true
  · rw [if_pos e]
    obtain ⟨h1, h2⟩ := hT k hk e
    have hf := mFr_lt hg h1
    have ht := mTo_lt hg h1
    by_cases e1 : x.2 (mFr G k) = true ∧ x.2 (mTo G bm k) = false
    · rw [if_pos e1]
      refine ⟨fun v hv z => ?_, fun v z => ?_⟩
      · show va_up x.1 (mTo G bm k) _ v = _
        have z : va_up x.2 (mTo G bm k) true v = true := z
        by_cases w : v = mTo G bm k
        · rw [w, va_same, h _ (by omega) e1.1, h2]; exact i32_1 _ _ _
        · rw [va_other w] at z ⊢; exact h v hv z
      · show va_up x.2 (mTo G bm k) true v = true
        by_cases w : v = mTo G bm k
        · rw [w, va_same]
        · rw [va_other w]; exact z
    · rw [if_neg e1]
      by_cases e2 : x.2 (mTo G bm k) = true ∧ x.2 (mFr G k) = false
      · rw [if_pos e2]
        refine ⟨fun v hv z => ?_, fun v z => ?_⟩
        · show va_up x.1 (mFr G k) _ v = _
          have z : va_up x.2 (mFr G k) true v = true := z
          by_cases w : v = mFr G k
          · rw [w, va_same, h _ ht e2.1, h2]; exact i32_2 _ _ _
          · rw [va_other w] at z ⊢; exact h v hv z
        · show va_up x.2 (mFr G k) true v = true
          by_cases w : v = mFr G k
          · rw [w, va_same]
          · rw [va_other w]; exact z
      · rw [if_neg e2]; exact ⟨h, fun v z => z⟩
  · rw [if_neg e]; exact ⟨h, fun v z => z⟩
theorem lpF_I (hg : gok G) {it : Nat → Bool} {V po : Nat → Int32} (hT : trI G bm it V po) : ∀ (m k : Nat) (x : Lp), k + m = 2 * G.2.1 → lpI G po x → lpI G po (lpF G bm it V m k x) ∧ ∀ v, x.2 v = true → (lpF G bm it V m k x).2 v = true := by
  intro m
  induction m with
  | zero => intro k x _ h; exact ⟨h, fun v z => z⟩
  | succ m ih =>
    intro k x hk h
    unfold lpF
    obtain ⟨h1, h2⟩ := lpS_I hg hT (show k < 2 * G.2.1 by omega) h
    obtain ⟨h3, h4⟩ := ih (k + 1) _ (by omega) h1
    exact ⟨h3, fun v z => h4 v (h2 v z)⟩
/-- a round that adds nothing: what is known is closed -/
theorem lpF_cl (hg : gok G) {it : Nat → Bool} {V po : Nat → Int32} (hT : trI G bm it V po) : ∀ (m k : Nat) (x : Lp), k + m = 2 * G.2.1 → lpI G po x → (∀ v, v < G.1 → (lpF G bm it V m k x).2 v = true → x.2 v = true) → ∀ k', k ≤ k' → k' < 2 * G.2.1 → it k' = true → (x.2 (mFr G k') = true ↔ x.2 (mTo G bm k') = true) := by
  intro m
  induction m with
  | zero => intro k x hk _ _ k' h1 h2; omega
  | succ m ih =>
    intro k x hk h hs k' h1 h2 hit
    unfold lpF at hs
    obtain ⟨a1, a2⟩ := lpS_I hg hT (show k < 2 * G.2.1 by omega) h
    obtain ⟨a3, a4⟩ := lpF_I hg hT m (k + 1) _ (by omega) a1
    have same : ∀ v, v < G.1 → ((lpS G bm it V k x).2 v = true ↔ x.2 v = true) := fun v hv => ⟨fun z => hs v hv (a4 v z), a2 v⟩
    obtain ⟨b1, b2⟩ := hT k' h2 hit
    have hf := mFr_lt hg b1
    have ht := mTo_lt hg b1
    by_cases e : k' = k
    · subst e
      constructor
      · intro z
        cases hh : x.2 (mTo G bm k') with
        | true => rfl
        | false =>
          have : (lpS G bm it V k' x).2 (mTo G bm k') = true := by
            unfold lpS
            rw [if_pos hit, if_pos ⟨z, hh⟩]
            exact va_same _ _ _
          rw [(same _ ht).mp this] at hh; cases hh
      · intro z
        cases hh : x.2 (mFr G k') with
        | true => rfl
        | false =>
          have : (lpS G bm it V k' x).2 (mFr G k') = true := by
            unfold lpS
            rw [if_pos hit, if_neg (fun y => by rw [z] at y; cases y.2), if_pos ⟨z, hh⟩]
            exact va_same _ _ _
          rw [(same _ (by omega)).mp this] at hh; cases hh
    · have := ih (k + 1) _ (by omega) a1 (fun v hv z => (same v hv).mpr (hs v hv z)) k' (by omega) h2 hit
      rw [same _ (by omega), same _ ht] at this
      exact this
/-- after all rounds all is known -/
theorem lpN_all (hg : gok G) {it : Nat → Bool} {V po : Nat → Int32} (hT : trI G bm it V po) (hcl : ∀ K : Nat → Prop, K 0 → K (G.1 - 1) → (∀ k, k < 2 * G.2.1 → it k = true → (K (mFr G k) ↔ K (mTo G bm k))) → ∀ v, v < G.1 → K v) : ∀ (m r : Nat) (x : Lp), lpI G po x → x.2 0 = true → x.2 (G.1 - 1) = true → ((∀ v, v < G.1 → x.2 v = true) ∨ r + 1 ≤ cnt G.1 x.2) → lpI G po (lpN G bm it V m x) ∧ ((∀ v, v < G.1 → (lpN G bm it V m x).2 v = true) ∨ r + m + 1 ≤ cnt G.1 (lpN G bm it V m x).2) := by
  intro m
  induction m with
  | zero => intro r x h _ _ hc; exact ⟨h, hc⟩
  | succ m ih =>
    intro r x h h0 h1 hc
    unfold lpN
    obtain ⟨a1, a2⟩ := lpF_I hg hT (2 * G.2.1) 0 x (by omega) h
    have key := ih (r + 1) _ a1 (a2 0 h0) (a2 _ h1) ?_
    · refine ⟨key.1, ?_⟩
      rcases key.2 with z | z
      · exact Or.inl z
      · exact Or.inr (by omega)
    · rcases hc with z | z
      · exact Or.inl (fun v hv => a2 v (z v hv))
      · by_cases e : ∀ v, v < G.1 → (lpF G bm it V (2 * G.2.1) 0 x).2 v = true → x.2 v = true
        · left
          intro v hv
          exact a2 v (hcl (fun v => x.2 v = true) h0 h1 (fun k hk hit => lpF_cl hg hT (2 * G.2.1) 0 x (by omega) h e k (Nat.zero_le _) hk hit) v hv)
        · right
          have : ∃ v, v < G.1 ∧ (lpF G bm it V (2 * G.2.1) 0 x).2 v = true ∧ x.2 v = false := by
            apply Classical.byContradiction
            intro q
            apply e
            intro v hv y
            cases hh : x.2 v with
            | true => rfl
            | false => exact absurd ⟨v, hv, y, hh⟩ q
          obtain ⟨v, v1, v2, v3⟩ := this
          have := cnt_strict G.1 (fun i _ => a2 i) v1 v3 v2
          omega
end Poten

