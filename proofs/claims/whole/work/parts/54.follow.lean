/-! ===== a path of the two: link by link the same ===== -/
theorem nI_le_iff {a b : Nat} (ha : a < 2 ^ 31) (hb : b < 2 ^ 31) : nI a ≤ nI b ↔ a ≤ b := by
  rw [i32_le, nI_toInt ha, nI_toInt hb]; omega
theorem nI_lt_iff {a b : Nat} (ha : a < 2 ^ 31) (hb : b < 2 ^ 31) : nI a < nI b ↔ a < b := by
  rw [i32_lt, nI_toInt ha, nI_toInt hb]; omega
section Follow
variable {G : Gr} {bc bm : Nat → Bool} {p f P V : Nat → Int32} {np nv : Nat → Nat}
theorem own_lad (hg : gok G) (hL : lad G bc p f np nv) {v r l : Nat} (hv : v + 1 < G.1) (hr : r < np v) (hl : vl G bc v l) (h1 : nv l ≤ r) (h2 : r < nv l + np (ltN G l)) : own (lsr G bc, ltg G bc, f, p) v (nI r) = nI l := by
  have hnv := (hL.1 v (by omega)).2
  have hld := hL.2.2.2 v hv
  have hg2 := hg.2.1
  have key : ∀ (m l0 : Nat) (b : Int32), l0 + m = 72 → (l < l0 → b = nI l) → owF (lsr G bc, ltg G bc, f, p) v (nI r) m l0 b = nI l := by
    intro m
    induction m with
    | zero => intro l0 b h0 hb; exact hb (by have := hl.1; omega)
    | succ m ih =>
      intro l0 b h0 hb
      unfold owF
      have hc : ((lsr G bc, ltg G bc, f, p) : Lk).1 l0 = nI v ∧ ((lsr G bc, ltg G bc, f, p) : Lk).2.2.1 l0 ≤ nI r ↔ vl G bc v l0 ∧ nv l0 ≤ r := by
        show lsr G bc l0 = nI v ∧ f l0 ≤ nI r ↔ _
        rw [lsr_eq hg (by omega)]
        constructor
        · rintro ⟨⟨q1, q2⟩, q3⟩
          have hv0 : vl G bc v l0 := ⟨by omega, q1, q2⟩
          have := hld.1 l0 hv0
          rw [hL.2.1 l0 (by omega) q1, nI_le_iff (by omega) (by omega)] at q3
          exact ⟨hv0, q3⟩
        · rintro ⟨q1, q2⟩
          have := hld.1 l0 q1
          refine ⟨⟨q1.2.1, q1.2.2⟩, ?_⟩
          rw [hL.2.1 l0 (by omega) q1.2.1, nI_le_iff (by omega) (by omega)]
          exact q2
      by_cases e : vl G bc v l0 ∧ nv l0 ≤ r
      · rw [if_pos (hc.mpr e)]
        refine ih (l0 + 1) _ (by omega) (fun q => ?_)
        by_cases w : l0 = l
        · rw [w]
        · have := hld.2.1 l l0 hl e.1 (by omega)
          omega
      · rw [if_neg (fun q => e (hc.mp q))]
        refine ih (l0 + 1) _ (by omega) (fun q => ?_)
        by_cases w : l0 = l
        · rw [w] at e; exact absurd ⟨hl, h1⟩ e
        · exact hb (by omega)
  exact key 72 0 (-1) rfl (fun q => by omega)
theorem fk_lad (hg : gok G) (hb : bE G bc bm) (hL : lad G bc p f np nv) (hP : ∀ v, v < G.1 → P v = p v) (hV : ∀ k, mIs G bm k = true → V k = f (c2 bm k)) {v r l : Nat} (hv : v + 1 < G.1) (hr : r < np v) (hl : vl G bc v l) (h1 : nv l ≤ r) (h2 : r < nv l + np (ltN G l)) : ∀ (m l0 : Nat) (o : Option Nat), 73 ≤ l0 + m → l0 ≤ l → isNx G bm v o l0 → fkF G bm P V v (nI r) m o = some (m2 l) := by
  have he := hg.2.2.1
  have hnv := (hL.1 v (by omega)).2
  have hld := hL.2.2.2 v hv
  obtain ⟨hm1, hm2⟩ := m2_v hb hl.1 hl.2.1
  have hvm : vk G bm v (m2 l) := ⟨hm1, by rw [← (c2_v he hb hm1).2.2.1, hm2]; exact hl.2.2⟩
  intro m
  induction m with
  | zero => intro l0 o h0 hle; have := hl.1; omega
  | succ m ih =>
    intro l0 o h0 hle hx
    obtain ⟨k, hk, hk2⟩ := hx.2 (m2 l) hvm (by omega)
    subst hk
    rw [hm2] at hk2
    obtain ⟨hkv, hk3⟩ := hx.1 k rfl
    obtain ⟨q1, q2, q3, q4, q5⟩ := c2_v he hb hkv.1
    have hvl : vl G bc v (c2 bm k) := ⟨q1, q2, by rw [q3]; exact hkv.2⟩
    have hs := hld.1 _ hvl
    unfold fkF
    have hc : nI r < V k + P (mTo G bm k) ↔ r < nv (c2 bm k) + np (ltN G (c2 bm k)) := by
      rw [hV k hkv.1, hP _ (mTo_lt hg hkv.1), ← q4, hL.2.1 _ q1 q2, (hL.1 _ (by rw [q4]; exact mTo_lt hg hkv.1)).1, nI_add, nI_lt_iff (by omega) (by omega)]
    by_cases e : c2 bm k = l
    · have : k = m2 l := by rw [← e, m2_c2 he hkv.1]
      rw [if_pos (hc.mpr (by rw [e]; exact h2)), this]
    · have := hld.2.1 (c2 bm k) l hvl hl (by omega)
      rw [if_neg (fun q => by have := hc.mp q; omega)]
      exact ih (c2 bm k + 1) _ (by omega) (by omega) (lb_nx1 he hkv.1)
/-- the traced paths of the two -/
def pRel (G : Gr) (bm : Nat → Bool) (q : Pa) (q' : La) : Prop := q.2 = q'.2 ∧ ∀ i, i < q.2 → mIs G bm (q'.1 i) = true ∧ q.1 i = c2 bm (q'.1 i)
theorem fo_tc (hg : gok G) (hb : bE G bc bm) {lf : Nat → Nat} {ln : Nat} (ht : topo G bm lf ln) (hL : lad G bc p f np nv) (hP : ∀ v, v < G.1 → P v = p v) (hV : ∀ k, mIs G bm k = true → V k = f (c2 bm k)) : ∀ (m v r : Nat) (q : Pa) (q' : La), v < G.1 → (v = G.1 - 1 ∨ ∃ a, a < m ∧ a < ln ∧ lf a = v) → r < np v → pRel G bm q q' → ∃ q'', foF G bm P V m v (nI r) q' = some q'' ∧ pRel G bm (tcF G (lsr G bc, ltg G bc, f, p) m v (nI r) q) q'' := by
  have he := hg.2.2.1
  intro m
  induction m with
  | zero =>
    intro v r q q' hv ha hr hq
    rcases ha with z | ⟨a, z, -⟩
    · refine ⟨q', ?_, hq⟩
      unfold foF
      rw [if_pos z]
    · omega
  | succ m ih =>
    intro v r q q' hv ha hr hq
    unfold foF tcF
    by_cases e : v = G.1 - 1
    · rw [if_pos e, if_pos e]; exact ⟨q', rfl, hq⟩
    · rw [if_neg e, if_neg e]
      obtain ⟨a, ha1, ha3, ha2⟩ : ∃ a, a < m + 1 ∧ a < ln ∧ lf a = v := by
        rcases ha with z | z
        · exact absurd z e
        · exact z
      have hv1 : v + 1 < G.1 := by omega
      obtain ⟨l, hl, h1, h2⟩ := (hL.2.2.2 v hv1).2.2 r hr
      have hl72 := hl.1
      rw [own_lad hg hL hv1 hr hl h1 h2, if_neg (nI_m1 (by omega)), nI_clamp (show l < 2 ^ 31 by omega)]
      rw [fk_lad hg hb hL hP hV hv1 hr hl h1 h2 144 0 _ (by omega) (Nat.zero_le _) (lb_nx0 he v)]
      obtain ⟨hm1, hm2⟩ := m2_v hb hl.1 hl.2.1
      have hc := c2_v he hb hm1
      rw [hm2] at hc
      have hfl : f l = nI (nv l) := hL.2.1 l hl.1 hl.2.1
      show ∃ q'', foF G bm P V m (mTo G bm (m2 l)) (nI r - V (m2 l)) (va_up q'.1 q'.2 (m2 l), q'.2 + 1) = some q'' ∧ pRel G bm (tcF G (lsr G bc, ltg G bc, f, p) m (ltN G l) (nI r - f l) (va_up q.1 q.2 l, q.2 + 1)) q''
      rw [hV _ hm1, hm2, hfl, pk_sub h1, hc.2.2.2.1]
      have hlt := mTo_lt hg hm1
      refine ih (mTo G bm (m2 l)) (r - nv l) _ _ hlt ?_ (by rw [← hc.2.2.2.1]; omega) ⟨by show q.2 + 1 = q'.2 + 1; rw [hq.1], fun i hi => ?_⟩
      · rcases ht.2.2.2 a (m2 l) (by omega) ⟨hm1, by rw [← hc.2.2.1, ha2]; exact hl.2.2⟩ with z | ⟨b, z1, z2⟩
        · exact Or.inl z
        · exact Or.inr ⟨b, by omega, by omega, z2⟩
      · have hi : i < q.2 + 1 := hi
        show mIs G bm (va_up q'.1 q'.2 (m2 l) i) = true ∧ va_up q.1 q.2 l i = c2 bm (va_up q'.1 q'.2 (m2 l) i)
        rw [← hq.1]
        by_cases w : i = q.2
        · rw [w, va_same, va_same]; exact ⟨hm1, hm2.symm⟩
        · rw [va_other w, va_other w]; exact hq.2 i (by omega)
theorem fol_trc (hg : gok G) (hb : bE G bc bm) {lf : Nat → Nat} {ln : Nat} (ht : topo G bm lf ln) (hln : ln ≤ 12) (hL : lad G bc p f np nv) (hP : ∀ v, v < G.1 → P v = p v) (hV : ∀ k, mIs G bm k = true → V k = f (c2 bm k)) {r : Nat} (hr : r < np 0) (q : Pa) (q' : La) : ∃ q'', fol G bm P V (nI r) q' = some q'' ∧ pRel G bm (trc G (lsr G bc, ltg G bc, f, p) (nI r) q) q'' := by
  have g1 := hg.1
  obtain ⟨a, ha, hz⟩ := ht.1 0 (by omega)
  exact fo_tc hg hb ht hL hP hV 12 0 r (q.1, 0) (q'.1, 0) (by omega) (Or.inr ⟨a, by omega, ha, hz⟩) hr ⟨rfl, fun i hi => absurd hi (Nat.not_lt_zero i)⟩
theorem c2_kind (he : G.2.1 ≤ 24) {k : Nat} (h : mIs G bm k = true) : (mKd bm k = 2 ↔ 48 ≤ c2 bm k) ∧ (mKd bm k = 1 ↔ 24 ≤ c2 bm k ∧ c2 bm k < 48) ∧ (48 ≤ c2 bm k → c2 bm k - 48 = k / 2) ∧ (24 ≤ c2 bm k ∧ c2 bm k < 48 → c2 bm k - 24 = k / 2) := by
  obtain ⟨h1, h2⟩ := of_decide_eq_true h
  unfold mKd c2
  by_cases e : k % 2 = 1
  · rw [if_pos e, if_pos e]; omega
  · rw [if_neg e, if_neg e]
    by_cases w : bm (k / 2) = true
    · rw [if_pos w, if_pos w]; omega
    · rw [if_neg w, if_neg w]; omega
theorem nI_dec {a : Nat} (h : 1 ≤ a) : nI a + Int32.ofInt (-1) = nI (a - 1) := by
  obtain ⟨b, rfl⟩ : ∃ b, a = b + 1 := ⟨a - 1, by omega⟩
  rw [← nI_add, Int32.add_assoc, show nI 1 + Int32.ofInt (-1) = 0 by decide, Int32.add_zero]
  rfl
theorem pr_bgn (he : G.2.1 ≤ 24) {q : Pa} {q' : La} (h : pRel G bm q q') (h1 : 1 ≤ q.2) : stE q = enM bm q' false ∧ (stE q = -1 ↔ bgn bm q' = false) := by
  obtain ⟨h2, h3⟩ := h.2 0 (by omega)
  obtain ⟨k1, -, k3, -⟩ := c2_kind he h2
  have hlt := mIs_lt he h2
  have hm : enM bm q' false = if bgn bm q' = true then nI (q'.1 0 / 2) else -1 := if_neg (by decide)
  rw [hm]
  unfold stE bgn
  rw [h3]
  by_cases e : mKd bm (q'.1 0) = 2
  · have := k1.mp e
    rw [if_neg (fun z => by omega), decide_eq_true e, if_pos rfl, k3 this]
    exact ⟨rfl, fun z => absurd z (nI_m1 (by omega)), fun z => by cases z⟩
  · have : ¬ 48 ≤ c2 bm (q'.1 0) := fun z => e (k1.mpr z)
    rw [if_pos (Or.inr (by omega)), decide_eq_false e, if_neg (by decide)]
    exact ⟨rfl, fun _ => rfl, fun _ => rfl⟩
theorem pr_enn (he : G.2.1 ≤ 24) {q : Pa} {q' : La} (h : pRel G bm q q') (h1 : 1 ≤ q.2) : enE q = enM bm q' true ∧ (enE q = -1 ↔ enn bm q' = false) := by
  obtain ⟨h2, h3⟩ := h.2 (q.2 - 1) (by omega)
  rw [h.1] at h2
  obtain ⟨-, k2, -, k4⟩ := c2_kind he h2
  have hlt := mIs_lt he h2
  have hm : enM bm q' true = if enn bm q' = true then nI (q'.1 (q'.2 - 1) / 2) else -1 := if_pos rfl
  rw [hm]
  unfold enE enn
  rw [if_neg (by omega), h3, h.1]
  by_cases e : mKd bm (q'.1 (q'.2 - 1)) = 1
  · have := k2.mp e
    rw [if_pos this, decide_eq_true e, if_pos rfl, k4 this]
    exact ⟨rfl, fun z => absurd z (nI_m1 (by omega)), fun z => by cases z⟩
  · rw [if_neg (fun z => e (k2.mpr z)), decide_eq_false e, if_neg (by decide)]
    exact ⟨rfl, fun _ => rfl, fun _ => rfl⟩
theorem pr_len (he : G.2.1 ≤ 24) {q : Pa} {q' : La} (h : pRel G bm q q') (h1 : 1 ≤ q.2) : nnR q = nI (vsN bm q') := by
  have hb := (pr_bgn he h h1).2
  have hn := (pr_enn he h h1).2
  unfold nnR nnS vsN
  rw [← h.1]
  have ff : ¬ false = true := by decide
  cases eb : bgn bm q' with
  | false =>
    rw [if_pos (show stE q = -1 from hb.mpr eb)]
    cases en : enn bm q' with
    | false => rw [if_pos (show enE q = -1 from hn.mpr en), if_neg ff]; rfl
    | true =>
      rw [if_neg (show ¬ enE q = -1 from fun z => by rw [hn.mp z] at en; cases en), if_neg ff, if_pos (show true = true from rfl), nI_dec (by omega)]; rfl
  | true =>
    rw [if_neg (show ¬ stE q = -1 from fun z => by rw [hb.mp z] at eb; cases eb)]
    cases en : enn bm q' with
    | false => rw [if_pos (show enE q = -1 from hn.mpr en), if_neg ff, if_pos (show true = true from rfl), nI_dec (by omega)]; rfl
    | true =>
      rw [if_neg (show ¬ enE q = -1 from fun z => by rw [hn.mp z] at en; cases en), if_pos (show true = true from rfl), nI_dec (by omega), nI_dec (by omega)]
theorem pr_node (hg : gok G) (hb : bE G bc bm) {q : Pa} {q' : La} (h : pRel G bm q q') (h1 : 1 ≤ q.2) {k : Nat} (hk : vnI bm q' k ≤ q.2) : pnd (lsr G bc, ltg G bc, f, p) q k = nI (vnN G bm q' k) := by
  have he := hg.2.2.1
  have hs := (pr_bgn he h h1).2
  have ht : ∀ i, i < q.2 → ltg G bc (q.1 i) = nI (mTo G bm (q'.1 i)) := fun i hi => by
    obtain ⟨h2, h3⟩ := h.2 i hi
    obtain ⟨q1, q2, q3, q4, q5⟩ := c2_v he hb h2
    rw [h3, ltg_v q2, q4]
  unfold pnd vnN
  cases eb : bgn bm q' with
  | false =>
    have ev : vnI bm q' k = k := if_neg (by rw [eb]; decide)
    rw [ev] at hk ⊢
    rw [if_pos (show stE q = -1 from hs.mpr eb)]
    by_cases e : k = 0
    · rw [if_pos e, if_pos e]
    · rw [if_neg e, if_neg e]
      exact ht (k - 1) (by omega)
  | true =>
    have ev : vnI bm q' k = k + 1 := if_pos eb
    rw [ev] at hk ⊢
    rw [if_neg (show ¬ stE q = -1 from fun z => by rw [hs.mp z] at eb; cases eb), if_neg (show ¬ k + 1 = 0 by omega)]
    exact ht k (by omega)
theorem c2_even (hb : bE G bc bm) {k : Nat} (hk : k < G.2.1) : mIs G bm (2 * k) = true ∧ c2 bm (2 * k) = lko bc k true := by
  have e : 2 * k / 2 = k := by omega
  refine ⟨decide_eq_true ⟨by omega, Or.inl (by omega)⟩, ?_⟩
  unfold c2 lko
  rw [if_neg (by omega), e, hb k hk]
  by_cases w : bc k = true
  · rw [if_pos w, if_pos w, if_pos rfl]
  · rw [if_neg w, if_neg w]; omega
theorem c2_mLo (hb : bE G bc bm) {k : Nat} (hk : k < G.2.1) (b : Bool) : mIs G bm (mLo bm k b) = true ∧ c2 bm (mLo bm k b) = lko bc k b := by
  unfold mLo
  by_cases w : bm k = true ∧ b = false
  · rw [if_pos w]
    have e : (2 * k + 1) / 2 = k := by omega
    refine ⟨decide_eq_true ⟨by omega, Or.inr (by rw [e]; exact w.1)⟩, ?_⟩
    unfold c2 lko
    rw [if_pos (by omega), e, ← hb k hk, w.1, w.2, if_pos rfl, if_neg (by decide)]
  · rw [if_neg w]
    refine ⟨(c2_even hb hk).1, ?_⟩
    rw [(c2_even hb hk).2]
    unfold lko
    rw [← hb k hk]
    cases eb : bm k with
    | false => rw [if_neg (by decide), if_neg (by decide)]
    | true =>
      cases b with
      | true => rfl
      | false => exact absurd ⟨eb, rfl⟩ w
theorem pr_has (he : G.2.1 ≤ 24) (hb : bE G bc bm) {q : Pa} {q' : La} (h : pRel G bm q q') {k : Nat} (hk : k < G.2.1) : hasL q' (2 * k) = anyR q.2 (fun i => decide (q.1 i = lko bc k true)) := by
  obtain ⟨z1, z2⟩ := c2_even hb hk
  unfold hasL
  rw [← h.1]
  have key : ∀ n, n ≤ q.2 → anyR n (fun i => decide (q'.1 i = 2 * k)) = anyR n (fun i => decide (q.1 i = lko bc k true)) := fun n => by
    induction n with
    | zero => intro _; rfl
    | succ n ih =>
      intro hn
      rw [anyR_succ, anyR_succ, ih (by omega)]
      congr 1
      obtain ⟨h2, h3⟩ := h.2 n (by omega)
      refine decide_eq_decide.mpr ⟨fun e => ?_, fun e => ?_⟩
      · rw [h3, e, z2]
      · rw [h3, ← z2] at e
        have := congrArg m2 e
        rwa [m2_c2 he h2, m2_c2 he z1] at this
  exact key _ (Nat.le_refl _)
end Follow

