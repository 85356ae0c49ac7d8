/-! ===== the path in the text: the two find the same ===== -/
theorem btF_spec {K : Lk} {x y : Int32} : ∀ (m l : Nat), (btF K x y m l = -1 ∧ ∀ i, l ≤ i → i < l + m → ¬ (K.1 i = x ∧ K.2.1 i = y)) ∨ ∃ i, l ≤ i ∧ i < l + m ∧ (K.1 i = x ∧ K.2.1 i = y) ∧ btF K x y m l = nI i ∧ ∀ j, l ≤ j → j < i → ¬ (K.1 j = x ∧ K.2.1 j = y) := by
  intro m
  induction m with
  | zero => intro l; exact Or.inl ⟨rfl, fun i h1 h2 => by omega⟩
  | succ m ih =>
    intro l
    unfold btF
    by_cases e : K.1 l = x ∧ K.2.1 l = y
    · rw [if_pos e]
      exact Or.inr ⟨l, Nat.le_refl _, by omega, e, rfl, fun j h1 h2 => by omega⟩
    · rw [if_neg e]
      rcases ih (l + 1) with ⟨h1, h2⟩ | ⟨i, h1, h2, h3, h4, h5⟩
      · refine Or.inl ⟨h1, fun i z1 z2 => ?_⟩
        by_cases w : i = l
        · rw [w]; exact e
        · exact h2 i (by omega) (by omega)
      · refine Or.inr ⟨i, by omega, by omega, h3, h4, fun j z1 z2 => ?_⟩
        by_cases w : j = l
        · rw [w]; exact e
        · exact h5 j (by omega) z2
section Find
variable {G : Gr} {bm : Nat → Bool} {V : Nat → Int32} {x : Int32} {kd : Nat}
theorem lvF_stay : ∀ (m k : Nat) (b : Int32), b ≠ -1 → (∀ j, k ≤ j → j < k + m → lvC G bm x kd j = true → ¬ V j < b) → lvF G bm V x kd m k b = b := by
  intro m
  induction m with
  | zero => intro k b _ _; rfl
  | succ m ih =>
    intro k b h1 h2
    unfold lvF
    rw [if_neg (fun z => by rcases z.2 with q | q; exact h1 q; exact h2 k (Nat.le_refl _) (by omega) z.1 q)]
    exact ih (k + 1) b h1 (fun j z1 z2 => h2 j (by omega) (by omega))
theorem lvF_none : ∀ (m k : Nat), (∀ j, k ≤ j → j < k + m → lvC G bm x kd j = false) → lvF G bm V x kd m k (-1) = -1 := by
  intro m
  induction m with
  | zero => intro k _; rfl
  | succ m ih =>
    intro k h
    unfold lvF
    rw [if_neg (fun z => by rw [h k (Nat.le_refl _) (by omega)] at z; cases z.1)]
    exact ih (k + 1) (fun j z1 z2 => h j (by omega) (by omega))
theorem lvF_first {k0 : Nat} (h0 : lvC G bm x kd k0 = true) (h1 : V k0 ≠ -1) : ∀ (m k : Nat), k ≤ k0 → k0 < k + m → (∀ j, k ≤ j → j < k0 → lvC G bm x kd j = false) → (∀ j, k0 < j → j < k + m → lvC G bm x kd j = true → ¬ V j < V k0) → lvF G bm V x kd m k (-1) = V k0 := by
  intro m
  induction m with
  | zero => intro k h2 h3; omega
  | succ m ih =>
    intro k h2 h3 h4 h5
    unfold lvF
    by_cases e : k = k0
    · subst e
      rw [if_pos ⟨h0, Or.inl rfl⟩]
      exact lvF_stay m (k + 1) _ h1 (fun j z1 z2 => h5 j (by omega) (by omega))
    · rw [if_neg (fun z => by rw [h4 k (Nat.le_refl _) (by omega)] at z; cases z.1)]
      exact ih (k + 1) (by omega) (by omega) (fun j z1 z2 => h4 j (by omega) z2) (fun j z1 z2 => h5 j z1 (by omega))
theorem lvC_is {k : Nat} (h : lvC G bm x kd k = true) : mIs G bm k = true := by
  unfold lvC at h
  simp only [Bool.and_eq_true] at h
  exact h.1.1
/-- the least value is the value of the link that the class finds -/
theorem lv_bt (hg : gok G) {bc : Nat → Bool} (hb : bE G bc bm) {p f : Nat → Int32} {np nv : Nat → Nat} (hL : lad G bc p f np nv) (hV : ∀ k, mIs G bm k = true → V k = f (c2 bm k)) {a b : Int32} {off v : Nat} (hoff : off + 24 ≤ 72) (hv : v + 1 < G.1) (hm : ∀ l, off ≤ l → l < off + 24 → (lsr G bc l = a ∧ ltg G bc l = b) → vl G bc v l)
    (hc : ∀ k, mIs G bm k = true → (lvC G bm x kd k = true ↔ off ≤ c2 bm k ∧ c2 bm k < off + 24 ∧ lsr G bc (c2 bm k) = a ∧ ltg G bc (c2 bm k) = b)) :
    (btF (lsr G bc, ltg G bc, f, p) a b 24 off = -1 ∧ lvR G bm V x kd = -1) ∨ ∃ l, off ≤ l ∧ l < off + 24 ∧ vl G bc v l ∧ (lsr G bc l = a ∧ ltg G bc l = b) ∧ btF (lsr G bc, ltg G bc, f, p) a b 24 off = nI l ∧ lvR G bm V x kd = nI (nv l) := by
  have he := hg.2.2.1
  have hld := hL.2.2.2 v hv
  have hnv := (hL.1 v (by omega)).2
  rcases btF_spec (K := (lsr G bc, ltg G bc, f, p)) (x := a) (y := b) 24 off with ⟨h1, h2⟩ | ⟨l, h1, h2, h3, h4, h5⟩
  · refine Or.inl ⟨h1, lvF_none _ _ (fun j _ hj => ?_)⟩
    cases hh : lvC G bm x kd j with
    | false => rfl
    | true =>
      obtain ⟨z1, z2, z3⟩ := (hc j (lvC_is hh)).mp hh
      exact absurd z3 (h2 _ z1 z2)
  · have h3 : lsr G bc l = a ∧ ltg G bc l = b := h3
    have hvl := hm l h1 h2 h3
    obtain ⟨m1, m2'⟩ := m2_v hb hvl.1 hvl.2.1
    have hVm : V (m2 l) = nI (nv l) := by rw [hV _ m1, m2', hL.2.1 l hvl.1 hvl.2.1]
    have hle := hld.1 l hvl
    refine Or.inr ⟨l, h1, h2, hvl, h3, h4, ?_⟩
    have hcl : ∀ j, lvC G bm x kd j = true → vl G bc v (c2 bm j) := fun j hj => by
      obtain ⟨z1, z2, z3⟩ := (hc j (lvC_is hj)).mp hj
      exact hm _ z1 z2 z3
    have hord : ∀ i j, lvC G bm x kd i = true → lvC G bm x kd j = true → i < j → c2 bm i < c2 bm j := fun i j hi hj hij => by
      have k1 : mKd bm i = mKd bm j := by
        unfold lvC at hi hj
        simp only [Bool.and_eq_true, decide_eq_true_eq] at hi hj
        rw [hi.1.2, hj.1.2]
      have : mCb bm i j = true := by unfold mCb; rw [if_pos k1]; exact decide_eq_true hij
      rw [mCb_c2 he (lvC_is hi) (lvC_is hj)] at this
      exact of_decide_eq_true this
    have h0 : lvC G bm x kd (m2 l) = true := (hc _ m1).mpr (by rw [m2']; exact ⟨h1, h2, h3⟩)
    rw [← hVm]
    refine lvF_first h0 (by rw [hVm]; exact nI_m1 (by omega)) _ 0 (Nat.zero_le _) (by have := mIs_lt he m1; omega) (fun j _ hj => ?_) (fun j hj _ hcj => ?_)
    · cases hh : lvC G bm x kd j with
      | false => rfl
      | true =>
        obtain ⟨z1, z2, z3⟩ := (hc j (lvC_is hh)).mp hh
        have := hord j (m2 l) hh h0 hj
        rw [m2'] at this
        exact absurd z3 (h5 _ z1 this)
    · have h6 := hcl j hcj
      have h7 := hord (m2 l) j h0 hcj hj
      rw [m2'] at h7
      have h8 := hld.2.1 l _ hvl h6 h7
      have h9 := hld.1 _ h6
      rw [hVm, hV _ (lvC_is hcj), hL.2.1 _ h6.1 h6.2.1, nI_lt_iff (by omega) (by omega)]
      omega
theorem st_bt (hg : gok G) {bc : Nat → Bool} (hb : bE G bc bm) {p f : Nat → Int32} {np nv : Nat → Nat} (hL : lad G bc p f np nv) (hV : ∀ k, mIs G bm k = true → V k = f (c2 bm k)) (x : Int32) :
    (btw G (lsr G bc, ltg G bc, f, p) 48 (nI 0) x = -1 ∧ lvR G bm V x 2 = -1) ∨ ∃ l, vl G bc 0 l ∧ ltg G bc l = x ∧ btw G (lsr G bc, ltg G bc, f, p) 48 (nI 0) x = nI l ∧ lvR G bm V x 2 = nI (nv l) := by
  have he := hg.2.2.1
  have g1 := hg.1
  have g2 := hg.2.1
  have hin : inR (nI 0) G.1 = true := by rw [inR_nI (by decide) (by unfold big; omega)]; exact decide_eq_true (by omega)
  unfold btw
  rw [if_pos hin]
  rcases lv_bt (x := x) (kd := 2) hg hb hL hV (a := nI 0) (b := x) (off := 48) (v := 0) (by omega) (by omega) (fun l h1 h2 h3 => by
    obtain ⟨z1, z2⟩ := (lsr_eq hg (by decide)).mp h3.1
    exact ⟨by omega, z1, z2⟩) (fun k hk => by
    obtain ⟨q1, q2, q3, q4, q5⟩ := c2_v he hb hk
    obtain ⟨k1, k2, k3, k4⟩ := c2_kind he hk
    unfold lvC
    rw [hk, if_pos rfl, Bool.true_and, Bool.and_eq_true, decide_eq_true_eq, decide_eq_true_eq, lsr_v q2, ltg_v q2, q3, q4, k1]
    constructor
    · rintro ⟨z1, z2⟩
      refine ⟨z1, by omega, ?_, z2⟩
      have : k % 2 = 1 := by
        have := k1.mpr z1
        unfold mKd at this
        split at this
        · assumption
        · split at this <;> omega
      unfold mFr
      rw [if_pos this]
    · rintro ⟨z1, _, _, z2⟩
      exact ⟨z1, z2⟩) with ⟨h1, h2⟩ | ⟨l, h1, h2, h3, h4, h5, h6⟩
  · exact Or.inl ⟨h1, h2⟩
  · exact Or.inr ⟨l, h3, h4.2, h5, h6⟩
theorem en_bt (hg : gok G) {bc : Nat → Bool} (hb : bE G bc bm) {p f : Nat → Int32} {np nv : Nat → Nat} (hL : lad G bc p f np nv) (hV : ∀ k, mIs G bm k = true → V k = f (c2 bm k)) {a : Nat} (ha : a + 1 < G.1) :
    (btw G (lsr G bc, ltg G bc, f, p) 24 (nI a) (nI (G.1 - 1)) = -1 ∧ lvR G bm V (nI a) 1 = -1) ∨ ∃ l, vl G bc a l ∧ ltg G bc l = nI (G.1 - 1) ∧ btw G (lsr G bc, ltg G bc, f, p) 24 (nI a) (nI (G.1 - 1)) = nI l ∧ lvR G bm V (nI a) 1 = nI (nv l) := by
  have he := hg.2.2.1
  have g1 := hg.1
  have g2 := hg.2.1
  have hin : inR (nI a) G.1 = true := by rw [inR_nI (by unfold big; omega) (by unfold big; omega)]; exact decide_eq_true (by omega)
  unfold btw
  rw [if_pos hin]
  rcases lv_bt (x := nI a) (kd := 1) hg hb hL hV (a := nI a) (b := nI (G.1 - 1)) (off := 24) (v := a) (by omega) ha (fun l h1 h2 h3 => by
    obtain ⟨z1, z2⟩ := (lsr_eq hg (by omega)).mp h3.1
    exact ⟨by omega, z1, z2⟩) (fun k hk => by
    obtain ⟨q1, q2, q3, q4, q5⟩ := c2_v he hb hk
    obtain ⟨k1, k2, k3, k4⟩ := c2_kind he hk
    unfold lvC
    rw [hk, if_neg (by decide), Bool.true_and, Bool.and_eq_true, decide_eq_true_eq, decide_eq_true_eq, lsr_v q2, ltg_v q2, q3, q4, k2]
    constructor
    · rintro ⟨z1, z2⟩
      refine ⟨z1.1, z1.2, z2, ?_⟩
      have h1 := k2.mpr z1
      unfold mKd at h1
      split at h1
      · omega
      · rename_i w
        split at h1
        · rename_i w2
          unfold mTo
          rw [if_pos ⟨by omega, w2⟩]
        · omega
    · rintro ⟨z1, z2, z3, _⟩
      exact ⟨⟨z1, z2⟩, z3⟩) with ⟨h1, h2⟩ | ⟨l, h1, h2, h3, h4, h5, h6⟩
  · exact Or.inl ⟨h1, h2⟩
  · exact Or.inr ⟨l, h3, h4.2, h5, h6⟩
theorem mid_bt (hg : gok G) {bc : Nat → Bool} (hb : bE G bc bm) {p f : Nat → Int32} {np nv : Nat → Nat} (hL : lad G bc p f np nv) (hV : ∀ k, mIs G bm k = true → V k = f (c2 bm k)) {a b : Nat} (ha : a < G.1) (hbn : b < G.1) :
    (btw G (lsr G bc, ltg G bc, f, p) 0 (nI a) (nI b) = -1 ∧ ∀ j, ebt G (nI a) (nI b) = some j → bm j = true) ∨ ∃ j, ebt G (nI a) (nI b) = some j ∧ bm j = false ∧ btw G (lsr G bc, ltg G bc, f, p) 0 (nI a) (nI b) = nI j ∧ vl G bc a j ∧ ltN G j = b ∧ V (2 * j) = nI (nv j) := by
  obtain ⟨g1, g2, g3, g4, g5⟩ := id hg
  have hin : inR (nI a) G.1 = true := by rw [inR_nI (by unfold big; omega) (by unfold big; omega)]; exact decide_eq_true ha
  have hbt : ∀ j, j < 24 → (lsr G bc j = nI a ∧ ltg G bc j = nI b ↔ j < G.2.1 ∧ bc j = false ∧ G.2.2.1 j = a ∧ G.2.2.2.1 j = b) := fun j hj => by
    have hlv : lvd G bc j = true ↔ j < G.2.1 ∧ bc j = false := by
      unfold lvd; rw [if_pos hj, Bool.and_eq_true, decide_eq_true_eq, Bool.not_eq_true']
    have hs : lsN G j = G.2.2.1 j := if_pos hj
    have ht : ltN G j = G.2.2.2.1 j := if_pos hj
    rw [lsr_eq hg (by omega), hs, hlv]
    constructor
    · rintro ⟨⟨z1, z2⟩, z3⟩
      rw [ltg_v (hlv.mpr z1), ht, nI_eq (by have := (g4 j z1.1).2.2.1; omega) (by omega)] at z3
      exact ⟨z1.1, z1.2, z2, z3⟩
    · rintro ⟨z1, z2, z3, z4⟩
      refine ⟨⟨⟨z1, z2⟩, z3⟩, ?_⟩
      rw [ltg_v (hlv.mpr ⟨z1, z2⟩), ht, z4]
  unfold btw
  rw [if_pos hin]
  rcases btF_spec (K := (lsr G bc, ltg G bc, f, p)) (x := nI a) (y := nI b) 24 0 with ⟨h1, h2⟩ | ⟨l, h1, h2, h3, h4, h5⟩
  · refine Or.inl ⟨h1, fun j hj => ?_⟩
    obtain ⟨z1, z2, z3, -⟩ := ebt_jn.2 j hj
    rw [nI_eq (by have := (g4 j z1).1; omega) (by omega)] at z2
    rw [nI_eq (by have := (g4 j z1).2.2.1; omega) (by omega)] at z3
    cases hh : bm j with
    | true => rfl
    | false => exact absurd ((hbt j (by omega)).mpr ⟨z1, by rw [← hb j z1]; exact hh, z2, z3⟩) (h2 j (Nat.zero_le _) (by omega))
  · have h2 : l < 24 := by omega
    obtain ⟨z1, z2, z3, z4⟩ := (hbt l h2).mp h3
    refine Or.inr ⟨l, ?_, by rw [hb l z1]; exact z2, h4, ?_, ?_, ?_⟩
    · have hj := (ebt_jn (G := G) (x := nI a) (y := nI b)).1
      cases he : ebt G (nI a) (nI b) with
      | none =>
        rw [he] at hj
        exfalso
        have : jn G (nI a) (nI b) = true := anyR_t (k := l) z1 (by rw [z3, z4]; simp)
        rw [this] at hj; cases hj
      | some j =>
        obtain ⟨y1, y2, y3, -⟩ := ebt_jn.2 j he
        rw [nI_eq (by have := (g4 j y1).1; omega) (by omega)] at y2
        rw [nI_eq (by have := (g4 j y1).2.2.1; omega) (by omega)] at y3
        rcases Nat.lt_trichotomy j l with w | w | w
        · exact absurd ⟨by rw [y2, z3], by rw [y3, z4]⟩ (g5 j l w z1)
        · rw [w]
        · exact absurd ⟨by rw [y2, z3], by rw [y3, z4]⟩ (g5 l j w y1)
    · refine ⟨by omega, ?_, by rw [show lsN G l = G.2.2.1 l from if_pos h2]; exact z3⟩
      unfold lvd; rw [if_pos h2, decide_eq_true z1, z2]; rfl
    · rw [show ltN G l = G.2.2.2.1 l from if_pos h2]; exact z4
    · obtain ⟨y1, y2⟩ := c2_even hb z1
      have e : lko bc l true = l := by unfold lko; rw [if_neg (by rw [z2]; decide)]; omega
      rw [hV _ y1, y2, e, hL.2.1 l (by omega) (by unfold lvd; rw [if_pos h2, decide_eq_true z1, z2]; rfl)]
end Find

