/-! ===== the path in the text: the two find the same ===== -/
theorem btF_spec {K : Lk} {x y : Int32} : ∀ (m l : Nat), (btF K x y m l = -1 ∧ ∀ i, l ≤ i → i < l + m → ¬ (K.1 i = x ∧ K.2.1 i = y)) ∨ ∃ i, l ≤ i ∧ i < l + m ∧ (K.1 i = x ∧ K.2.1 i = y) ∧ btF K x y m l = nI i ∧ ∀ j, l ≤ j → j < i → ¬ (K.1 j = x ∧ K.2.1 j = y) := by
  intro m
  induction m with
  | zero => intro l; exact Or.inl ⟨rfl, fun i h1 h2 => by omega⟩
  | succ m ih =>
    intro l
    unfold btF
    by_cases e : K.1 l = x ∧ K.2.1 l = y
    · rw [if_pos e]
      exact Or.inr ⟨l, Nat.le_refl _, by omega, e, rfl, fun j h1 h2 => by omega⟩
    · rw [if_neg e]
      rcases ih (l + 1) with ⟨h1, h2⟩ | ⟨i, h1, h2, h3, h4, h5⟩
      · refine Or.inl ⟨h1, fun i z1 z2 => ?_⟩
        by_cases w : i = l
        · rw [w]; exact e
        · exact h2 i (by omega) (by omega)
      · refine Or.inr ⟨i, by omega, by omega, h3, h4, fun j z1 z2 => ?_⟩
        by_cases w : j = l
        · rw [w]; exact e
        · exact h5 j (by omega) z2
section Find
variable {G : Gr} {bm : Nat → Bool} {V : Nat → Int32} {x : Int32} {kd : Nat}
theorem lvF_stay : ∀ (m k : Nat) (b : Int32), b ≠ -1 → (∀ j, k ≤ j → j < k + m → lvC G bm x kd j = true → ¬ V j < b) → lvF G bm V x kd m k b = b := by
  intro m
  induction m with
  | zero => intro k b _ _; rfl
  | succ m ih =>
    intro k b h1 h2
    unfold lvF
    rw [if_neg (fun z => by rcases z.2 with q | q; exact h1 q; exact h2 k (Nat.le_refl _) (by omega) z.1 q)]
    exact ih (k + 1) b h1 (fun j z1 z2 => h2 j (by omega) (by omega))
theorem lvF_none : ∀ (m k : Nat), (∀ j, k ≤ j → j < k + m → lvC G bm x kd j = false) → lvF G bm V x kd m k (-1) = -1 := by
  intro m
  induction m with
  | zero => intro k _; rfl
  | succ m ih =>
    intro k h
    unfold lvF
    rw [if_neg (fun z => by rw [h k (Nat.le_refl _) (by omega)] at z; cases z.1)]
    exact ih (k + 1) (fun j z1 z2 => h j (by omega) (by omega))
theorem lvF_first {k0 : Nat} (h0 : lvC G bm x kd k0 = true) (h1 : V k0 ≠ -1) : ∀ (m k : Nat), k ≤ k0 → k0 < k + m → (∀ j, k ≤ j → j < k0 → lvC G bm x kd j = false) → (∀ j, k0 < j → j < k + m → lvC G bm x kd j = true → ¬ V j < V k0) → lvF G bm V x kd m k (-1) = V k0 := by
  intro m
  induction m with
  | zero => intro k h2 h3; omega
  | succ m ih =>
    intro k h2 h3 h4 h5
    unfold lvF
    by_cases e : k = k0
    · subst e
      rw [if_pos ⟨h0, Or.inl rfl⟩]
      exact lvF_stay m (k + 1) _ h1 (fun j z1 z2 => h5 j (by omega) (by omega))
    · rw [if_neg (fun z => by rw [h4 k (Nat.le_refl _) (by omega)] at z; cases z.1)]
      exact ih (k + 1) (by omega) (by omega) (fun j z1 z2 => h4 j (by omega) z2) (fun j z1 z2 => h5 j z1 (by omega))
theorem lvC_is {k : Nat} (h : lvC G bm x kd k = true) : mIs G bm k = true := by
  unfold lvC at h
  simp only [Bool.and_eq_true] at h
  exact h.1.1
/-- the least value is the value of the link that the class finds -/
theorem lv_bt (hg : gok G) {bc : Nat → Bool} (hb : bE G bc bm) {p f : Nat → Int32} {np nv : Nat → Nat} (hL : lad G bc p f np nv) (hV : ∀ k, mIs G bm k = true → V k = f (c2 bm k)) {a b : Int32} {off v : Nat} (hoff : off + 24 ≤ 72) (hv : v + 1 < G.1) (hm : ∀ l, off ≤ l → l < off + 24 → (lsr G bc l = a ∧ ltg G bc l = b) → vl G bc v l)
    (hc : ∀ k, mIs G bm k = true → (lvC G bm x kd k = true ↔ off ≤ c2 bm k ∧ c2 bm k < off + 24 ∧ lsr G bc (c2 bm k) = a ∧ ltg G bc (c2 bm k) = b)) :
    (btF (lsr G bc, ltg G bc, f, p) a b 24 off = -1 ∧ lvR G bm V x kd = -1) ∨ ∃ l, off ≤ l ∧ l < off + 24 ∧ vl G bc v l ∧ (lsr G bc l = a ∧ ltg G bc l = b) ∧ btF (lsr G bc, ltg G bc, f, p) a b 24 off = nI l ∧ lvR G bm V x kd = nI (nv l) := by
  have he := hg.2.2.1
  have hld := hL.2.2.2 v hv
  have hnv := (hL.1 v (by omega)).2
  rcases btF_spec (K := (lsr G bc, ltg G bc, f, p)) (x := a) (y := b) 24 off with ⟨h1, h2⟩ | ⟨l, h1, h2, h3, h4, h5⟩
  · refine Or.inl ⟨h1, lvF_none _ _ (fun j _ hj => ?_)⟩
    cases hh : lvC G bm x kd j with
    | false => rfl
    | true =>
      obtain ⟨z1, z2, z3⟩ := (hc j (lvC_is hh)).mp hh
      exact absurd z3 (h2 _ z1 z2)
  · have h3 : lsr G bc l = a ∧ ltg G bc l = b := h3
    have hvl := hm l h1 h2 h3
    obtain ⟨m1, m2'⟩ := m2_v hb hvl.1 hvl.2.1
    have hVm : V (m2 l) = nI (nv l) := by rw [hV _ m1, m2', hL.2.1 l hvl.1 hvl.2.1]
    have hle := hld.1 l hvl
    refine Or.inr ⟨l, h1, h2, hvl, h3, h4, ?_⟩
    have hcl : ∀ j, lvC G bm x kd j = true → vl G bc v (c2 bm j) := fun j hj => by
      obtain ⟨z1, z2, z3⟩ := (hc j (lvC_is hj)).mp hj
      exact hm _ z1 z2 z3
    have hord : ∀ i j, lvC G bm x kd i = true → lvC G bm x kd j = true → i < j → c2 bm i < c2 bm j := fun i j hi hj hij => by
      have k1 : mKd bm i = mKd bm j := by
        unfold lvC at hi hj
        simp only [Bool.and_eq_true, decide_eq_true_eq] at hi hj
        rw [hi.1.2, hj.1.2]
      have : mCb bm i j = true := by unfold mCb; rw [if_pos k1]; exact decide_eq_true hij
      rw [mCb_c2 he (lvC_is hi) (lvC_is hj)] at this
      exact of_decide_eq_true this
    have h0 : lvC G bm x kd (m2 l) = true := (hc _ m1).mpr (by rw [m2']; exact ⟨h1, h2, h3⟩)
    rw [← hVm]
    refine lvF_first h0 (by rw [hVm]; exact nI_m1 (by omega)) _ 0 (Nat.zero_le _) (by have := mIs_lt he m1; omega) (fun j _ hj => ?_) (fun j hj _ hcj => ?_)
    · cases hh : lvC G bm x kd j with
      | false => rfl
      | true =>
        obtain ⟨z1, z2, z3⟩ := (hc j (lvC_is hh)).mp hh
        have := hord j (m2 l) hh h0 hj
        rw [m2'] at this
        exact absurd z3 (h5 _ z1 this)
    · have h6 := hcl j hcj
      have h7 := hord (m2 l) j h0 hcj hj
      rw [m2'] at h7
      have h8 := hld.2.1 l _ hvl h6 h7
      have h9 := hld.1 _ h6
      rw [hVm, hV _ (lvC_is hcj), hL.2.1 _ h6.1 h6.2.1, nI_lt_iff (by omega) (by omega)]
      omega
end Find

