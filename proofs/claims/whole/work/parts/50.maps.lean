/-! ===== the links of the two: one by one the same ===== -/
def bE (G : Gr) (bc bm : Nat → Bool) : Prop := ∀ k, k < G.2.1 → bm k = bc k
def c2 (bm : Nat → Bool) (k : Nat) : Nat := if k % 2 = 1 then 48 + k / 2 else if bm (k / 2) = true then 24 + k / 2 else k / 2
def m2 (l : Nat) : Nat := if l < 24 then 2 * l else if l < 48 then 2 * (l - 24) else 2 * (l - 48) + 1
section Maps
variable {G : Gr} {bc bm : Nat → Bool}
theorem c2_v (he : G.2.1 ≤ 24) (hb : bE G bc bm) {k : Nat} (h : mIs G bm k = true) : c2 bm k < 72 ∧ lvd G bc (c2 bm k) = true ∧ lsN G (c2 bm k) = mFr G k ∧ ltN G (c2 bm k) = mTo G bm k ∧ c2 bm k % 24 = k / 2 := by
  obtain ⟨h1, h2⟩ := of_decide_eq_true h
  have hb1 := hb _ h1
  unfold c2 mFr mTo
  by_cases e : k % 2 = 1
  · have hbt : bm (k / 2) = true := by rcases h2 with z | z; omega; exact z
    rw [if_pos e, if_pos e, if_neg (fun q => by omega)]
    refine ⟨by omega, ?_, ?_, ?_, by omega⟩
    · unfold lvd
      rw [if_neg (by omega), if_neg (by omega), show 48 + k / 2 - 48 = k / 2 by omega, ← hb1, hbt, decide_eq_true h1]; rfl
    · unfold lsN; rw [if_neg (by omega), if_neg (by omega)]
    · unfold ltN; rw [if_neg (by omega), if_neg (by omega), show 48 + k / 2 - 48 = k / 2 by omega]
  · rw [if_neg e, if_neg e]
    by_cases f : bm (k / 2) = true
    · rw [if_pos f, if_pos ⟨by omega, f⟩]
      refine ⟨by omega, ?_, ?_, ?_, by omega⟩
      · unfold lvd
        rw [if_neg (by omega), if_pos (by omega), show 24 + k / 2 - 24 = k / 2 by omega, ← hb1, f, decide_eq_true h1]; rfl
      · unfold lsN; rw [if_neg (by omega), if_pos (by omega), show 24 + k / 2 - 24 = k / 2 by omega]
      · unfold ltN; rw [if_neg (by omega), if_pos (by omega)]
    · rw [if_neg f, if_neg (fun q => f q.2)]
      have f2 : bm (k / 2) = false := by cases hh : bm (k / 2) with | true => exact absurd hh f | false => rfl
      refine ⟨by omega, ?_, ?_, ?_, by omega⟩
      · unfold lvd
        rw [if_pos (by omega), ← hb1, f2, decide_eq_true h1]; rfl
      · unfold lsN; rw [if_pos (by omega)]
      · unfold ltN; rw [if_pos (by omega)]
theorem m2_v (hb : bE G bc bm) {l : Nat} (hl : l < 72) (h : lvd G bc l = true) : mIs G bm (m2 l) = true ∧ c2 bm (m2 l) = l := by
  unfold lvd at h
  unfold m2
  by_cases e1 : l < 24
  · rw [if_pos e1] at h ⊢
    simp only [Bool.and_eq_true, decide_eq_true_eq, Bool.not_eq_true'] at h
    have hb1 := hb l h.1
    have e2 : 2 * l / 2 = l := by omega
    refine ⟨decide_eq_true ⟨by omega, Or.inl (by omega)⟩, ?_⟩
    unfold c2
    rw [if_neg (by omega), e2, hb1, h.2, if_neg (by decide)]
  · rw [if_neg e1] at h ⊢
    by_cases e2 : l < 48
    · rw [if_pos e2] at h ⊢
      simp only [Bool.and_eq_true, decide_eq_true_eq] at h
      have hb1 := hb _ h.1
      have e3 : 2 * (l - 24) / 2 = l - 24 := by omega
      refine ⟨decide_eq_true ⟨by omega, Or.inl (by omega)⟩, ?_⟩
      unfold c2
      rw [if_neg (by omega), e3, hb1, h.2, if_pos rfl]; omega
    · rw [if_neg e2] at h ⊢
      simp only [Bool.and_eq_true, decide_eq_true_eq] at h
      have hb1 := hb _ h.1
      have e3 : (2 * (l - 48) + 1) / 2 = l - 48 := by omega
      refine ⟨decide_eq_true ⟨by omega, Or.inr (by rw [e3, hb1]; exact h.2)⟩, ?_⟩
      unfold c2
      rw [if_pos (by omega), e3]; omega
theorem m2_c2 (he : G.2.1 ≤ 24) {k : Nat} (h : mIs G bm k = true) : m2 (c2 bm k) = k := by
  obtain ⟨h1, h2⟩ := of_decide_eq_true h
  unfold c2 m2
  by_cases e : k % 2 = 1
  · rw [if_pos e, if_neg (by omega), if_neg (by omega)]; omega
  · rw [if_neg e]
    by_cases f : bm (k / 2) = true
    · rw [if_pos f, if_neg (by omega), if_pos (by omega)]; omega
    · rw [if_neg f, if_pos (by omega)]; omega
theorem mIs_lt (he : G.2.1 ≤ 24) {k : Nat} (h : mIs G bm k = true) : k < 2 * G.2.1 := by
  obtain ⟨h1, h2⟩ := of_decide_eq_true h
  omega
theorem mCb_c2 (he : G.2.1 ≤ 24) {a b : Nat} (ha : mIs G bm a = true) (hb : mIs G bm b = true) : mCb bm a b = decide (c2 bm a < c2 bm b) := by
  obtain ⟨h1, h2⟩ := of_decide_eq_true ha
  obtain ⟨h3, h4⟩ := of_decide_eq_true hb
  unfold mCb mKd c2
  by_cases e : a % 2 = 1
  · rw [if_pos e, if_pos e]
    by_cases e' : b % 2 = 1
    · rw [if_pos e', if_pos e', if_pos rfl]
      exact decide_eq_decide.mpr ⟨fun q => by omega, fun q => by omega⟩
    · rw [if_neg e', if_neg e']
      by_cases f' : bm (b / 2) = true
      · rw [if_pos f', if_pos f', if_neg (by decide)]
        exact decide_eq_decide.mpr ⟨fun q => by omega, fun q => by omega⟩
      · rw [if_neg f', if_neg f', if_neg (by decide)]
        exact decide_eq_decide.mpr ⟨fun q => by omega, fun q => by omega⟩
  · rw [if_neg e, if_neg e]
    by_cases e' : b % 2 = 1
    · rw [if_pos e', if_pos e']
      by_cases f : bm (a / 2) = true
      · rw [if_pos f, if_pos f, if_neg (by decide)]
        exact decide_eq_decide.mpr ⟨fun q => by omega, fun q => by omega⟩
      · rw [if_neg f, if_neg f, if_neg (by decide)]
        exact decide_eq_decide.mpr ⟨fun q => by omega, fun q => by omega⟩
    · rw [if_neg e', if_neg e']
      by_cases f : bm (a / 2) = true
      · rw [if_pos f, if_pos f]
        by_cases f' : bm (b / 2) = true
        · rw [if_pos f', if_pos f', if_pos rfl]
          exact decide_eq_decide.mpr ⟨fun q => by omega, fun q => by omega⟩
        · rw [if_neg f', if_neg f', if_neg (by decide)]
          exact decide_eq_decide.mpr ⟨fun q => by omega, fun q => by omega⟩
      · rw [if_neg f, if_neg f]
        by_cases f' : bm (b / 2) = true
        · rw [if_pos f', if_pos f', if_neg (by decide)]
          exact decide_eq_decide.mpr ⟨fun q => by omega, fun q => by omega⟩
        · rw [if_neg f', if_neg f', if_pos rfl]
          exact decide_eq_decide.mpr ⟨fun q => by omega, fun q => by omega⟩
/-- node v's links, in their order, from place l on -/
def vk (G : Gr) (bm : Nat → Bool) (v k : Nat) : Prop := mIs G bm k = true ∧ mFr G k = v
def isNx (G : Gr) (bm : Nat → Bool) (v : Nat) (o : Option Nat) (l : Nat) : Prop := (∀ k, o = some k → vk G bm v k ∧ l ≤ c2 bm k) ∧ ∀ k, vk G bm v k → l ≤ c2 bm k → ∃ i, o = some i ∧ c2 bm i ≤ c2 bm k
theorem lbF_min (he : G.2.1 ≤ 24) {v : Nat} {o : Option Nat} : ∀ (m k : Nat) (b : Option Nat), (∀ i, b = some i → vk G bm v i) → (∀ j, j < k → vk G bm v j → lbO bm j o = true → ∃ i, b = some i ∧ c2 bm i ≤ c2 bm j) → ∀ j, j < k + m → vk G bm v j → lbO bm j o = true → ∃ i, lbF G bm v o m k b = some i ∧ c2 bm i ≤ c2 bm j := by
  intro m
  induction m with
  | zero => intro k b _ hb j hj hv ho; exact hb j hj hv ho
  | succ m ih =>
    intro k b hbv hb j hj hv ho
    unfold lbF
    refine ih (k + 1) _ (fun i hi => ?_) (fun j' hj' hv' ho' => ?_) j (by omega) hv ho
    · split at hi
      · rename_i hc
        cases hi
        unfold lbC at hc
        simp only [Bool.and_eq_true, decide_eq_true_eq] at hc
        exact ⟨hc.1.1.1, hc.1.1.2⟩
      · exact hbv i hi
    · by_cases hc : lbC G bm v o k b = true
      · rw [if_pos hc]
        refine ⟨k, rfl, ?_⟩
        unfold lbC at hc
        simp only [Bool.and_eq_true, decide_eq_true_eq] at hc
        by_cases e : j' = k
        · rw [e]; exact Nat.le_refl _
        · obtain ⟨i, hi1, hi2⟩ := hb j' (by omega) hv' ho'
          subst hi1
          have h7 : mCb bm k i = true := hc.2
          rw [mCb_c2 he hc.1.1.1 (hbv i rfl).1] at h7
          have := of_decide_eq_true h7
          omega
      · rw [if_neg hc]
        by_cases e : j' = k
        · subst e
          cases b with
          | none =>
            exfalso; apply hc
            unfold lbC
            rw [hv'.1, decide_eq_true hv'.2, ho']; rfl
          | some i =>
            refine ⟨i, rfl, ?_⟩
            rcases Nat.lt_or_ge (c2 bm j') (c2 bm i) with z | z
            · exfalso; apply hc
              unfold lbC
              rw [hv'.1, decide_eq_true hv'.2, ho']
              show (true && true && true && mCb bm j' i) = true
              rw [mCb_c2 he hv'.1 (hbv i rfl).1, decide_eq_true z]; rfl
            · exact z
        · exact hb j' (by omega) hv' ho'
theorem lb_nx0 (he : G.2.1 ≤ 24) (v : Nat) : isNx G bm v (lb G bm v none) 0 :=
  ⟨fun k hk => by have := lb_spec hk; exact ⟨⟨this.2.1, this.2.2.1⟩, Nat.zero_le _⟩, fun k hv _ => lbF_min he _ 0 none (fun i hi => by cases hi) (fun j hj => absurd hj (Nat.not_lt_zero j)) k (by have := mIs_lt he hv.1; omega) hv rfl⟩
theorem lb_nx1 (he : G.2.1 ≤ 24) {v k : Nat} (hk : mIs G bm k = true) : isNx G bm v (lb G bm v (some k)) (c2 bm k + 1) := by
  refine ⟨fun i hi => ?_, fun i hv hi => ?_⟩
  · have q := lb_spec hi
    have := q.2.2.2 k rfl
    rw [mCb_c2 he hk q.2.1] at this
    have := of_decide_eq_true this
    exact ⟨⟨q.2.1, q.2.2.1⟩, by omega⟩
  · refine lbF_min he _ 0 none (fun i hi => by cases hi) (fun j hj => absurd hj (Nat.not_lt_zero j)) i (by have := mIs_lt he hv.1; omega) hv ?_
    show mCb bm k i = true
    rw [mCb_c2 he hk hv.1]
    exact decide_eq_true (by omega)
theorem nx_skip (he : G.2.1 ≤ 24) (hb : bE G bc bm) {v l : Nat} {o : Option Nat} (h : isNx G bm v o l) (hn : ¬ (lvd G bc l = true ∧ lsN G l = v)) : isNx G bm v o (l + 1) := by
  refine ⟨fun k hk => ?_, fun k hv hl => h.2 k hv (by omega)⟩
  have := h.1 k hk
  refine ⟨this.1, ?_⟩
  rcases Nat.lt_or_ge l (c2 bm k) with z | z
  · omega
  · exfalso
    have e : c2 bm k = l := by omega
    obtain ⟨q1, q2, q3, q4, q5⟩ := c2_v he hb this.1.1
    rw [e] at q2 q3
    exact hn ⟨q2, by rw [q3]; exact this.1.2⟩
theorem nx_take (he : G.2.1 ≤ 24) (hb : bE G bc bm) {v l : Nat} {o : Option Nat} (hl : l < 72) (h : isNx G bm v o l) (hn : lvd G bc l = true ∧ lsN G l = v) : o = some (m2 l) ∧ vk G bm v (m2 l) ∧ c2 bm (m2 l) = l := by
  obtain ⟨h1, h2⟩ := m2_v hb hl hn.1
  have hv : vk G bm v (m2 l) := ⟨h1, by rw [← (c2_v he hb h1).2.2.1, h2]; exact hn.2⟩
  obtain ⟨i, hi, hi2⟩ := h.2 (m2 l) hv (by omega)
  have := h.1 i hi
  have e : c2 bm i = l := by omega
  have : m2 (c2 bm i) = i := m2_c2 he this.1.1
  rw [e] at this
  rw [this]
  exact ⟨hi, this ▸ hv, by rw [← this]; exact h2⟩
theorem nx_none {v l : Nat} {o : Option Nat} (he : G.2.1 ≤ 24) (hb : bE G bc bm) (hl : 72 ≤ l) (h : isNx G bm v o l) : o = none := by
  cases o with
  | none => rfl
  | some k =>
    have := h.1 k rfl
    have := (c2_v he hb this.1.1).1
    omega
end Maps

