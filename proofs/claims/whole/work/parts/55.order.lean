/-! ===== the order of the links: sorted is heaviest first ===== -/
/-- a comes before b in the tree's order -/
def bef (G : Gr) (a b : Nat) : Prop := wgt G b < wgt G a ∨ (wgt G a = wgt G b ∧ a < b)
section Order
variable {G : Gr} {bc bm : Nat → Bool}
theorem bef_irr {a : Nat} (h : bef G a a) : False := by rcases h with z | z <;> omega
theorem bef_asym {a b : Nat} (h : bef G a b) (h2 : bef G b a) : False := by
  rcases h with z | z <;> rcases h2 with y | y <;> omega
theorem bef_trans {a b c : Nat} (h : bef G a b) (h2 : bef G b c) : bef G a c := by
  unfold bef at *
  omega
theorem bef_tot (a b : Nat) : a = b ∨ bef G a b ∨ bef G b a := by
  unfold bef
  omega
theorem siF_spec {l : Nat} : ∀ (p : Nat) (o : Nat → Nat), (∀ i j, i < j → j < p → wgt G (o j) ≤ wgt G (o i)) → ∃ t, t ≤ p ∧ (∀ i, i < t → siF G l p o i = o i ∧ wgt G l ≤ wgt G (o i)) ∧ siF G l p o t = l ∧ ∀ i, t < i → i ≤ p → siF G l p o i = o (i - 1) ∧ wgt G (o (i - 1)) < wgt G l := by
  intro p
  induction p with
  | zero =>
    intro o _
    exact ⟨0, Nat.le_refl _, fun i hi => absurd hi (Nat.not_lt_zero i), by unfold siF; exact va_same _ _ _, fun i h1 h2 => by omega⟩
  | succ p ih =>
    intro o ho
    unfold siF
    by_cases e : wgt G (o p) < wgt G l
    · rw [if_pos e]
      have hag : ∀ i, i ≤ p → va_up o (p + 1) (o p) i = o i := fun i hi => va_other (by omega)
      obtain ⟨t, h1, h2, h3, h4⟩ := ih (va_up o (p + 1) (o p)) (fun i j hi hj => by rw [hag i (by omega), hag j (by omega)]; exact ho i j hi (by omega))
      refine ⟨t, by omega, fun i hi => ?_, h3, fun i hi hp => ?_⟩
      · have := h2 i hi
        rw [hag i (by omega)] at this
        exact this
      · by_cases w : i = p + 1
        · rw [w, siF_beyond _ _ _ (by omega), va_same]
          exact ⟨rfl, e⟩
        · have := h4 i hi (by omega)
          rw [hag (i - 1) (by omega)] at this
          exact this
    · rw [if_neg e]
      refine ⟨p + 1, Nat.le_refl _, fun i hi => ⟨va_other (by omega), ?_⟩, va_same _ _ _, fun i h1 h2 => by omega⟩
      by_cases w : i = p
      · rw [w]; omega
      · have := ho i p (by omega) (by omega)
        omega
/-- sorted, and all links below l -/
def srt (G : Gr) (bk : Nat → Bool) (l : Nat) (x : Or) : Prop :=
  (∀ i, i < x.2 → x.1 i < l ∧ lvd G bk (x.1 i) = true) ∧ (∀ l', l' < l → lvd G bk l' = true → ∃ i, i < x.2 ∧ x.1 i = l') ∧ ∀ i j, i < j → j < x.2 → bef G (x.1 i) (x.1 j)
theorem srt_skip {l : Nat} {x : Or} (h : srt G bc l x) (hv : lvd G bc l = false) : srt G bc (l + 1) x := by
  refine ⟨fun i hi => ⟨by have := (h.1 i hi).1; omega, (h.1 i hi).2⟩, fun l' hl hv' => ?_, h.2.2⟩
  by_cases e : l' = l
  · rw [e, hv] at hv'; cases hv'
  · exact h.2.1 l' (by omega) hv'
theorem srt_in {l : Nat} {x : Or} (h : srt G bc l x) (hv : lvd G bc l = true) : srt G bc (l + 1) (sin G l x) := by
  obtain ⟨h1, h2, h3⟩ := h
  obtain ⟨t, t1, t2, t3, t4⟩ := siF_spec (G := G) (l := l) x.2 x.1 (fun i j hi hj => by
    have := h3 i j hi hj
    rcases this with z | z <;> omega)
  show srt G bc (l + 1) (siF G l x.2 x.1, x.2 + 1)
  refine ⟨fun i hi => ?_, fun l' hl hv' => ?_, fun i j hij hj => ?_⟩
  · have hi : i < x.2 + 1 := hi
    show siF G l x.2 x.1 i < l + 1 ∧ lvd G bc (siF G l x.2 x.1 i) = true
    rcases Nat.lt_trichotomy i t with z | z | z
    · rw [(t2 i z).1]; exact ⟨by have := (h1 i (by omega)).1; omega, (h1 i (by omega)).2⟩
    · rw [z, t3]; exact ⟨by omega, hv⟩
    · rw [(t4 i z (by omega)).1]; exact ⟨by have := (h1 (i - 1) (by omega)).1; omega, (h1 (i - 1) (by omega)).2⟩
  · by_cases e : l' = l
    · exact ⟨t, by show t < x.2 + 1; omega, by rw [e]; exact t3⟩
    · obtain ⟨i, i1, i2⟩ := h2 l' (by omega) hv'
      rcases Nat.lt_or_ge i t with z | z
      · exact ⟨i, by show i < x.2 + 1; omega, by show siF G l x.2 x.1 i = l'; rw [(t2 i z).1]; exact i2⟩
      · refine ⟨i + 1, by show i + 1 < x.2 + 1; omega, ?_⟩
        show siF G l x.2 x.1 (i + 1) = l'
        rw [(t4 (i + 1) (by omega) (by omega)).1]
        exact i2
  · have hj : j < x.2 + 1 := hj
    show bef G (siF G l x.2 x.1 i) (siF G l x.2 x.1 j)
    rcases Nat.lt_trichotomy j t with z | z | z
    · rw [(t2 i (by omega)).1, (t2 j z).1]; exact h3 i j hij (by omega)
    · rw [z, t3, (t2 i (by omega)).1]
      have q1 := (t2 i (by omega)).2
      have q2 := (h1 i (by omega)).1
      unfold bef
      omega
    · rw [(t4 j z (by omega)).1]
      have q1 := (t4 j z (by omega)).2
      rcases Nat.lt_trichotomy i t with y | y | y
      · rw [(t2 i y).1]; exact h3 i (j - 1) (by omega) (by omega)
      · rw [y, t3]; exact Or.inl q1
      · rw [(t4 i y (by omega)).1]; exact h3 (i - 1) (j - 1) (by omega) (by omega)
theorem srt_sl : ∀ (m l : Nat) (x : Or), l + m = 72 → srt G bc l x → srt G bc 72 (slF G bc m l x) := by
  intro m
  induction m with
  | zero => intro l x hl h; have : l = 72 := by omega
            subst this; exact h
  | succ m ih =>
    intro l x hl h
    unfold slF
    by_cases e : lvd G bc l = true
    · rw [if_pos e]; exact ih (l + 1) _ (by omega) (srt_in h e)
    · rw [if_neg e]
      refine ih (l + 1) _ (by omega) (srt_skip h ?_)
      cases hh : lvd G bc l with
      | true => exact absurd hh e
      | false => rfl
theorem srt_all (o : Nat → Nat) : srt G bc 72 (slF G bc 72 0 (o, 0)) := srt_sl 72 0 _ rfl ⟨fun i hi => absurd hi (Nat.not_lt_zero i), fun l' hl => absurd hl (Nat.not_lt_zero l'), fun i j _ hj => absurd hj (Nat.not_lt_zero j)⟩
/-- the reference's heaviest -/
theorem hvr_bef (he : G.2.1 ≤ 24) (hb : bE G bc bm) {a b : Nat} (ha : mIs G bm a = true) (hb2 : mIs G bm b = true) : hvr G bm a b = true ↔ bef G (c2 bm a) (c2 bm b) := by
  have q1 := (c2_v he hb ha).2.2.2.2
  have q2 := (c2_v he hb hb2).2.2.2.2
  unfold hvr bef wgt
  rw [q1, q2, mCb_c2 he ha hb2]
  by_cases e : G.2.2.2.2 (a / 2) = G.2.2.2.2 (b / 2)
  · rw [if_pos e, decide_eq_true_eq]; omega
  · rw [if_neg e, decide_eq_true_eq]; omega
theorem hvF_max (he : G.2.1 ≤ 24) (hb : bE G bc bm) {sn : Nat → Bool} : ∀ (m k : Nat) (b : Option Nat), (∀ i, b = some i → mIs G bm i = true) → (∀ j, j < k → mIs G bm j = true → sn j = false → ∃ i, b = some i ∧ (i = j ∨ bef G (c2 bm i) (c2 bm j))) → ∀ j, j < k + m → mIs G bm j = true → sn j = false → ∃ i, hvF G bm sn m k b = some i ∧ (i = j ∨ bef G (c2 bm i) (c2 bm j)) := by
  intro m
  induction m with
  | zero => intro k b _ hb j hj hv ho; exact hb j hj hv ho
  | succ m ih =>
    intro k b hbv hbm j hj hv ho
    unfold hvF
    refine ih (k + 1) _ (fun i hi => ?_) (fun j' hj' hv' ho' => ?_) j (by omega) hv ho
    · split at hi
      · rename_i hc
        cases hi
        unfold hvC at hc
        simp only [Bool.and_eq_true] at hc
        exact hc.1.1
      · exact hbv i hi
    · by_cases hc : hvC G bm sn k b = true
      · rw [if_pos hc]
        refine ⟨k, rfl, ?_⟩
        unfold hvC at hc
        simp only [Bool.and_eq_true] at hc
        by_cases e : j' = k
        · exact Or.inl e.symm
        · obtain ⟨i, hi1, hi2⟩ := hbm j' (by omega) hv' ho'
          subst hi1
          have h7 := (hvr_bef he hb hc.1.1 (hbv i rfl)).mp hc.2
          rcases hi2 with z | z
          · rw [← z]; exact Or.inr h7
          · exact Or.inr (bef_trans h7 z)
      · rw [if_neg hc]
        by_cases e : j' = k
        · subst e
          cases b with
          | none =>
            exfalso; apply hc
            unfold hvC
            rw [hv', ho']; rfl
          | some i =>
            refine ⟨i, rfl, ?_⟩
            rcases bef_tot (G := G) (c2 bm i) (c2 bm j') with z | z | z
            · left
              have := congrArg m2 z
              rwa [m2_c2 he (hbv i rfl), m2_c2 he hv'] at this
            · exact Or.inr z
            · exfalso; apply hc
              unfold hvC
              rw [hv', ho']
              exact (hvr_bef he hb hv' (hbv i rfl)).mpr z
        · exact hbm j' (by omega) hv' ho'
/-- what has been looked at: the first j of the order -/
def seenJ (G : Gr) (bm : Nat → Bool) (o : Nat → Nat) (j : Nat) (sn : Nat → Bool) : Prop := ∀ k, mIs G bm k = true → (sn k = true ↔ ∃ i, i < j ∧ o i = c2 bm k)
theorem hvy_next (he : G.2.1 ≤ 24) (hb : bE G bc bm) {x : Or} (hs : srt G bc 72 x) {j : Nat} {sn : Nat → Bool} (hj : j < x.2) (h : seenJ G bm x.1 j sn) : hvy G bm sn = some (m2 (x.1 j)) := by
  obtain ⟨h1, h2, h3⟩ := hs
  obtain ⟨q1, q2⟩ := m2_v hb (h1 j hj).1 (h1 j hj).2
  have hns : sn (m2 (x.1 j)) = false := by
    cases hh : sn (m2 (x.1 j)) with
    | false => rfl
    | true =>
      obtain ⟨i, i1, i2⟩ := (h _ q1).mp hh
      rw [q2] at i2
      have := h3 i j i1 hj
      rw [i2] at this
      exact (bef_irr this).elim
  obtain ⟨i, i1, i2⟩ := hvF_max he hb (2 * G.2.1) 0 none (fun i hi => by cases hi) (fun j hj => absurd hj (Nat.not_lt_zero j)) (m2 (x.1 j)) (by have := mIs_lt he q1; omega) q1 hns
  have i1 : hvy G bm sn = some i := i1
  rw [i1]
  rcases i2 with z | z
  · rw [z]
  · exfalso
    rw [q2] at z
    obtain ⟨y1, y2, y3⟩ := hvy_spec i1
    have hc := c2_v he hb y2
    obtain ⟨a, a1, a2⟩ := h2 (c2 bm i) hc.1 hc.2.1
    rw [← a2] at z
    rcases Nat.lt_trichotomy a j with w | w | w
    · have := (h i y2).mpr ⟨a, w, a2⟩
      rw [y3] at this; cases this
    · rw [w] at z; exact bef_irr z
    · exact bef_asym z (h3 j a w a1)
theorem hvy_end (he : G.2.1 ≤ 24) (hb : bE G bc bm) {x : Or} (hs : srt G bc 72 x) {sn : Nat → Bool} (h : seenJ G bm x.1 x.2 sn) : hvy G bm sn = none := by
  cases hh : hvy G bm sn with
  | none => rfl
  | some i =>
    obtain ⟨y1, y2, y3⟩ := hvy_spec hh
    have hc := c2_v he hb y2
    obtain ⟨a, a1, a2⟩ := hs.2.1 (c2 bm i) hc.1 hc.2.1
    have := (h i y2).mpr ⟨a, a1, a2⟩
    rw [y3] at this; cases this
theorem seen_up (he : G.2.1 ≤ 24) (hb : bE G bc bm) {x : Or} (hs : srt G bc 72 x) {j : Nat} {sn : Nat → Bool} (hj : j < x.2) (h : seenJ G bm x.1 j sn) : seenJ G bm x.1 (j + 1) (va_up sn (m2 (x.1 j)) true) := by
  obtain ⟨q1, q2⟩ := m2_v hb (hs.1 j hj).1 (hs.1 j hj).2
  intro k hk
  by_cases e : k = m2 (x.1 j)
  · rw [e, va_same]
    exact ⟨fun _ => ⟨j, by omega, q2.symm⟩, fun _ => rfl⟩
  · rw [va_other e, h k hk]
    constructor
    · rintro ⟨i, i1, i2⟩; exact ⟨i, by omega, i2⟩
    · rintro ⟨i, i1, i2⟩
      by_cases w : i = j
      · rw [w] at i2
        exact absurd (by rw [i2, m2_c2 he hk]) e
      · exact ⟨i, by omega, i2⟩
end Order

