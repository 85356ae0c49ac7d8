/-! ===== the depth-first search as a function ===== -/
theorem nxF_ge {src : Nat → Nat} {v : Nat} : ∀ m k, k ≤ nxF src v m k ∧ nxF src v m k ≤ k + m
  | 0, k => ⟨Nat.le_refl _, Nat.le_refl _⟩
  | m + 1, k => by
    unfold nxF
    split
    · exact ⟨Nat.le_refl _, by omega⟩
    · have := nxF_ge (src := src) (v := v) m (k + 1)
      omega
theorem nxF_no {src : Nat → Nat} {v : Nat} : ∀ m k i, k ≤ i → i < nxF src v m k → src i ≠ v
  | 0, k, i, h1, h2 => absurd (show i < k from h2) (by omega)
  | m + 1, k, i, h1, h2 => by
    unfold nxF at h2
    split at h2
    · omega
    · rename_i hne
      rcases Nat.eq_or_lt_of_le h1 with e | e
      · rw [← e]; exact hne
      · exact nxF_no m (k + 1) i e h2
theorem nxF_at {src : Nat → Nat} {v : Nat} : ∀ m k, nxF src v m k < k + m → src (nxF src v m k) = v
  | 0, k, h => absurd h (by show ¬ k < k + 0; omega)
  | m + 1, k, h => by
    unfold nxF at h ⊢
    split
    · assumption
    · rename_i hne
      rw [if_neg hne] at h
      exact nxF_at m (k + 1) (by omega)
theorem nxt_ge {e : Nat} {src : Nat → Nat} {v k : Nat} : k ≤ nxt e src v k := (nxF_ge _ _).1
theorem nxt_le {e : Nat} {src : Nat → Nat} {v k : Nat} (h : k ≤ e) : nxt e src v k ≤ e := Nat.le_trans (nxF_ge _ _).2 (by omega)
theorem nxt_no {e : Nat} {src : Nat → Nat} {v k i : Nat} (h1 : k ≤ i) (h2 : i < nxt e src v k) : src i ≠ v := nxF_no _ _ i h1 h2
theorem nxt_at {e : Nat} {src : Nat → Nat} {v k : Nat} (h : k ≤ e) (h2 : nxt e src v k < e) : src (nxt e src v k) = v := nxF_at _ _ (by unfold nxt at h2; omega)
/-- how many below n -/
def cnt (n : Nat) (p : Nat → Bool) : Nat := (List.range n).countP p
theorem cnt_le (n : Nat) (p : Nat → Bool) : cnt n p ≤ n := by
  have := List.countP_le_length (p := p) (l := List.range n)
  rwa [List.length_range] at this
theorem cnt_succ (n : Nat) (p : Nat → Bool) : cnt (n + 1) p = cnt n p + (if p n then 1 else 0) := by
  unfold cnt
  rw [List.range_succ, List.countP_append]
  simp [List.countP_cons]
theorem cnt_congr {p q : Nat → Bool} : ∀ n : Nat, (∀ i, i < n → p i = q i) → cnt n p = cnt n q
  | 0, _ => rfl
  | n + 1, h => by rw [cnt_succ, cnt_succ, cnt_congr n (fun i hi => h i (by omega)), h n (by omega)]
/-- one more -/
theorem cnt_up {p q : Nat → Bool} {t : Nat} (hp : p t = false) (hq : q t = true) (ho : ∀ i, i ≠ t → q i = p i) : ∀ n : Nat, t < n → cnt n q = cnt n p + 1
  | 0, h => absurd h (Nat.not_lt_zero _)
  | n + 1, h => by
    rw [cnt_succ, cnt_succ]
    rcases Nat.lt_or_ge t n with h1 | h1
    · rw [cnt_up hp hq ho n h1, ho n (by omega)]; omega
    · have e : t = n := by omega
      subst e
      rw [hp, hq, cnt_congr t (p := q) (q := p) (fun i hi => ho i (by omega))]
      simp
theorem cnt_full {p : Nat → Bool} : ∀ n : Nat, cnt n p = n → ∀ i, i < n → p i = true
  | 0, _, i, hi => absurd hi (Nat.not_lt_zero _)
  | n + 1, h, i, hi => by
    rw [cnt_succ] at h
    have hl := cnt_le n p
    have hpn : p n = true := by
      cases hh : p n with
      | true => rfl
      | false => rw [hh] at h; simp at h; omega
    rw [hpn] at h
    rcases Nat.lt_or_ge i n with h1 | h1
    · exact cnt_full n (by simp at h; omega) i h1
    · rw [show i = n by omega]; exact hpn
theorem cnt_lt {p : Nat → Bool} {t : Nat} (n : Nat) (ht : t < n) (hp : p t = false) : cnt n p < n := by
  rcases Nat.lt_or_ge (cnt n p) n with h | h
  · exact h
  · have := cnt_full n (Nat.le_antisymm (cnt_le n p) h) t ht
    rw [hp] at this; cases this
theorem va_same {α : Type} (f : Nat → α) (k : Nat) (x : α) : va_up f k x k = x := if_pos rfl
theorem va_other {α : Type} {f : Nat → α} {k j : Nat} {x : α} (h : j ≠ k) : va_up f k x j = f j := if_neg h
/-- a graph that the class may hold -/
def gok (G : Gr) : Prop := 2 ≤ G.1 ∧ G.1 ≤ 12 ∧ G.2.1 ≤ 24 ∧ (∀ i, i < G.2.1 → G.2.2.1 i + 1 < G.1 ∧ 1 ≤ G.2.2.2.1 i ∧ G.2.2.2.1 i < G.1 ∧ G.2.2.2.2 i ≤ 99) ∧ ∀ i k, i < k → k < G.2.1 → ¬ (G.2.2.1 i = G.2.2.1 k ∧ G.2.2.2.1 i = G.2.2.2.1 k)
/-- a node is entered, left; an edge is followed -/
def enS (S : Se) (v : Nat) : Se := (S.1, S.2.1, S.2.2.1, va_up S.2.2.2.1 S.2.2.2.2.1 v, S.2.2.2.2.1 + 1, S.2.2.2.2.2.1, va_up S.2.2.2.2.2.2.1 v true, va_up S.2.2.2.2.2.2.2.1 v true, S.2.2.2.2.2.2.2.2)
def lvS (S : Se) (v : Nat) : Se := (S.1, va_up S.2.1 S.2.2.1 v, S.2.2.1 + 1, S.2.2.2.1, S.2.2.2.2.1 - 1, S.2.2.2.2.2.1, S.2.2.2.2.2.2.1, va_up S.2.2.2.2.2.2.2.1 v false, S.2.2.2.2.2.2.2.2)
def bkS (S : Se) (k : Nat) : Se := (va_up S.1 k true, S.2)
def nxS (S : Se) (v k : Nat) : Se := (S.1, S.2.1, S.2.2.1, S.2.2.2.1, S.2.2.2.2.1, va_up S.2.2.2.2.2.1 v k, S.2.2.2.2.2.2.1, S.2.2.2.2.2.2.2.1, S.2.2.2.2.2.2.2.2)
def foS (G : Gr) (S : Se) (k : Nat) : Se := if S.2.2.2.2.2.2.2.1 (G.2.2.2.1 k) = true then bkS S k else if S.2.2.2.2.2.2.1 (G.2.2.2.1 k) = true then S else enS S (G.2.2.2.1 k)
def tpS (S : Se) : Nat := S.2.2.2.1 (S.2.2.2.2.1 - 1)
def neS (G : Gr) (S : Se) : Nat := nxt G.2.1 G.2.2.1 (tpS S) (S.2.2.2.2.2.1 (tpS S))
def trn (G : Gr) (S : Se) : Se := if neS G S < G.2.1 then foS G (nxS S (tpS S) (neS G S + 1)) (neS G S) else lvS S (tpS S)
def dfF (G : Gr) : Nat → Se → Se
  | 0, S => S
  | m + 1, S => if S.2.2.2.2.1 = 0 then S else dfF G m (trn G S)
/-- the edges that have been followed -/
def flw (G : Gr) (S : Se) (k : Nat) : Bool := decide (k < S.2.2.2.2.2.1 (G.2.2.1 k))
/-- what holds of the search at every turn -/
def dI (G : Gr) (S : Se) : Prop :=
  cnt G.1 S.2.2.2.2.2.2.1 = S.2.2.2.2.1 + S.2.2.1 ∧
  (∀ i, i < S.2.2.2.2.1 → S.2.2.2.1 i < G.1 ∧ S.2.2.2.2.2.2.1 (S.2.2.2.1 i) = true ∧ S.2.2.2.2.2.2.2.1 (S.2.2.2.1 i) = true) ∧
  (∀ i, i < S.2.2.1 → S.2.1 i < G.1 ∧ S.2.2.2.2.2.2.1 (S.2.1 i) = true ∧ S.2.2.2.2.2.2.2.1 (S.2.1 i) = false) ∧
  (∀ i i', i < i' → i' < S.2.2.2.2.1 → S.2.2.2.1 i ≠ S.2.2.2.1 i') ∧
  (∀ i i', i < i' → i' < S.2.2.1 → S.2.1 i ≠ S.2.1 i') ∧
  (∀ v, S.2.2.2.2.2.1 v ≤ G.2.1) ∧
  (∀ v, S.2.2.2.2.2.2.1 v = true → S.2.2.2.2.2.2.2.1 v = false → ∃ a, a < S.2.2.1 ∧ S.2.1 a = v) ∧
  (∀ v, S.2.2.2.2.2.2.2.1 v = true → ∃ i, i < S.2.2.2.2.1 ∧ S.2.2.2.1 i = v) ∧
  (∀ i, i + 1 < S.2.2.2.2.1 → ∃ k, k < G.2.1 ∧ G.2.2.1 k = S.2.2.2.1 i) ∧
  (∀ i k, i < S.2.2.2.2.1 → k < G.2.1 → G.2.2.1 k = S.2.2.2.1 i → flw G S k = true → S.1 k = false → (∃ a, a < S.2.2.1 ∧ S.2.1 a = G.2.2.2.1 k) ∨ ∃ i', i < i' ∧ i' < S.2.2.2.2.1 ∧ S.2.2.2.1 i' = G.2.2.2.1 k) ∧
  (∀ j k, j < S.2.2.1 → k < G.2.1 → G.2.2.1 k = S.2.1 j → flw G S k = true ∧ (S.1 k = false → ∃ a, a < j ∧ S.2.1 a = G.2.2.2.1 k)) ∧
  (∀ k, S.1 k = true → k < G.2.1 ∧ G.2.2.2.1 k + 1 ≠ G.1 ∧ flw G S k = true) ∧
  (∀ Z : Nat → Prop, Z 0 → (∀ k, k < G.2.1 → flw G S k = true → S.1 k = false → Z (G.2.2.1 k) → Z (G.2.2.2.1 k)) → ∀ v, S.2.2.2.2.2.2.1 v = true → Z v) ∧
  (0 < S.2.2.2.2.1 → S.2.2.2.1 0 = 0) ∧ (S.2.2.2.2.1 = 0 → 0 < S.2.2.1 ∧ S.2.1 (S.2.2.1 - 1) = 0) ∧
  (∀ w, S.2.2.2.2.2.2.1 w = false → S.2.2.2.2.2.1 w = 0)
/-- turns done so far -/
def tcn (G : Gr) (S : Se) : Nat := cnt G.2.1 (flw G S) + S.2.2.1
theorem dI_le {G : Gr} {S : Se} (h : dI G S) : S.2.2.2.2.1 + S.2.2.1 ≤ G.1 := by
  have := cnt_le G.1 S.2.2.2.2.2.2.1
  rw [h.1] at this
  exact this
/-- leaving a node -/
theorem dI_leave {G : Gr} {S : Se} (h : dI G S) (hd : 0 < S.2.2.2.2.1) (hn : ¬ neS G S < G.2.1) : dI G (lvS S (tpS S)) ∧ tcn G (lvS S (tpS S)) = tcn G S + 1 := by
  obtain ⟨h1, h2, h3, h4, h5, h6, h7, h8, h9, h10, h11, h12, h13, h14, h15, h16⟩ := h
  have htop : tpS S = S.2.2.2.1 (S.2.2.2.2.1 - 1) := rfl
  obtain ⟨t1, t2, t3⟩ := h2 (S.2.2.2.2.1 - 1) (by omega)
  rw [← htop] at t1 t2 t3
  have hall : ∀ k, k < G.2.1 → G.2.2.1 k = tpS S → flw G S k = true := by
    intro k hk hs
    unfold flw
    rw [hs]
    apply decide_eq_true
    apply Nat.lt_of_not_le
    intro hle
    exact nxt_no (e := G.2.1) (src := G.2.2.1) hle (by show k < neS G S; omega) hs
  have hnl : ∀ a, a < S.2.2.1 → S.2.1 a ≠ tpS S := by
    intro a ha e
    have := (h3 a ha).2.2
    rw [e, t3] at this
    cases this
  refine ⟨⟨?_, ?_, ?_, ?_, ?_, h6, ?_, ?_, ?_, ?_, ?_, h12, h13, ?_, ?_, h16⟩, ?_⟩
  · show cnt G.1 S.2.2.2.2.2.2.1 = (S.2.2.2.2.1 - 1) + (S.2.2.1 + 1)
    rw [h1]; omega
  · intro i hi
    have hi' : i < S.2.2.2.2.1 - 1 := hi
    obtain ⟨a1, a2, a3⟩ := h2 i (by omega)
    refine ⟨a1, a2, ?_⟩
    show va_up S.2.2.2.2.2.2.2.1 (tpS S) false (S.2.2.2.1 i) = true
    rw [va_other (show S.2.2.2.1 i ≠ tpS S from h4 i (S.2.2.2.2.1 - 1) hi' (by omega))]
    exact a3
  · intro i hi
    have hi' : i < S.2.2.1 + 1 := hi
    show va_up S.2.1 S.2.2.1 (tpS S) i < G.1 ∧ S.2.2.2.2.2.2.1 (va_up S.2.1 S.2.2.1 (tpS S) i) = true ∧ va_up S.2.2.2.2.2.2.2.1 (tpS S) false (va_up S.2.1 S.2.2.1 (tpS S) i) = false
    by_cases e : i = S.2.2.1
    · rw [e, va_same, va_same]; exact ⟨t1, t2, rfl⟩
    · rw [va_other e]
      obtain ⟨a1, a2, a3⟩ := h3 i (by omega)
      refine ⟨a1, a2, ?_⟩
      rw [va_other (hnl i (by omega))]
      exact a3
  · intro i i' hii hi'
    have hi2 : i' < S.2.2.2.2.1 - 1 := hi'
    exact h4 i i' hii (by omega)
  · intro i i' hii hi'
    have hi2 : i' < S.2.2.1 + 1 := hi'
    show va_up S.2.1 S.2.2.1 (tpS S) i ≠ va_up S.2.1 S.2.2.1 (tpS S) i'
    rw [va_other (show i ≠ S.2.2.1 by omega)]
    by_cases e : i' = S.2.2.1
    · rw [e, va_same]; exact hnl i (by omega)
    · rw [va_other e]; exact h5 i i' hii (by omega)
  · intro v hv1 hv2
    have hv2' : va_up S.2.2.2.2.2.2.2.1 (tpS S) false v = false := hv2
    by_cases e : v = tpS S
    · refine ⟨S.2.2.1, Nat.lt_succ_self _, ?_⟩
      show va_up S.2.1 S.2.2.1 (tpS S) S.2.2.1 = v
      rw [va_same, e]
    · rw [va_other e] at hv2'
      obtain ⟨a, ha, e2⟩ := h7 v hv1 hv2'
      refine ⟨a, Nat.lt_succ_of_lt ha, ?_⟩
      show va_up S.2.1 S.2.2.1 (tpS S) a = v
      rw [va_other (by omega)]; exact e2
  · intro v hv
    have hv' : va_up S.2.2.2.2.2.2.2.1 (tpS S) false v = true := hv
    have e : v ≠ tpS S := by
      intro e
      rw [e, va_same] at hv'
      cases hv'
    rw [va_other e] at hv'
    obtain ⟨i, hi, e2⟩ := h8 v hv'
    refine ⟨i, ?_, e2⟩
    show i < S.2.2.2.2.1 - 1
    have : i ≠ S.2.2.2.2.1 - 1 := by
      intro e3
      rw [e3] at e2
      exact e e2.symm
    omega
  · intro i hi
    have hi2 : i + 1 < S.2.2.2.2.1 - 1 := hi
    exact h9 i (by omega)
  · intro i k hi hk hs hf hb
    have hi2 : i < S.2.2.2.2.1 - 1 := hi
    rcases h10 i k (by omega) hk hs hf hb with ⟨a, ha, e⟩ | ⟨i', hi', hd', e⟩
    · refine Or.inl ⟨a, Nat.lt_succ_of_lt ha, ?_⟩
      show va_up S.2.1 S.2.2.1 (tpS S) a = _
      rw [va_other (by omega)]; exact e
    · by_cases e3 : i' = S.2.2.2.2.1 - 1
      · refine Or.inl ⟨S.2.2.1, Nat.lt_succ_self _, ?_⟩
        show va_up S.2.1 S.2.2.1 (tpS S) S.2.2.1 = _
        rw [va_same, htop, ← e3]; exact e
      · exact Or.inr ⟨i', hi', by show i' < S.2.2.2.2.1 - 1; omega, e⟩
  · intro j k hj hk hs
    have hj2 : j < S.2.2.1 + 1 := hj
    have hs2 : G.2.2.1 k = va_up S.2.1 S.2.2.1 (tpS S) j := hs
    by_cases e : j = S.2.2.1
    · rw [e, va_same] at hs2
      refine ⟨hall k hk hs2, fun hb => ?_⟩
      rcases h10 (S.2.2.2.2.1 - 1) k (by omega) hk hs2 (hall k hk hs2) hb with ⟨a, ha, e2⟩ | ⟨i', hi', hd', e2⟩
      · refine ⟨a, by omega, ?_⟩
        show va_up S.2.1 S.2.2.1 (tpS S) a = _
        rw [va_other (by omega)]; exact e2
      · omega
    · rw [va_other e] at hs2
      obtain ⟨a1, a2⟩ := h11 j k (by omega) hk hs2
      refine ⟨a1, fun hb => ?_⟩
      obtain ⟨a, ha, e2⟩ := a2 hb
      refine ⟨a, ha, ?_⟩
      show va_up S.2.1 S.2.2.1 (tpS S) a = _
      rw [va_other (by omega)]; exact e2
  · intro hd2
    have : 0 < S.2.2.2.2.1 - 1 := hd2
    exact h14 (by omega)
  · intro hd2
    have hd3 : S.2.2.2.2.1 - 1 = 0 := hd2
    refine ⟨Nat.succ_pos _, ?_⟩
    show va_up S.2.1 S.2.2.1 (tpS S) (S.2.2.1 + 1 - 1) = 0
    rw [Nat.add_sub_cancel, va_same, htop, hd3]
    exact h14 hd
  · show cnt G.2.1 (flw G S) + (S.2.2.1 + 1) = _
    unfold tcn; omega
/-- following an edge -/
theorem dI_follow {G : Gr} {S : Se} (hg : gok G) (h : dI G S) (hd : 0 < S.2.2.2.2.1) (hn : neS G S < G.2.1) : dI G (foS G (nxS S (tpS S) (neS G S + 1)) (neS G S)) ∧ tcn G (foS G (nxS S (tpS S) (neS G S + 1)) (neS G S)) = tcn G S + 1 := by
  have hdl := dI_le h
  obtain ⟨h1, h2, h3, h4, h5, h6, h7, h8, h9, h10, h11, h12, h13, h14, h15, h16⟩ := h
  obtain ⟨k0, hk0⟩ : ∃ k, k = neS G S := ⟨_, rfl⟩
  obtain ⟨v, hv⟩ : ∃ v, v = tpS S := ⟨_, rfl⟩
  obtain ⟨t, ht⟩ : ∃ t, t = G.2.2.2.1 k0 := ⟨_, rfl⟩
  have hks : G.2.2.1 k0 = v := by
    rw [hk0, hv]; exact nxt_at (h6 _) hn
  have hkn : S.2.2.2.2.2.1 v ≤ k0 := by
    rw [hk0, hv]; exact nxt_ge
  have hk : k0 < G.2.1 := by rw [hk0]; exact hn
  rw [← hk0, ← hv]
  obtain ⟨t1, t2, t3⟩ := h2 (S.2.2.2.2.1 - 1) (by omega)
  have hv' : v = S.2.2.2.1 (S.2.2.2.2.1 - 1) := hv
  rw [← hv'] at t1 t2 t3
  obtain ⟨g1, g2, g3, g4, g5⟩ := hg
  obtain ⟨e1, e2, e3, e4⟩ := g4 k0 hk
  have hfl : ∀ k, decide (k < va_up S.2.2.2.2.2.1 v (k0 + 1) (G.2.2.1 k)) = (flw G S k || decide (k = k0)) := by
    intro k
    unfold flw
    by_cases e : G.2.2.1 k = v
    · rw [e, va_same]
      by_cases e5 : k = k0
      · rw [decide_eq_true e5, Bool.or_true]; exact decide_eq_true (by omega)
      · rw [decide_eq_false e5, Bool.or_false]
        by_cases e6 : k < k0
        · rw [decide_eq_true (show k < k0 + 1 by omega)]
          symm
          apply decide_eq_true
          apply Nat.lt_of_not_le
          intro hle
          exact nxt_no (e := G.2.1) (src := G.2.2.1) (v := v) (k := S.2.2.2.2.2.1 v) hle (by rw [hv] at *; show k < neS G S; omega) e
        · rw [decide_eq_false (show ¬ k < k0 + 1 by omega), decide_eq_false (show ¬ k < S.2.2.2.2.2.1 v by omega)]
    · rw [va_other e]
      by_cases e5 : k = k0
      · rw [e5] at e; exact absurd hks e
      · rw [decide_eq_false e5, Bool.or_false]
  have hf0 : flw G S k0 = false := by
    unfold flw
    rw [hks]
    exact decide_eq_false (by omega)
  have hb0 : S.1 k0 = false := by
    cases hb : S.1 k0 with
    | false => rfl
    | true => rw [(h12 k0 hb).2.2] at hf0; cases hf0
  have hcnt : ∀ S' : Se, S'.2.2.2.2.2.1 = va_up S.2.2.2.2.2.1 v (k0 + 1) → S'.2.2.1 = S.2.2.1 → tcn G S' = tcn G S + 1 := by
    intro S' q1 q2
    unfold tcn
    rw [q2, cnt_up (p := flw G S) (q := flw G S') (t := k0) hf0 (by unfold flw; rw [q1, hfl]; simp) (fun i hi => by rw [show flw G S' i = decide (i < va_up S.2.2.2.2.2.1 v (k0 + 1) (G.2.2.1 i)) by unfold flw; rw [q1], hfl, decide_eq_false hi, Bool.or_false]) G.2.1 hk]
    omega
  have hnx : ∀ w, va_up S.2.2.2.2.2.1 v (k0 + 1) w ≤ G.2.1 := by
    intro w
    by_cases e : w = v
    · rw [e, va_same]; omega
    · rw [va_other e]; exact h6 w
  have hnl : ∀ a, a < S.2.2.1 → S.2.1 a ≠ v := by
    intro a ha e
    have := (h3 a ha).2.2
    rw [e, t3] at this
    cases this
  have hnx0 : ∀ w, S.2.2.2.2.2.2.1 w = false → va_up S.2.2.2.2.2.1 v (k0 + 1) w = 0 := by
    intro w hw
    rw [va_other (fun q => by rw [q, t2] at hw; cases hw)]
    exact h16 w hw
  unfold foS
  rw [show (nxS S v (k0 + 1)).2.2.2.2.2.2.2.1 (G.2.2.2.1 k0) = S.2.2.2.2.2.2.2.1 t by rw [ht]; rfl, show (nxS S v (k0 + 1)).2.2.2.2.2.2.1 (G.2.2.2.1 k0) = S.2.2.2.2.2.2.1 t by rw [ht]; rfl, ← ht]
  by_cases ho : S.2.2.2.2.2.2.2.1 t = true
  · -- a back edge
    rw [if_pos ho]
    refine ⟨⟨h1, h2, h3, h4, h5, hnx, h7, h8, h9, ?_, ?_, ?_, ?_, h14, h15, hnx0⟩, hcnt _ rfl rfl⟩
    · intro i k hi hk9 hs hf hb
      have hf' : decide (k < va_up S.2.2.2.2.2.1 v (k0 + 1) (G.2.2.1 k)) = true := hf
      have hb' : va_up S.1 k0 true k = false := hb
      have hne : k ≠ k0 := fun q => by rw [q, va_same] at hb'; cases hb'
      rw [hfl, decide_eq_false hne, Bool.or_false] at hf'
      rw [va_other hne] at hb'
      exact h10 i k hi hk9 hs hf' hb'
    · intro j k hj hk9 hs
      have hs' : G.2.2.1 k = S.2.1 j := hs
      have hne : k ≠ k0 := fun q => by rw [q, hks] at hs'; exact hnl j hj hs'.symm
      obtain ⟨a1, a2⟩ := h11 j k hj hk9 hs'
      refine ⟨?_, fun hb => a2 ?_⟩
      · show decide (k < va_up S.2.2.2.2.2.1 v (k0 + 1) (G.2.2.1 k)) = true
        rw [hfl, a1]; rfl
      · have hb' : va_up S.1 k0 true k = false := hb
        rwa [va_other hne] at hb'
    · intro k hb
      have hb' : va_up S.1 k0 true k = true := hb
      by_cases e : k = k0
      · rw [e]
        refine ⟨hk, fun q => ?_, ?_⟩
        · -- the exit isn't on the path
          rw [← ht] at q
          obtain ⟨i, hi, e9⟩ := h8 t ho
          have hx : S.2.2.2.1 i + 1 = G.1 := by rw [e9]; exact q
          by_cases hl : i + 1 < S.2.2.2.2.1
          · obtain ⟨k9, hk9, hs9⟩ := h9 i hl
            have := (g4 k9 hk9).1
            omega
          · have hi2 : i = S.2.2.2.2.1 - 1 := by omega
            rw [hi2, ← hv'] at hx
            rw [hks] at e1
            omega
        · show decide (k0 < va_up S.2.2.2.2.2.1 v (k0 + 1) (G.2.2.1 k0)) = true
          rw [hfl]; simp
      · rw [va_other e] at hb'
        obtain ⟨a1, a2, a3⟩ := h12 k hb'
        refine ⟨a1, a2, ?_⟩
        show decide (k < va_up S.2.2.2.2.2.1 v (k0 + 1) (G.2.2.1 k)) = true
        rw [hfl, a3]; rfl
    · intro Z hz0 hz w hw
      refine h13 Z hz0 (fun k hk9 hf hb hs => ?_) w hw
      have hne : k ≠ k0 := fun q => by rw [q, hf0] at hf; cases hf
      refine hz k hk9 ?_ ?_ hs
      · show decide (k < va_up S.2.2.2.2.2.1 v (k0 + 1) (G.2.2.1 k)) = true
        rw [hfl, hf]; rfl
      · show va_up S.1 k0 true k = false
        rw [va_other hne]; exact hb
  · rw [if_neg ho]
    have ho' : S.2.2.2.2.2.2.2.1 t = false := by
      cases hh : S.2.2.2.2.2.2.2.1 t with
      | true => exact absurd hh ho
      | false => rfl
    have htn : t < G.1 := by rw [ht]; exact e3
    by_cases hr : S.2.2.2.2.2.2.1 t = true
    · -- a node that was left
      rw [if_pos hr]
      refine ⟨⟨h1, h2, h3, h4, h5, hnx, h7, h8, h9, ?_, ?_, ?_, ?_, h14, h15, hnx0⟩, hcnt _ rfl rfl⟩
      · intro i k hi hk9 hs hf hb
        have hf' : decide (k < va_up S.2.2.2.2.2.1 v (k0 + 1) (G.2.2.1 k)) = true := hf
        by_cases hne : k = k0
        · obtain ⟨a, ha, e⟩ := h7 t hr ho'
          exact Or.inl ⟨a, ha, by rw [hne, ← ht]; exact e⟩
        · rw [hfl, decide_eq_false hne, Bool.or_false] at hf'
          exact h10 i k hi hk9 hs hf' hb
      · intro j k hj hk9 hs
        obtain ⟨a1, a2⟩ := h11 j k hj hk9 hs
        refine ⟨?_, a2⟩
        show decide (k < va_up S.2.2.2.2.2.1 v (k0 + 1) (G.2.2.1 k)) = true
        rw [hfl, a1]; rfl
      · intro k hb
        obtain ⟨a1, a2, a3⟩ := h12 k hb
        refine ⟨a1, a2, ?_⟩
        show decide (k < va_up S.2.2.2.2.2.1 v (k0 + 1) (G.2.2.1 k)) = true
        rw [hfl, a3]; rfl
      · intro Z hz0 hz w hw
        refine h13 Z hz0 (fun k hk9 hf hb hs => hz k hk9 ?_ hb hs) w hw
        show decide (k < va_up S.2.2.2.2.2.1 v (k0 + 1) (G.2.2.1 k)) = true
        rw [hfl, hf]; rfl
    · -- a new node
      rw [if_neg hr]
      have hr' : S.2.2.2.2.2.2.1 t = false := by
        cases hh : S.2.2.2.2.2.2.1 t with
        | true => exact absurd hh hr
        | false => rfl
      have hpt : ∀ i, i < S.2.2.2.2.1 → S.2.2.2.1 i ≠ t := by
        intro i hi e
        have := (h2 i hi).2.1
        rw [e, hr'] at this; cases this
      have hlt : ∀ i, i < S.2.2.1 → S.2.1 i ≠ t := by
        intro i hi e
        have := (h3 i hi).2.1
        rw [e, hr'] at this; cases this
      refine ⟨⟨?_, ?_, ?_, ?_, h5, hnx, ?_, ?_, ?_, ?_, ?_, ?_, ?_, ?_, ?_, ?_⟩, hcnt _ rfl rfl⟩
      · show cnt G.1 (va_up S.2.2.2.2.2.2.1 t true) = (S.2.2.2.2.1 + 1) + S.2.2.1
        rw [cnt_up (p := S.2.2.2.2.2.2.1) (t := t) hr' (va_same _ _ _) (fun i hi => va_other hi) G.1 htn, h1]
        omega
      · intro i hi
        have hi' : i < S.2.2.2.2.1 + 1 := hi
        show va_up S.2.2.2.1 S.2.2.2.2.1 t i < G.1 ∧ va_up S.2.2.2.2.2.2.1 t true (va_up S.2.2.2.1 S.2.2.2.2.1 t i) = true ∧ va_up S.2.2.2.2.2.2.2.1 t true (va_up S.2.2.2.1 S.2.2.2.2.1 t i) = true
        by_cases e : i = S.2.2.2.2.1
        · rw [e, va_same, va_same, va_same]; exact ⟨htn, rfl, rfl⟩
        · rw [va_other e, va_other (hpt i (by omega)), va_other (hpt i (by omega))]
          exact h2 i (by omega)
      · intro i hi
        obtain ⟨a1, a2, a3⟩ := h3 i hi
        refine ⟨a1, ?_, ?_⟩
        · show va_up S.2.2.2.2.2.2.1 t true (S.2.1 i) = true
          rw [va_other (hlt i hi)]; exact a2
        · show va_up S.2.2.2.2.2.2.2.1 t true (S.2.1 i) = false
          rw [va_other (hlt i hi)]; exact a3
      · intro i i' hii hi'
        have hi2 : i' < S.2.2.2.2.1 + 1 := hi'
        show va_up S.2.2.2.1 S.2.2.2.2.1 t i ≠ va_up S.2.2.2.1 S.2.2.2.2.1 t i'
        rw [va_other (show i ≠ S.2.2.2.2.1 by omega)]
        by_cases e : i' = S.2.2.2.2.1
        · rw [e, va_same]; exact hpt i (by omega)
        · rw [va_other e]; exact h4 i i' hii (by omega)
      · intro w hw1 hw2
        have hw1' : va_up S.2.2.2.2.2.2.1 t true w = true := hw1
        have hw2' : va_up S.2.2.2.2.2.2.2.1 t true w = false := hw2
        have hne : w ≠ t := fun q => by rw [q, va_same] at hw2'; cases hw2'
        rw [va_other hne] at hw1' hw2'
        exact h7 w hw1' hw2'
      · intro w hw
        have hw' : va_up S.2.2.2.2.2.2.2.1 t true w = true := hw
        by_cases e : w = t
        · refine ⟨S.2.2.2.2.1, Nat.lt_succ_self _, ?_⟩
          show va_up S.2.2.2.1 S.2.2.2.2.1 t S.2.2.2.2.1 = w
          rw [va_same, e]
        · rw [va_other e] at hw'
          obtain ⟨i, hi, e9⟩ := h8 w hw'
          refine ⟨i, Nat.lt_succ_of_lt hi, ?_⟩
          show va_up S.2.2.2.1 S.2.2.2.2.1 t i = w
          rw [va_other (by omega)]; exact e9
      · intro i hi
        have hi' : i + 1 < S.2.2.2.2.1 + 1 := hi
        show ∃ k, k < G.2.1 ∧ G.2.2.1 k = va_up S.2.2.2.1 S.2.2.2.2.1 t i
        rw [va_other (by omega)]
        by_cases e : i + 1 < S.2.2.2.2.1
        · exact h9 i e
        · refine ⟨k0, hk, ?_⟩
          rw [hks, hv', show i = S.2.2.2.2.1 - 1 by omega]
      · intro i k hi hk9 hs hf hb
        have hi' : i < S.2.2.2.2.1 + 1 := hi
        have hs' : G.2.2.1 k = va_up S.2.2.2.1 S.2.2.2.2.1 t i := hs
        have hf' : decide (k < va_up S.2.2.2.2.2.1 v (k0 + 1) (G.2.2.1 k)) = true := hf
        rw [hfl] at hf'
        have hnew : ∃ i', i' < S.2.2.2.2.1 + 1 ∧ va_up S.2.2.2.1 S.2.2.2.2.1 t i' = t := ⟨S.2.2.2.2.1, Nat.lt_succ_self _, va_same _ _ _⟩
        by_cases hne : k = k0
        · refine Or.inr ⟨S.2.2.2.2.1, ?_, Nat.lt_succ_self _, ?_⟩
          · by_cases e : i = S.2.2.2.2.1
            · rw [e, va_same, hne, hks] at hs'
              exact absurd (hs'.symm.trans hv').symm (hpt _ (by omega))
            · omega
          · show va_up S.2.2.2.1 S.2.2.2.2.1 t S.2.2.2.2.1 = G.2.2.2.1 k
            rw [va_same, hne, ht]
        · rw [decide_eq_false hne, Bool.or_false] at hf'
          by_cases e : i = S.2.2.2.2.1
          · -- the new node's edges have not been followed
            rw [e, va_same] at hs'
            exfalso
            unfold flw at hf'
            rw [hs', h16 t hr'] at hf'
            exact absurd (of_decide_eq_true hf') (Nat.not_lt_zero _)
          · rw [va_other e] at hs'
            rcases h10 i k (by omega) hk9 hs' hf' hb with ⟨a, ha, e9⟩ | ⟨i', hi2, hd2, e9⟩
            · exact Or.inl ⟨a, ha, e9⟩
            · refine Or.inr ⟨i', hi2, Nat.lt_succ_of_lt hd2, ?_⟩
              show va_up S.2.2.2.1 S.2.2.2.2.1 t i' = _
              rw [va_other (by omega)]; exact e9
      · intro j k hj hk9 hs
        obtain ⟨a1, a2⟩ := h11 j k hj hk9 hs
        refine ⟨?_, a2⟩
        show decide (k < va_up S.2.2.2.2.2.1 v (k0 + 1) (G.2.2.1 k)) = true
        rw [hfl, a1]; rfl
      · intro k hb
        obtain ⟨a1, a2, a3⟩ := h12 k hb
        refine ⟨a1, a2, ?_⟩
        show decide (k < va_up S.2.2.2.2.2.1 v (k0 + 1) (G.2.2.1 k)) = true
        rw [hfl, a3]; rfl
      · intro Z hz0 hz w hw
        have hw' : va_up S.2.2.2.2.2.2.1 t true w = true := hw
        have hold : ∀ u, S.2.2.2.2.2.2.1 u = true → Z u := h13 Z hz0 (fun k hk9 hf hb hs => hz k hk9 (by
          show decide (k < va_up S.2.2.2.2.2.1 v (k0 + 1) (G.2.2.1 k)) = true
          rw [hfl, hf]; rfl) hb hs)
        by_cases e : w = t
        · rw [e, ht]
          refine hz k0 hk ?_ hb0 ?_
          · show decide (k0 < va_up S.2.2.2.2.2.1 v (k0 + 1) (G.2.2.1 k0)) = true
            rw [hfl]; simp
          · rw [hks]; exact hold v t2
        · rw [va_other e] at hw'
          exact hold w hw'
      · intro _
        show va_up S.2.2.2.1 S.2.2.2.2.1 t 0 = 0
        rw [va_other (by omega)]
        exact h14 hd
      · intro q
        have : S.2.2.2.2.1 + 1 = 0 := q
        omega
      · intro w hw
        have hw' : va_up S.2.2.2.2.2.2.1 t true w = false := hw
        have hne : w ≠ t := fun q => by rw [q, va_same] at hw'; cases hw'
        rw [va_other hne] at hw'
        exact hnx0 w hw'
theorem dI_trn {G : Gr} {S : Se} (hg : gok G) (h : dI G S) (hd : 0 < S.2.2.2.2.1) : dI G (trn G S) ∧ tcn G (trn G S) = tcn G S + 1 := by
  unfold trn
  split
  · rename_i hn
    exact dI_follow hg h hd hn
  · rename_i hn
    exact dI_leave h hd hn
/-- the search at its beginning, whatever was there before -/
def prS (S : Se) : Se := (fun _ => false, S.2.1, 0, S.2.2.2.1, 0, fun _ => 0, fun _ => false, fun _ => false, S.2.2.2.2.2.2.2.2)
def stS (S : Se) : Se := enS (prS S) 0
theorem dI_start {G : Gr} (hg : gok G) (S : Se) : dI G (stS S) ∧ tcn G (stS S) = 0 := by
  obtain ⟨g1, g2, g3, g4, g5⟩ := hg
  have hone : ∀ i, i < 1 → va_up S.2.2.2.1 0 0 i = 0 := fun i hi => by rw [show i = 0 by omega, va_same]
  refine ⟨⟨?_, ?_, ?_, ?_, ?_, ?_, ?_, ?_, ?_, ?_, ?_, ?_, ?_, ?_, ?_, ?_⟩, ?_⟩
  · show cnt G.1 (va_up (fun _ => false) 0 true) = 0 + 1 + 0
    rw [cnt_up (p := fun _ => false) (t := 0) rfl (va_same _ _ _) (fun i hi => va_other hi) G.1 (by omega)]
    have : cnt G.1 (fun _ => false) = 0 := by unfold cnt; simp
    omega
  · intro i hi
    have hi' : i < 1 := hi
    show va_up S.2.2.2.1 0 0 i < G.1 ∧ va_up (fun _ => false) 0 true (va_up S.2.2.2.1 0 0 i) = true ∧ va_up (fun _ => false) 0 true (va_up S.2.2.2.1 0 0 i) = true
    rw [hone i hi', va_same]
    exact ⟨by omega, rfl, rfl⟩
  · intro i hi; exact absurd hi (Nat.not_lt_zero _)
  · intro i i' h1 h2
    have : i' < 1 := h2
    omega
  · intro i i' h1 h2; exact absurd h2 (Nat.not_lt_zero _)
  · intro v; exact Nat.zero_le _
  · intro v h1 h2
    have h1' : va_up (fun _ => false) 0 true v = true := h1
    have h2' : va_up (fun _ => false) 0 true v = false := h2
    rw [h1'] at h2'; cases h2'
  · intro v h1
    have h1' : va_up (fun _ => false) 0 true v = true := h1
    by_cases e : v = 0
    · exact ⟨0, Nat.one_pos, by rw [e]; exact hone 0 Nat.one_pos⟩
    · rw [va_other e] at h1'; cases h1'
  · intro i hi
    have : i + 1 < 1 := hi
    omega
  · intro i k _ _ _ hf _
    exact absurd (of_decide_eq_true (show decide (k < 0) = true from hf)) (Nat.not_lt_zero _)
  · intro j k hj; exact absurd hj (Nat.not_lt_zero _)
  · intro k hk
    have : false = true := hk
    cases this
  · intro Z hz _ v hv
    have hv' : va_up (fun _ => false) 0 true v = true := hv
    by_cases e : v = 0
    · rw [e]; exact hz
    · rw [va_other e] at hv'; cases hv'
  · intro _; exact hone 0 Nat.one_pos
  · intro q
    have : 1 = 0 := q
    omega
  · intro w hw; rfl
  · show cnt G.2.1 (fun k => decide (k < 0)) + 0 = 0
    unfold cnt
    simp
/-- the whole search -/
def dfs (G : Gr) (S : Se) : Se := dfF G 36 (stS S)
theorem dfF_inv {G : Gr} (hg : gok G) : ∀ (m : Nat) (S : Se), dI G S → dI G (dfF G m S)
  | 0, S, h => h
  | m + 1, S, h => by
    unfold dfF
    split
    · exact h
    · exact dfF_inv hg m _ (dI_trn hg h (by omega)).1
theorem tcn_le {G : Gr} {S : Se} (hg : gok G) (h : dI G S) : tcn G S + S.2.2.2.2.1 ≤ 36 := by
  have h1 := cnt_le G.2.1 (flw G S)
  have h2 := dI_le h
  have h3 := hg.2.1
  have h4 := hg.2.2.1
  unfold tcn
  omega
theorem dfF_end {G : Gr} (hg : gok G) : ∀ (m : Nat) (S : Se), dI G S → 36 ≤ tcn G S + m → (dfF G m S).2.2.2.2.1 = 0
  | 0, S, h, hm => by
    have := tcn_le hg h
    show S.2.2.2.2.1 = 0
    omega
  | m + 1, S, h, hm => by
    unfold dfF
    split
    · assumption
    · have h2 := dI_trn hg h (by omega)
      exact dfF_end hg m _ h2.1 (by omega)
theorem dfs_inv {G : Gr} (hg : gok G) (S : Se) : dI G (dfs G S) ∧ (dfs G S).2.2.2.2.1 = 0 :=
  ⟨dfF_inv hg _ _ (dI_start hg S).1, dfF_end hg _ _ (dI_start hg S).1 (by rw [(dI_start hg S).2]; decide)⟩

