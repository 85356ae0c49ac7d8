/-! ===== the numbers, without overflow ===== -/
def cnF (G : Gr) (bk : Nat → Bool) (p : Nat → Nat) (v : Nat) : Nat → Nat → Nat → (Nat → Nat) → Nat × (Nat → Nat)
  | 0, _, s, f => (s, f)
  | m + 1, l, s, f => if lvd G bk l = true ∧ lsN G l = v then cnF G bk p v m (l + 1) (s + p (ltN G l)) (va_up f l s) else cnF G bk p v m (l + 1) s f
abbrev VN : Type := (Nat → Nat) × (Nat → Nat)
def cnS (G : Gr) (bk : Nat → Bool) (v : Nat) (x : VN) : VN := ((cnF G bk x.2 v 72 0 0 x.1).2, va_up x.2 v (cnF G bk x.2 v 72 0 0 x.1).1)
def cnQ (G : Gr) (bk : Nat → Bool) (lf : Nat → Nat) : Nat → Nat → VN → VN
  | 0, _, x => x
  | m + 1, j, x => cnQ G bk lf m (j + 1) (if lf j = G.1 - 1 then x else cnS G bk (lf j) x)
def bln (G : Gr) (bk : Nat → Bool) (lf : Nat → Nat) (ln : Nat) : VN := cnQ G bk lf ln 0 (fun _ => 0, va_up (fun _ => 0) (G.1 - 1) 1)
section Ladder
variable {G : Gr} {bc : Nat → Bool}
/-- the links of v -/
def vl (G : Gr) (bk : Nat → Bool) (v l : Nat) : Prop := l < 72 ∧ lvd G bk l = true ∧ lsN G l = v
theorem cp_cn {v : Nat} {p : Nat → Int32} {q : Nat → Nat} (hp : ∀ l, vl G bc v l → p (ltN G l) = nI (q (ltN G l))) : ∀ (m l s : Nat) (f : Nat → Int32) (h : Nat → Nat), l + m = 72 → (cpF G bc p v m l (nI s) f).1 = nI (cnF G bc q v m l s h).1 ∧ ∀ l', (f l' = nI (h l') ∨ (vl G bc v l' ∧ l ≤ l')) → (cpF G bc p v m l (nI s) f).2 l' = nI ((cnF G bc q v m l s h).2 l') := by
  intro m
  induction m with
  | zero =>
    intro l s f h hl
    refine ⟨rfl, fun l' hd => ?_⟩
    rcases hd with z | ⟨z1, z2⟩
    · exact z
    · have := z1.1; omega
  | succ m ih =>
    intro l s f h hl
    unfold cpF cnF
    by_cases hn : lvd G bc l = true ∧ lsN G l = v
    · rw [if_pos hn, if_pos hn, hp l ⟨by omega, hn⟩, nI_add]
      have key := ih (l + 1) (s + q (ltN G l)) (va_up f l (nI s)) (va_up h l s) (by omega)
      refine ⟨key.1, fun l' hd => key.2 l' ?_⟩
      by_cases e : l' = l
      · left; rw [e, va_same, va_same]
      · rcases hd with z | ⟨z1, z2⟩
        · left; rw [va_other e, va_other e]; exact z
        · right; exact ⟨z1, by omega⟩
    · rw [if_neg hn, if_neg hn]
      have key := ih (l + 1) s f h (by omega)
      refine ⟨key.1, fun l' hd => key.2 l' ?_⟩
      rcases hd with z | ⟨z1, z2⟩
      · exact Or.inl z
      · right
        refine ⟨z1, ?_⟩
        rcases Nat.lt_or_ge l l' with y | y
        · exact y
        · exfalso
          have : l' = l := by omega
          subst this
          exact hn ⟨z1.2.1, z1.2.2⟩
/-- the steps of the ladder, from place l on -/
theorem cn_lad {v : Nat} {q : Nat → Nat} : ∀ (m l s : Nat) (h : Nat → Nat), l + m = 72 →
    s ≤ (cnF G bc q v m l s h).1 ∧ (∀ l', ¬ (vl G bc v l' ∧ l ≤ l') → (cnF G bc q v m l s h).2 l' = h l') ∧
    (∀ l', vl G bc v l' → l ≤ l' → s ≤ (cnF G bc q v m l s h).2 l' ∧ (cnF G bc q v m l s h).2 l' + q (ltN G l') ≤ (cnF G bc q v m l s h).1) ∧
    (∀ l1 l2, vl G bc v l1 → vl G bc v l2 → l ≤ l1 → l1 < l2 → (cnF G bc q v m l s h).2 l1 + q (ltN G l1) ≤ (cnF G bc q v m l s h).2 l2) ∧
    (∀ r, s ≤ r → r < (cnF G bc q v m l s h).1 → ∃ l', vl G bc v l' ∧ l ≤ l' ∧ (cnF G bc q v m l s h).2 l' ≤ r ∧ r < (cnF G bc q v m l s h).2 l' + q (ltN G l')) := by
  intro m
  induction m with
  | zero =>
    intro l s h hl
    exact ⟨Nat.le_refl _, fun _ _ => rfl, fun l' h1 h2 => by have := h1.1; omega, fun l1 l2 h1 _ h3 _ => by have := h1.1; omega, fun r h1 h2 => by have h2 : r < s := h2; omega⟩
  | succ m ih =>
    intro l s h hl
    unfold cnF
    by_cases hn : lvd G bc l = true ∧ lsN G l = v
    · rw [if_pos hn]
      obtain ⟨k1, k2, k3, k4, k5⟩ := ih (l + 1) (s + q (ltN G l)) (va_up h l s) (by omega)
      have hl2 : (cnF G bc q v m (l + 1) (s + q (ltN G l)) (va_up h l s)).2 l = s := by
        rw [k2 l (fun z => by omega), va_same]
      refine ⟨by omega, fun l' z => ?_, fun l' z1 z2 => ?_, fun l1 l2 z1 z2 z3 z4 => ?_, fun r z1 z2 => ?_⟩
      · have e : l' ≠ l := fun e => z (by rw [e]; exact ⟨⟨by omega, hn⟩, Nat.le_refl _⟩)
        rw [k2 l' (fun y => z ⟨y.1, by omega⟩), va_other e]
      · by_cases e : l' = l
        · rw [e, hl2]; exact ⟨Nat.le_refl _, k1⟩
        · have := k3 l' z1 (by omega)
          exact ⟨by omega, this.2⟩
      · by_cases e : l1 = l
        · rw [e, hl2]
          exact (k3 l2 z2 (by omega)).1
        · exact k4 l1 l2 z1 z2 (by omega) z4
      · rcases Nat.lt_or_ge r (s + q (ltN G l)) with y | y
        · exact ⟨l, ⟨by omega, hn⟩, Nat.le_refl _, by rw [hl2]; exact z1, by rw [hl2]; exact y⟩
        · obtain ⟨l', y1, y2, y3⟩ := k5 r y z2
          exact ⟨l', y1, by omega, y3⟩
    · rw [if_neg hn]
      obtain ⟨k1, k2, k3, k4, k5⟩ := ih (l + 1) s h (by omega)
      have hne : ∀ l', vl G bc v l' → l ≤ l' → l + 1 ≤ l' := fun l' z1 z2 => by
        rcases Nat.lt_or_ge l l' with y | y
        · exact y
        · exfalso
          have : l' = l := by omega
          subst this
          exact hn ⟨z1.2.1, z1.2.2⟩
      refine ⟨k1, fun l' z => k2 l' (fun y => z ⟨y.1, by omega⟩), fun l' z1 z2 => k3 l' z1 (hne l' z1 z2), fun l1 l2 z1 z2 z3 z4 => k4 l1 l2 z1 z2 (hne l1 z1 z3) z4, fun r z1 z2 => ?_⟩
      obtain ⟨l', y1, y2, y3⟩ := k5 r z1 z2
      exact ⟨l', y1, by omega, y3⟩
/-- how large the sum is -/
theorem cn_le {v : Nat} {q : Nat → Nat} {M : Nat} (hM : ∀ l, vl G bc v l → q (ltN G l) ≤ M) : ∀ (m l s : Nat) (h : Nat → Nat), l + m = 72 → (cnF G bc q v m l s h).1 + (cnt l (fun l => lvd G bc l && decide (lsN G l = v))) * M ≤ s + (cnt 72 (fun l => lvd G bc l && decide (lsN G l = v))) * M := by
  intro m
  induction m with
  | zero =>
    intro l s h hl
    have : l = 72 := by omega
    subst this
    exact Nat.le_refl _
  | succ m ih =>
    intro l s h hl
    unfold cnF
    by_cases hn : lvd G bc l = true ∧ lsN G l = v
    · rw [if_pos hn]
      have key := ih (l + 1) (s + q (ltN G l)) (va_up h l s) (by omega)
      have hm := hM l ⟨by omega, hn⟩
      rw [cnt_succ, hn.1, decide_eq_true hn.2, if_pos (by decide), Nat.add_mul, Nat.one_mul] at key
      omega
    · rw [if_neg hn]
      have key := ih (l + 1) s h (by omega)
      have hz : (lvd G bc l && decide (lsN G l = v)) = false := by
        cases hh : (lvd G bc l && decide (lsN G l = v)) with
        | false => rfl
        | true =>
          simp only [Bool.and_eq_true, decide_eq_true_eq] at hh
          exact absurd hh hn
      rw [cnt_succ, hz, if_neg (by decide), Nat.add_zero] at key
      exact key
theorem cnt_add (p : Nat → Bool) (a : Nat) : ∀ b : Nat, cnt (a + b) p = cnt a p + cnt b (fun i => p (a + i))
  | 0 => rfl
  | b + 1 => by rw [← Nat.add_assoc, cnt_succ, cnt_succ, cnt_add p a b]; omega
theorem cnt_split (p q : Nat → Bool) : ∀ n : Nat, cnt n (fun i => p i && !q i) + cnt n (fun i => p i && q i) = cnt n p
  | 0 => rfl
  | n + 1 => by
    have := cnt_split p q n
    rw [cnt_succ, cnt_succ, cnt_succ]
    cases hp : p n <;> cases hq : q n <;> simp <;> omega
theorem cnt_mono {p q : Nat → Bool} : ∀ n : Nat, (∀ i, i < n → p i = true → q i = true) → cnt n p ≤ cnt n q
  | 0, _ => Nat.le_refl _
  | n + 1, h => by
    have := cnt_mono n (fun i hi => h i (by omega))
    rw [cnt_succ, cnt_succ]
    cases hp : p n with
    | false => simp; omega
    | true => rw [h n (by omega) hp]; simp; omega
/-- a node's links -/
def dg (G : Gr) (bk : Nat → Bool) (v : Nat) : Nat := cnt 72 (fun l => lvd G bk l && decide (lsN G l = v))
/-- its edges -/
def de (G : Gr) (v : Nat) : Nat := cnt 24 (fun k => decide (k < G.2.1) && decide (G.2.2.1 k = v))
theorem dg_split (v : Nat) : dg G bc v = de G v + cnt 24 (fun i => lvd G bc (48 + i) && decide (lsN G (48 + i) = v)) := by
  unfold dg de
  rw [show 72 = 48 + 24 from rfl, cnt_add, show 48 = 24 + 24 from rfl, cnt_add]
  rw [← cnt_split (fun k => decide (k < G.2.1) && decide (G.2.2.1 k = v)) bc 24]
  congr 1
  congr 1
  · refine cnt_congr 24 (fun i hi => ?_)
    unfold lvd lsN
    rw [if_pos hi, if_pos hi]
    cases decide (i < G.2.1) <;> cases bc i <;> simp
  · refine cnt_congr 24 (fun i hi => ?_)
    unfold lvd lsN
    rw [if_neg (by omega), if_pos (by omega), if_neg (by omega), if_pos (by omega), show 24 + i - 24 = i by omega]
    cases decide (i < G.2.1) <;> cases bc i <;> simp
theorem dg_ne {v : Nat} (hv : v ≠ 0) : dg G bc v = de G v := by
  rw [dg_split]
  have : cnt 24 (fun i => lvd G bc (48 + i) && decide (lsN G (48 + i) = v)) = cnt 24 (fun _ => false) := cnt_congr 24 (fun i hi => by
    have e : lsN G (48 + i) = 0 := by unfold lsN; rw [if_neg (by omega), if_neg (by omega)]
    rw [e, decide_eq_false (fun q => hv q.symm), Bool.and_false])
  rw [this]
  have z : ∀ n, cnt n (fun _ => false) = 0 := fun n => by
    induction n with
    | zero => rfl
    | succ n ih => rw [cnt_succ, ih]; rfl
  rw [z]; omega
theorem dg_le (v : Nat) : dg G bc v ≤ 48 := by
  rw [dg_split]
  have h1 := cnt_le 24 (fun k => decide (k < G.2.1) && decide (G.2.2.1 k = v))
  have h2 := cnt_le 24 (fun i => lvd G bc (48 + i) && decide (lsN G (48 + i) = v))
  unfold de
  omega
/-- the edges of what was left before j -/
def ej (G : Gr) (lf : Nat → Nat) (j : Nat) : Nat := cnt 24 (fun k => decide (k < G.2.1) && anyR j (fun a => decide (lf a = G.2.2.1 k)))
theorem anyR_succ (p : Nat → Bool) (j : Nat) : anyR (j + 1) p = (anyR j p || p j) := by
  unfold anyR
  rw [List.range_succ, List.any_append]
  simp
theorem ej_succ {lf : Nat → Nat} {ln j : Nat} (hd : ∀ i i', i < i' → i' < ln → lf i ≠ lf i') (hj : j < ln) : ej G lf (j + 1) = ej G lf j + de G (lf j) := by
  unfold ej de
  have key : ∀ n, cnt n (fun k => decide (k < G.2.1) && anyR (j + 1) (fun a => decide (lf a = G.2.2.1 k))) = cnt n (fun k => decide (k < G.2.1) && anyR j (fun a => decide (lf a = G.2.2.1 k))) + cnt n (fun k => decide (k < G.2.1) && decide (G.2.2.1 k = lf j)) := fun n => by
    induction n with
    | zero => rfl
    | succ n ih =>
      rw [cnt_succ, cnt_succ, cnt_succ, ih, anyR_succ]
      by_cases e : lf j = G.2.2.1 n
      · have hf : anyR j (fun a => decide (lf a = G.2.2.1 n)) = false := anyR_f (fun i hi => decide_eq_false (fun q => hd i j hi hj (by rw [q, e])))
        rw [hf, decide_eq_true e, decide_eq_true e.symm]
        cases decide (n < G.2.1) <;> simp
        omega
      · have e2 : ¬ G.2.2.1 n = lf j := fun q => e q.symm
        rw [decide_eq_false e, decide_eq_false e2, Bool.or_false, Bool.and_false]
        simp
        omega
  exact key 24
theorem ej_le {lf : Nat → Nat} {j : Nat} : ej G lf j ≤ 24 := cnt_le 24 _
end Ladder

