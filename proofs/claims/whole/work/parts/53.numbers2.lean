/-! ===== all numbers of paths are small, and they are a ladder ===== -/
/-- the ladder at v -/
def ldr (G : Gr) (bk : Nat → Bool) (np nv : Nat → Nat) (v : Nat) : Prop :=
  (∀ l, vl G bk v l → nv l + np (ltN G l) ≤ np v) ∧
  (∀ l1 l2, vl G bk v l1 → vl G bk v l2 → l1 < l2 → nv l1 + np (ltN G l1) ≤ nv l2) ∧
  ∀ r, r < np v → ∃ l, vl G bk v l ∧ nv l ≤ r ∧ r < nv l + np (ltN G l)
/-- the class's numbers -/
def lad (G : Gr) (bk : Nat → Bool) (p f : Nat → Int32) (np nv : Nat → Nat) : Prop :=
  (∀ v, v < G.1 → p v = nI (np v) ∧ np v < 2 ^ 30) ∧ (∀ l, l < 72 → lvd G bk l = true → f l = nI (nv l)) ∧ np (G.1 - 1) = 1 ∧ ∀ v, v + 1 < G.1 → ldr G bk np nv v
section Numbers2
variable {G : Gr} {bc bm : Nat → Bool}
theorem topo_c (he : G.2.1 ≤ 24) (hb : bE G bc bm) {lf : Nat → Nat} {ln : Nat} (ht : topo G bm lf ln) {j l : Nat} (hj : j < ln) (h : vl G bc (lf j) l) : ltN G l = G.1 - 1 ∨ ∃ a, a < j ∧ lf a = ltN G l := by
  obtain ⟨h1, h2⟩ := m2_v hb h.1 h.2.1
  have hc := c2_v he hb h1
  rw [h2] at hc
  have := ht.2.2.2 j (m2 l) hj ⟨h1, by rw [← hc.2.2.1]; exact h.2.2⟩
  rw [← hc.2.2.2.1] at this
  exact this
theorem ldr_congr {np nv np' nv' : Nat → Nat} {v : Nat} (h1 : np' v = np v) (h2 : ∀ l, vl G bc v l → nv' l = nv l ∧ np' (ltN G l) = np (ltN G l)) (h : ldr G bc np nv v) : ldr G bc np' nv' v := by
  refine ⟨fun l hl => ?_, fun l1 l2 z1 z2 z3 => ?_, fun r hr => ?_⟩
  · rw [(h2 l hl).1, (h2 l hl).2, h1]; exact h.1 l hl
  · rw [(h2 l1 z1).1, (h2 l1 z1).2, (h2 l2 z2).1]; exact h.2.1 l1 l2 z1 z2 z3
  · rw [h1] at hr
    obtain ⟨l, y1, y2, y3⟩ := h.2.2 r hr
    exact ⟨l, y1, by rw [(h2 l y1).1]; exact y2, by rw [(h2 l y1).1, (h2 l y1).2]; exact y3⟩
/-- what was numbered before j -/
def nIv (G : Gr) (bc : Nat → Bool) (lf : Nat → Nat) (j : Nat) (y : VP) (x : VN) : Prop :=
  (∀ v, (v = G.1 - 1 ∨ ∃ a, a < j ∧ lf a = v) → y.2 v = nI (x.2 v)) ∧
  (∀ l, l < 72 → lvd G bc l = true → (∃ a, a < j ∧ lf a = lsN G l) → y.1 l = nI (x.1 l)) ∧
  x.2 (G.1 - 1) = 1 ∧
  (∀ a, a < j → lf a ≠ G.1 - 1 → ldr G bc x.2 x.1 (lf a)) ∧
  (∀ a, a < j → lf a ≠ 0 → x.2 (lf a) ≤ 2 ^ ej G lf j) ∧ ∀ a, a < j → lf a = 0 → x.2 0 ≤ 48 * 2 ^ 24
theorem pow_le {a b : Nat} (h : a ≤ b) : 2 ^ a ≤ 2 ^ b := Nat.pow_le_pow_right (by decide) h
theorem nI_step (hg : gok G) (hb : bE G bc bm) {lf : Nat → Nat} {ln : Nat} (ht : topo G bm lf ln) {j : Nat} (hj : j < ln) {y : VP} {x : VN} (h0 : ∀ a, a < j → lf a ≠ 0) (h : nIv G bc lf j y x) : nIv G bc lf (j + 1) (if lf j = G.1 - 1 then y else cps G bc (lf j) y) (if lf j = G.1 - 1 then x else cnS G bc (lf j) x) := by
  obtain ⟨g1, g2, g3, g4, g5⟩ := id hg
  obtain ⟨i1, i2, i3, i4, i5, i6⟩ := h
  have hej : ej G lf j ≤ ej G lf (j + 1) := by rw [ej_succ ht.2.1 hj]; omega
  by_cases e : lf j = G.1 - 1
  · rw [if_pos e, if_pos e]
    refine ⟨fun v hv => i1 v ?_, fun l hl hv ⟨a, z1, z2⟩ => ?_, i3, fun a ha hn => ?_, fun a ha hn => ?_, fun a ha hn => ?_⟩
    · rcases hv with z | ⟨a, z1, z2⟩
      · exact Or.inl z
      · by_cases q : a = j
        · rw [q, e] at z2; exact Or.inl z2.symm
        · exact Or.inr ⟨a, by omega, z2⟩
    · by_cases q : a = j
      · rw [q, e] at z2
        have := lsN_lt hg hv
        omega
      · exact i2 l hl hv ⟨a, by omega, z2⟩
    · by_cases q : a = j
      · rw [q] at hn; exact absurd e hn
      · exact i4 a (by omega) hn
    · by_cases q : a = j
      · rw [q, e, i3]; exact Nat.one_le_two_pow
      · exact Nat.le_trans (i5 a (by omega) hn) (pow_le hej)
    · by_cases q : a = j
      · rw [q, e] at hn; omega
      · exact i6 a (by omega) hn
  · rw [if_neg e, if_neg e]
    have hlt := ht.2.2.1 j hj
    have htc := fun l (hl : vl G bc (lf j) l) => topo_c g3 hb ht hj hl
    have hp := fun l (hl : vl G bc (lf j) l) => i1 _ (htc l hl)
    have hM : ∀ l, vl G bc (lf j) l → x.2 (ltN G l) ≤ 2 ^ ej G lf j := fun l hl => by
      rcases htc l hl with z | ⟨a, z1, z2⟩
      · rw [z, i3]; exact Nat.one_le_two_pow
      · rw [← z2]; exact i5 a z1 (h0 a z1)
    have kcp := cp_cn hp 72 0 0 y.1 x.1 rfl
    obtain ⟨k1, k2, k3, k4, k5⟩ := cn_lad (G := G) (bc := bc) (v := lf j) (q := x.2) 72 0 0 x.1 rfl
    have kle := cn_le hM 72 0 0 x.1 rfl
    have kle : (cnF G bc x.2 (lf j) 72 0 0 x.1).1 ≤ dg G bc (lf j) * 2 ^ ej G lf j := by
      have z0 : cnt 0 (fun l => lvd G bc l && decide (lsN G l = lf j)) = 0 := rfl
      rw [z0] at kle
      unfold dg
      omega
    -- the targets of links of nodes numbered before are not this node
    have hne : ∀ v, (v = G.1 - 1 ∨ ∃ a, a < j ∧ lf a = v) → v ≠ lf j := fun v hv q => by
      rcases hv with z | ⟨a, z1, z2⟩
      · exact e (by rw [← q, z])
      · exact ht.2.1 a j z1 hj (by rw [z2, q])
    refine ⟨fun v hv => ?_, fun l hl hv ha => ?_, ?_, fun a ha hn => ?_, fun a ha hn => ?_, fun a ha hn => ?_⟩
    · show va_up y.2 (lf j) _ v = nI (va_up x.2 (lf j) _ v)
      by_cases q : v = lf j
      · rw [q, va_same, va_same]; exact kcp.1
      · rw [va_other q, va_other q]
        refine i1 v ?_
        rcases hv with z | ⟨a, z1, z2⟩
        · exact Or.inl z
        · by_cases w : a = j
          · rw [w] at z2; exact absurd z2.symm q
          · exact Or.inr ⟨a, by omega, z2⟩
    · refine kcp.2 l ?_
      obtain ⟨a, z1, z2⟩ := ha
      by_cases w : a = j
      · rw [w] at z2; exact Or.inr ⟨⟨hl, hv, z2.symm⟩, Nat.zero_le _⟩
      · exact Or.inl (i2 l hl hv ⟨a, by omega, z2⟩)
    · show va_up x.2 (lf j) _ (G.1 - 1) = 1
      rw [va_other (fun q => e q.symm)]; exact i3
    · by_cases w : a = j
      · subst w
        refine ⟨fun l hl => ?_, fun l1 l2 z1 z2 z3 => ?_, fun r hr => ?_⟩
        · show (cnF G bc x.2 (lf a) 72 0 0 x.1).2 l + va_up x.2 (lf a) _ (ltN G l) ≤ va_up x.2 (lf a) _ (lf a)
          rw [va_same, va_other (hne _ (htc l hl))]
          exact (k3 l hl (Nat.zero_le _)).2
        · show (cnF G bc x.2 (lf a) 72 0 0 x.1).2 l1 + va_up x.2 (lf a) _ (ltN G l1) ≤ (cnF G bc x.2 (lf a) 72 0 0 x.1).2 l2
          rw [va_other (hne _ (htc l1 z1))]
          exact k4 l1 l2 z1 z2 (Nat.zero_le _) z3
        · have hr : r < va_up x.2 (lf a) (cnF G bc x.2 (lf a) 72 0 0 x.1).1 (lf a) := hr
          rw [va_same] at hr
          obtain ⟨l, y1, -, y2, y3⟩ := k5 r (Nat.zero_le _) hr
          refine ⟨l, y1, y2, ?_⟩
          show r < (cnF G bc x.2 (lf a) 72 0 0 x.1).2 l + va_up x.2 (lf a) _ (ltN G l)
          rw [va_other (hne _ (htc l y1))]
          exact y3
      · refine ldr_congr ?_ (fun l hl => ?_) (i4 a (by omega) hn)
        · exact va_other (hne _ (Or.inr ⟨a, by omega, rfl⟩))
        · refine ⟨k2 l (fun q => ?_), ?_⟩
          · exact hne _ (Or.inr ⟨a, by omega, rfl⟩) (by rw [← hl.2.2, q.1.2.2])
          · refine va_other (hne _ ?_)
            rcases topo_c g3 hb ht (show a < ln by omega) hl with z | ⟨b, z1, z2⟩
            · exact Or.inl z
            · exact Or.inr ⟨b, by omega, z2⟩
    · show va_up x.2 (lf j) _ (lf a) ≤ _
      by_cases w : a = j
      · rw [w] at hn
        rw [w, va_same, ej_succ ht.2.1 hj, Nat.pow_add]
        refine Nat.le_trans kle ?_
        rw [dg_ne hn, Nat.mul_comm]
        exact Nat.mul_le_mul_left _ (Nat.le_of_lt Nat.lt_two_pow_self)
      · rw [va_other (hne _ (Or.inr ⟨a, by omega, rfl⟩))]
        exact Nat.le_trans (i5 a (by omega) hn) (pow_le hej)
    · show va_up x.2 (lf j) _ 0 ≤ _
      by_cases w : a = j
      · rw [w] at hn
        rw [show va_up x.2 (lf j) (cnF G bc x.2 (lf j) 72 0 0 x.1).1 0 = (cnF G bc x.2 (lf j) 72 0 0 x.1).1 from if_pos hn.symm]
        exact Nat.le_trans kle (Nat.mul_le_mul (dg_le _) (pow_le ej_le))
      · exact absurd hn (h0 a (by omega))
theorem nI_loop (hg : gok G) (hb : bE G bc bm) {lf : Nat → Nat} {ln : Nat} (ht : topo G bm lf ln) (hz : lf (ln - 1) = 0) : ∀ (m j : Nat) (y : VP) (x : VN), j + m = ln → nIv G bc lf j y x → nIv G bc lf ln (cqF G bc lf m j y) (cnQ G bc lf m j x) := by
  intro m
  induction m with
  | zero =>
    intro j y x hj h
    have : j = ln := by omega
    subst this
    exact h
  | succ m ih =>
    intro j y x hj h
    unfold cqF cnQ
    exact ih (j + 1) _ _ (by omega) (nI_step hg hb ht (by omega) (fun a ha q => ht.2.1 a (ln - 1) (by omega) (by omega) (by rw [q, hz])) h)
theorem lad_bld (hg : gok G) (hb : bE G bc bm) {lf : Nat → Nat} {ln : Nat} (ht : topo G bm lf ln) (hz : lf (ln - 1) = 0) (p0 : Nat → Int32) : lad G bc (bld G bc lf ln p0).2 (bld G bc lf ln p0).1 (bln G bc lf ln).2 (bln G bc lf ln).1 := by
  obtain ⟨i1, i2, i3, i4, i5, i6⟩ := nI_loop hg hb ht hz ln 0 (fun _ => nI 0, va_up p0 (G.1 - 1) (nI 1)) (fun _ => 0, va_up (fun _ => 0) (G.1 - 1) 1) (by omega) ⟨fun v hv => by
    rcases hv with z | ⟨a, z, -⟩
    · show va_up p0 (G.1 - 1) (nI 1) v = nI (va_up (fun _ => 0) (G.1 - 1) 1 v)
      rw [z, va_same, va_same]
    · omega, fun l _ _ ⟨a, z, _⟩ => by omega, (show va_up (fun _ => 0) (G.1 - 1) 1 (G.1 - 1) = 1 from va_same _ _ _), fun a ha => by omega, fun a ha => by omega, fun a ha => by omega⟩
  refine ⟨fun v hv => ⟨i1 v (Or.inr (ht.1 v hv)), ?_⟩, fun l hl hv => i2 l hl hv (ht.1 _ (by have := lsN_lt hg hv; omega)), i3, fun v hv => ?_⟩
  · obtain ⟨a, ha, e⟩ := ht.1 v hv
    by_cases q : v = 0
    · have := i6 a ha (by rw [e, q])
      rw [q]
      exact Nat.lt_of_le_of_lt this (by decide)
    · have := i5 a ha (by rw [e]; exact q)
      rw [e] at this
      exact Nat.lt_of_le_of_lt (Nat.le_trans this (pow_le ej_le)) (by decide)
  · obtain ⟨a, ha, e⟩ := ht.1 v (by omega)
    have := i4 a ha (by omega)
    rw [e] at this
    exact this
end Numbers2

