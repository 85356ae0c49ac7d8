/-! ===== do all nodes end: marks and bits ===== -/
/-- the bits of x are the marks f -/
def bts (x : Int32) (f : Nat → Bool) : Prop := ∀ i, i < 32 → x.toBitVec.getLsbD i = f i
theorem shn (j : Nat) (h : j < 13) : ((nI j &&& 31).toBitVec.smod 32).toNat = j := by
  have : ∀ j, j < 13 → ((nI j &&& 31).toBitVec.smod 32).toNat = j := by decide
  exact this j h
theorem bts_test {x : Int32} {f : Nat → Bool} (h : bts x f) {j : Nat} (hj : j < 13) : (x >>> (nI j &&& 31)) &&& nI 1 = nI 1 ↔ f j = true := by
  have e : (x >>> (nI j &&& 31)).toBitVec.getLsbD 0 = f j := by
    rw [Int32.toBitVec_shiftRight]
    show (x.toBitVec.sshiftRight ((nI j &&& 31).toBitVec.smod 32).toNat).getLsbD 0 = f j
    rw [shn j hj, BitVec.getLsbD_sshiftRight, if_pos (by omega), Nat.add_zero, h j (by omega)]
    rfl
  rw [← Int32.toBitVec_inj, Int32.toBitVec_and, show (nI 1).toBitVec = 1#32 from by decide, BitVec.and_one_eq_setWidth_ofBool_getLsbD, e]
  cases f j <;> decide
theorem bts_set {x : Int32} {f : Nat → Bool} (h : bts x f) {j : Nat} (hj : j < 13) : bts (x ||| (nI 1 <<< (nI j &&& 31))) (va_up f j true) := by
  intro i hi
  rw [Int32.toBitVec_or, BitVec.getLsbD_or, Int32.toBitVec_shiftLeft, h i hi]
  show (f i || ((nI 1).toBitVec <<< ((nI j &&& 31).toBitVec.smod 32).toNat).getLsbD i) = _
  rw [shn j hj, BitVec.getLsbD_shiftLeft, show (nI 1).toBitVec = 1#32 from by decide, BitVec.getLsbD_one]
  by_cases e : i = j
  · subst e
    rw [va_same]
    simp [hi]
  · rw [va_other e]
    have : (decide (i < 32) && !decide (i < j) && (decide (0 < 32) && decide (i - j = 0))) = false := by
      simp; omega
    rw [this, Bool.or_false]
theorem bts_same {x : Int32} {f : Nat → Bool} (h : bts x f) : bts (x ||| nI 0) f := by
  intro i hi
  rw [Int32.toBitVec_or, BitVec.getLsbD_or, h i hi, show (nI 0).toBitVec = 0#32 from by decide]
  simp
section Ends
variable {G : Gr}
theorem aeS_bts (hg : gok G) {x : Int32} {f : Nat → Bool} (h : bts x f) {k : Nat} (hk : k < G.2.1) : bts (aeS G x k) (if f (G.2.2.2.1 k) = true then va_up f (G.2.2.1 k) true else f) := by
  obtain ⟨g1, g2, g3, g4, g5⟩ := hg
  have h4 := g4 k hk
  unfold aeS
  by_cases e : f (G.2.2.2.1 k) = true
  · rw [if_pos e, if_pos ((bts_test h (by omega)).mpr e)]
    exact bts_set h (by omega)
  · rw [if_neg e, if_neg (fun q => e ((bts_test h (by omega)).mp q))]
    exact bts_same h
theorem aeF_bts (hg : gok G) : ∀ (m k : Nat) (x : Int32) (f : Nat → Bool), k + m = G.2.1 → bts x f → bts (aeF G m k x) (spF G m k f) := by
  intro m
  induction m with
  | zero => intro k x f _ h; exact h
  | succ m ih =>
    intro k x f hk h
    unfold aeF spF
    exact ih (k + 1) _ _ (by omega) (aeS_bts hg h (by omega))
theorem aeN_bts (hg : gok G) : ∀ (m : Nat) (x : Int32) (f : Nat → Bool), bts x f → bts (aeN G m x) (spR G m f) := by
  intro m
  induction m with
  | zero => intro x f h; exact h
  | succ m ih =>
    intro x f h
    unfold aeN spR
    exact ih _ _ (aeF_bts hg _ 0 x f (by omega) h)
theorem spF_mono (hg : gok G) : ∀ (m k : Nat) (f : Nat → Bool), k + m ≤ G.2.1 → (∀ v, f v = true → spF G m k f v = true) ∧ ∀ v, G.1 ≤ v → spF G m k f v = f v := by
  intro m
  induction m with
  | zero => intro k f _; exact ⟨fun v h => h, fun v _ => rfl⟩
  | succ m ih =>
    intro k f hk
    unfold spF
    have h4 := (hg.2.2.2.1 k (by omega)).1
    obtain ⟨h1, h2⟩ := ih (k + 1) (if f (G.2.2.2.1 k) = true then va_up f (G.2.2.1 k) true else f) (by omega)
    refine ⟨fun v hv => h1 v ?_, fun v hv => ?_⟩
    · split
      · by_cases e : v = G.2.2.1 k
        · rw [e, va_same]
        · rw [va_other e]; exact hv
      · exact hv
    · rw [h2 v hv]
      split
      · rw [va_other (by omega)]
      · rfl
theorem spR_one (hg : gok G) : ∀ (m : Nat) (f : Nat → Bool), G.1 ≤ m + cnt G.1 f → allB G.1 (spR G (m + 1) f) = allB G.1 (spR G m f) := by
  intro m
  induction m with
  | zero =>
    intro f h
    have hc := cnt_le G.1 f
    have ha := cnt_full G.1 (show cnt G.1 f = G.1 by omega)
    rw [show spR G 0 f = f from rfl, show spR G (0 + 1) f = spF G G.2.1 0 f from rfl, allB_t ha, allB_t (fun i hi => (spF_mono hg _ 0 f (by omega)).1 i (ha i hi))]
  | succ m ih =>
    intro f h
    obtain ⟨h1, h2⟩ := spF_mono hg G.2.1 0 f (by omega)
    by_cases e : ∀ v, v < G.1 → spF G G.2.1 0 f v = true → f v = true
    · have hs : spF G G.2.1 0 f = f := by
        funext v
        rcases Nat.lt_or_ge v G.1 with z | z
        · cases hh : f v with
          | true => exact h1 v hh
          | false =>
            cases hq : spF G G.2.1 0 f v with
            | false => rfl
            | true => rw [e v z hq] at hh; cases hh
        · exact h2 v z
      show allB G.1 (spR G (m + 1) (spF G G.2.1 0 f)) = _
      rw [hs]
    · have : ∃ v, v < G.1 ∧ spF G G.2.1 0 f v = true ∧ f v = false := by
        apply Classical.byContradiction
        intro q
        apply e
        intro v hv y
        cases hh : f v with
        | true => rfl
        | false => exact absurd ⟨v, hv, y, hh⟩ q
      obtain ⟨v, v1, v2, v3⟩ := this
      have := cnt_strict G.1 (fun i _ => h1 i) v1 v3 v2
      exact ih (spF G G.2.1 0 f) (by omega)
theorem aeA_eq (hg : gok G) : aeA G = allB G.1 (ldE G) := by
  obtain ⟨g1, g2, g3, g4, g5⟩ := id hg
  have hb0 : bts (nI 1 <<< (nI (G.1 - 1) &&& 31)) (ld0 G) := by
    have h0 : bts (nI 0) (fun _ => false) := by
      intro i hi
      rw [show (nI 0).toBitVec = 0#32 from by decide]; simp
    have := bts_set h0 (show G.1 - 1 < 13 by omega)
    rw [show nI 0 ||| (nI 1 <<< (nI (G.1 - 1) &&& 31)) = nI 1 <<< (nI (G.1 - 1) &&& 31) from by
      rw [← Int32.toBitVec_inj, Int32.toBitVec_or, show (nI 0).toBitVec = 0#32 from by decide]; simp] at this
    intro i hi
    rw [this i hi]
    unfold ld0
    by_cases e : i = G.1 - 1
    · rw [e, va_same]; simp
    · rw [va_other e, decide_eq_false e]
  have hb := aeN_bts hg G.1 _ _ hb0
  have hr : allB G.1 (spR G G.1 (ld0 G)) = allB G.1 (ldE G) := by
    have := spR_one hg (G.1 - 1) (ld0 G) (by
      have := cnt_strict (p := fun _ => false) (q := ld0 G) (t := G.1 - 1) G.1 (fun i _ z => by cases z) (by omega) rfl (decide_eq_true rfl)
      omega)
    rw [show G.1 - 1 + 1 = G.1 by omega] at this
    exact this
  have hful : ∀ i, i < 32 → ((nI 1 <<< (nI G.1 &&& 31)) - nI 1).toBitVec.getLsbD i = decide (i < G.1) := by
    have : ∀ n, n < 13 → ∀ i, i < 32 → ((nI 1 <<< (nI n &&& 31)) - nI 1).toBitVec.getLsbD i = decide (i < n) := by decide
    exact this G.1 (by omega)
  have hout : ∀ (m : Nat) (f : Nat → Bool), (∀ v, G.1 ≤ v → f v = false) → ∀ v, G.1 ≤ v → spR G m f v = false := fun m => by
    induction m with
    | zero => intro f hf; exact hf
    | succ m ih => intro f hf; exact ih _ (fun v hv => by rw [(spF_mono hg G.2.1 0 f (by omega)).2 v hv]; exact hf v hv)
  have ho := hout G.1 (ld0 G) (fun v hv => decide_eq_false (by omega))
  rw [← hr]
  unfold aeA
  cases hh : allB G.1 (spR G G.1 (ld0 G)) with
  | true =>
    have ha := allB_tE hh
    refine decide_eq_true ?_
    rw [← Int32.toBitVec_inj]
    refine BitVec.eq_of_getLsbD_eq (fun i hi => ?_)
    rw [hb i hi, hful i hi]
    rcases Nat.lt_or_ge i G.1 with z | z
    · rw [ha i z, decide_eq_true z]
    · rw [ho i z, decide_eq_false (show ¬ i < G.1 by omega)]
  | false =>
    refine decide_eq_false (fun q => ?_)
    have : allB G.1 (spR G G.1 (ld0 G)) = true := allB_t (fun i hi => by
      have h1 := hb i (by omega)
      rw [q, hful i (by omega), decide_eq_true hi] at h1
      exact h1.symm)
    rw [hh] at this; cases this
end Ends

