/-! ===== the numbers of the two are the same ===== -/
section Numbers
variable {G : Gr} {bc bm : Nat → Bool}
theorem nbF_none {P : Nat → Int32} {v : Nat} {c : Int32} {V : Nat → Int32} : ∀ m : Nat, nbF G bm P v m none c V = (c, V)
  | 0 => rfl
  | _ + 1 => rfl
theorem nb_cp (he : G.2.1 ≤ 24) (hb : bE G bc bm) {v : Nat} {p P : Nat → Int32} (hp : ∀ k, vk G bm v k → P (mTo G bm k) = p (mTo G bm k)) (D : Nat → Prop) : ∀ (m l fuel : Nat) (o : Option Nat) (c : Int32) (V f : Nat → Int32), l + m = 72 → m ≤ fuel → isNx G bm v o l → (∀ k, mIs G bm k = true → (D (mFr G k) ∨ (mFr G k = v ∧ c2 bm k < l)) → V k = f (c2 bm k)) → (nbF G bm P v fuel o c V).1 = (cpF G bc p v m l c f).1 ∧ ∀ k, mIs G bm k = true → (D (mFr G k) ∨ mFr G k = v) → (nbF G bm P v fuel o c V).2 k = (cpF G bc p v m l c f).2 (c2 bm k) := by
  intro m
  induction m with
  | zero =>
    intro l fuel o c V f hl hf hx hV
    rw [nx_none he hb (by omega) hx, nbF_none]
    refine ⟨rfl, fun k hk hd => hV k hk ?_⟩
    rcases hd with z | z
    · exact Or.inl z
    · exact Or.inr ⟨z, by have := (c2_v he hb hk).1; omega⟩
  | succ m ih =>
    intro l fuel o c V f hl hf hx hV
    unfold cpF
    by_cases hn : lvd G bc l = true ∧ lsN G l = v
    · rw [if_pos hn]
      obtain ⟨h1, h2, h3⟩ := nx_take he hb (by omega) hx hn
      subst h1
      obtain ⟨fu, rfl⟩ : ∃ fu, fuel = fu + 1 := ⟨fuel - 1, by omega⟩
      unfold nbF
      have hx2 := lb_nx1 (v := v) he h2.1
      rw [h3] at hx2
      have hq := (c2_v he hb h2.1).2.2.2.1
      rw [h3] at hq
      rw [hp _ h2, hq]
      exact ih (l + 1) fu _ _ _ _ (by omega) (by omega) hx2 (fun k hk hd => by
        by_cases e : k = m2 l
        · rw [e, h3, va_same, va_same]
        · have e2 : c2 bm k ≠ l := fun q => e (by rw [← q, m2_c2 he hk])
          rw [va_other e, va_other e2]
          refine hV k hk ?_
          rcases hd with z | z
          · exact Or.inl z
          · exact Or.inr ⟨z.1, by omega⟩)
    · rw [if_neg hn]
      exact ih (l + 1) fuel o c V f (by omega) (by omega) (nx_skip he hb hx hn) (fun k hk hd => by
        refine hV k hk ?_
        rcases hd with z | z
        · exact Or.inl z
        · refine Or.inr ⟨z.1, ?_⟩
          rcases Nat.lt_or_ge (c2 bm k) l with y | y
          · exact y
          · exfalso
            have e : c2 bm k = l := by omega
            obtain ⟨q1, q2, q3, q4, q5⟩ := c2_v he hb hk
            rw [e] at q2 q3
            exact hn ⟨q2, by rw [q3]; exact z.1⟩)
/-- the order of leaving: a link leads to what was left before, or to the exit -/
def topo (G : Gr) (bm : Nat → Bool) (lf : Nat → Nat) (ln : Nat) : Prop := (∀ v, v < G.1 → ∃ a, a < ln ∧ lf a = v) ∧ (∀ i i', i < i' → i' < ln → lf i ≠ lf i') ∧ (∀ i, i < ln → lf i < G.1) ∧ ∀ j k, j < ln → vk G bm (lf j) k → mTo G bm k = G.1 - 1 ∨ ∃ a, a < j ∧ lf a = mTo G bm k
theorem topo_of {S : Se} {Z : Za} (hg : gok G) (hI : dI G S) (hd : S.2.2.2.2.1 = 0) (hn : S.2.2.1 = G.1) (hr : dR G S bm Z) : topo G bm S.2.1 S.2.2.1 ∧ bE G S.1 bm := by
  obtain ⟨g1, g2, g3, g4, g5⟩ := hg
  obtain ⟨h1, h2, h3, h4, h5, h6, h7, h8, h9, h10, h11, h12, h13, h14, h15, h16⟩ := hI
  have hall : ∀ v, v < G.1 → ∃ a, a < S.2.2.1 ∧ S.2.1 a = v := fun v hv => by
    have hs := cnt_full G.1 (by rw [h1, hd, hn]; omega) v hv
    refine h7 v hs ?_
    cases ho : S.2.2.2.2.2.2.2.1 v with
    | false => rfl
    | true => obtain ⟨i, hi, -⟩ := h8 v ho; omega
  have hbE : bE G S.1 bm := fun k hk => by
    obtain ⟨a, ha, hb⟩ := hall (G.2.2.1 k) (by have := (g4 k hk).1; omega)
    exact hr.2.2.2.2.2.2 k hk (h11 a k ha hk hb.symm).1
  refine ⟨⟨hall, h5, fun i hi => (h3 i hi).1, fun j k hj hv => ?_⟩, hbE⟩
  obtain ⟨q1, q2⟩ := of_decide_eq_true hv.1
  have hv2 := hv.2
  unfold mFr at hv2
  unfold mTo
  by_cases e : k % 2 = 1
  · rw [if_pos e] at hv2
    rw [if_neg (fun q => by omega)]
    refine Or.inr ?_
    obtain ⟨a, ha, hb⟩ := hall (G.2.2.2.1 (k / 2)) (g4 _ q1).2.2.1
    refine ⟨a, ?_, hb⟩
    have t1 := (h15 hd).2
    have t2 := (g4 _ q1).2.1
    have t3 : j = S.2.2.1 - 1 := by
      rcases Nat.lt_or_ge j (S.2.2.1 - 1) with z | z
      · exact absurd (by rw [t1]; exact hv2.symm) (h5 j (S.2.2.1 - 1) z (by omega))
      · omega
    rcases Nat.lt_or_ge a j with z | z
    · exact z
    · exfalso
      have : a = S.2.2.1 - 1 := by omega
      rw [this, t1] at hb
      omega
  · rw [if_neg e] at hv2
    by_cases f : bm (k / 2) = true
    · rw [if_pos ⟨by omega, f⟩]; exact Or.inl rfl
    · rw [if_neg (fun q => f q.2)]
      refine Or.inr ?_
      refine (h11 j (k / 2) hj q1 hv2).2 ?_
      rw [← hbE _ q1]
      cases hh : bm (k / 2) with
      | true => exact absurd hh f
      | false => rfl
theorem nu_cq (hg : gok G) (hb : bE G bc bm) {lf lm : Nat → Nat} {ln : Nat} (ht : topo G bm lf ln) (hl : ∀ i, i < ln → lm i = lf i) : ∀ (m j : Nat) (x : Nu) (y : VP), j + m = ln → (∀ v, (v = G.1 - 1 ∨ ∃ a, a < j ∧ lf a = v) → x.1 v = y.2 v) → (∀ k, mIs G bm k = true → (∃ a, a < j ∧ lf a = mFr G k) → x.2 k = y.1 (c2 bm k)) → (∀ v, (v = G.1 - 1 ∨ ∃ a, a < ln ∧ lf a = v) → (nuF G bm lm m j x).1 v = (cqF G bc lf m j y).2 v) ∧ ∀ k, mIs G bm k = true → (∃ a, a < ln ∧ lf a = mFr G k) → (nuF G bm lm m j x).2 k = (cqF G bc lf m j y).1 (c2 bm k) := by
  have he := hg.2.2.1
  intro m
  induction m with
  | zero =>
    intro j x y hj h1 h2
    have : j = ln := by omega
    subst this
    exact ⟨h1, h2⟩
  | succ m ih =>
    intro j x y hj h1 h2
    unfold nuF cqF
    rw [hl j (by omega)]
    unfold nuS
    by_cases e : lf j = G.1 - 1
    · rw [if_pos e, if_pos e]
      refine ih (j + 1) x y (by omega) (fun v hv => h1 v ?_) (fun k hk hv => h2 k hk ?_)
      · rcases hv with z | ⟨a, z1, z2⟩
        · exact Or.inl z
        · by_cases q : a = j
          · rw [q, e] at z2; exact Or.inl z2.symm
          · exact Or.inr ⟨a, by omega, z2⟩
      · obtain ⟨a, z1, z2⟩ := hv
        by_cases q : a = j
        · rw [q, e] at z2
          have := mFr_lt hg hk
          omega
        · exact ⟨a, by omega, z2⟩
    · rw [if_neg e, if_neg e]
      have key := nb_cp he hb (v := lf j) (p := y.2) (P := x.1) (fun k hk => h1 _ (ht.2.2.2 j k (by omega) hk)) (fun v => ∃ a, a < j ∧ lf a = v) 72 0 144 (lb G bm (lf j) none) (nI 0) x.2 y.1 rfl (by omega) (lb_nx0 he _) (fun k hk hd => by
        rcases hd with z | z
        · exact h2 k hk z
        · omega)
      refine ih (j + 1) _ _ (by omega) (fun v hv => ?_) (fun k hk hv => ?_)
      · show va_up x.1 (lf j) _ v = va_up y.2 (lf j) _ v
        by_cases q : v = lf j
        · rw [q, va_same, va_same]; exact key.1
        · rw [va_other q, va_other q]
          refine h1 v ?_
          rcases hv with z | ⟨a, z1, z2⟩
          · exact Or.inl z
          · by_cases w : a = j
            · rw [w] at z2; exact absurd z2.symm q
            · exact Or.inr ⟨a, by omega, z2⟩
      · refine key.2 k hk ?_
        obtain ⟨a, z1, z2⟩ := hv
        by_cases w : a = j
        · rw [w] at z2; exact Or.inr z2.symm
        · exact Or.inl ⟨a, by omega, z2⟩
/-- paths and values of the reference are the class's -/
theorem nu_bld (hg : gok G) (hb : bE G bc bm) {lf : Nat → Nat} {ln : Nat} {Z : Za} {V p0 : Nat → Int32} (ht : topo G bm lf ln) (hz : Z.2.2.2.2.2 = ln) (hl : ∀ i, i < ln → Z.2.2.2.2.1 i = lf i) : (∀ v, v < G.1 → (nuR G bm Z V).1 v = (bld G bc lf ln p0).2 v) ∧ ∀ k, mIs G bm k = true → (nuR G bm Z V).2 k = (bld G bc lf ln p0).1 (c2 bm k) := by
  have key := nu_cq hg hb ht hl ln 0 (nu0 G V) (fun _ => nI 0, va_up p0 (G.1 - 1) (nI 1)) (by omega) (fun v hv => by
    rcases hv with z | ⟨a, z, -⟩
    · show va_up (fun _ => nI 0) (G.1 - 1) (nI 1) v = va_up p0 (G.1 - 1) (nI 1) v
      rw [z, va_same, va_same]
    · omega) (fun k _ ⟨a, z, _⟩ => by omega)
  unfold nuR bld
  rw [hz]
  refine ⟨fun v hv => key.1 v (Or.inr (ht.1 v hv)), fun k hk => key.2 k hk (ht.1 _ ?_)⟩
  have := mFr_lt hg hk
  omega
end Numbers

