/-! ===== after the analysis the two know the same ===== -/
section Analysed
variable {G : Gr} {bc bm : Nat → Bool} {vc : Nat → Int32}
theorem icF_at {V po : Nat → Int32} {j : Nat} : ∀ (m k : Nat) (f : Nat → Int32), (j < k → icF G bm V po m k f j = f j) ∧ (k ≤ j → j < k + m → icF G bm V po m k f j = if mIs G bm j = true then V j + po (mFr G j) - po (mTo G bm j) else nI 0) := by
  intro m
  induction m with
  | zero => intro k f; exact ⟨fun _ => rfl, fun h1 h2 => by omega⟩
  | succ m ih =>
    intro k f
    unfold icF
    obtain ⟨h1, h2⟩ := ih (k + 1) (va_up f k (if mIs G bm k = true then V k + po (mFr G k) - po (mTo G bm k) else nI 0))
    refine ⟨fun h => ?_, fun h3 h4 => ?_⟩
    · rw [h1 (by omega), va_other (by omega)]
    · by_cases e : j = k
      · rw [h1 (by omega), e, va_same]
      · exact h2 (by omega) (by omega)
theorem ciF_at {po : Nat → Int32} {o : Nat → Nat} : ∀ (m j : Nat) (f : Nat → Int32) (l : Nat), (f l = icv G vc po l ∨ ∃ i, j ≤ i ∧ i < j + m ∧ o i = l) → ciF G vc po o m j f l = icv G vc po l := by
  intro m
  induction m with
  | zero =>
    intro j f l h
    rcases h with z | ⟨i, z1, z2, z3⟩
    · exact z
    · omega
  | succ m ih =>
    intro j f l h
    unfold ciF
    refine ih (j + 1) _ l ?_
    by_cases e : l = o j
    · left; rw [e, va_same]
    · rcases h with z | ⟨i, z1, z2, z3⟩
      · left; rw [va_other e]; exact z
      · right
        have : i ≠ j := fun q => e (by rw [← z3, q])
        exact ⟨i, by omega, by omega, z3⟩
/-- what the two know alike -/
def anQ (G : Gr) (bc : Nat → Bool) (vc pt inc : Nat → Int32) (cn cw : Nat) (Y : Ya) : Prop :=
  bE G bc Y.2.1 ∧ (∀ v, v < G.1 → Y.2.2.1 v = pt v) ∧ (∀ k, mIs G Y.2.1 k = true → Y.2.2.2.1 k = vc (c2 Y.2.1 k) ∧ Y.2.2.2.2.1 k = inc (c2 Y.2.1 k)) ∧
  (chF G Y.2.1 Y.2.2.2.2.2 false (2 * G.2.1) 0 0 = cn ∧ chF G Y.2.1 Y.2.2.2.2.2 true (2 * G.2.1) 0 0 = cw) ∧
  (∃ lf ln, topo G Y.2.1 lf ln ∧ ln ≤ 12) ∧
  ∃ np nv po, lad G bc pt vc np nv ∧ po 0 = po (G.1 - 1) ∧ ∀ l, l < 72 → lvd G bc l = true → inc l = icv G vc po l
theorem anQ_of (hg : gok G) {S : Se} (hI : dI G S) (hd : S.2.2.2.2.1 = 0) (hn : S.2.2.1 = G.1) {Z : Za} (hr : dR G S bm Z) {V inc0 inc1 p0 : Nat → Int32} {x : Gt} {t : Ts} (hx : gt0 G x) (ht : pl0 G t) (y : Lp) (o : Nat → Nat) : anQ G S.1 (bld G S.1 S.2.1 S.2.2.1 p0).1 (bld G S.1 S.2.1 S.2.2.1 p0).2 (ciF G (bld G S.1 S.2.1 S.2.2.1 p0).1 (trF G (bld G S.1 S.2.1 S.2.2.1 p0).1 (slF G S.1 72 0 (o, 0)).1 (slF G S.1 72 0 (o, 0)).2 0 t).2.2.2 (slF G S.1 72 0 (o, 0)).1 (slF G S.1 72 0 (o, 0)).2 0 inc0) (trF G (bld G S.1 S.2.1 S.2.2.1 p0).1 (slF G S.1 72 0 (o, 0)).1 (slF G S.1 72 0 (o, 0)).2 0 t).1 (trF G (bld G S.1 S.2.1 S.2.2.1 p0).1 (slF G S.1 72 0 (o, 0)).1 (slF G S.1 72 0 (o, 0)).2 0 t).2.1 (anY G bm Z V inc1 x y) := by
  have he := hg.2.2.1
  have g1 := hg.1
  have g2 := hg.2.1
  obtain ⟨hto, hb⟩ := topo_of hg hI hd hn hr
  have hz : S.2.1 (S.2.2.1 - 1) = 0 := (hI.2.2.2.2.2.2.2.2.2.2.2.2.2.2.1 hd).2
  have hlad := lad_bld hg hb hto hz p0
  obtain ⟨n1, n2⟩ := nu_bld (V := V) (p0 := p0) hg hb hto hr.2.2.1 (fun i hi => hr.2.2.2.2.1 i hi)
  have hs := srt_all (G := G) (bc := S.1) o
  have hgI := gI_end (vc := (bld G S.1 S.2.1 S.2.2.1 p0).1) hg hb hs hx ht
  have hgt := gtR_I (bk := bm) hg hx
  generalize hB : bld G S.1 S.2.1 S.2.2.1 p0 = B at *
  generalize hO : slF G S.1 72 0 (o, 0) = Q at *
  generalize hX : gtR G bm x = X at *
  generalize hT : trF G B.1 Q.1 Q.2 0 t = TT at *
  obtain ⟨i1, i2, ⟨i3, i4⟩, i5, i6, i7, i8, i9⟩ := hgI
  have hseen : ∀ k, mIs G bm k = true → X.2.2 k = true := fun k hk => by
    have hc := c2_v he hb hk
    obtain ⟨a, a1, a2⟩ := hs.2.1 _ hc.1 hc.2.1
    exact (i2 k hk).mpr ⟨a, a1, a2⟩
  have hpart : ∀ v, v < G.1 → TT.2.2.1 v = TT.2.2.1 0 := fun v hv => by
    have hsv := cnt_full G.1 (by rw [hI.1, hd, hn]; omega) v hv
    refine hI.2.2.2.2.2.2.2.2.2.2.2.2.1 (fun v => TT.2.2.1 v = TT.2.2.1 0) rfl (fun k hk _ hbk hv' => ?_) v hsv
    have hv' : TT.2.2.1 (G.2.2.1 k) = TT.2.2.1 0 := hv'
    show TT.2.2.1 (G.2.2.2.1 k) = TT.2.2.1 0
    have e : 2 * k / 2 = k := by omega
    have hk2 := (c2_even hb hk).1
    have := i8 _ hk2 (hseen _ hk2)
    have f1 : mFr G (2 * k) = G.2.2.1 k := by unfold mFr; rw [if_neg (by omega), e]
    have f2 : mTo G bm (2 * k) = G.2.2.2.1 k := by unfold mTo; rw [if_neg (fun q => by rw [e, hb k hk, hbk] at q; cases q.2), e]
    rw [f1, f2] at this
    rw [← this]; exact hv'
  have hT2 : trI G bm X.2.1 (nuR G bm Z V).2 TT.2.2.2 := fun k hk hit => by
    have hm := hgt.2 k (by omega) hit
    exact ⟨hm, by rw [n2 k hm]; exact (i6 k hm hit).1⟩
  have hlp := lpN_all hg hT2 (fun K k0 k1 hK v hv => (i9 K ⟨fun _ => k1, fun _ => k0⟩ (fun k hk hit => hK k (mIs_lt he hk) hit) v 0 hv (by omega) (hpart v hv)).mpr k0) G.1 0 (lp0 G y) (fun v hv z => by
      have z : (if v < G.1 then decide (v = 0 ∨ v = G.1 - 1) else y.2 v) = true := z
      rw [if_pos hv] at z
      show (if v < G.1 then nI 0 else y.1 v) = _
      rw [if_pos hv]
      rcases of_decide_eq_true z with q | q
      · rw [q, Int32.sub_self]; rfl
      · rw [q, ← i7.1, Int32.sub_self]; rfl) (by
      show (if 0 < G.1 then decide (0 = 0 ∨ 0 = G.1 - 1) else y.2 0) = true
      rw [if_pos (by omega)]; exact decide_eq_true (Or.inl rfl)) (by
      show (if G.1 - 1 < G.1 then decide (G.1 - 1 = 0 ∨ G.1 - 1 = G.1 - 1) else y.2 (G.1 - 1)) = true
      rw [if_pos (by omega)]; exact decide_eq_true (Or.inr rfl)) (by
      right
      have := cnt_strict (p := fun _ => false) (q := (lp0 G y).2) (t := 0) G.1 (fun i _ z => by cases z) (by omega) rfl (by
        show (if 0 < G.1 then decide (0 = 0 ∨ 0 = G.1 - 1) else y.2 0) = true
        rw [if_pos (by omega)]; exact decide_eq_true (Or.inl rfl))
      omega)
  have hall : ∀ v, v < G.1 → (lpN G bm X.2.1 (nuR G bm Z V).2 G.1 (lp0 G y)).2 v = true := by
    rcases hlp.2 with z | z
    · exact z
    · have := cnt_le G.1 (lpN G bm X.2.1 (nuR G bm Z V).2 G.1 (lp0 G y)).2
      omega
  have hsumE : ∀ b : Bool, chF G bm X.2.1 b (2 * G.2.1) 0 0 = sumN (cs1 G bm X.2.1 X.2.2 b) (2 * G.2.1) := fun b => by
    have := chF_sum (G := G) (bm := bm) (it := X.2.1) (b := b) (2 * G.2.1) 0 0
    rw [show sumN (chS G bm X.2.1 b) 0 = 0 from rfl, Nat.zero_add, Nat.add_zero] at this
    rw [this, Nat.zero_add]
    refine sumN_congr _ (fun i hi => ?_)
    unfold cs1
    cases hh : X.2.2 i with
    | true => rw [if_pos rfl]
    | false =>
      rw [if_neg (by decide)]
      unfold chS
      rw [if_neg (fun z => by rw [hseen i z.1] at hh; cases hh)]
  have hci : ∀ l, l < 72 → lvd G S.1 l = true → ciF G B.1 TT.2.2.2 Q.1 Q.2 0 inc0 l = icv G B.1 TT.2.2.2 l := fun l hl hv => by
    obtain ⟨a, a1, a2⟩ := hs.2.1 l hl hv
    exact ciF_at Q.2 0 inc0 l (Or.inr ⟨a, Nat.zero_le _, by omega, a2⟩)
  show anQ G S.1 B.1 B.2 _ _ _ (true, bm, (nuR G bm Z V).1, (nuR G bm Z V).2, icF G bm (nuR G bm Z V).2 (lpN G bm (gtR G bm x).2.1 (nuR G bm Z V).2 G.1 (lp0 G y)).1 (2 * G.2.1) 0 inc1, (gtR G bm x).2.1)
  rw [hX]
  refine ⟨hb, n1, fun k hk => ⟨n2 k hk, ?_⟩, ⟨?_, ?_⟩, ⟨S.2.1, S.2.2.1, hto, by omega⟩, ⟨_, _, TT.2.2.2, hlad, i7.1, hci⟩⟩
  · have hc := c2_v he hb hk
    have hf := mFr_lt hg hk
    have ht' := mTo_lt hg hk
    show icF G bm (nuR G bm Z V).2 (lpN G bm X.2.1 (nuR G bm Z V).2 G.1 (lp0 G y)).1 (2 * G.2.1) 0 inc1 k = ciF G B.1 TT.2.2.2 Q.1 Q.2 0 inc0 (c2 bm k)
    rw [(icF_at (2 * G.2.1) 0 inc1).2 (Nat.zero_le _) (by have := mIs_lt he hk; omega), if_pos hk, hci _ hc.1 hc.2.1, n2 k hk, hlp.1 _ (by omega) (hall _ (by omega)), hlp.1 _ ht' (hall _ ht')]
    unfold icv
    rw [hc.2.2.1, hc.2.2.2.1]
    exact i32_3 _ _ _ _
  · show chF G bm X.2.1 false (2 * G.2.1) 0 0 = TT.1
    rw [hsumE, i3]
  · show chF G bm X.2.1 true (2 * G.2.1) 0 0 = TT.2.1
    rw [hsumE, i4]
end Analysed

