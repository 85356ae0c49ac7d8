/-! ===== each call keeps the two alike: the analysis, what is asked of it ===== -/
section Steps2
variable {g : gp_T} {G : Gr} {T : Tx} {R : Rd} {S : Se} {K : Lk} {E : Tr} {Q : Pa} {V : Wk} {th : Nat} {Y : Ya} {W : Wa} {D : Ra} {Z : Za} {U : Ua} {L : La} {h : Int64} {O : Oa} {n j kc ns : Nat}
theorem hyb (b : Bool) : b = true ∨ b = false := by cases b <;> simp
theorem Rl_an {S' : Se} {bk : Nat → Bool} {Z' : Za} {x : Gt} {y : Lp} {V9 i9 i8 p0 : Nat → Int32} {t0 : Ts} {f : Nat → Bool} {o : Nat → Nat} (h1 : gok G ∧ ∀ i, i < 24 → G.2.2.2.2 i ≤ 99) (h2 : T.1 ≤ 60 ∧ ∀ i, i < T.1 → T.2 i < 127) (hI : dI G S') (hd : S'.2.2.2.2.1 = 0) (hn : S'.2.2.1 = G.1) (d1 : dR G S' bk Z') (x1 : gt0 G x) (p1 : pl0 G t0) : Rl n G T (ldS S' f) (lsr G S'.1, ltg G S'.1, vpC G S' p0) (mkE (ciF G (vpC G S' p0).1 (trF G (vpC G S' p0).1 (ord G S'.1 o).1 (ord G S'.1 o).2 0 t0).2.2.2 (ord G S'.1 o).1 (ord G S'.1 o).2 0 i8) (ord G S'.1 o) (trF G (vpC G S' p0).1 (ord G S'.1 o).1 (ord G S'.1 o).2 0 t0)) noW (anY G bk Z' V9 i9 x y) (noWa W) := by
  have hq := anQ_of (V := V9) (inc0 := i8) (inc1 := i9) (p0 := p0) h1.1 hI hd hn d1 x1 p1 y o
  have hb : ∀ k, S'.1 k = true → G.2.2.2.1 k + 1 ≠ G.1 := fun k hk => (hI.2.2.2.2.2.2.2.2.2.2.2.1 k hk).2.1
  have hs : sm (fun _ => 0) ≤ n := by rw [sm_zero]; exact Nat.zero_le _
  have hW : (noWa W).1 = true → False := fun e => nomatch e
  refine ⟨h1, h2, ⟨rfl, rfl, rfl, sm_zero.symm, hs⟩, fun e => (hW e).elim, fun _ => ⟨rfl, rfl, hb, ?_⟩⟩
  exact hq
theorem s_analyse (hr : Rl n G T S K E V Y W) (hb : lwB g n j kc ns) : lwA g j kc ns 479 (CA g G T R S K E Q V Y.1) (BM g G T th Y W D Z U L h O) := by
  obtain ⟨b1, b2, b3, b4, b5, nx⟩ := hb
  have hg := hr.1.1
  obtain ⟨hI, hd⟩ := dfs_inv hg S
  have hle := dI_le hI
  have hw : ∀ i, i < 24 → G.2.2.2.2 i < big := fun i hi => by have := hr.1.2 i hi; show _ < 2147483648; omega
  have hM := fun (A : List va_E) => m_analyse (g := g) (A := A) (T := T) (th := th) (Y := Y) (W := W) (R := D) (Z := Z) (U := U) (L := L) (h := h) (O := O) S hg hw (fun i hi => (hI.2.2.1 i hi).1) (by omega)
  intro L6 L7 L8
  by_cases h1 : (dfs G S).2.2.1 = G.1
  · cases h2 : allB G.1 (ldE G) with
    | true =>
      have hnv : ∀ bk' Z', dR G (dfs G S) bk' Z' → (nuR G bk' Z' Y.2.2.2.1).1 0 = (vpC G (dfs G S) K.2.2.2).2 0 := fun bk' Z' hd' => by
        obtain ⟨hto, hbe⟩ := topo_of hg hI hd h1 hd'
        have g1 := hg.1
        exact (nu_bld (V := Y.2.2.2.1) (p0 := K.2.2.2) hg hbe hto hd'.2.2.1 (fun i hi => hd'.2.2.2.2.1 i hi)).1 0 (by omega)
      refine q_analyse (N := fun G' T' Y' W' => G' = G ∧ T' = T ∧ W' = noWa W ∧ ∃ bk' Z' x y V9 i9, dR G (dfs G S) bk' Z' ∧ gt0 G x ∧ Y' = anY G bk' Z' V9 i9 x y) ((vpC G (dfs G S) K.2.2.2).2 0) rfl (by omega) (by omega) ((c_analyse3 hg hw h1 h2).weak (fun _ _ _ _ q => q)) (fun A1 _ => (hM A1).weak (fun v z A B q => ?_)) ?_ L6 L7 L8
      · obtain ⟨rfl, rfl, bk', Z', d1, ⟨-, x, x1, rfl, rfl⟩ | ⟨d2, -, -⟩⟩ := q
        · refine ⟨by rw [hnv bk' Z' d1], rfl, rfl, _, _, _, _, _, _, _, _, _, rfl, rfl, rfl, rfl, bk', Z', x, _, _, _, d1, x1, rfl⟩
        · exact absurd ⟨h1, by rw [aeA_eq hg]; exact h2⟩ d2
      · rintro A1 _ _ _ _ R9 Z9 U9 L9 h9 ⟨f, t0, p1, rfl⟩ ⟨rfl, rfl, rfl, bk', Z', x, y, V9, i9, d1, x1, rfl⟩
        exact (nx _ _ (LI.mk R Q (by rfl) (Rl_an hr.1 hr.2.1 hI hd h1 d1 x1 p1))).less
    | false =>
      refine q_analyse (N := fun G' T' Y' W' => G' = G ∧ T' = T ∧ W' = noWa W ∧ Y'.1 = false) (nI 0) rfl (by omega) (by omega) ((c_analyse2 hg h1 h2).weak (fun _ _ _ _ q => q)) (fun A1 _ => (hM A1).weak (fun v z A B q => ?_)) ?_ L6 L7 L8
      · obtain ⟨rfl, rfl, bk', Z', d1, ⟨d2, -⟩ | ⟨-, rfl, rfl⟩⟩ := q
        · have d3 := d2.2
          rw [aeA_eq hg, h2] at d3
          cases d3
        · exact ⟨rfl, rfl, rfl, _, _, _, _, _, _, _, _, _, rfl, rfl, rfl, rfl, rfl⟩
      · rintro A1 _ _ Y9 _ R9 Z9 U9 L9 h9 ⟨f, rfl⟩ ⟨rfl, rfl, rfl, hy⟩
        exact (nx _ _ (LI.mk R Q hy (Rl.reset hy hr.1 hr.2.1))).less
  · refine q_analyse (N := fun G' T' Y' W' => G' = G ∧ T' = T ∧ W' = noWa W ∧ Y'.1 = false) (nI 0) rfl (by omega) (by omega) (c_analyse1 hg h1).toC (fun A1 _ => (hM A1).weak (fun v z A B q => ?_)) ?_ L6 L7 L8
    · obtain ⟨rfl, rfl, bk', Z', d1, ⟨d2, -⟩ | ⟨-, rfl, rfl⟩⟩ := q
      · exact absurd d2.1 h1
      · exact ⟨rfl, rfl, rfl, _, _, _, _, _, _, _, _, _, rfl, rfl, rfl, rfl, rfl⟩
    · rintro A1 _ _ Y9 _ R9 Z9 U9 L9 h9 rfl ⟨rfl, rfl, rfl, hy⟩
      exact (nx _ _ (LI.mk R Q hy (Rl.reset hy hr.1 hr.2.1))).less
theorem lk1 {an ok : Bool} (h : an = false) : lkN an ok = 1 := by rw [h]; rfl
theorem lk2 {an ok : Bool} (h : an = true) (h2 : ok = false) : lkN an ok = 2 := by rw [h, h2]; rfl
theorem s_pathsFrom (hr : Rl n G T S K E V Y W) (hb : lwB g n j kc ns) : lwA g j kc ns 492 (CA g G T R S K E Q V Y.1) (BM g G T th Y W D Z U L h O) := by
  obtain ⟨b1, b2, b3, b4, b5, nx⟩ := hb
  have hg := hr.1.1
  obtain ⟨g1, g2, g3, g4, g5⟩ := id hg
  intro L6 L7 L8
  rcases hyb Y.1 with hy | hy
  · obtain ⟨-, -, -, hq⟩ := hr.2.2.2.2 hy
    rcases hyb (inR (g.2.2.2.2.2.2 (3 * j + 1)) G.1) with hi | hi
    · obtain ⟨k, k1, k2⟩ := inR_true hi (by show _ < 2147483648; omega)
      refine q_pathsFrom (K.2.2.2 k) b1 b2 b3 b4 (k := 0) (by decide) (h_pathsFrom _ (K.2.2.2 k) rfl (by rw [k2]; exact c_pathsFrom k hy g2 k1)) (by rw [k2, ← hq.2.1 k k1]; exact (m_pathsFrom k hg k1 hy).toM) (fun _ => oJ_at _ _) ?_ L6 L7 L8
      rintro _ _ _ _ R9 Z9 U9 L9 h9 ⟨rfl, rfl, rfl, rfl⟩
      exact nx _ _ (LI.mk R Q (by rfl) hr.succ)
    · have e := lk2 hy hi
      have hM := fun (A : List va_E) => mx_pathsFrom (g := g) (A := A) (T := T) (th := th) (Y := Y) (W := W) (R := D) (Z := Z) (U := U) (L := L) (h := h) (O := O) _ hg (by rw [e]; decide)
      rw [e] at hM
      refine q_pathsFrom (nI 0) b1 b2 b3 b4 (k := 2) (by decide) (hx_pathsFrom2 _ rfl (x_pathsFrom2 _ hy hi)) (hM _).toM (fun e => nomatch e) ?_ L6 L7 L8
      rintro _ _ _ _ R9 Z9 U9 L9 h9 ⟨rfl, rfl, rfl, rfl⟩
      exact nx _ _ (LI.mk R Q (by rfl) hr.succ)
  · have e := lk1 (ok := inR (g.2.2.2.2.2.2 (3 * j + 1)) G.1) hy
    have hM := fun (A : List va_E) => mx_pathsFrom (g := g) (A := A) (T := T) (th := th) (Y := Y) (W := W) (R := D) (Z := Z) (U := U) (L := L) (h := h) (O := O) _ hg (by rw [e]; decide)
    rw [e] at hM
    refine q_pathsFrom (nI 0) b1 b2 b3 b4 (k := 1) (by decide) (hx_pathsFrom1 _ rfl (x_pathsFrom1 _ hy)) (hM _).toM (fun e => nomatch e) ?_ L6 L7 L8
    rintro _ _ _ _ R9 Z9 U9 L9 h9 ⟨rfl, rfl, rfl, rfl⟩
    exact nx _ _ (LI.mk R Q (by rfl) hr.succ)
theorem s_isBack (hr : Rl n G T S K E V Y W) (hb : lwB g n j kc ns) : lwA g j kc ns 548 (CA g G T R S K E Q V Y.1) (BM g G T th Y W D Z U L h O) := by
  obtain ⟨b1, b2, b3, b4, b5, nx⟩ := hb
  have hg := hr.1.1
  obtain ⟨g1, g2, g3, g4, g5⟩ := id hg
  intro L6 L7 L8
  rcases hyb Y.1 with hy | hy
  · obtain ⟨-, -, -, hq⟩ := hr.2.2.2.2 hy
    rcases hyb (inR (g.2.2.2.2.2.2 (3 * j + 1)) G.2.1) with hi | hi
    · obtain ⟨k, k1, k2⟩ := inR_true hi (by show _ < 2147483648; omega)
      refine q_isBack (S.1 k) b1 b2 b3 b4 (k := 0) (by decide) (h_isBack _ (S.1 k) rfl (by rw [k2]; exact c_isBack k hy g3 k1)) (by rw [k2, ← hq.1 k k1]; exact (m_isBack k hg k1 hy).toM) (fun _ => oJ_at _ _) ?_ L6 L7 L8
      rintro _ _ _ _ R9 Z9 U9 L9 h9 ⟨rfl, rfl, rfl, rfl⟩
      exact nx _ _ (LI.mk R Q (by rfl) hr.succ)
    · have e := lk2 hy hi
      have hM := fun (A : List va_E) => mx_isBack (g := g) (A := A) (T := T) (th := th) (Y := Y) (W := W) (R := D) (Z := Z) (U := U) (L := L) (h := h) (O := O) _ hg (by rw [e]; decide)
      rw [e] at hM
      refine q_isBack false b1 b2 b3 b4 (k := 2) (by decide) (hx_isBack2 _ rfl (x_isBack2 _ hy hi)) (hM _).toM (fun e => nomatch e) ?_ L6 L7 L8
      rintro _ _ _ _ R9 Z9 U9 L9 h9 ⟨rfl, rfl, rfl, rfl⟩
      exact nx _ _ (LI.mk R Q (by rfl) hr.succ)
  · have e := lk1 (ok := inR (g.2.2.2.2.2.2 (3 * j + 1)) G.2.1) hy
    have hM := fun (A : List va_E) => mx_isBack (g := g) (A := A) (T := T) (th := th) (Y := Y) (W := W) (R := D) (Z := Z) (U := U) (L := L) (h := h) (O := O) _ hg (by rw [e]; decide)
    rw [e] at hM
    refine q_isBack false b1 b2 b3 b4 (k := 1) (by decide) (hx_isBack1 _ rfl (x_isBack1 _ hy)) (hM _).toM (fun e => nomatch e) ?_ L6 L7 L8
    rintro _ _ _ _ R9 Z9 U9 L9 h9 ⟨rfl, rfl, rfl, rfl⟩
    exact nx _ _ (LI.mk R Q (by rfl) hr.succ)
theorem s_value (hr : Rl n G T S K E V Y W) (hb : lwB g n j kc ns) : lwA g j kc ns 611 (CA g G T R S K E Q V Y.1) (BM g G T th Y W D Z U L h O) := by
  obtain ⟨b1, b2, b3, b4, b5, nx⟩ := hb
  have hg := hr.1.1
  obtain ⟨g1, g2, g3, g4, g5⟩ := id hg
  intro L6 L7 L8
  generalize hbb : decide (¬ g.2.2.2.2.2.2 (3 * j + 2) = 0) = b
  rcases hyb Y.1 with hy | hy
  · obtain ⟨-, -, -, hq⟩ := hr.2.2.2.2 hy
    rcases hyb (inR (g.2.2.2.2.2.2 (3 * j + 1)) G.2.1) with hi | hi
    · obtain ⟨k, k1, k2⟩ := inR_true hi (by show _ < 2147483648; omega)
      obtain ⟨e1, e2⟩ := c2_mLo hq.1 k1 b
      have e3 := (hq.2.2.1 _ e1).1
      rw [e2] at e3
      refine q_value (K.2.2.1 (lko S.1 k b)) b hbb.symm b1 b2 b3 b4 (k := 0) (by decide) (h_value _ _ _ rfl (by rw [k2]; exact c_value k b hy g3 k1)) (by rw [k2, ← e3]; exact (m_value k b hg k1 hy).toM) (fun _ => oJ_at _ _) ?_ L6 L7 L8
      rintro _ _ _ _ R9 Z9 U9 L9 h9 ⟨rfl, rfl, rfl, rfl⟩
      exact nx _ _ (LI.mk R Q (by rfl) hr.succ)
    · have e := lk2 hy hi
      have hM := fun (A : List va_E) => mx_value (g := g) (A := A) (T := T) (th := th) (Y := Y) (W := W) (R := D) (Z := Z) (U := U) (L := L) (h := h) (O := O) _ b hg (by rw [e]; decide)
      rw [e] at hM
      refine q_value (nI 0) b hbb.symm b1 b2 b3 b4 (k := 2) (by decide) (hx_value2 _ _ rfl (x_value2 _ b hy hi)) (hM _).toM (fun e => nomatch e) ?_ L6 L7 L8
      rintro _ _ _ _ R9 Z9 U9 L9 h9 ⟨rfl, rfl, rfl, rfl⟩
      exact nx _ _ (LI.mk R Q (by rfl) hr.succ)
  · have e := lk1 (ok := inR (g.2.2.2.2.2.2 (3 * j + 1)) G.2.1) hy
    have hM := fun (A : List va_E) => mx_value (g := g) (A := A) (T := T) (th := th) (Y := Y) (W := W) (R := D) (Z := Z) (U := U) (L := L) (h := h) (O := O) _ b hg (by rw [e]; decide)
    rw [e] at hM
    refine q_value (nI 0) b hbb.symm b1 b2 b3 b4 (k := 1) (by decide) (hx_value1 _ _ rfl (x_value1 _ b hy)) (hM _).toM (fun e => nomatch e) ?_ L6 L7 L8
    rintro _ _ _ _ R9 Z9 U9 L9 h9 ⟨rfl, rfl, rfl, rfl⟩
    exact nx _ _ (LI.mk R Q (by rfl) hr.succ)
theorem s_increment (hr : Rl n G T S K E V Y W) (hb : lwB g n j kc ns) : lwA g j kc ns 695 (CA g G T R S K E Q V Y.1) (BM g G T th Y W D Z U L h O) := by
  obtain ⟨b1, b2, b3, b4, b5, nx⟩ := hb
  have hg := hr.1.1
  obtain ⟨g1, g2, g3, g4, g5⟩ := id hg
  intro L6 L7 L8
  generalize hbb : decide (¬ g.2.2.2.2.2.2 (3 * j + 2) = 0) = b
  rcases hyb Y.1 with hy | hy
  · obtain ⟨-, -, -, hq⟩ := hr.2.2.2.2 hy
    rcases hyb (inR (g.2.2.2.2.2.2 (3 * j + 1)) G.2.1) with hi | hi
    · obtain ⟨k, k1, k2⟩ := inR_true hi (by show _ < 2147483648; omega)
      obtain ⟨e1, e2⟩ := c2_mLo hq.1 k1 b
      have e3 := (hq.2.2.1 _ e1).2
      rw [e2] at e3
      refine q_increment (E.1 (lko S.1 k b)) b hbb.symm b1 b2 b3 b4 (k := 0) (by decide) (h_increment _ _ _ rfl (by rw [k2]; exact c_increment k b hy g3 k1)) (by rw [k2, ← e3]; exact (m_increment k b hg k1 hy).toM) (fun _ => oJ_at _ _) ?_ L6 L7 L8
      rintro _ _ _ _ R9 Z9 U9 L9 h9 ⟨rfl, rfl, rfl, rfl⟩
      exact nx _ _ (LI.mk R Q (by rfl) hr.succ)
    · have e := lk2 hy hi
      have hM := fun (A : List va_E) => mx_increment (g := g) (A := A) (T := T) (th := th) (Y := Y) (W := W) (R := D) (Z := Z) (U := U) (L := L) (h := h) (O := O) _ b hg (by rw [e]; decide)
      rw [e] at hM
      refine q_increment (nI 0) b hbb.symm b1 b2 b3 b4 (k := 2) (by decide) (hx_increment2 _ _ rfl (x_increment2 _ b hy hi)) (hM _).toM (fun e => nomatch e) ?_ L6 L7 L8
      rintro _ _ _ _ R9 Z9 U9 L9 h9 ⟨rfl, rfl, rfl, rfl⟩
      exact nx _ _ (LI.mk R Q (by rfl) hr.succ)
  · have e := lk1 (ok := inR (g.2.2.2.2.2.2 (3 * j + 1)) G.2.1) hy
    have hM := fun (A : List va_E) => mx_increment (g := g) (A := A) (T := T) (th := th) (Y := Y) (W := W) (R := D) (Z := Z) (U := U) (L := L) (h := h) (O := O) _ b hg (by rw [e]; decide)
    rw [e] at hM
    refine q_increment (nI 0) b hbb.symm b1 b2 b3 b4 (k := 1) (by decide) (hx_increment1 _ _ rfl (x_increment1 _ b hy)) (hM _).toM (fun e => nomatch e) ?_ L6 L7 L8
    rintro _ _ _ _ R9 Z9 U9 L9 h9 ⟨rfl, rfl, rfl, rfl⟩
    exact nx _ _ (LI.mk R Q (by rfl) hr.succ)
theorem s_chords (hr : Rl n G T S K E V Y W) (hb : lwB g n j kc ns) : lwA g j kc ns 779 (CA g G T R S K E Q V Y.1) (BM g G T th Y W D Z U L h O) := by
  obtain ⟨b1, b2, b3, b4, b5, nx⟩ := hb
  have hg := hr.1.1
  intro L6 L7 L8
  generalize hbb : decide (¬ g.2.2.2.2.2.2 (3 * j + 1) = 0) = b
  rcases hyb Y.1 with hy | hy
  · obtain ⟨-, -, -, hq⟩ := hr.2.2.2.2 hy
    have e : chF G Y.2.1 Y.2.2.2.2.2 b (2 * G.2.1) 0 0 = if b = true then E.2.2.1 else E.2.1 := by
      cases b with
      | true => exact hq.2.2.2.1.2
      | false => exact hq.2.2.2.1.1
    refine q_chords (nI (if b = true then E.2.2.1 else E.2.1)) b hbb.symm b1 b2 b3 b4 (k := 0) (by decide) (h_chords _ _ rfl (c_chords b hy)) (by rw [← e]; exact (m_chords b hg hr.1.2 hy).toM) (fun _ => oJ_at _ _) ?_ L6 L7 L8
    rintro _ _ _ _ R9 Z9 U9 L9 h9 ⟨rfl, rfl, rfl, rfl⟩
    exact nx _ _ (LI.mk R Q (by rfl) hr.succ)
  · refine q_chords (nI 0) b hbb.symm b1 b2 b3 b4 (k := 1) (by decide) (hx_chords1 _ rfl (x_chords b hy)) (mx_chords b hy).toM (fun e => nomatch e) ?_ L6 L7 L8
    rintro _ _ _ _ R9 Z9 U9 L9 h9 ⟨rfl, rfl, rfl, rfl⟩
    exact nx _ _ (LI.mk R Q (by rfl) hr.succ)
end Steps2

