/-! ===== what the class and the reference hold alike between two calls ===== -/
section RelMath
theorem wi_n {x : Int32} {a b : Nat} (hb : b < 2 ^ 30) (h : wi x (nI a) (nI b) = true) (ha : a < 2 ^ 30) : ∃ m, a ≤ m ∧ m ≤ b ∧ x = nI m := by
  obtain ⟨h1, h2⟩ := of_decide_eq_true h
  rw [i32_lt, nI_toInt (by omega)] at h1 h2
  have hi : inR x (b + 1) = true := by
    refine decide_eq_true ⟨?_, ?_⟩
    · rw [i32_lt, show (0 : Int32).toInt = 0 by decide]; omega
    · rw [i32_le, nI_toInt (by omega)]; omega
  obtain ⟨k, k1, k2⟩ := inR_true hi (by show b + 1 < 2147483648; omega)
  rw [k2, nI_toInt (by omega)] at h1
  exact ⟨k, by omega, by omega, k2⟩
theorem wi_f {x lo hi : Int32} (h : wi x lo hi = false) : x < lo ∨ hi < x := by
  have h1 := of_decide_eq_false h
  by_cases a : x < lo
  · exact Or.inl a
  · by_cases b : hi < x
    · exact Or.inr b
    · exact absurd ⟨a, b⟩ h1
theorem pos_n {x : Int32} (h : ¬ x < 0) : ∃ r, r < 2147483648 ∧ x = nI r := by
  have h1 : ¬ x.toInt < 0 := by rw [i32_lt, show (0 : Int32).toInt = 0 by decide] at h; exact h
  have h2 := x.toInt_lt
  refine ⟨x.toInt.toNat, by omega, ?_⟩
  apply Int32.toInt_inj.mp
  rw [nI_toInt (by omega)]
  omega
variable {G : Gr}
theorem gok_set {m : Nat} {f : (Nat → Nat) × (Nat → Nat) × (Nat → Nat)} (h1 : 2 ≤ m) (h2 : m ≤ 12) : gok (m, 0, f) :=
  ⟨h1, h2, Nat.zero_le _, fun i hi => absurd hi (Nat.not_lt_zero i), fun i k _ hk => absurd hk (Nat.not_lt_zero k)⟩
theorem alw_n {x y : Int32} (hg : gok G) (h : alw G x y = true) : ∃ a b, x = nI a ∧ y = nI b ∧ a + 1 < G.1 ∧ 1 ≤ b ∧ b < G.1 ∧ ∀ i, i < G.2.1 → ¬ (G.2.2.1 i = a ∧ G.2.2.2.1 i = b) := by
  obtain ⟨g1, g2, g3, g4, g5⟩ := hg
  unfold alw at h
  simp only [Bool.and_eq_true, Bool.not_eq_true'] at h
  obtain ⟨⟨⟨⟨h1, h2⟩, h3⟩, h4⟩, h5⟩ := h
  obtain ⟨a, a1, a2⟩ := inR_true h1 (by show G.1 < 2147483648; omega)
  obtain ⟨b, b1, b2⟩ := inR_true h2 (by show G.1 < 2147483648; omega)
  have h3 := of_decide_eq_true h3
  have h4 := of_decide_eq_true h4
  refine ⟨a, b, a2, b2, ?_, ?_, b1, fun i hi hq => ?_⟩
  · have : a ≠ G.1 - 1 := fun e => h3 (by rw [a2, e])
    omega
  · rcases Nat.eq_zero_or_pos b with e | e
    · exact absurd (by rw [b2, e]; rfl) h4
    · exact e
  · have := anyR_fE h5 i hi
    exact absurd ⟨by rw [hq.1, a2], by rw [hq.2, b2]⟩ (of_decide_eq_false this)
theorem gok_add {a b : Nat} (hg : gok G) (he : G.2.1 < 24) (ha : a + 1 < G.1) (hb : 1 ≤ b) (hb2 : b < G.1) (hn : ∀ i, i < G.2.1 → ¬ (G.2.2.1 i = a ∧ G.2.2.2.1 i = b)) : gok (gadd G a b) := by
  obtain ⟨g1, g2, g3, g4, g5⟩ := hg
  refine ⟨g1, g2, by show G.2.1 + 1 ≤ 24; omega, fun i hi => ?_, fun i k hik hk => ?_⟩
  · have hi : i < G.2.1 + 1 := hi
    show va_up G.2.2.1 G.2.1 a i + 1 < G.1 ∧ 1 ≤ va_up G.2.2.2.1 G.2.1 b i ∧ va_up G.2.2.2.1 G.2.1 b i < G.1 ∧ va_up G.2.2.2.2 G.2.1 1 i ≤ 99
    by_cases e : i = G.2.1
    · rw [e, va_same, va_same, va_same]; exact ⟨ha, hb, hb2, by omega⟩
    · rw [va_other e, va_other e, va_other e]; exact g4 i (by omega)
  · have hk : k < G.2.1 + 1 := hk
    show ¬ (va_up G.2.2.1 G.2.1 a i = va_up G.2.2.1 G.2.1 a k ∧ va_up G.2.2.2.1 G.2.1 b i = va_up G.2.2.2.1 G.2.1 b k)
    rw [va_other (show i ≠ G.2.1 by omega), va_other (show i ≠ G.2.1 by omega)]
    by_cases e : k = G.2.1
    · rw [e, va_same, va_same]; exact hn i (by omega)
    · rw [va_other e, va_other e]; exact g5 i k hik (by omega)
theorem wts_add {a b : Nat} (h : ∀ i, i < 24 → G.2.2.2.2 i ≤ 99) : ∀ i, i < 24 → (gadd G a b).2.2.2.2 i ≤ 99 := fun i hi => by
  show va_up G.2.2.2.2 G.2.1 1 i ≤ 99
  by_cases e : i = G.2.1
  · rw [e, va_same]; omega
  · rw [va_other e]; exact h i hi
theorem nI_ij {a b : Nat} (e : nI a = nI b) (ha : a < 2147483648) (hb : b < 2147483648) : a = b := by
  have := congrArg Int32.toInt e
  rw [nI_toInt (by omega), nI_toInt (by omega)] at this
  omega
theorem alw_nn {a b : Nat} (hg : gok G) (h : alw G (nI a) (nI b) = true) (ha : a < 2147483648) (hb : b < 2147483648) : a + 1 < G.1 ∧ 1 ≤ b ∧ b < G.1 ∧ ∀ i, i < G.2.1 → ¬ (G.2.2.1 i = a ∧ G.2.2.2.1 i = b) := by
  have h12 := hg.2.1
  obtain ⟨a', b', a1, b1, c1, c2, c3, c4⟩ := alw_n hg h
  have ea := nI_ij a1 ha (by omega)
  have eb := nI_ij b1 hb (by omega)
  subst ea; subst eb
  exact ⟨c1, c2, c3, c4⟩
/-- what holds of the draft at every place -/
def gk (k : Nat) (R : Rd) : Prop := gok R.1 ∧ (3 ≤ k → k % 3 = 0 → R.2 < 12)
theorem tk_gok {k c : Nat} {R R' : Rd} (hk : k < 60) (hc : c < 127) (hr : rok k R) (hg : gk k R) (h : tk k c R = some R') : gk (k + 1) R' := by
  obtain ⟨hg, hs⟩ := hg
  unfold tk at h
  split at h
  · split at h
    · rename_i hc
      cases h
      exact ⟨gok_set (by omega) (by omega), fun z1 z2 => by omega⟩
    · cases h
  · split at h
    · split at h
      · cases h; exact ⟨hg, fun z1 z2 => by omega⟩
      · cases h
    · split at h
      · rename_i k0 k1 k3
        split at h
        · rename_i hc2
          cases h
          have hR := hs (by omega) k3
          have he : R.1.2.1 < 24 := by have := hr.2.2; omega
          obtain ⟨c1, c2, c3, c4⟩ := alw_nn hg hc2.2 (by omega) (by omega)
          exact ⟨gok_add hg he c1 c2 c3 c4, fun z1 z2 => by omega⟩
        · cases h
      · split at h
        · split at h
          · cases h; exact ⟨hg, fun z1 z2 => by omega⟩
          · cases h
        · split at h
          · rename_i hc2
            cases h
            have h12 := hg.2.1
            exact ⟨hg, fun z1 z2 => by show c - 97 < 12; omega⟩
          · cases h
theorem rdF_gok {T : Tx} (hT : T.1 ≤ 60) (hc : ∀ i, i < T.1 → T.2 i < 127) : ∀ (m k : Nat) (R : Rd), k + m ≤ T.1 → rok k R → gk k R → gok (rdF T m k R).2.1 := by
  intro m
  induction m with
  | zero => intro k R _ _ h; exact h.1
  | succ m ih =>
    intro k R hk hr hg
    unfold rdF
    cases ht : tk k (T.2 k) R with
    | none => exact hg.1
    | some R' => exact ih (k + 1) R' (by omega) (tk_ok hr ht) (tk_gok (by omega) (hc k (by omega)) hr hg ht)
theorem rd_gok {T : Tx} {R : Rd} (hT : T.1 ≤ 60) (hc : ∀ i, i < T.1 → T.2 i < 127) : gok (rd T R).2.1 :=
  rdF_gok hT hc T.1 0 _ (by omega) ⟨by show 1 ≤ 2; omega, by show 2 ≤ 12; omega, rfl⟩ ⟨gok_set (by omega) (by omega), fun z1 z2 => by omega⟩
theorem beF_spec {D : Gr} : ∀ (m k : Nat) (G : Gr), G.2.1 = k → (beF D m k G).1 = G.1 ∧ (beF D m k G).2.1 = k + m ∧ (∀ i, i < k → (beF D m k G).2.2.1 i = G.2.2.1 i ∧ (beF D m k G).2.2.2.1 i = G.2.2.2.1 i ∧ (beF D m k G).2.2.2.2 i = G.2.2.2.2 i) ∧ (∀ i, k ≤ i → i < k + m → (beF D m k G).2.2.1 i = D.2.2.1 i ∧ (beF D m k G).2.2.2.1 i = D.2.2.2.1 i ∧ (beF D m k G).2.2.2.2 i = 1) ∧ ((∀ i, i < 24 → G.2.2.2.2 i ≤ 99) → ∀ i, i < 24 → (beF D m k G).2.2.2.2 i ≤ 99) := by
  intro m
  induction m with
  | zero => intro k G hk; exact ⟨rfl, hk, fun i _ => ⟨rfl, rfl, rfl⟩, fun i z1 z2 => by omega, fun h => h⟩
  | succ m ih =>
    intro k G hk
    obtain ⟨e1, e2, e3, e4, e5⟩ := ih (k + 1) (gadd G (D.2.2.1 k) (D.2.2.2.1 k)) (by show G.2.1 + 1 = k + 1; omega)
    unfold beF
    refine ⟨e1, by rw [e2]; omega, fun i hi => ?_, fun i z1 z2 => ?_, fun h => e5 (wts_add h)⟩
    · obtain ⟨f1, f2, f3⟩ := e3 i (by omega)
      rw [f1, f2, f3]
      show va_up G.2.2.1 G.2.1 _ i = _ ∧ va_up G.2.2.2.1 G.2.1 _ i = _ ∧ va_up G.2.2.2.2 G.2.1 _ i = _
      rw [va_other (by omega), va_other (by omega), va_other (by omega)]
      exact ⟨rfl, rfl, rfl⟩
    · by_cases e : i = k
      · subst e
        obtain ⟨f1, f2, f3⟩ := e3 i (by omega)
        rw [f1, f2, f3]
        show va_up G.2.2.1 G.2.1 _ i = _ ∧ va_up G.2.2.2.1 G.2.1 _ i = _ ∧ va_up G.2.2.2.2 G.2.1 _ i = _
        rw [hk, va_same, va_same, va_same]
        exact ⟨rfl, rfl, rfl⟩
      · exact e4 i (by omega) (by omega)
theorem gok_ld {D : Gr} (hd : gok D) (hw : ∀ i, i < 24 → G.2.2.2.2 i ≤ 99) : gok (ldG G D) ∧ ∀ i, i < 24 → (ldG G D).2.2.2.2 i ≤ 99 := by
  obtain ⟨g1, g2, g3, g4, g5⟩ := hd
  obtain ⟨e1, e2, e3, e4, e5⟩ := beF_spec (D := D) D.2.1 0 (D.1, 0, G.2.2) rfl
  unfold ldG
  rw [Nat.zero_add] at e2
  have e1 : (beF D D.2.1 0 (D.1, 0, G.2.2)).1 = D.1 := e1
  refine ⟨⟨by rw [e1]; exact g1, by rw [e1]; exact g2, by rw [e2]; exact g3, fun i hi => ?_, fun i k hik hk => ?_⟩, e5 hw⟩
  · rw [e2] at hi
    obtain ⟨f1, f2, f3⟩ := e4 i (Nat.zero_le _) (by omega)
    obtain ⟨d1, d2, d3, d4⟩ := g4 i hi
    rw [f1, f2, f3, e1]
    exact ⟨d1, d2, d3, by omega⟩
  · rw [e2] at hk
    obtain ⟨f1, f2, f3⟩ := e4 i (Nat.zero_le _) (by omega)
    obtain ⟨f4, f5, f6⟩ := e4 k (Nat.zero_le _) (by omega)
    rw [f1, f2, f4, f5]
    exact g5 i k hik hk
end RelMath
/-- where the walk stands, by some numbers and potentials -/
def wkG (G : Gr) (bc : Nat → Bool) (vc pt inc : Nat → Int32) (cur : Nat) (reg : Int32) : Prop := ∃ np nv po, lad G bc pt vc np nv ∧ po 0 = po (G.1 - 1) ∧ (∀ l, l < 72 → lvd G bc l = true → inc l = icv G vc po l) ∧ wkI G np po cur reg
/-- what the two hold alike; n: calls so far -/
def Rl (n : Nat) (G : Gr) (T : Tx) (S : Se) (K : Lk) (E : Tr) (V : Wk) (Y : Ya) (W : Wa) : Prop :=
  (gok G ∧ ∀ i, i < 24 → G.2.2.2.2 i ≤ 99) ∧ (T.1 ≤ 60 ∧ ∀ i, i < T.1 → T.2 i < 127) ∧
  (V.1 = cuN W ∧ V.2.1 = W.2.2.2.1 ∧ V.2.2.1 = W.2.2.2.2 ∧ V.2.2.2 = sm W.2.2.2.2 ∧ sm W.2.2.2.2 ≤ n) ∧
  (W.1 = true → cbl Y.1 (K.2.2.2 0) = true ∧ W.2.2.1 < G.1 ∧ W.2.1 = decide (W.2.2.1 = G.1 - 1) ∧ wkG G S.1 K.2.2.1 K.2.2.2 E.1 W.2.2.1 W.2.2.2.1) ∧
  (Y.1 = true → K.1 = lsr G S.1 ∧ K.2.1 = ltg G S.1 ∧ (∀ k, S.1 k = true → G.2.2.2.1 k + 1 ≠ G.1) ∧ anQ G S.1 K.2.2.1 K.2.2.2 E.1 E.2.1 E.2.2.1 Y)
def LI (g : gp_T) (n : Nat) (A B : List va_E) : Prop := ∃ G T R S K E Q V Y W th Ra Z U L h O, A = CA g G T R S K E Q V Y.1 ∧ B = BM g G T th Y W Ra Z U L h O ∧ Rl n G T S K E V Y W
section Rel
variable {g : gp_T} {G : Gr} {T : Tx} {R : Rd} {S : Se} {K : Lk} {E : Tr} {Q : Pa} {V : Wk} {th : Nat} {Y : Ya} {W : Wa} {D : Ra} {Z : Za} {U : Ua} {L : La} {h : Int64} {O : Oa} {n : Nat}
theorem LI.mk {an : Bool} (R : Rd) (Q : Pa) (he : Y.1 = an) (hr : Rl n G T S K E V Y W) : LI g n (CA g G T R S K E Q V an) (BM g G T th Y W D Z U L h O) := ⟨G, T, R, S, K, E, Q, V, Y, W, th, D, Z, U, L, h, O, by rw [he], rfl, hr⟩
theorem Rl.succ (h : Rl n G T S K E V Y W) : Rl (n + 1) G T S K E V Y W := by
  obtain ⟨h1, h2, ⟨v1, v2, v3, v4, v5⟩, h4, h5⟩ := h
  exact ⟨h1, h2, ⟨v1, v2, v3, v4, by omega⟩, h4, h5⟩
theorem Rl.reset {G' : Gr} {T' : Tx} (hy : Y.1 = false) (h1 : gok G' ∧ ∀ i, i < 24 → G'.2.2.2.2 i ≤ 99) (h2 : T'.1 ≤ 60 ∧ ∀ i, i < T'.1 → T'.2 i < 127) : Rl n G' T' S K E noW Y (noWa W) :=
  ⟨h1, h2, ⟨rfl, rfl, rfl, sm_zero.symm, by show sm (fun _ => 0) ≤ n; rw [sm_zero]; exact Nat.zero_le _⟩, (fun e => nomatch e), (fun e => by rw [hy] at e; cases e)⟩
theorem Rl.text {T' : Tx} (h : Rl n G T S K E V Y W) (h2 : T'.1 ≤ 60 ∧ ∀ i, i < T'.1 → T'.2 i < 127) : Rl (n + 1) G T' S K E V Y W := by
  obtain ⟨h1, h2', ⟨v1, v2, v3, v4, v5⟩, h4, h5⟩ := h
  exact ⟨h1, h2, ⟨v1, v2, v3, v4, by omega⟩, h4, h5⟩
theorem Rl.cb (h : Rl n G T S K E V Y W) : cbl Y.1 (Y.2.2.1 0) = cbl Y.1 (K.2.2.2 0) := by
  cases hy : Y.1 with
  | false => unfold cbl; rw [Bool.false_and, Bool.false_and]
  | true =>
    have hq := (h.2.2.2.2 hy).2.2.2
    have g1 := h.1.1.1
    rw [hq.2.1 0 (by omega)]
theorem Rl.cnt (h : Rl n G T S K E V Y W) (hn : n < 2147483648) : ∀ i, i < 200 → W.2.2.2.2 i < big := fun i hi => by
  have := le_sm (f := W.2.2.2.2) hi
  have := h.2.2.1.2.2.2.2
  show _ < 2147483648
  omega
theorem Ct.toM {M : md_T} {args : List Value} {z : Nat} {A A1 B : List va_E} {r : Option Value} {G1 : Gr} {T1 : Tx} {k : Nat} {Y1 : Ya} {W1 : Wa} {D1 : Ra} {Z1 : Za} {U1 : Ua} {L1 : La} {h1 : Int64} {O1 : Oa} (h : Ct g M args z A B 0 0 (rP r A1 (BM g G1 T1 k Y1 W1 D1 Z1 U1 L1 h1 O1)) noX) : Ct g M args z A B 0 0 (rM g r A1 k O1 (fun G T Y W => G = G1 ∧ T = T1 ∧ Y = Y1 ∧ W = W1)) noX :=
  h.weak (fun v z A B q => by
    obtain ⟨rfl, rfl, rfl, rfl⟩ := q
    exact ⟨rfl, rfl, rfl, _, _, _, _, _, _, _, _, _, rfl, rfl, rfl, rfl, rfl⟩)
theorem Ct.toC {M : md_T} {args : List Value} {z : Nat} {A A1 B B1 : List va_E} {r : Option Value} (h : Ct g M args z A B 0 0 (rP r A1 B1) noX) : Ct g M args z A B 0 0 (rC r B1 (fun A => A = A1)) noX :=
  h.weak (fun v z A B q => by
    obtain ⟨rfl, rfl, rfl, rfl⟩ := q
    exact ⟨rfl, rfl, rfl, rfl⟩)
end Rel
/-- the law at a place of its loop -/
def lwA (g : gp_T) (j kc ns pc : Nat) (A B : List va_E) : Prop := ∀ L6 L7 L8 : Option Value, AW g mL_law 1098 10013 lwP noX kc ns pc [some (.ref g.2.2.2.2.1), some (.ref (g.1 + 0)), some (.ref (g.2.1 + 0)), some (.ref (g.2.1 + 23)), some (.ref (g.2.1 + 24)), some (.int (nI (3 * j))), L6, L7, L8] [] 0 A B
/-- what a case may use -/
def lwB (g : gp_T) (n j kc ns : Nat) : Prop := 3 * j + 2 < g.2.2.2.2.2.1 ∧ g.2.2.2.2.2.1 ≤ 1536 ∧ kc + 1 ≤ 1098 ∧ ns + 6 ≤ 10013 ∧ n < 2147483647 ∧ ∀ A B, LI g (n + 1) A B → lwK g j (kc + 1) (ns + 6) A B
theorem lwK.less {g : gp_T} {j kc ns : Nat} {A B : List va_E} (h : lwK g j (kc + 1) (ns + 6) A B) : lwK g j kc ns A B := fun L6 L7 L8 => a_widen (by omega) (by omega) (h L6 L7 L8)

