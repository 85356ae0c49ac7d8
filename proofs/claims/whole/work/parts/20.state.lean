/-! ===== what a state of the class is ===== -/
/-- nodes, edges, sources, targets, weights -/
abbrev Gr : Type := Nat × Nat × (Nat → Nat) × (Nat → Nat) × (Nat → Nat)
abbrev Tx : Type := Nat × (Nat → Nat)
abbrev Rd : Type := Gr × Nat
/-- back, left, leftNumber, path, depth, nextEdges, reached, onPath, leadsToExit -/
abbrev Se : Type := (Nat → Bool) × (Nat → Nat) × Nat × (Nat → Nat) × Nat × (Nat → Nat) × (Nat → Bool) × (Nat → Bool) × (Nat → Bool)
/-- sources, targets, values, pathsOf -/
abbrev Lk : Type := (Nat → Int32) × (Nat → Int32) × (Nat → Int32) × (Nat → Int32)
/-- increments, chordNumber, chordWeight, order, orderLength, parts, potentials -/
abbrev Tr : Type := (Nat → Int32) × Nat × Nat × (Nat → Nat) × Nat × (Nat → Nat) × (Nat → Int32)
abbrev Pa : Type := (Nat → Nat) × Nat
/-- node, sum, counts, total -/
abbrev Wk : Type := Int32 × Int32 × (Nat → Nat) × Nat
abbrev oG (g : gp_T) (j : Nat) (G : Gr) : va_E := oB 0 [.int (nI G.1), .int (nI G.2.1), .ref (g.1 + (j + 1)), .ref (g.1 + (j + 2)), .ref (g.1 + (j + 3))]
abbrev aN (g : gp_T) (n : Nat) (f : Nat → Nat) : va_E := aI g n (fun j => nI (f j))
abbrev aB (g : gp_T) (n : Nat) (f : Nat → Bool) : va_E := aZ g n (fun j => b2 (f j))
def CA (g : gp_T) (G : Gr) (T : Tx) (R : Rd) (S : Se) (K : Lk) (E : Tr) (Q : Pa) (V : Wk) (an : Bool) : List va_E :=
  [oB 8 [.ref (g.1 + 1), .ref (g.1 + 5), .ref (g.1 + 7), .ref (g.1 + 12), .ref (g.1 + 20), .ref (g.1 + 25), .ref (g.1 + 30), .ref (g.1 + 32), .int (b2 an)],
   oB 0 [.int (nI G.1), .int (nI G.2.1), .ref (g.1 + 2), .ref (g.1 + 3), .ref (g.1 + 4)], aN g 24 G.2.2.1, aN g 24 G.2.2.2.1, aN g 24 G.2.2.2.2,
   oB 5 [.ref (g.1 + 6), .int (nI T.1)], aN g 60 T.2,
   oB 3 [.ref (g.1 + 8), .int (nI R.2)], oB 0 [.int (nI R.1.1), .int (nI R.1.2.1), .ref (g.1 + 9), .ref (g.1 + 10), .ref (g.1 + 11)], aN g 24 R.1.2.2.1, aN g 24 R.1.2.2.2.1, aN g 24 R.1.2.2.2.2,
   oB 4 [.ref (g.1 + 1), .ref (g.1 + 13), .ref (g.1 + 14), .int (nI S.2.2.1), .ref (g.1 + 15), .int (nI S.2.2.2.2.1), .ref (g.1 + 16), .ref (g.1 + 17), .ref (g.1 + 18), .ref (g.1 + 19)],
   aB g 24 S.1, aN g 12 S.2.1, aN g 12 S.2.2.2.1, aN g 12 S.2.2.2.2.2.1, aB g 12 S.2.2.2.2.2.2.1, aB g 12 S.2.2.2.2.2.2.2.1, aB g 12 S.2.2.2.2.2.2.2.2,
   oB 1 [.ref (g.1 + 1), .ref (g.1 + 12), .ref (g.1 + 21), .ref (g.1 + 22), .ref (g.1 + 23), .ref (g.1 + 24)], aI g 72 K.1, aI g 72 K.2.1, aI g 72 K.2.2.1, aI g 12 K.2.2.2,
   oB 6 [.ref (g.1 + 1), .ref (g.1 + 20), .ref (g.1 + 26), .int (nI E.2.1), .int (nI E.2.2.1), .ref (g.1 + 27), .int (nI E.2.2.2.2.1), .ref (g.1 + 28), .ref (g.1 + 29)], aI g 72 E.1, aN g 72 E.2.2.2.1, aN g 12 E.2.2.2.2.2.1, aI g 12 E.2.2.2.2.2.2,
   oB 2 [.ref (g.1 + 1), .ref (g.1 + 20), .ref (g.1 + 31), .int (nI Q.2)], aN g 12 Q.1,
   oB 7 [.int V.1, .int V.2.1, .ref (g.1 + 33), .int (nI V.2.2.2)], aN g 200 V.2.2.1]
/-- an int that names one of n things -/
def inR (x : Int32) (n : Nat) : Bool := decide (¬ x < 0 ∧ ¬ nI n ≤ x)
theorem inR_nI {k n : Nat} (hk : k < big) (hn : n < big) : inR (nI k) n = decide (k < n) := by
  unfold inR
  congr 1
  apply propext
  constructor
  · intro h
    exact Nat.lt_of_not_le (fun e => h.2 (nI_le e (by unfold big at hk; omega)))
  · intro h
    exact ⟨nI_pos (by unfold big at hk; omega), nI_ge h (by unfold big at hn; omega)⟩
theorem inR_true {x : Int32} {n : Nat} (h : inR x n = true) (hn : n < big) : ∃ k : Nat, k < n ∧ x = nI k := by
  obtain ⟨h1, h2⟩ := of_decide_eq_true h
  rcases pk_ix x (n := n) (by unfold big at hn; omega) with e | e | e
  · exact absurd e h1
  · exact absurd e h2
  · exact e
def anyR (e : Nat) (p : Nat → Bool) : Bool := (List.range e).any p
theorem anyR_t {e k : Nat} {p : Nat → Bool} (hk : k < e) (hp : p k = true) : anyR e p = true := List.any_eq_true.mpr ⟨k, List.mem_range.mpr hk, hp⟩
theorem anyR_f {e : Nat} {p : Nat → Bool} (hp : ∀ i, i < e → p i = false) : anyR e p = false := by
  unfold anyR
  rw [List.any_eq_false]
  intro i hi
  rw [hp i (List.mem_range.mp hi)]
  decide
theorem anyR_tE {e : Nat} {p : Nat → Bool} (h : anyR e p = true) : ∃ k, k < e ∧ p k = true := by
  obtain ⟨k, h1, h2⟩ := List.any_eq_true.mp h
  exact ⟨k, List.mem_range.mp h1, h2⟩
theorem anyR_fE {e : Nat} {p : Nat → Bool} (h : anyR e p = false) : ∀ k, k < e → p k = false := by
  intro k hk
  cases hp : p k with
  | false => rfl
  | true => rw [anyR_t hk hp] at h; cases h

