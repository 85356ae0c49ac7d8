def b2 (b : Bool) : Int32 := bif b then 1 else 0
theorem b2_0 {b : Bool} : b2 b = 0 ↔ b = false := by cases b <;> decide
theorem b2_nar (b : Bool) : vp_nar .boolean (b2 b) = b2 b := by cases b <;> decide
theorem b2_narrow (b : Bool) : narrow .boolean (.int (b2 b)) = .int (b2 b) := by cases b <;> decide
theorem b2_dec (p : Prop) [h : Decidable p] : b2 (decide p) = if p then 1 else 0 := by cases h with
  | isTrue h => simp [b2, h]
  | isFalse h => simp [b2, h]
abbrev big : Nat := 2147483648
theorem upd_n (f : Nat → Nat) (k x : Nat) : upd (fun j => nI (f j)) k (nI x) = fun j => nI (va_up f k x j) := by
  funext j
  unfold upd va_up
  split <;> rfl
theorem upd_b (f : Nat → Bool) (k : Nat) (x : Bool) : upd (fun j => b2 (f j)) k (b2 x) = fun j => b2 (va_up f k x j) := by
  funext j
  unfold upd va_up
  split <;> rfl
theorem upd_i (f : Nat → Int32) (k : Nat) (x : Int32) : upd f k x = va_up f k x := rfl
section NatRules
variable {g : gp_T} {M : md_T} {mc ms : Nat} {P : ps_T} {X : xs_T} {kc ns pc q : Nat} {L : List (Option Value)} {S : List Value} {z : Nat} {A B : List va_E}
theorem a_ialdAN {j n k : Nat} {f : Nat → Nat} (d : decode M.2.1 pc = .ok (.iaload, 1)) (hA : A[j]? = some (aI g n (fun j => nI (f j)))) (hk : k < n) (hn : n < big) (hq : pc + 1 = q) (kk : AW g M mc ms P X kc ns q L (.int (nI (f k)) :: S) z A B) : AW g M mc ms P X kc ns pc L (.int (nI k) :: .ref (g.1 + j) :: S) z A B := by
  refine a_ialdA d hA (vp_in_nI hk hn) hq ?_
  rw [nI_clamp (show k < 2 ^ 31 by unfold big at hn; omega)]
  exact kk
theorem a_ialdAI {j n k : Nat} {f : Nat → Int32} (d : decode M.2.1 pc = .ok (.iaload, 1)) (hA : A[j]? = some (aI g n f)) (hk : k < n) (hn : n < big) (hq : pc + 1 = q) (kk : AW g M mc ms P X kc ns q L (.int (f k) :: S) z A B) : AW g M mc ms P X kc ns pc L (.int (nI k) :: .ref (g.1 + j) :: S) z A B := by
  refine a_ialdA d hA (vp_in_nI hk hn) hq ?_
  rw [nI_clamp (show k < 2 ^ 31 by unfold big at hn; omega)]
  exact kk
theorem a_zaldAN {j n k : Nat} {f : Nat → Bool} (d : decode M.2.1 pc = .ok (.baload, 1)) (hA : A[j]? = some (aZ g n (fun j => b2 (f j)))) (hk : k < n) (hn : n < big) (hq : pc + 1 = q) (kk : AW g M mc ms P X kc ns q L (.int (b2 (f k)) :: S) z A B) : AW g M mc ms P X kc ns pc L (.int (nI k) :: .ref (g.1 + j) :: S) z A B := by
  refine a_zaldA d hA (vp_in_nI hk hn) hq ?_
  rw [nI_clamp (show k < 2 ^ 31 by unfold big at hn; omega)]
  exact kk
theorem a_iastAN {j n k : Nat} {f : Nat → Nat} {x : Nat} (d : decode M.2.1 pc = .ok (.iastore, 1)) (hA : A[j]? = some (aI g n (fun j => nI (f j)))) (hk : k < n) (hn : n < big) (hq : pc + 1 = q) (kk : AW g M mc ms P X kc ns q L S 0 (A.set j (aI g n (fun j => nI (va_up f k x j)))) B) : AW g M mc ms P X kc ns pc L (.int (nI x) :: .int (nI k) :: .ref (g.1 + j) :: S) z A B := by
  refine a_iastA d hA (vp_in_nI hk hn) hq ?_
  rw [nI_clamp (show k < 2 ^ 31 by unfold big at hn; omega), upd_n]
  exact kk
theorem a_iastAI {j n k : Nat} {f : Nat → Int32} {x : Int32} (d : decode M.2.1 pc = .ok (.iastore, 1)) (hA : A[j]? = some (aI g n f)) (hk : k < n) (hn : n < big) (hq : pc + 1 = q) (kk : AW g M mc ms P X kc ns q L S 0 (A.set j (aI g n (va_up f k x))) B) : AW g M mc ms P X kc ns pc L (.int (x) :: .int (nI k) :: .ref (g.1 + j) :: S) z A B := by
  refine a_iastA d hA (vp_in_nI hk hn) hq ?_
  rw [nI_clamp (show k < 2 ^ 31 by unfold big at hn; omega), upd_i]
  exact kk
theorem a_zastAN {j n k : Nat} {f : Nat → Bool} {x : Bool} (d : decode M.2.1 pc = .ok (.bastore, 1)) (hA : A[j]? = some (aZ g n (fun j => b2 (f j)))) (hk : k < n) (hn : n < big) (hq : pc + 1 = q) (kk : AW g M mc ms P X kc ns q L S 0 (A.set j (aZ g n (fun j => b2 (va_up f k x j)))) B) : AW g M mc ms P X kc ns pc L (.int (b2 x) :: .int (nI k) :: .ref (g.1 + j) :: S) z A B := by
  refine a_zastA d hA (vp_in_nI hk hn) hq ?_
  rw [nI_clamp (show k < 2 ^ 31 by unfold big at hn; omega), b2_nar, upd_b]
  exact kk
theorem a_ialdBN {j n k : Nat} {f : Nat → Nat} (d : decode M.2.1 pc = .ok (.iaload, 1)) (hA : B[j]? = some (aI g n (fun j => nI (f j)))) (hk : k < n) (hn : n < big) (hq : pc + 1 = q) (kk : AW g M mc ms P X kc ns q L (.int (nI (f k)) :: S) z A B) : AW g M mc ms P X kc ns pc L (.int (nI k) :: .ref (g.2.1 + j) :: S) z A B := by
  refine a_ialdB d hA (vp_in_nI hk hn) hq ?_
  rw [nI_clamp (show k < 2 ^ 31 by unfold big at hn; omega)]
  exact kk
theorem a_ialdBI {j n k : Nat} {f : Nat → Int32} (d : decode M.2.1 pc = .ok (.iaload, 1)) (hA : B[j]? = some (aI g n f)) (hk : k < n) (hn : n < big) (hq : pc + 1 = q) (kk : AW g M mc ms P X kc ns q L (.int (f k) :: S) z A B) : AW g M mc ms P X kc ns pc L (.int (nI k) :: .ref (g.2.1 + j) :: S) z A B := by
  refine a_ialdB d hA (vp_in_nI hk hn) hq ?_
  rw [nI_clamp (show k < 2 ^ 31 by unfold big at hn; omega)]
  exact kk
theorem a_zaldBN {j n k : Nat} {f : Nat → Bool} (d : decode M.2.1 pc = .ok (.baload, 1)) (hA : B[j]? = some (aZ g n (fun j => b2 (f j)))) (hk : k < n) (hn : n < big) (hq : pc + 1 = q) (kk : AW g M mc ms P X kc ns q L (.int (b2 (f k)) :: S) z A B) : AW g M mc ms P X kc ns pc L (.int (nI k) :: .ref (g.2.1 + j) :: S) z A B := by
  refine a_zaldB d hA (vp_in_nI hk hn) hq ?_
  rw [nI_clamp (show k < 2 ^ 31 by unfold big at hn; omega)]
  exact kk
theorem a_iastBN {j n k : Nat} {f : Nat → Nat} {x : Nat} (d : decode M.2.1 pc = .ok (.iastore, 1)) (hA : B[j]? = some (aI g n (fun j => nI (f j)))) (hk : k < n) (hn : n < big) (hq : pc + 1 = q) (kk : AW g M mc ms P X kc ns q L S 0 A (B.set j (aI g n (fun j => nI (va_up f k x j))))) : AW g M mc ms P X kc ns pc L (.int (nI x) :: .int (nI k) :: .ref (g.2.1 + j) :: S) z A B := by
  refine a_iastB d hA (vp_in_nI hk hn) hq ?_
  rw [nI_clamp (show k < 2 ^ 31 by unfold big at hn; omega), upd_n]
  exact kk
theorem a_iastBI {j n k : Nat} {f : Nat → Int32} {x : Int32} (d : decode M.2.1 pc = .ok (.iastore, 1)) (hA : B[j]? = some (aI g n f)) (hk : k < n) (hn : n < big) (hq : pc + 1 = q) (kk : AW g M mc ms P X kc ns q L S 0 A (B.set j (aI g n (va_up f k x)))) : AW g M mc ms P X kc ns pc L (.int (x) :: .int (nI k) :: .ref (g.2.1 + j) :: S) z A B := by
  refine a_iastB d hA (vp_in_nI hk hn) hq ?_
  rw [nI_clamp (show k < 2 ^ 31 by unfold big at hn; omega), upd_i]
  exact kk
theorem a_zastBN {j n k : Nat} {f : Nat → Bool} {x : Bool} (d : decode M.2.1 pc = .ok (.bastore, 1)) (hA : B[j]? = some (aZ g n (fun j => b2 (f j)))) (hk : k < n) (hn : n < big) (hq : pc + 1 = q) (kk : AW g M mc ms P X kc ns q L S 0 A (B.set j (aZ g n (fun j => b2 (va_up f k x j))))) : AW g M mc ms P X kc ns pc L (.int (b2 x) :: .int (nI k) :: .ref (g.2.1 + j) :: S) z A B := by
  refine a_zastB d hA (vp_in_nI hk hn) hq ?_
  rw [nI_clamp (show k < 2 ^ 31 by unfold big at hn; omega), b2_nar, upd_b]
  exact kk
theorem a_iincN {j k c : Nat} {n : Int} (d : decode M.2.1 pc = .ok (.iinc j n, 3)) (hL : L[j]? = some (some (.int (nI k)))) (hc : Int32.ofInt n = nI c) (hk : lNk L j = true) (hq : pc + 3 = q) (kk : AW g M mc ms P X kc ns q (lS1 L j (.int (nI (k + c)))) S z A B) : AW g M mc ms P X kc ns pc L S z A B := by
  exact a_iinc d hL (by rw [hc, nI_add]) hk hq kk
theorem a_iincD {j k : Nat} {n : Int} (d : decode M.2.1 pc = .ok (.iinc j n, 3)) (hL : L[j]? = some (some (.int (nI (k + 1))))) (hc : Int32.ofInt n = -1) (hk : lNk L j = true) (hq : pc + 3 = q) (kk : AW g M mc ms P X kc ns q (lS1 L j (.int (nI k))) S z A B) : AW g M mc ms P X kc ns pc L S z A B := by
  exact a_iinc d hL (by rw [hc, pk_m1]) hk hq kk
theorem a_iaddN {a b : Nat} (d : decode M.2.1 pc = .ok (.iadd, 1)) (hq : pc + 1 = q) (kk : AW g M mc ms P X kc ns q L (.int (nI (a + b)) :: S) z A B) : AW g M mc ms P X kc ns pc L (.int (nI b) :: .int (nI a) :: S) z A B := by
  refine a_iadd d hq ?_
  rw [nI_add]
  exact kk
theorem a_isubN {a b : Nat} (d : decode M.2.1 pc = .ok (.isub, 1)) (hle : b ≤ a) (hq : pc + 1 = q) (kk : AW g M mc ms P X kc ns q L (.int (nI (a - b)) :: S) z A B) : AW g M mc ms P X kc ns pc L (.int (nI b) :: .int (nI a) :: S) z A B := by
  refine a_isub d hq ?_
  rw [pk_sub hle]
  exact kk
theorem a_imulN {a b : Nat} (d : decode M.2.1 pc = .ok (.imul, 1)) (hq : pc + 1 = q) (kk : AW g M mc ms P X kc ns q L (.int (nI (a * b)) :: S) z A B) : AW g M mc ms P X kc ns pc L (.int (nI b) :: .int (nI a) :: S) z A B := by
  refine a_imul d hq ?_
  rw [pk_mul]
  exact kk
theorem a_idivN {a b : Nat} (d : decode M.2.1 pc = .ok (.idiv, 1)) (ha : a < 2 ^ 31) (hb : 0 < b ∧ b < big) (hq : pc + 1 = q) (kk : AW g M mc ms P X kc ns q L (.int (nI (a / b)) :: S) z A B) : AW g M mc ms P X kc ns pc L (.int (nI b) :: .int (nI a) :: S) z A B := by
  refine a_idiv d (nI_ne0 hb.1 (by unfold big at hb; omega)) hq ?_
  rw [pk_div ha hb.1 (by unfold big at hb; omega)]
  exact kk
theorem a_iremN {a b : Nat} (d : decode M.2.1 pc = .ok (.irem, 1)) (ha : a < 2 ^ 31) (hb : 0 < b ∧ b < big) (hq : pc + 1 = q) (kk : AW g M mc ms P X kc ns q L (.int (nI (a % b)) :: S) z A B) : AW g M mc ms P X kc ns pc L (.int (nI b) :: .int (nI a) :: S) z A B := by
  refine a_irem d (nI_ne0 hb.1 (by unfold big at hb; omega)) hq ?_
  rw [pk_rem ha hb.1 (by unfold big at hb; omega)]
  exact kk
theorem a_if_eqZ {b : Bool} {off : Int} (t : Nat) (d : decode M.2.1 pc = .ok (.ifCond .eq off, 3)) (ht : (pc : Int) + off = (t : Int)) (hq : pc + 3 = q) (kt : b = false → AW g M mc ms P X kc ns t L S z A B) (kf : b = true → AW g M mc ms P X kc ns q L S z A B) : AW g M mc ms P X kc ns pc L (.int (b2 b) :: S) z A B :=
  a_if_eq t d ht hq (fun h => kt (b2_0.mp h)) (fun h => kf (by cases b with
    | true => rfl
    | false => exact absurd rfl h))
theorem a_if_neZ {b : Bool} {off : Int} (t : Nat) (d : decode M.2.1 pc = .ok (.ifCond .ne off, 3)) (ht : (pc : Int) + off = (t : Int)) (hq : pc + 3 = q) (kt : b = true → AW g M mc ms P X kc ns t L S z A B) (kf : b = false → AW g M mc ms P X kc ns q L S z A B) : AW g M mc ms P X kc ns pc L (.int (b2 b) :: S) z A B :=
  a_if_ne t d ht hq (fun h => kt (by cases b with
    | true => rfl
    | false => exact absurd rfl h)) (fun h => kf (b2_0.mp h))
theorem a_if_eqN {k : Nat} {off : Int} (t : Nat) (d : decode M.2.1 pc = .ok (.ifCond .eq off, 3)) (ht : (pc : Int) + off = (t : Int)) (hk : k < 2 ^ 31) (hq : pc + 3 = q) (kt : k = 0 → AW g M mc ms P X kc ns t L S z A B) (kf : 0 < k → AW g M mc ms P X kc ns q L S z A B) : AW g M mc ms P X kc ns pc L (.int (nI k) :: S) z A B :=
  a_if_eq t d ht hq (fun h => kt (by
    rw [← nI_0] at h
    exact (nI_eq hk (by decide)).mp h)) (fun h => kf (by
    rcases Nat.eq_zero_or_pos k with e | e
    · subst e; exact absurd nI_0 h
    · exact e))
theorem a_if_neN {k : Nat} {off : Int} (t : Nat) (d : decode M.2.1 pc = .ok (.ifCond .ne off, 3)) (ht : (pc : Int) + off = (t : Int)) (hk : k < 2 ^ 31) (hq : pc + 3 = q) (kt : 0 < k → AW g M mc ms P X kc ns t L S z A B) (kf : k = 0 → AW g M mc ms P X kc ns q L S z A B) : AW g M mc ms P X kc ns pc L (.int (nI k) :: S) z A B :=
  a_if_ne t d ht hq (fun h => kt (by
    rcases Nat.eq_zero_or_pos k with e | e
    · subst e; exact absurd nI_0 h
    · exact e)) (fun h => kf (by
    rw [← nI_0] at h
    exact (nI_eq hk (by decide)).mp h))
theorem a_if_leN {k : Nat} {off : Int} (t : Nat) (d : decode M.2.1 pc = .ok (.ifCond .le off, 3)) (ht : (pc : Int) + off = (t : Int)) (hk : k < 2 ^ 31) (hq : pc + 3 = q) (kt : k = 0 → AW g M mc ms P X kc ns t L S z A B) (kf : 0 < k → AW g M mc ms P X kc ns q L S z A B) : AW g M mc ms P X kc ns pc L (.int (nI k) :: S) z A B :=
  a_if_le t d ht hq (fun h => kt (by
    rw [← nI_0] at h
    have := (nI_leI hk (by decide)).mp h
    omega)) (fun h => kf (by
    rcases Nat.eq_zero_or_pos k with e | e
    · subst e; exact absurd (by rw [nI_0]; exact Int32.le_refl _) h
    · exact e))
theorem a_if_gtN {k : Nat} {off : Int} (t : Nat) (d : decode M.2.1 pc = .ok (.ifCond .gt off, 3)) (ht : (pc : Int) + off = (t : Int)) (hk : k < 2 ^ 31) (hq : pc + 3 = q) (kt : 0 < k → AW g M mc ms P X kc ns t L S z A B) (kf : k = 0 → AW g M mc ms P X kc ns q L S z A B) : AW g M mc ms P X kc ns pc L (.int (nI k) :: S) z A B :=
  a_if_gt t d ht hq (fun h => kt (by
    rw [← nI_0] at h
    exact (nI_ltI (by decide) hk).mp h)) (fun h => kf (by
    rcases Nat.eq_zero_or_pos k with e | e
    · exact e
    · exact absurd (by rw [← nI_0]; exact nI_lt e hk) h))
theorem a_if_ltN {k : Nat} {off : Int} (t : Nat) (d : decode M.2.1 pc = .ok (.ifCond .lt off, 3)) (ht : (pc : Int) + off = (t : Int)) (hk : k < 2 ^ 31) (hq : pc + 3 = q) (kf : AW g M mc ms P X kc ns q L S z A B) : AW g M mc ms P X kc ns pc L (.int (nI k) :: S) z A B :=
  a_if_lt t d ht hq (fun h => absurd h (nI_pos hk)) (fun _ => kf)
theorem a_icmp_eqN {a b : Nat} {off : Int} (t : Nat) (d : decode M.2.1 pc = .ok (.if_icmp .eq off, 3)) (ht : (pc : Int) + off = (t : Int)) (ha : a < 2 ^ 31) (hb : b < 2 ^ 31) (hq : pc + 3 = q) (kt : a = b → AW g M mc ms P X kc ns t L S z A B) (kf : a ≠ b → AW g M mc ms P X kc ns q L S z A B) : AW g M mc ms P X kc ns pc L (.int (nI b) :: .int (nI a) :: S) z A B :=
  a_icmp_eq t d ht hq (fun h => kt ((nI_eq ha hb).mp h)) (fun h => kf (fun e => h ((nI_eq ha hb).mpr e)))
theorem a_icmp_neN {a b : Nat} {off : Int} (t : Nat) (d : decode M.2.1 pc = .ok (.if_icmp .ne off, 3)) (ht : (pc : Int) + off = (t : Int)) (ha : a < 2 ^ 31) (hb : b < 2 ^ 31) (hq : pc + 3 = q) (kt : a ≠ b → AW g M mc ms P X kc ns t L S z A B) (kf : a = b → AW g M mc ms P X kc ns q L S z A B) : AW g M mc ms P X kc ns pc L (.int (nI b) :: .int (nI a) :: S) z A B :=
  a_icmp_ne t d ht hq (fun h => kt (fun e => h ((nI_eq ha hb).mpr e))) (fun h => kf ((nI_eq ha hb).mp h))
theorem a_icmp_ltN {a b : Nat} {off : Int} (t : Nat) (d : decode M.2.1 pc = .ok (.if_icmp .lt off, 3)) (ht : (pc : Int) + off = (t : Int)) (ha : a < 2 ^ 31) (hb : b < 2 ^ 31) (hq : pc + 3 = q) (kt : a < b → AW g M mc ms P X kc ns t L S z A B) (kf : b ≤ a → AW g M mc ms P X kc ns q L S z A B) : AW g M mc ms P X kc ns pc L (.int (nI b) :: .int (nI a) :: S) z A B :=
  a_icmp_lt t d ht hq (fun h => kt ((nI_ltI ha hb).mp h)) (fun h => kf (Nat.le_of_not_lt (fun e => h ((nI_ltI ha hb).mpr e))))
theorem a_icmp_geN {a b : Nat} {off : Int} (t : Nat) (d : decode M.2.1 pc = .ok (.if_icmp .ge off, 3)) (ht : (pc : Int) + off = (t : Int)) (ha : a < 2 ^ 31) (hb : b < 2 ^ 31) (hq : pc + 3 = q) (kt : b ≤ a → AW g M mc ms P X kc ns t L S z A B) (kf : a < b → AW g M mc ms P X kc ns q L S z A B) : AW g M mc ms P X kc ns pc L (.int (nI b) :: .int (nI a) :: S) z A B :=
  a_icmp_ge t d ht hq (fun h => kt ((nI_leI hb ha).mp h)) (fun h => kf (Nat.lt_of_not_le (fun e => h ((nI_leI hb ha).mpr e))))
theorem a_icmp_gtN {a b : Nat} {off : Int} (t : Nat) (d : decode M.2.1 pc = .ok (.if_icmp .gt off, 3)) (ht : (pc : Int) + off = (t : Int)) (ha : a < 2 ^ 31) (hb : b < 2 ^ 31) (hq : pc + 3 = q) (kt : b < a → AW g M mc ms P X kc ns t L S z A B) (kf : a ≤ b → AW g M mc ms P X kc ns q L S z A B) : AW g M mc ms P X kc ns pc L (.int (nI b) :: .int (nI a) :: S) z A B :=
  a_icmp_gt t d ht hq (fun h => kt ((nI_ltI hb ha).mp h)) (fun h => kf (Nat.le_of_not_lt (fun e => h ((nI_ltI hb ha).mpr e))))
theorem a_icmp_leN {a b : Nat} {off : Int} (t : Nat) (d : decode M.2.1 pc = .ok (.if_icmp .le off, 3)) (ht : (pc : Int) + off = (t : Int)) (ha : a < 2 ^ 31) (hb : b < 2 ^ 31) (hq : pc + 3 = q) (kt : a ≤ b → AW g M mc ms P X kc ns t L S z A B) (kf : b < a → AW g M mc ms P X kc ns q L S z A B) : AW g M mc ms P X kc ns pc L (.int (nI b) :: .int (nI a) :: S) z A B :=
  a_icmp_le t d ht hq (fun h => kt ((nI_leI ha hb).mp h)) (fun h => kf (Nat.lt_of_not_le (fun e => h ((nI_leI ha hb).mpr e))))
/-- nothing is thrown -/
abbrev noX : xs_T := fun _ _ _ _ => False
abbrev rP (r : Option Value) (A1 B1 : List va_E) : ps_T := fun v z A B => v = r ∧ z = 0 ∧ A = A1 ∧ B = B1
end NatRules
section Calls3
variable {g : gp_T} {M : md_T} {mc ms : Nat} {P : ps_T} {X : xs_T} {kc ns pc q : Nat} {L : List (Option Value)} {S S0 : List Value} {z : Nat} {A B A1 B1 : List va_E} {y : md_T} {index ci j n : Nat} {fs : List Value} {r : Option Value}
theorem a_cVAv {v : Value} (As : List Value) (d : decode M.2.1 pc = .ok (.invokevirtual index, 3)) (cv : cVw M.1.cls index ci y n) (hM : Ct g y (.ref (g.1 + j) :: As) z A B 0 0 (rP (some v) A1 B1) noX) (hA : A[j]? = some (.inr (ci, fs))) (hn : As.length = n) (hS0 : S0 = As.reverse ++ .ref (g.1 + j) :: S) (hcat : (S.map fun v => v.category).sum ≤ 8) (hR : y.2.2.2.2.1 + 1 ≤ M.2.2.2.2.1 ∧ 8 + (y.2.2.1 + 11) + y.2.2.2.2.2.1 ≤ M.2.2.2.2.2.1) (hf : kc ≤ mc ∧ ns ≤ ms) (hq : pc + 3 = q) (kk : AW g M mc ms P X kc ns q L (v :: S) 0 A1 B1) : AW g M mc ms P X kc ns pc L S0 z A B :=
  a_callVA As d cv hM hA hn hS0 hcat hR hf hq (fun v z9 A9 B9 h => by obtain ⟨rfl, rfl, rfl, rfl⟩ := h; exact kk) (fun _ _ _ _ h => h.elim)
theorem a_cVA0  (As : List Value) (d : decode M.2.1 pc = .ok (.invokevirtual index, 3)) (cv : cVw M.1.cls index ci y n) (hM : Ct g y (.ref (g.1 + j) :: As) z A B 0 0 (rP none A1 B1) noX) (hA : A[j]? = some (.inr (ci, fs))) (hn : As.length = n) (hS0 : S0 = As.reverse ++ .ref (g.1 + j) :: S) (hcat : (S.map fun v => v.category).sum ≤ 8) (hR : y.2.2.2.2.1 + 1 ≤ M.2.2.2.2.1 ∧ 8 + (y.2.2.1 + 11) + y.2.2.2.2.2.1 ≤ M.2.2.2.2.2.1) (hf : kc ≤ mc ∧ ns ≤ ms) (hq : pc + 3 = q) (kk : AW g M mc ms P X kc ns q L S 0 A1 B1) : AW g M mc ms P X kc ns pc L S0 z A B :=
  a_callVA As d cv hM hA hn hS0 hcat hR hf hq (fun v z9 A9 B9 h => by obtain ⟨rfl, rfl, rfl, rfl⟩ := h; exact kk) (fun _ _ _ _ h => h.elim)
theorem a_cVBv {v : Value} (As : List Value) (d : decode M.2.1 pc = .ok (.invokevirtual index, 3)) (cv : cVw M.1.cls index ci y n) (hM : Ct g y (.ref (g.2.1 + j) :: As) z A B 0 0 (rP (some v) A1 B1) noX) (hA : B[j]? = some (.inr (ci, fs))) (hn : As.length = n) (hS0 : S0 = As.reverse ++ .ref (g.2.1 + j) :: S) (hcat : (S.map fun v => v.category).sum ≤ 8) (hR : y.2.2.2.2.1 + 1 ≤ M.2.2.2.2.1 ∧ 8 + (y.2.2.1 + 11) + y.2.2.2.2.2.1 ≤ M.2.2.2.2.2.1) (hf : kc ≤ mc ∧ ns ≤ ms) (hq : pc + 3 = q) (kk : AW g M mc ms P X kc ns q L (v :: S) 0 A1 B1) : AW g M mc ms P X kc ns pc L S0 z A B :=
  a_callVB As d cv hM hA hn hS0 hcat hR hf hq (fun v z9 A9 B9 h => by obtain ⟨rfl, rfl, rfl, rfl⟩ := h; exact kk) (fun _ _ _ _ h => h.elim)
theorem a_cVB0  (As : List Value) (d : decode M.2.1 pc = .ok (.invokevirtual index, 3)) (cv : cVw M.1.cls index ci y n) (hM : Ct g y (.ref (g.2.1 + j) :: As) z A B 0 0 (rP none A1 B1) noX) (hA : B[j]? = some (.inr (ci, fs))) (hn : As.length = n) (hS0 : S0 = As.reverse ++ .ref (g.2.1 + j) :: S) (hcat : (S.map fun v => v.category).sum ≤ 8) (hR : y.2.2.2.2.1 + 1 ≤ M.2.2.2.2.1 ∧ 8 + (y.2.2.1 + 11) + y.2.2.2.2.2.1 ≤ M.2.2.2.2.2.1) (hf : kc ≤ mc ∧ ns ≤ ms) (hq : pc + 3 = q) (kk : AW g M mc ms P X kc ns q L S 0 A1 B1) : AW g M mc ms P X kc ns pc L S0 z A B :=
  a_callVB As d cv hM hA hn hS0 hcat hR hf hq (fun v z9 A9 B9 h => by obtain ⟨rfl, rfl, rfl, rfl⟩ := h; exact kk) (fun _ _ _ _ h => h.elim)
theorem a_cSv {v : Value} (As : List Value) (d : decode M.2.1 pc = .ok (.invokestatic index, 3)) (cv : cSw M.1.cls index y n) (hM : Ct g y As z A B 0 0 (rP (some v) A1 B1) noX)  (hn : As.length = n) (hS0 : S0 = As.reverse ++ S) (hcat : (S.map fun v => v.category).sum ≤ 8) (hR : y.2.2.2.2.1 + 1 ≤ M.2.2.2.2.1 ∧ 8 + (y.2.2.1 + 11) + y.2.2.2.2.2.1 ≤ M.2.2.2.2.2.1) (hf : kc ≤ mc ∧ ns ≤ ms) (hq : pc + 3 = q) (kk : AW g M mc ms P X kc ns q L (v :: S) 0 A1 B1) : AW g M mc ms P X kc ns pc L S0 z A B :=
  a_callS As d cv hM hn hS0 hcat hR hf hq (fun v z9 A9 B9 h => by obtain ⟨rfl, rfl, rfl, rfl⟩ := h; exact kk) (fun _ _ _ _ h => h.elim)
theorem a_cS0  (As : List Value) (d : decode M.2.1 pc = .ok (.invokestatic index, 3)) (cv : cSw M.1.cls index y n) (hM : Ct g y As z A B 0 0 (rP none A1 B1) noX)  (hn : As.length = n) (hS0 : S0 = As.reverse ++ S) (hcat : (S.map fun v => v.category).sum ≤ 8) (hR : y.2.2.2.2.1 + 1 ≤ M.2.2.2.2.1 ∧ 8 + (y.2.2.1 + 11) + y.2.2.2.2.2.1 ≤ M.2.2.2.2.2.1) (hf : kc ≤ mc ∧ ns ≤ ms) (hq : pc + 3 = q) (kk : AW g M mc ms P X kc ns q L S 0 A1 B1) : AW g M mc ms P X kc ns pc L S0 z A B :=
  a_callS As d cv hM hn hS0 hcat hR hf hq (fun v z9 A9 B9 h => by obtain ⟨rfl, rfl, rfl, rfl⟩ := h; exact kk) (fun _ _ _ _ h => h.elim)
end Calls3
