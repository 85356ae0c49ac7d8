/-! ===== cells that hold the same; the graph's other methods ===== -/
/-- a cell may be told otherwise, if the heap can't tell -/
def ceq (c c' : va_E) : Prop := ∀ (D : va_G) (cl : List vw_C) (q : Nat) (H : Heap), va_at D cl (q, c) H → va_at D cl (q, c') H
theorem ceq_arr {c : ClassId} {n : Nat} {f f' : Nat → Int32} (h : ∀ i, i < n → f i = f' i) : ceq (.inl (c, n, .inl f)) (.inl (c, n, .inl f')) := by
  intro D cl q H hh
  show H[q]? = some (vp_cell c (n, .inl f'))
  have e : vp_cell c (n, .inl f') = vp_cell c (n, .inl f) := by
    rw [vp_cell_i, vp_cell_i]
    unfold arrV
    congr 1
    apply Array.ext
    · simp
    · intro i h1 h2
      simp only [Array.getElem_ofFn]
      rw [h i (by simpa using h1)]
  rw [e]
  exact hh
theorem ceq_n {g : gp_T} {n : Nat} {f f' : Nat → Nat} (h : ∀ i, i < n → f i = f' i) : ceq (aN g n f) (aN g n f') := ceq_arr (fun i hi => by rw [h i hi])
theorem ceq_b {g : gp_T} {n : Nat} {f f' : Nat → Bool} (h : ∀ i, i < n → f i = f' i) : ceq (aB g n f) (aB g n f') := ceq_arr (fun i hi => by rw [h i hi])
theorem ceq_i {g : gp_T} {n : Nat} {f f' : Nat → Int32} (h : ∀ i, i < n → f i = f' i) : ceq (aI g n f) (aI g n f') := ceq_arr h
theorem gHp_swapA {g : gp_T} {z j : Nat} {A B : List va_E} {c c' : va_E} {H : Heap} (hA : A[j]? = some c) (h : ceq c c') (hH : gHp g z A B H) : gHp g z (A.set j c') B H := by
  refine ⟨?_, ?_, hH.2.2.setA rfl (List.length_set ..)⟩
  · rw [← gW_sa hA]
    exact hH.1.set hH.2.1 (gW_a hA) (h _ _ _ _ (hH.1 _ _ (gW_a hA))) (fun _ _ => rfl)
  · rw [← gW_sa hA]
    exact hH.2.1.set (gW_a hA)
theorem gHp_swapB {g : gp_T} {z j : Nat} {A B : List va_E} {c c' : va_E} {H : Heap} (hA : B[j]? = some c) (h : ceq c c') (hH : gHp g z A B H) : gHp g z A (B.set j c') H := by
  refine ⟨?_, ?_, hH.2.2.setB rfl (List.length_set ..)⟩
  · rw [← gW_sb]
    exact hH.1.set hH.2.1 (gW_b hA) (h _ _ _ _ (hH.1 _ _ (gW_b hA))) (fun _ _ => rfl)
  · rw [← gW_sb]
    exact hH.2.1.set (gW_b hA)
theorem a_swapA {g : gp_T} {M : md_T} {mc ms : Nat} {P : ps_T} {X : xs_T} {kc ns pc : Nat} {L : List (Option Value)} {S : List Value} {z : Nat} {A B : List va_E} (j : Nat) {c : va_E} (c' : va_E) (hA : A[j]? = some c) (h : ceq c c') (k : AW g M mc ms P X kc ns pc L S z (A.set j c') B) : AW g M mc ms P X kc ns pc L S z A B :=
  fun p l e s m args below meth cd H locs ls C hH hS hl => k p l e s m args below meth cd H locs ls C (gHp_swapA hA h hH) hS hl
theorem a_swapB {g : gp_T} {M : md_T} {mc ms : Nat} {P : ps_T} {X : xs_T} {kc ns pc : Nat} {L : List (Option Value)} {S : List Value} {z : Nat} {A B : List va_E} (j : Nat) {c : va_E} (c' : va_E) (hA : B[j]? = some c) (h : ceq c c') (k : AW g M mc ms P X kc ns pc L S z A (B.set j c')) : AW g M mc ms P X kc ns pc L S z A B :=
  fun p l e s m args below meth cd H locs ls C hH hS hl => k p l e s m args below meth cd H locs ls C (gHp_swapB hA h hH) hS hl
/-- a contract is used with what it gives weakened -/
theorem Ct.mono {g : gp_T} {M : md_T} {args : List Value} {z : Nat} {A B : List va_E} {mc ms : Nat} {P P' : ps_T} {X X' : xs_T} (h : Ct g M args z A B mc ms P X) (hP : ∀ v z A B, P v z A B → P' v z A B) (hX : ∀ E z A B, X E z A B → X' E z A B) : Ct g M args z A B mc ms P' X' := by
  intro l hl p e ha hc hk s m args' below hf happ hpre hh
  obtain ⟨k, o, h1, h2, h3, hq⟩ := h l hl p e ha hc hk s m args' below hf happ hpre hh
  refine ⟨k, o, h1, h2, h3, ?_⟩
  rcases hq with ⟨⟨⟨v, z', A', B', e1, e2, e3⟩, hF⟩, hL⟩ | ⟨q, e1, E, ce, L, ⟨⟨z', A', B', e2, e3⟩, hF⟩, hr⟩
  · exact Or.inl ⟨⟨⟨v, z', A', B', e1, hP _ _ _ _ e2, e3⟩, hF⟩, hL⟩
  · exact Or.inr ⟨q, e1, E, ce, L, ⟨⟨z', A', B', hX _ _ _ _ e2, e3⟩, hF⟩, hr⟩
section Graph2
variable {g : gp_T} {B : List va_E} {G : Gr} {T : Tx} {R : Rd} {S : Se} {K : Lk} {E : Tr} {Q : Pa} {V : Wk} {an : Bool}
theorem c_resetG (n : Nat) : Ct g mX0_reset [.ref (g.1 + 1), .int (nI n)] 0 (CA g G T R S K E Q V an) B 0 0 (rP none (CA g (n, 0, G.2.2) T R S K E Q V an) B) noX := by
  refine Ct.of [some (.ref (g.1 + 1)), some (.int (nI n))] (by decide) rfl (Nat.le_of_ble_eq_true rfl) rfl ?_
  refine a_aload_n (q := 1) dX0_reset_0 rfl rfl rfl ?_
  refine a_iload_n (q := 2) dX0_reset_1 rfl rfl rfl ?_
  refine a_putA (q := 5) dX0_reset_2 fX0_9 (fun h => nomatch h) rfl (Nat.le_of_ble_eq_true rfl) rfl rfl rfl ?_
  refine a_aload_n (q := 6) dX0_reset_5 rfl rfl rfl ?_
  refine a_iconst (q := 7) (nI 0) dX0_reset_6 (by decide) rfl ?_
  refine a_putA (q := 10) dX0_reset_7 fX0_15 (fun h => nomatch h) rfl (Nat.le_of_ble_eq_true rfl) rfl rfl rfl ?_
  exact a_ret dX0_reset_10 rfl (Nat.le_of_ble_eq_true rfl) (Nat.le_of_ble_eq_true rfl) (⟨rfl, rfl, rfl, rfl⟩)
theorem c_resetD (n : Nat) : Ct g mX0_reset [.ref (g.1 + 8), .int (nI n)] 0 (CA g G T R S K E Q V an) B 0 0 (rP none (CA g G T ((n, 0, R.1.2.2), R.2) S K E Q V an) B) noX := by
  refine Ct.of [some (.ref (g.1 + 8)), some (.int (nI n))] (by decide) rfl (Nat.le_of_ble_eq_true rfl) rfl ?_
  refine a_aload_n (q := 1) dX0_reset_0 rfl rfl rfl ?_
  refine a_iload_n (q := 2) dX0_reset_1 rfl rfl rfl ?_
  refine a_putA (q := 5) dX0_reset_2 fX0_9 (fun h => nomatch h) rfl (Nat.le_of_ble_eq_true rfl) rfl rfl rfl ?_
  refine a_aload_n (q := 6) dX0_reset_5 rfl rfl rfl ?_
  refine a_iconst (q := 7) (nI 0) dX0_reset_6 (by decide) rfl ?_
  refine a_putA (q := 10) dX0_reset_7 fX0_15 (fun h => nomatch h) rfl (Nat.le_of_ble_eq_true rfl) rfl rfl rfl ?_
  exact a_ret dX0_reset_10 rfl (Nat.le_of_ble_eq_true rfl) (Nat.le_of_ble_eq_true rfl) (⟨rfl, rfl, rfl, rfl⟩)
def gadd (G : Gr) (a b : Nat) : Gr := (G.1, G.2.1 + 1, va_up G.2.2.1 G.2.1 a, va_up G.2.2.2.1 G.2.1 b, va_up G.2.2.2.2 G.2.1 1)
theorem c_addG (a b : Nat) (he : G.2.1 < 24) : Ct g mX0_add [.ref (g.1 + 1), .int (nI a), .int (nI b)] 0 (CA g G T R S K E Q V an) B 0 0 (rP (some (.int (nI G.2.1))) (CA g (gadd G a b) T R S K E Q V an) B) noX := by
  refine Ct.of [some (.ref (g.1 + 1)), some (.int (nI a)), some (.int (nI b)), none] (by decide) rfl (Nat.le_of_ble_eq_true rfl) rfl ?_
  refine a_aload_n (q := 1) dX0_add_0 rfl rfl rfl ?_
  refine a_getA (q := 4) dX0_add_1 fX0_15 rfl rfl rfl ?_
  refine a_istore_n (q := 5) dX0_add_4 rfl (Nat.le_of_ble_eq_true rfl) rfl rfl ?_
  refine a_aload_n (q := 6) dX0_add_5 rfl rfl rfl ?_
  refine a_getA (q := 9) dX0_add_6 fX0_18 rfl rfl rfl ?_
  refine a_iload_n (q := 10) dX0_add_9 rfl rfl rfl ?_
  refine a_iload_n (q := 11) dX0_add_10 rfl rfl rfl ?_
  refine a_iastAN (q := 12) dX0_add_11 rfl (by omega) (by decide) rfl ?_
  refine a_aload_n (q := 13) dX0_add_12 rfl rfl rfl ?_
  refine a_getA (q := 16) dX0_add_13 fX0_22 rfl rfl rfl ?_
  refine a_iload_n (q := 17) dX0_add_16 rfl rfl rfl ?_
  refine a_iload_n (q := 18) dX0_add_17 rfl rfl rfl ?_
  refine a_iastAN (q := 19) dX0_add_18 rfl (by omega) (by decide) rfl ?_
  refine a_aload_n (q := 20) dX0_add_19 rfl rfl rfl ?_
  refine a_getA (q := 23) dX0_add_20 fX0_25 rfl rfl rfl ?_
  refine a_iload_n (q := 24) dX0_add_23 rfl rfl rfl ?_
  refine a_iconst (q := 25) (nI 1) dX0_add_24 (by decide) rfl ?_
  refine a_iastAN (q := 26) dX0_add_25 rfl (by omega) (by decide) rfl ?_
  refine a_aload_n (q := 27) dX0_add_26 rfl rfl rfl ?_
  refine a_iload_n (q := 28) dX0_add_27 rfl rfl rfl ?_
  refine a_iconst (q := 29) (nI 1) dX0_add_28 (by decide) rfl ?_
  refine a_iaddN (q := 30) dX0_add_29 rfl ?_
  refine a_putA (q := 33) dX0_add_30 fX0_15 (fun h => nomatch h) rfl (Nat.le_of_ble_eq_true rfl) rfl rfl rfl ?_
  refine a_iload_n (q := 34) dX0_add_33 rfl rfl rfl ?_
  exact a_iret dX0_add_34 rfl rfl (Nat.le_of_ble_eq_true rfl) (Nat.le_of_ble_eq_true rfl) (⟨rfl, rfl, rfl, rfl⟩)
theorem c_addD (a b : Nat) (he : R.1.2.1 < 24) : Ct g mX0_add [.ref (g.1 + 8), .int (nI a), .int (nI b)] 0 (CA g G T R S K E Q V an) B 0 0 (rP (some (.int (nI R.1.2.1))) (CA g G T (gadd R.1 a b, R.2) S K E Q V an) B) noX := by
  refine Ct.of [some (.ref (g.1 + 8)), some (.int (nI a)), some (.int (nI b)), none] (by decide) rfl (Nat.le_of_ble_eq_true rfl) rfl ?_
  refine a_aload_n (q := 1) dX0_add_0 rfl rfl rfl ?_
  refine a_getA (q := 4) dX0_add_1 fX0_15 rfl rfl rfl ?_
  refine a_istore_n (q := 5) dX0_add_4 rfl (Nat.le_of_ble_eq_true rfl) rfl rfl ?_
  refine a_aload_n (q := 6) dX0_add_5 rfl rfl rfl ?_
  refine a_getA (q := 9) dX0_add_6 fX0_18 rfl rfl rfl ?_
  refine a_iload_n (q := 10) dX0_add_9 rfl rfl rfl ?_
  refine a_iload_n (q := 11) dX0_add_10 rfl rfl rfl ?_
  refine a_iastAN (q := 12) dX0_add_11 rfl (by omega) (by decide) rfl ?_
  refine a_aload_n (q := 13) dX0_add_12 rfl rfl rfl ?_
  refine a_getA (q := 16) dX0_add_13 fX0_22 rfl rfl rfl ?_
  refine a_iload_n (q := 17) dX0_add_16 rfl rfl rfl ?_
  refine a_iload_n (q := 18) dX0_add_17 rfl rfl rfl ?_
  refine a_iastAN (q := 19) dX0_add_18 rfl (by omega) (by decide) rfl ?_
  refine a_aload_n (q := 20) dX0_add_19 rfl rfl rfl ?_
  refine a_getA (q := 23) dX0_add_20 fX0_25 rfl rfl rfl ?_
  refine a_iload_n (q := 24) dX0_add_23 rfl rfl rfl ?_
  refine a_iconst (q := 25) (nI 1) dX0_add_24 (by decide) rfl ?_
  refine a_iastAN (q := 26) dX0_add_25 rfl (by omega) (by decide) rfl ?_
  refine a_aload_n (q := 27) dX0_add_26 rfl rfl rfl ?_
  refine a_iload_n (q := 28) dX0_add_27 rfl rfl rfl ?_
  refine a_iconst (q := 29) (nI 1) dX0_add_28 (by decide) rfl ?_
  refine a_iaddN (q := 30) dX0_add_29 rfl ?_
  refine a_putA (q := 33) dX0_add_30 fX0_15 (fun h => nomatch h) rfl (Nat.le_of_ble_eq_true rfl) rfl rfl rfl ?_
  refine a_iload_n (q := 34) dX0_add_33 rfl rfl rfl ?_
  exact a_iret dX0_add_34 rfl rfl (Nat.le_of_ble_eq_true rfl) (Nat.le_of_ble_eq_true rfl) (⟨rfl, rfl, rfl, rfl⟩)
/-- the first edge of v from k on; none: the end -/
def nxF (src : Nat → Nat) (v : Nat) : Nat → Nat → Nat
  | 0, k => k
  | m + 1, k => if src k = v then k else nxF src v m (k + 1)
def nxt (e : Nat) (src : Nat → Nat) (v k : Nat) : Nat := nxF src v (e - k) k
theorem l_nextOf (v k0 : Nat) (P : ps_T) (he : G.2.1 ≤ 24) (hv : v < big) (hs : ∀ i, i < G.2.1 → G.2.2.1 i < big) : ∀ m k : Nat, G.2.1 - k = m → k ≤ G.2.1 → (∀ r, r = nxF G.2.2.1 v m k → P (some (.int (if r < G.2.1 then nI r else -1))) 0 (CA g G T R S K E Q V an) B) → AW g mX0_nextOf 0 0 P noX 0 0 2 [some (.ref (g.1 + 1)), some (.int (nI v)), some (.int (nI k0)), some (.int (nI k))] [] 0 (CA g G T R S K E Q V an) B := by
  intro m
  unfold big at *
  induction m with
  | zero =>
    intro k hm hk hp
    refine a_iload_n (q := 3) dX0_nextOf_2 rfl rfl rfl ?_
    refine a_aload_n (q := 4) dX0_nextOf_3 rfl rfl rfl ?_
    refine a_getA (q := 7) dX0_nextOf_4 fX0_15 rfl rfl rfl ?_
    refine a_icmp_geN (q := 10) 28 dX0_nextOf_7 (by decide) (by omega) (by omega) rfl (fun c7 => ?_) (fun c7 => ?_)
    · skip
      refine a_iconst (q := 29) (-1) dX0_nextOf_28 (by decide) rfl ?_
      exact a_iret dX0_nextOf_29 rfl rfl (Nat.le_of_ble_eq_true rfl) (Nat.le_of_ble_eq_true rfl) (by have h := hp k rfl; rw [if_neg (by omega)] at h; exact h)
    · omega
  | succ m ih =>
    intro k hm hk hp
    have h9 := hs k (by omega)
    refine a_iload_n (q := 3) dX0_nextOf_2 rfl rfl rfl ?_
    refine a_aload_n (q := 4) dX0_nextOf_3 rfl rfl rfl ?_
    refine a_getA (q := 7) dX0_nextOf_4 fX0_15 rfl rfl rfl ?_
    refine a_icmp_geN (q := 10) 28 dX0_nextOf_7 (by decide) (by omega) (by omega) rfl (fun c7 => ?_) (fun c7 => ?_)
    · omega
    · skip
      refine a_aload_n (q := 11) dX0_nextOf_10 rfl rfl rfl ?_
      refine a_getA (q := 14) dX0_nextOf_11 fX0_18 rfl rfl rfl ?_
      refine a_iload_n (q := 15) dX0_nextOf_14 rfl rfl rfl ?_
      refine a_ialdAN (q := 16) dX0_nextOf_15 rfl (by omega) (by decide) rfl ?_
      refine a_iload_n (q := 17) dX0_nextOf_16 rfl rfl rfl ?_
      refine a_icmp_neN (q := 20) 22 dX0_nextOf_17 (by decide) (by omega) (by omega) rfl (fun c17 => ?_) (fun c17 => ?_)
      · skip
        refine a_iincN (q := 25) (c := 1) dX0_nextOf_22 rfl (by decide) rfl rfl ?_
        refine a_goto 2 dX0_nextOf_25 (by decide) ?_
        exact ih (k + 1) (by omega) (by omega) (fun r hr => hp r (by rw [hr, nxF, if_neg c17]))
      · skip
        refine a_iload_n (q := 21) dX0_nextOf_20 rfl rfl rfl ?_
        exact a_iret dX0_nextOf_21 rfl rfl (Nat.le_of_ble_eq_true rfl) (Nat.le_of_ble_eq_true rfl) (by have h := hp k (by rw [nxF, if_pos c17]); rw [if_pos (by omega)] at h; exact h)
theorem c_nextOf (v k : Nat) (he : G.2.1 ≤ 24) (hk : k ≤ G.2.1) (hv : v < big) (hs : ∀ i, i < G.2.1 → G.2.2.1 i < big) : Ct g mX0_nextOf [.ref (g.1 + 1), .int (nI v), .int (nI k)] 0 (CA g G T R S K E Q V an) B 0 0 (rP (some (.int (if nxt G.2.1 G.2.2.1 v k < G.2.1 then nI (nxt G.2.1 G.2.2.1 v k) else -1))) (CA g G T R S K E Q V an) B) noX := by
  refine Ct.of [some (.ref (g.1 + 1)), some (.int (nI v)), some (.int (nI k)), none] (by decide) rfl (Nat.le_of_ble_eq_true rfl) rfl ?_
  refine a_iload_n (q := 1) dX0_nextOf_0 rfl rfl rfl ?_
  refine a_istore_n (q := 2) dX0_nextOf_1 rfl (Nat.le_of_ble_eq_true rfl) rfl rfl ?_
  exact l_nextOf v k _ he hv hs _ k rfl hk (fun r hr => ⟨by rw [hr]; rfl, rfl, rfl, rfl⟩)
/-- the edge of v at place x (any int) -/
def eaF (src : Nat → Nat) (v : Nat) (x : Int32) : Nat → Nat → Nat → Int32
  | 0, _, _ => -1
  | m + 1, k, p => if src k = v then (if nI p = x then nI k else eaF src v x m (k + 1) (p + 1)) else eaF src v x m (k + 1) p
theorem l_edgeAt (v : Nat) (x : Int32) (P : ps_T) (he : G.2.1 ≤ 24) (hv : v < big) (hs : ∀ i, i < G.2.1 → G.2.2.1 i < big) : ∀ m k p : Nat, G.2.1 - k = m → k ≤ G.2.1 → p ≤ k → P (some (.int (eaF G.2.2.1 v x m k p))) 0 (CA g G T R S K E Q V an) B → AW g mX0_edgeAt 0 0 P noX 0 0 5 [some (.ref (g.1 + 1)), some (.int (nI v)), some (.int x), some (.int (nI p)), some (.int (nI k))] [] 0 (CA g G T R S K E Q V an) B := by
  intro m
  unfold big at *
  induction m with
  | zero =>
    intro k p hm hk hpk hp
    refine a_iload (q := 7) dX0_edgeAt_5 rfl rfl ?_
    refine a_aload_n (q := 8) dX0_edgeAt_7 rfl rfl rfl ?_
    refine a_getA (q := 11) dX0_edgeAt_8 fX0_15 rfl rfl rfl ?_
    refine a_icmp_geN (q := 14) 42 dX0_edgeAt_11 (by decide) (by omega) (by omega) rfl (fun c11 => ?_) (fun c11 => ?_)
    · skip
      refine a_iconst (q := 43) (-1) dX0_edgeAt_42 (by decide) rfl ?_
      exact a_iret dX0_edgeAt_43 rfl rfl (Nat.le_of_ble_eq_true rfl) (Nat.le_of_ble_eq_true rfl) (hp)
    · omega
  | succ m ih =>
    intro k p hm hk hpk hp
    have h9 := hs k (by omega)
    refine a_iload (q := 7) dX0_edgeAt_5 rfl rfl ?_
    refine a_aload_n (q := 8) dX0_edgeAt_7 rfl rfl rfl ?_
    refine a_getA (q := 11) dX0_edgeAt_8 fX0_15 rfl rfl rfl ?_
    refine a_icmp_geN (q := 14) 42 dX0_edgeAt_11 (by decide) (by omega) (by omega) rfl (fun c11 => ?_) (fun c11 => ?_)
    · omega
    · skip
      refine a_aload_n (q := 15) dX0_edgeAt_14 rfl rfl rfl ?_
      refine a_getA (q := 18) dX0_edgeAt_15 fX0_18 rfl rfl rfl ?_
      refine a_iload (q := 20) dX0_edgeAt_18 rfl rfl ?_
      refine a_ialdAN (q := 21) dX0_edgeAt_20 rfl (by omega) (by decide) rfl ?_
      refine a_iload_n (q := 22) dX0_edgeAt_21 rfl rfl rfl ?_
      refine a_icmp_neN (q := 25) 36 dX0_edgeAt_22 (by decide) (by omega) (by omega) rfl (fun c22 => ?_) (fun c22 => ?_)
      · rw [eaF, if_neg c22] at hp
        refine a_iincN (q := 39) (c := 1) dX0_edgeAt_36 rfl (by decide) rfl rfl ?_
        refine a_goto 5 dX0_edgeAt_39 (by decide) ?_
        exact ih _ _ (by omega) (by omega) (by omega) hp
      · rw [eaF, if_pos c22] at hp
        refine a_iload_n (q := 26) dX0_edgeAt_25 rfl rfl rfl ?_
        refine a_iload_n (q := 27) dX0_edgeAt_26 rfl rfl rfl ?_
        refine a_icmp_ne (q := 30) 33 dX0_edgeAt_27 (by decide) rfl (fun c27 => ?_) (fun c27 => ?_)
        · rw [if_neg c27] at hp
          refine a_iincN (q := 36) (c := 1) dX0_edgeAt_33 rfl (by decide) rfl rfl ?_
          refine a_iincN (q := 39) (c := 1) dX0_edgeAt_36 rfl (by decide) rfl rfl ?_
          refine a_goto 5 dX0_edgeAt_39 (by decide) ?_
          exact ih _ _ (by omega) (by omega) (by omega) hp
        · rw [if_pos c27] at hp
          refine a_iload (q := 32) dX0_edgeAt_30 rfl rfl ?_
          exact a_iret dX0_edgeAt_32 rfl rfl (Nat.le_of_ble_eq_true rfl) (Nat.le_of_ble_eq_true rfl) (hp)
theorem c_edgeAt (v : Nat) (x : Int32) (he : G.2.1 ≤ 24) (hv : v < big) (hs : ∀ i, i < G.2.1 → G.2.2.1 i < big) : Ct g mX0_edgeAt [.ref (g.1 + 1), .int (nI v), .int x] 0 (CA g G T R S K E Q V an) B 0 0 (rP (some (.int (eaF G.2.2.1 v x G.2.1 0 0))) (CA g G T R S K E Q V an) B) noX := by
  refine Ct.of [some (.ref (g.1 + 1)), some (.int (nI v)), some (.int x), none, none] (by decide) rfl (Nat.le_of_ble_eq_true rfl) rfl ?_
  refine a_iconst (q := 1) (nI 0) dX0_edgeAt_0 (by decide) rfl ?_
  refine a_istore_n (q := 2) dX0_edgeAt_1 rfl (Nat.le_of_ble_eq_true rfl) rfl rfl ?_
  refine a_iconst (q := 3) (nI 0) dX0_edgeAt_2 (by decide) rfl ?_
  refine a_istore (q := 5) dX0_edgeAt_3 (Nat.le_of_ble_eq_true rfl) rfl rfl ?_
  exact l_edgeAt v x _ he hv hs _ 0 0 rfl (Nat.zero_le _) (Nat.le_refl _) ⟨rfl, rfl, rfl, rfl⟩
/-- the graph takes the edges of another, from k on -/
def beF (D : Gr) : Nat → Nat → Gr → Gr
  | 0, _, G => G
  | m + 1, k, G => beF D m (k + 1) (gadd G (D.2.2.1 k) (D.2.2.2.1 k))
theorem l_become (P : ps_T) (hd : R.1.2.1 ≤ 24) : ∀ (m k : Nat) (G : Gr), R.1.2.1 - k = m → k ≤ R.1.2.1 → G.2.1 = k → P none 0 (CA g (beF R.1 m k G) T R S K E Q V an) B → AW g mX0_become 0 0 P noX 0 0 10 [some (.ref (g.1 + 1)), some (.ref (g.1 + 8)), some (.int (nI k))] [] 0 (CA g G T R S K E Q V an) B := by
  intro m
  induction m with
  | zero =>
    intro k G hm hk hg hp
    refine a_iload_n (q := 11) dX0_become_10 rfl rfl rfl ?_
    refine a_aload_n (q := 12) dX0_become_11 rfl rfl rfl ?_
    refine a_getA (q := 15) dX0_become_12 fX0_15 rfl rfl rfl ?_
    refine a_icmp_geN (q := 18) 41 dX0_become_15 (by decide) (by omega) (by omega) rfl (fun c15 => ?_) (fun c15 => ?_)
    · skip
      exact a_ret dX0_become_41 rfl (Nat.le_of_ble_eq_true rfl) (Nat.le_of_ble_eq_true rfl) (hp)
    · omega
  | succ m ih =>
    intro k G hm hk hg hp
    refine a_iload_n (q := 11) dX0_become_10 rfl rfl rfl ?_
    refine a_aload_n (q := 12) dX0_become_11 rfl rfl rfl ?_
    refine a_getA (q := 15) dX0_become_12 fX0_15 rfl rfl rfl ?_
    refine a_icmp_geN (q := 18) 41 dX0_become_15 (by decide) (by omega) (by omega) rfl (fun c15 => ?_) (fun c15 => ?_)
    · omega
    · skip
      refine a_aload_n (q := 19) dX0_become_18 rfl rfl rfl ?_
      refine a_aload_n (q := 20) dX0_become_19 rfl rfl rfl ?_
      refine a_getA (q := 23) dX0_become_20 fX0_18 rfl rfl rfl ?_
      refine a_iload_n (q := 24) dX0_become_23 rfl rfl rfl ?_
      refine a_ialdAN (q := 25) dX0_become_24 rfl (by omega) (by decide) rfl ?_
      refine a_aload_n (q := 26) dX0_become_25 rfl rfl rfl ?_
      refine a_getA (q := 29) dX0_become_26 fX0_22 rfl rfl rfl ?_
      refine a_iload_n (q := 30) dX0_become_29 rfl rfl rfl ?_
      refine a_ialdAN (q := 31) dX0_become_30 rfl (by omega) (by decide) rfl ?_
      refine a_cVAv (q := 34) _ dX0_become_31 kX0_44 (c_addG _ _ (by omega)) rfl rfl rfl (Nat.le_of_ble_eq_true rfl) ⟨(Nat.le_of_ble_eq_true rfl), (Nat.le_of_ble_eq_true rfl)⟩ ⟨(Nat.le_of_ble_eq_true rfl), (Nat.le_of_ble_eq_true rfl)⟩ rfl ?_
      refine a_pop (q := 35) dX0_become_34 rfl rfl ?_
      refine a_iincN (q := 38) (c := 1) dX0_become_35 rfl (by decide) rfl rfl ?_
      refine a_goto 10 dX0_become_38 (by decide) ?_
      exact ih (k + 1) _ (by omega) (by omega) (by show G.2.1 + 1 = k + 1; omega) hp
theorem c_become (hd : R.1.2.1 ≤ 24) : Ct g mX0_become [.ref (g.1 + 1), .ref (g.1 + 8)] 0 (CA g G T R S K E Q V an) B 0 0 (rP none (CA g (beF R.1 R.1.2.1 0 (R.1.1, 0, G.2.2)) T R S K E Q V an) B) noX := by
  refine Ct.of [some (.ref (g.1 + 1)), some (.ref (g.1 + 8)), none] (by decide) rfl (Nat.le_of_ble_eq_true rfl) rfl ?_
  refine a_aload_n (q := 1) dX0_become_0 rfl rfl rfl ?_
  refine a_aload_n (q := 2) dX0_become_1 rfl rfl rfl ?_
  refine a_getA (q := 5) dX0_become_2 fX0_9 rfl rfl rfl ?_
  refine a_cVA0 (q := 8) _ dX0_become_5 kX0_40 (c_resetG _) rfl rfl rfl (Nat.le_of_ble_eq_true rfl) ⟨(Nat.le_of_ble_eq_true rfl), (Nat.le_of_ble_eq_true rfl)⟩ ⟨(Nat.le_of_ble_eq_true rfl), (Nat.le_of_ble_eq_true rfl)⟩ rfl ?_
  refine a_iconst (q := 9) (nI 0) dX0_become_8 (by decide) rfl ?_
  refine a_istore_n (q := 10) dX0_become_9 rfl (Nat.le_of_ble_eq_true rfl) rfl rfl ?_
  exact l_become _ hd _ 0 _ rfl (Nat.zero_le _) rfl ⟨rfl, rfl, rfl, rfl⟩
theorem c_tFull (ht : T.1 ≤ 60) : Ct g mX5_isFull [.ref (g.1 + 5)] 0 (CA g G T R S K E Q V an) B 0 0 (rP (some (.int (b2 (decide (60 ≤ T.1))))) (CA g G T R S K E Q V an) B) noX := by
  refine Ct.of [some (.ref (g.1 + 5))] (by decide) rfl (Nat.le_of_ble_eq_true rfl) rfl ?_
  refine a_aload_n (q := 1) dX5_isFull_0 rfl rfl rfl ?_
  refine a_getA (q := 4) dX5_isFull_1 fX5_15 rfl rfl rfl ?_
  refine a_bipush (q := 6) (nI 60) dX5_isFull_4 (by decide) rfl ?_
  refine a_icmp_ltN (q := 9) 13 dX5_isFull_6 (by decide) (by omega) (by omega) rfl (fun c6 => ?_) (fun c6 => ?_)
  · skip
    refine a_iconst (q := 14) (b2 false) dX5_isFull_13 (by decide) rfl ?_
    exact a_iret dX5_isFull_14 rfl (b2_narrow _) (Nat.le_of_ble_eq_true rfl) (Nat.le_of_ble_eq_true rfl) (⟨by rw [show decide (60 ≤ T.1) = _ from by first | exact decide_eq_true c6 | exact decide_eq_false (by omega)], rfl, rfl, rfl⟩)
  · skip
    refine a_iconst (q := 10) (b2 true) dX5_isFull_9 (by decide) rfl ?_
    refine a_goto 14 dX5_isFull_10 (by decide) ?_
    exact a_iret dX5_isFull_14 rfl (b2_narrow _) (Nat.le_of_ble_eq_true rfl) (Nat.le_of_ble_eq_true rfl) (⟨by rw [show decide (60 ≤ T.1) = _ from by first | exact decide_eq_true c6 | exact decide_eq_false (by omega)], rfl, rfl, rfl⟩)
def tadd (T : Tx) (c : Nat) : Tx := (T.1 + 1, va_up T.2 T.1 c)
theorem c_tAdd (c : Nat) (ht : T.1 < 60) : Ct g mX5_add [.ref (g.1 + 5), .int (nI c)] 0 (CA g G T R S K E Q V an) B 0 0 (rP none (CA g G (tadd T c) R S K E Q V an) B) noX := by
  refine Ct.of [some (.ref (g.1 + 5)), some (.int (nI c))] (by decide) rfl (Nat.le_of_ble_eq_true rfl) rfl ?_
  refine a_aload_n (q := 1) dX5_add_0 rfl rfl rfl ?_
  refine a_getA (q := 4) dX5_add_1 fX5_9 rfl rfl rfl ?_
  refine a_aload_n (q := 5) dX5_add_4 rfl rfl rfl ?_
  refine a_getA (q := 8) dX5_add_5 fX5_15 rfl rfl rfl ?_
  refine a_iload_n (q := 9) dX5_add_8 rfl rfl rfl ?_
  refine a_iastAN (q := 10) dX5_add_9 rfl (by omega) (by decide) rfl ?_
  refine a_aload_n (q := 11) dX5_add_10 rfl rfl rfl ?_
  refine a_dup (q := 12) dX5_add_11 rfl rfl ?_
  refine a_getA (q := 15) dX5_add_12 fX5_15 rfl rfl rfl ?_
  refine a_iconst (q := 16) (nI 1) dX5_add_15 (by decide) rfl ?_
  refine a_iaddN (q := 17) dX5_add_16 rfl ?_
  refine a_putA (q := 20) dX5_add_17 fX5_15 (fun h => nomatch h) rfl (Nat.le_of_ble_eq_true rfl) rfl rfl rfl ?_
  exact a_ret dX5_add_20 rfl (Nat.le_of_ble_eq_true rfl) (Nat.le_of_ble_eq_true rfl) (⟨rfl, rfl, rfl, rfl⟩)
theorem c_tNode (k : Nat) (hk : k < 60) : Ct g mX5_nodeAt [.ref (g.1 + 5), .int (nI k)] 0 (CA g G T R S K E Q V an) B 0 0 (rP (some (.int (nI (T.2 k) - nI 97))) (CA g G T R S K E Q V an) B) noX := by
  refine Ct.of [some (.ref (g.1 + 5)), some (.int (nI k))] (by decide) rfl (Nat.le_of_ble_eq_true rfl) rfl ?_
  refine a_aload_n (q := 1) dX5_nodeAt_0 rfl rfl rfl ?_
  refine a_getA (q := 4) dX5_nodeAt_1 fX5_9 rfl rfl rfl ?_
  refine a_iload_n (q := 5) dX5_nodeAt_4 rfl rfl rfl ?_
  refine a_ialdAN (q := 6) dX5_nodeAt_5 rfl (by omega) (by decide) rfl ?_
  refine a_bipush (q := 8) (nI 97) dX5_nodeAt_6 (by decide) rfl ?_
  refine a_isub (q := 9) dX5_nodeAt_8 rfl ?_
  exact a_iret dX5_nodeAt_9 rfl rfl (Nat.le_of_ble_eq_true rfl) (Nat.le_of_ble_eq_true rfl) (⟨rfl, rfl, rfl, rfl⟩)
/-- no walk, no counts -/
def noW : Wk := (-1, nI 0, fun _ => 0, 0)
theorem l_forget (P : ps_T) : ∀ (m k : Nat) (f : Nat → Nat), 200 - k = m → k ≤ 200 → (∀ i, i < k → f i = 0) → P none 0 (CA g G T R S K E Q noW an) B → AW g mX7_forget 0 0 P noX 0 0 17 [some (.ref (g.1 + 32)), some (.int (nI k))] [] 0 (CA g G T R S K E Q (-1, nI 0, f, 0) an) B := by
  intro m
  induction m with
  | zero =>
    intro k f hm hk hf hp
    refine a_swapA 33 (aN g 200 (fun _ => 0)) rfl (ceq_n (fun i hi => hf i (by omega))) ?_
    refine a_iload_n (q := 18) dX7_forget_17 rfl rfl rfl ?_
    refine a_sipush (q := 21) (nI 200) dX7_forget_18 (by decide) rfl ?_
    refine a_icmp_geN (q := 24) 37 dX7_forget_21 (by decide) (by omega) (by omega) rfl (fun c21 => ?_) (fun c21 => ?_)
    · skip
      exact a_ret dX7_forget_37 rfl (Nat.le_of_ble_eq_true rfl) (Nat.le_of_ble_eq_true rfl) (hp)
    · omega
  | succ m ih =>
    intro k f hm hk hf hp
    refine a_iload_n (q := 18) dX7_forget_17 rfl rfl rfl ?_
    refine a_sipush (q := 21) (nI 200) dX7_forget_18 (by decide) rfl ?_
    refine a_icmp_geN (q := 24) 37 dX7_forget_21 (by decide) (by omega) (by omega) rfl (fun c21 => ?_) (fun c21 => ?_)
    · omega
    · skip
      refine a_aload_n (q := 25) dX7_forget_24 rfl rfl rfl ?_
      refine a_getA (q := 28) dX7_forget_25 fX7_18 rfl rfl rfl ?_
      refine a_iload_n (q := 29) dX7_forget_28 rfl rfl rfl ?_
      refine a_iconst (q := 30) (nI 0) dX7_forget_29 (by decide) rfl ?_
      refine a_iastAN (q := 31) dX7_forget_30 rfl (by omega) (by decide) rfl ?_
      refine a_iincN (q := 34) (c := 1) dX7_forget_31 rfl (by decide) rfl rfl ?_
      refine a_goto 17 dX7_forget_34 (by decide) ?_
      exact ih (k + 1) (va_up f k 0) (by omega) (by omega) (fun i hi => by unfold va_up; split; rfl; exact hf i (by omega)) hp
theorem c_forget : Ct g mX7_forget [.ref (g.1 + 32)] 0 (CA g G T R S K E Q V an) B 0 0 (rP none (CA g G T R S K E Q noW an) B) noX := by
  refine Ct.of [some (.ref (g.1 + 32)), none] (by decide) rfl (Nat.le_of_ble_eq_true rfl) rfl ?_
  refine a_aload_n (q := 1) dX7_forget_0 rfl rfl rfl ?_
  refine a_iconst (q := 2) (-1) dX7_forget_1 (by decide) rfl ?_
  refine a_putA (q := 5) dX7_forget_2 fX7_9 (fun h => nomatch h) rfl (Nat.le_of_ble_eq_true rfl) rfl rfl rfl ?_
  refine a_aload_n (q := 6) dX7_forget_5 rfl rfl rfl ?_
  refine a_iconst (q := 7) (nI 0) dX7_forget_6 (by decide) rfl ?_
  refine a_putA (q := 10) dX7_forget_7 fX7_15 (fun h => nomatch h) rfl (Nat.le_of_ble_eq_true rfl) rfl rfl rfl ?_
  refine a_aload_n (q := 11) dX7_forget_10 rfl rfl rfl ?_
  refine a_iconst (q := 12) (nI 0) dX7_forget_11 (by decide) rfl ?_
  refine a_putA (q := 15) dX7_forget_12 fX7_22 (fun h => nomatch h) rfl (Nat.le_of_ble_eq_true rfl) rfl rfl rfl ?_
  refine a_iconst (q := 16) (nI 0) dX7_forget_15 (by decide) rfl ?_
  refine a_istore_n (q := 17) dX7_forget_16 rfl (Nat.le_of_ble_eq_true rfl) rfl rfl ?_
  exact l_forget _ _ 0 _ rfl (Nat.zero_le _) (fun i hi => absurd hi (Nat.not_lt_zero i)) ⟨rfl, rfl, rfl, rfl⟩
theorem c_begin : Ct g mX7_begin [.ref (g.1 + 32)] 0 (CA g G T R S K E Q V an) B 0 0 (rP none (CA g G T R S K E Q (nI 0, nI 0, V.2.2) an) B) noX := by
  refine Ct.of [some (.ref (g.1 + 32))] (by decide) rfl (Nat.le_of_ble_eq_true rfl) rfl ?_
  refine a_aload_n (q := 1) dX7_begin_0 rfl rfl rfl ?_
  refine a_iconst (q := 2) (nI 0) dX7_begin_1 (by decide) rfl ?_
  refine a_putA (q := 5) dX7_begin_2 fX7_9 (fun h => nomatch h) rfl (Nat.le_of_ble_eq_true rfl) rfl rfl rfl ?_
  refine a_aload_n (q := 6) dX7_begin_5 rfl rfl rfl ?_
  refine a_iconst (q := 7) (nI 0) dX7_begin_6 (by decide) rfl ?_
  refine a_putA (q := 10) dX7_begin_7 fX7_15 (fun h => nomatch h) rfl (Nat.le_of_ble_eq_true rfl) rfl rfl rfl ?_
  exact a_ret dX7_begin_10 rfl (Nat.le_of_ble_eq_true rfl) (Nat.le_of_ble_eq_true rfl) (⟨rfl, rfl, rfl, rfl⟩)
theorem c_countPath (v : Int32) (k t : Nat) (f : Nat → Nat) (hk : k < 200) : Ct g mX7_countPath [.ref (g.1 + 32)] 0 (CA g G T R S K E Q (v, nI k, f, t) an) B 0 0 (rP none (CA g G T R S K E Q (v, nI k, va_up f k (f k + 1), t + 1) an) B) noX := by
  refine Ct.of [some (.ref (g.1 + 32))] (by decide) rfl (Nat.le_of_ble_eq_true rfl) rfl ?_
  refine a_aload_n (q := 1) dX7_countPath_0 rfl rfl rfl ?_
  refine a_getA (q := 4) dX7_countPath_1 fX7_15 rfl rfl rfl ?_
  refine a_if_ltN (q := 7) 40 dX7_countPath_4 (by decide) (by omega) rfl ?_
  refine a_aload_n (q := 8) dX7_countPath_7 rfl rfl rfl ?_
  refine a_getA (q := 11) dX7_countPath_8 fX7_15 rfl rfl rfl ?_
  refine a_sipush (q := 14) (nI 200) dX7_countPath_11 (by decide) rfl ?_
  refine a_icmp_geN (q := 17) 40 dX7_countPath_14 (by decide) (by omega) (by omega) rfl (fun c14 => ?_) (fun c14 => ?_)
  · omega
  · skip
    refine a_aload_n (q := 18) dX7_countPath_17 rfl rfl rfl ?_
    refine a_getA (q := 21) dX7_countPath_18 fX7_18 rfl rfl rfl ?_
    refine a_aload_n (q := 22) dX7_countPath_21 rfl rfl rfl ?_
    refine a_getA (q := 25) dX7_countPath_22 fX7_15 rfl rfl rfl ?_
    refine a_dup2 (q := 26) dX7_countPath_25 rfl rfl rfl ?_
    refine a_ialdAN (q := 27) dX7_countPath_26 rfl (by omega) (by decide) rfl ?_
    refine a_iconst (q := 28) (nI 1) dX7_countPath_27 (by decide) rfl ?_
    refine a_iaddN (q := 29) dX7_countPath_28 rfl ?_
    refine a_iastAN (q := 30) dX7_countPath_29 rfl (by omega) (by decide) rfl ?_
    refine a_aload_n (q := 31) dX7_countPath_30 rfl rfl rfl ?_
    refine a_dup (q := 32) dX7_countPath_31 rfl rfl ?_
    refine a_getA (q := 35) dX7_countPath_32 fX7_22 rfl rfl rfl ?_
    refine a_iconst (q := 36) (nI 1) dX7_countPath_35 (by decide) rfl ?_
    refine a_iaddN (q := 37) dX7_countPath_36 rfl ?_
    refine a_putA (q := 40) dX7_countPath_37 fX7_22 (fun h => nomatch h) rfl (Nat.le_of_ble_eq_true rfl) rfl rfl rfl ?_
    exact a_ret dX7_countPath_40 rfl (Nat.le_of_ble_eq_true rfl) (Nat.le_of_ble_eq_true rfl) (⟨rfl, rfl, rfl, rfl⟩)
/-- the path with the greatest count: best and most, from k on -/
def mcF (f : Nat → Nat) : Nat → Nat → Int32 → Nat → Int32
  | 0, _, b, _ => b
  | m + 1, k, b, x => if f k ≤ x then mcF f m (k + 1) b x else mcF f m (k + 1) (nI k) (f k)
theorem l_most (P : ps_T) (hf : ∀ i, i < 200 → V.2.2.1 i < big) : ∀ (m k : Nat) (b : Int32) (x : Nat), 200 - k = m → k ≤ 200 → x < big → P (some (.int (mcF V.2.2.1 m k b x))) 0 (CA g G T R S K E Q V an) B → AW g mX7_mostCounted 0 0 P noX 0 0 6 [some (.ref (g.1 + 32)), some (.int b), some (.int (nI x)), some (.int (nI k))] [] 0 (CA g G T R S K E Q V an) B := by
  intro m
  unfold big at *
  induction m with
  | zero =>
    intro k b x hm hk hx hp
    refine a_iload_n (q := 7) dX7_mostCounted_6 rfl rfl rfl ?_
    refine a_sipush (q := 10) (nI 200) dX7_mostCounted_7 (by decide) rfl ?_
    refine a_icmp_geN (q := 13) 38 dX7_mostCounted_10 (by decide) (by omega) (by omega) rfl (fun c10 => ?_) (fun c10 => ?_)
    · skip
      refine a_iload_n (q := 39) dX7_mostCounted_38 rfl rfl rfl ?_
      exact a_iret dX7_mostCounted_39 rfl rfl (Nat.le_of_ble_eq_true rfl) (Nat.le_of_ble_eq_true rfl) (hp)
    · omega
  | succ m ih =>
    intro k b x hm hk hx hp
    have h9 := hf k (by omega)
    refine a_iload_n (q := 7) dX7_mostCounted_6 rfl rfl rfl ?_
    refine a_sipush (q := 10) (nI 200) dX7_mostCounted_7 (by decide) rfl ?_
    refine a_icmp_geN (q := 13) 38 dX7_mostCounted_10 (by decide) (by omega) (by omega) rfl (fun c10 => ?_) (fun c10 => ?_)
    · omega
    · skip
      refine a_aload_n (q := 14) dX7_mostCounted_13 rfl rfl rfl ?_
      refine a_getA (q := 17) dX7_mostCounted_14 fX7_18 rfl rfl rfl ?_
      refine a_iload_n (q := 18) dX7_mostCounted_17 rfl rfl rfl ?_
      refine a_ialdAN (q := 19) dX7_mostCounted_18 rfl (by omega) (by decide) rfl ?_
      refine a_iload_n (q := 20) dX7_mostCounted_19 rfl rfl rfl ?_
      refine a_icmp_leN (q := 23) 32 dX7_mostCounted_20 (by decide) (by omega) (by omega) rfl (fun c20 => ?_) (fun c20 => ?_)
      · rw [mcF, if_pos c20] at hp
        refine a_iincN (q := 35) (c := 1) dX7_mostCounted_32 rfl (by decide) rfl rfl ?_
        refine a_goto 6 dX7_mostCounted_35 (by decide) ?_
        exact ih _ _ _ (by omega) (by omega) (by omega) hp
      · rw [mcF, if_neg (by omega)] at hp
        refine a_aload_n (q := 24) dX7_mostCounted_23 rfl rfl rfl ?_
        refine a_getA (q := 27) dX7_mostCounted_24 fX7_18 rfl rfl rfl ?_
        refine a_iload_n (q := 28) dX7_mostCounted_27 rfl rfl rfl ?_
        refine a_ialdAN (q := 29) dX7_mostCounted_28 rfl (by omega) (by decide) rfl ?_
        refine a_istore_n (q := 30) dX7_mostCounted_29 rfl (Nat.le_of_ble_eq_true rfl) rfl rfl ?_
        refine a_iload_n (q := 31) dX7_mostCounted_30 rfl rfl rfl ?_
        refine a_istore_n (q := 32) dX7_mostCounted_31 rfl (Nat.le_of_ble_eq_true rfl) rfl rfl ?_
        refine a_iincN (q := 35) (c := 1) dX7_mostCounted_32 rfl (by decide) rfl rfl ?_
        refine a_goto 6 dX7_mostCounted_35 (by decide) ?_
        exact ih _ _ _ (by omega) (by omega) (by omega) hp
theorem c_most (hf : ∀ i, i < 200 → V.2.2.1 i < big) : Ct g mX7_mostCounted [.ref (g.1 + 32)] 0 (CA g G T R S K E Q V an) B 0 0 (rP (some (.int (mcF V.2.2.1 200 0 (-1) 0))) (CA g G T R S K E Q V an) B) noX := by
  refine Ct.of [some (.ref (g.1 + 32)), none, none, none] (by decide) rfl (Nat.le_of_ble_eq_true rfl) rfl ?_
  refine a_iconst (q := 1) (-1) dX7_mostCounted_0 (by decide) rfl ?_
  refine a_istore_n (q := 2) dX7_mostCounted_1 rfl (Nat.le_of_ble_eq_true rfl) rfl rfl ?_
  refine a_iconst (q := 3) (nI 0) dX7_mostCounted_2 (by decide) rfl ?_
  refine a_istore_n (q := 4) dX7_mostCounted_3 rfl (Nat.le_of_ble_eq_true rfl) rfl rfl ?_
  refine a_iconst (q := 5) (nI 0) dX7_mostCounted_4 (by decide) rfl ?_
  refine a_istore_n (q := 6) dX7_mostCounted_5 rfl (Nat.le_of_ble_eq_true rfl) rfl rfl ?_
  exact l_most _ hf _ 0 _ 0 rfl (Nat.zero_le _) (by decide) ⟨rfl, rfl, rfl, rfl⟩
end Graph2

