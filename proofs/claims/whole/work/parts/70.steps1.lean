/-! ===== each call keeps the two alike: the graph, the text ===== -/
section Steps1
variable {g : gp_T} {G : Gr} {T : Tx} {R : Rd} {S : Se} {K : Lk} {E : Tr} {Q : Pa} {V : Wk} {th : Nat} {Y : Ya} {W : Wa} {D : Ra} {Z : Za} {U : Ua} {L : La} {h : Int64} {O : Oa} {n j kc ns : Nat}
theorem s_setNodes (hr : Rl n G T S K E V Y W) (hb : lwB g n j kc ns) : lwA g j kc ns 168 (CA g G T R S K E Q V Y.1) (BM g G T th Y W D Z U L h O) := by
  obtain ⟨b1, b2, b3, b4, b5, nx⟩ := hb
  intro L6 L7 L8
  cases hw : wi (g.2.2.2.2.2.2 (3 * j + 1)) (nI 2) (nI 12) with
  | true =>
    obtain ⟨m, m1, m2, hx⟩ := wi_n (by omega) hw (by omega)
    have hM := m_setNodes (g := g) (A := CA g (m, 0, G.2.2) T R S K E Q noW false) (G := G) (T := T) (th := th) (Y := Y) (W := W) (R := D) (Z := Z) (U := U) (L := L) (h := h) (O := O) (g.2.2.2.2.2.2 (3 * j + 1)) m (fun _ => hx)
    rw [if_pos hw] at hM
    refine q_setNodes b1 b2 b3 b4 (k := 0) (by decide) (h_setNodes _ rfl (by rw [hx]; exact c_setNodes m ⟨m1, m2⟩)) hM.toM ?_ L6 L7 L8
    rintro _ _ _ _ R9 Z9 U9 L9 h9 ⟨rfl, rfl, rfl, rfl⟩
    exact nx _ _ (LI.mk R Q (by rfl) (Rl.reset (by rfl) ⟨gok_set m1 m2, hr.1.2⟩ hr.2.1))
  | false =>
    have hM := m_setNodes (g := g) (A := CA g G T R S K E Q V Y.1) (G := G) (T := T) (th := th) (Y := Y) (W := W) (R := D) (Z := Z) (U := U) (L := L) (h := h) (O := O) (g.2.2.2.2.2.2 (3 * j + 1)) 0 (fun e => by rw [hw] at e; cases e)
    rw [if_neg (by rw [hw]; decide)] at hM
    refine q_setNodes b1 b2 b3 b4 (k := 1) (by decide) (hx_setNodes1 _ rfl (x_setNodes _ (wi_f hw))) hM.toM ?_ L6 L7 L8
    rintro _ _ _ _ R9 Z9 U9 L9 h9 ⟨rfl, rfl, rfl, rfl⟩
    exact nx _ _ (LI.mk R Q (by rfl) hr.succ)
theorem s_addEdge (hr : Rl n G T S K E V Y W) (hb : lwB g n j kc ns) : lwA g j kc ns 204 (CA g G T R S K E Q V Y.1) (BM g G T th Y W D Z U L h O) := by
  obtain ⟨b1, b2, b3, b4, b5, nx⟩ := hb
  have hg := hr.1.1
  obtain ⟨g1, g2, g3, g4, g5⟩ := id hg
  intro L6 L7 L8
  cases hw : alw G (g.2.2.2.2.2.2 (3 * j + 1)) (g.2.2.2.2.2.2 (3 * j + 2)) with
  | true =>
    rcases Nat.lt_or_ge G.2.1 24 with he | he
    · obtain ⟨a, b, a1, a2, c1, c2, c3, c4⟩ := alw_n hg hw
      rw [a1, a2] at hw
      refine q_addEdge (nI G.2.1) b1 b2 b3 b4 (k := 0) (by decide) (h_addEdge _ _ (nI G.2.1) rfl (by rw [a1, a2]; exact c_addEdge a b (by omega) hw he)) (by rw [a1, a2]; exact (m_addEdge0 a b hg hw he).toM) (fun _ => oJ_at _ _) ?_ L6 L7 L8
      rintro _ _ _ _ R9 Z9 U9 L9 h9 ⟨rfl, rfl, rfl, rfl⟩
      exact nx _ _ (LI.mk R Q (by rfl) (Rl.reset (by rfl) ⟨gok_add hg he c1 c2 c3 c4, wts_add hr.1.2⟩ hr.2.1))
    · refine q_addEdge (nI 0) b1 b2 b3 b4 (k := 2) (by decide) (hx_addEdge2 _ _ rfl (x_addEdge2 _ _ (by omega) (by omega) hw)) (m_addEdge2 _ _ hg hw (by omega)).toM (fun e => nomatch e) ?_ L6 L7 L8
      rintro _ _ _ _ R9 Z9 U9 L9 h9 ⟨rfl, rfl, rfl, rfl⟩
      exact nx _ _ (LI.mk R Q (by rfl) hr.succ)
  | false =>
    refine q_addEdge (nI 0) b1 b2 b3 b4 (k := 1) (by decide) (hx_addEdge1 _ _ rfl (x_addEdge1 _ _ (by omega) (by omega) hw)) (m_addEdge1 _ _ hg hw).toM (fun e => nomatch e) ?_ L6 L7 L8
    rintro _ _ _ _ R9 Z9 U9 L9 h9 ⟨rfl, rfl, rfl, rfl⟩
    exact nx _ _ (LI.mk R Q (by rfl) hr.succ)
theorem s_setWeight (hr : Rl n G T S K E V Y W) (hb : lwB g n j kc ns) : lwA g j kc ns 272 (CA g G T R S K E Q V Y.1) (BM g G T th Y W D Z U L h O) := by
  obtain ⟨b1, b2, b3, b4, b5, nx⟩ := hb
  have hg := hr.1.1
  obtain ⟨g1, g2, g3, g4, g5⟩ := id hg
  intro L6 L7 L8
  cases hi : inR (g.2.2.2.2.2.2 (3 * j + 1)) G.2.1 with
  | true =>
    cases hw : wi (g.2.2.2.2.2.2 (3 * j + 2)) (nI 0) (nI 99) with
    | true =>
      obtain ⟨m, m1, m2, hx⟩ := wi_n (by omega) hw (by omega)
      obtain ⟨k, k1, k2⟩ := inR_true hi (by show _ < 2147483648; omega)
      refine q_setWeight (nI (G.2.2.2.2 k)) b1 b2 b3 b4 (k := 0) (by decide) (h_setWeight _ _ (nI (G.2.2.2.2 k)) rfl (by rw [hx, k2]; exact c_setWeight k m k1 g3 m2)) (by rw [hx, k2]; exact (m_setWeight0 k m g3 k1 m2).toM) (fun _ => oJ_at _ _) ?_ L6 L7 L8
      rintro _ _ _ _ R9 Z9 U9 L9 h9 ⟨rfl, rfl, rfl, rfl⟩
      refine nx _ _ (LI.mk R Q (by rfl) (Rl.reset (by rfl) ⟨⟨g1, g2, g3, fun i hi => ?_, g5⟩, fun i hi => ?_⟩ hr.2.1))
      · obtain ⟨d1, d2, d3, d4⟩ := g4 i hi
        refine ⟨d1, d2, d3, ?_⟩
        show va_up G.2.2.2.2 k m i ≤ 99
        by_cases e : i = k
        · rw [e, va_same]; exact m2
        · rw [va_other e]; exact d4
      · show va_up G.2.2.2.2 k m i ≤ 99
        by_cases e : i = k
        · rw [e, va_same]; exact m2
        · rw [va_other e]; exact hr.1.2 i hi
    | false =>
      have hx : g.2.2.2.2.2.2 (3 * j + 2) < 0 ∨ nI 99 < g.2.2.2.2.2.2 (3 * j + 2) := wi_f hw
      refine q_setWeight (nI 0) b1 b2 b3 b4 (k := 2) (by decide) (hx_setWeight2 _ _ rfl (x_setWeight2 _ _ hi hx)) (m_setWeight2 _ _ g3 hi hx).toM (fun e => nomatch e) ?_ L6 L7 L8
      rintro _ _ _ _ R9 Z9 U9 L9 h9 ⟨rfl, rfl, rfl, rfl⟩
      exact nx _ _ (LI.mk R Q (by rfl) hr.succ)
  | false =>
    refine q_setWeight (nI 0) b1 b2 b3 b4 (k := 1) (by decide) (hx_setWeight1 _ _ rfl (x_setWeight1 _ _ hi)) (m_setWeight1 _ _ g3 hi).toM (fun e => nomatch e) ?_ L6 L7 L8
    rintro _ _ _ _ R9 Z9 U9 L9 h9 ⟨rfl, rfl, rfl, rfl⟩
    exact nx _ _ (LI.mk R Q (by rfl) hr.succ)
theorem s_edgeCount (hr : Rl n G T S K E V Y W) (hb : lwB g n j kc ns) : lwA g j kc ns 340 (CA g G T R S K E Q V Y.1) (BM g G T th Y W D Z U L h O) := by
  obtain ⟨b1, b2, b3, b4, b5, nx⟩ := hb
  intro L6 L7 L8
  refine q_edgeCount (nI G.2.1) rfl (by omega) (by omega) c_edgeCount.toC (fun A1 e => by subst e; exact m_edgeCount.toM) ?_ L6 L7 L8
  rintro _ _ _ _ _ R9 Z9 U9 L9 h9 rfl ⟨rfl, rfl, rfl, rfl⟩
  exact (nx _ _ (LI.mk R Q (by rfl) hr.succ)).less
theorem s_append (hr : Rl n G T S K E V Y W) (hb : lwB g n j kc ns) : lwA g j kc ns 353 (CA g G T R S K E Q V Y.1) (BM g G T th Y W D Z U L h O) := by
  obtain ⟨b1, b2, b3, b4, b5, nx⟩ := hb
  obtain ⟨t1, t2⟩ := hr.2.1
  intro L6 L7 L8
  cases hw : wi (g.2.2.2.2.2.2 (3 * j + 1)) (nI 32) (nI 126) with
  | true =>
    rcases Nat.lt_or_ge T.1 60 with he | he
    · obtain ⟨c, m1, m2, hx⟩ := wi_n (by omega) hw (by omega)
      refine q_append (nI (T.1 + 1)) b1 b2 b3 b4 (k := 0) (by decide) (h_append _ (nI (T.1 + 1)) rfl (by rw [hx]; exact c_append c ⟨m1, m2⟩ he)) (by rw [hx]; exact (m_append0 c ⟨m1, m2⟩ he).toM) (fun _ => oJ_at _ _) ?_ L6 L7 L8
      rintro _ _ _ _ R9 Z9 U9 L9 h9 ⟨rfl, rfl, rfl, rfl⟩
      refine nx _ _ (LI.mk R Q (by rfl) (hr.text ⟨by show T.1 + 1 ≤ 60; omega, fun i hi => ?_⟩))
      have hi : i < T.1 + 1 := hi
      show va_up T.2 T.1 c i < 127
      by_cases e : i = T.1
      · rw [e, va_same]; omega
      · rw [va_other e]; exact t2 i (by omega)
    · have hx := of_decide_eq_true hw
      refine q_append (nI 0) b1 b2 b3 b4 (k := 2) (by decide) (hx_append2 _ rfl (x_append2 _ hx (by omega))) (m_append2 _ hx (by omega)).toM (fun e => nomatch e) ?_ L6 L7 L8
      rintro _ _ _ _ R9 Z9 U9 L9 h9 ⟨rfl, rfl, rfl, rfl⟩
      exact nx _ _ (LI.mk R Q (by rfl) hr.succ)
  | false =>
    refine q_append (nI 0) b1 b2 b3 b4 (k := 1) (by decide) (hx_append1 _ rfl (x_append1 _ (wi_f hw))) (m_append1 _ (wi_f hw)).toM (fun e => nomatch e) ?_ L6 L7 L8
    rintro _ _ _ _ R9 Z9 U9 L9 h9 ⟨rfl, rfl, rfl, rfl⟩
    exact nx _ _ (LI.mk R Q (by rfl) hr.succ)
theorem s_clearInput (hr : Rl n G T S K E V Y W) (hb : lwB g n j kc ns) : lwA g j kc ns 409 (CA g G T R S K E Q V Y.1) (BM g G T th Y W D Z U L h O) := by
  obtain ⟨b1, b2, b3, b4, b5, nx⟩ := hb
  intro L6 L7 L8
  refine q_clearInput (nI T.1) rfl (by omega) (by omega) c_clearInput.toC (fun A1 e => by subst e; exact m_clearInput.toM) ?_ L6 L7 L8
  rintro _ _ _ _ _ R9 Z9 U9 L9 h9 rfl ⟨rfl, rfl, rfl, rfl⟩
  exact (nx _ _ (LI.mk R Q (by rfl) (hr.text ⟨Nat.zero_le _, fun i hi => absurd hi (Nat.not_lt_zero i)⟩))).less
theorem s_firstError (hr : Rl n G T S K E V Y W) (hb : lwB g n j kc ns) : lwA g j kc ns 422 (CA g G T R S K E Q V Y.1) (BM g G T th Y W D Z U L h O) := by
  obtain ⟨b1, b2, b3, b4, b5, nx⟩ := hb
  obtain ⟨t1, t2⟩ := hr.2.1
  intro L6 L7 L8
  refine q_firstError (N := fun G' T' Y' W' => G' = G ∧ T' = T ∧ Y' = Y ∧ W' = W) (nI (rd T R).1) rfl (by omega) (by omega) (c_firstError t1 t2).toC (fun A1 e => by
    refine (m_firstError R t1 t2).weak (fun v z A B q => ?_)
    obtain ⟨rfl, rfl, rfl, x, rfl⟩ := q
    exact ⟨rfl, rfl, rfl, _, _, _, _, _, _, _, _, _, rfl, rfl, rfl, rfl, rfl⟩) ?_ L6 L7 L8
  rintro _ _ _ _ _ R9 Z9 U9 L9 h9 rfl ⟨rfl, rfl, rfl, rfl⟩
  exact (nx _ _ (LI.mk _ Q (by rfl) hr.succ)).less
theorem s_load (hr : Rl n G T S K E V Y W) (hb : lwB g n j kc ns) : lwA g j kc ns 435 (CA g G T R S K E Q V Y.1) (BM g G T th Y W D Z U L h O) := by
  obtain ⟨b1, b2, b3, b4, b5, nx⟩ := hb
  obtain ⟨t1, t2⟩ := hr.2.1
  have hd := rd_gok (R := R) t1 t2
  intro L6 L7 L8
  cases hi : isGr T R with
  | true =>
    have e : rdG T R = (rd T R).2 := by
      have := of_decide_eq_true hi
      unfold rdG
      rw [if_pos ⟨this.1, this.2.1⟩]
    have hc := fun (B : List va_E) => c_load (g := g) (B := B) (G := G) (T := T) (R := R) (S := S) (K := K) (E := E) (Q := Q) (V := V) (an := Y.1) t1 t2 hi (by rw [e]; exact hd.2.2.1)
    rw [e] at hc
    refine q_load (N := fun G' T' Y' W' => G' = ldG G (rd T R).2.1 ∧ T' = (0, T.2) ∧ Y' = (false, Y.2) ∧ W' = noWa W) (nI (rd T R).2.1.2.1) b1 b2 b3 b4 (k := 0) (by decide) (h_load (nI (rd T R).2.1.2.1) rfl (hc _)) ((m_load0 R t1 t2 hi).weak (fun v z A B q => by
      obtain ⟨rfl, rfl, rfl, x, rfl⟩ := q
      exact ⟨rfl, rfl, rfl, _, _, _, _, _, _, _, _, _, rfl, rfl, rfl, rfl, rfl⟩)) (fun _ => oJ_at _ _) ?_ L6 L7 L8
    rintro _ _ _ _ R9 Z9 U9 L9 h9 ⟨rfl, rfl, rfl, rfl⟩
    exact nx _ _ (LI.mk _ Q (by rfl) (Rl.reset (by rfl) (gok_ld hd hr.1.2) ⟨Nat.zero_le _, fun i hi => absurd hi (Nat.not_lt_zero i)⟩))
  | false =>
    refine q_load (N := fun G' T' Y' W' => G' = G ∧ T' = T ∧ Y' = Y ∧ W' = W) (nI 0) b1 b2 b3 b4 (k := 1) (by decide) (hx_load1 rfl (x_load t1 t2 hi)) ((m_load1 R t1 t2 hi).weak (fun v z A B q => by
      obtain ⟨rfl, rfl, rfl, x, rfl⟩ := q
      exact ⟨rfl, rfl, rfl, _, _, _, _, _, _, _, _, _, rfl, rfl, rfl, rfl, rfl⟩)) (fun e => nomatch e) ?_ L6 L7 L8
    rintro _ _ _ _ R9 Z9 U9 L9 h9 ⟨rfl, rfl, rfl, rfl⟩
    exact nx _ _ (LI.mk _ Q (by rfl) hr.succ)
end Steps1

