/-! ===== each call keeps the two alike: a step of the walk ===== -/
section Steps5
variable {g : gp_T} {G : Gr} {T : Tx} {R : Rd} {S : Se} {K : Lk} {E : Tr} {Q : Pa} {V : Wk} {th : Nat} {Y : Ya} {W : Wa} {D : Ra} {Z : Za} {U : Ua} {L : La} {h : Int64} {O : Oa} {n j kc ns : Nat}
/-- a step that goes, along edge k -/
theorem step_ok {v k : Nat} {x reg : Int32} {cn : Nat → Nat} {V1 : Int32} (hr : Rl n G T S K E (V1, reg, cn, sm cn) Y (true, false, v, reg, cn)) (hk : k < G.2.1) (hs : G.2.2.1 k = v) (hx : eaF G.2.2.1 v x G.2.1 0 0 = nI k)
    (hM2 : ∀ (A : List va_E) (O1 : Oa), Ct g mX9_edgeAt [.ref (g.2.1 + 0), .int (nI v), .int x] 0 A (BM g G T th Y (true, false, v, reg, cn) D Z U L h O1) 0 0 (rP (some (.int (nI k))) A (BM g G T th Y (true, false, v, reg, cn) D Z U L h O1)) noX) :
    ∃ (V' : Wk) (W' : Wa), Rl (n + 1) G T S K E V' Y W' ∧ (∀ B : List va_E, Ct g mX8_step [.ref (g.1 + 0), .int x] 0 (CA g G T R S K E Q (nI v, reg, cn, sm cn) Y.1) B 0 0 (rP (some (.int (nI (G.2.2.2.1 k)))) (CA g G T R S K E Q V' Y.1) B) noX) ∧ ∀ (A : List va_E) (O1 : Oa), Ct g mX9_step [.ref (g.2.1 + 0), .int x] 0 A (BM g G T th Y (true, false, v, reg, cn) D Z U L h O1) 0 0 (rP (some (.int (nI (G.2.2.2.1 k)))) A (BM g G T 0 Y W' D Z U L h O1)) noX := by
  obtain ⟨h1, h2, ⟨v1, v2, v3, v4, v5⟩, h4, h5⟩ := hr
  have hg := h1.1
  obtain ⟨g1, g2, g3, g4, g5⟩ := id hg
  have v5 : sm cn ≤ n := v5
  obtain ⟨hc, hv, ho, np, nv, po, hL, a6, a7, hwk⟩ := h4 rfl
  have hv : v < G.1 := hv
  have hwk : wkI G np po v reg := hwk
  have hv1 : v + 1 < G.1 := by rw [← hs]; exact (g4 k hk).1
  have ht := (g4 k hk).2.2.1
  have hy := cbl_an hc
  obtain ⟨k1, k2, hbk, hq⟩ := h5 hy
  have hnp : np 0 ≤ 200 := by
    obtain ⟨z1, z2⟩ := hL.1 0 (by omega)
    exact cbl_np (by rw [← z1]; exact hc) z2
  obtain ⟨e1, e2⟩ := c2_even hq.1 hk
  have e3 := (hq.2.2.1 _ e1).2
  rw [e2] at e3
  have hbm := hq.1 k hk
  obtain ⟨w1, w2⟩ := wk_step hg hL a6 a7 hwk hk hs
  have hcu : ∀ (o : Bool) (r : Int32) (f : Nat → Nat), nI (G.2.2.2.1 k) = cuN (true, o, G.2.2.2.1 k, r, f) := fun o r f => by unfold cuN; exact (if_pos rfl).symm
  rcases hyb (S.1 k) with hb | hb
  · obtain ⟨c, c1, c2, c3⟩ := w1 hb
    have hb2 : Y.2.1 k = true := by rw [hbm]; exact hb
    have e4 : Y.2.2.2.2.1 (2 * k + 1) = E.1 (lko S.1 k false) := by
      obtain ⟨f1, f2⟩ := c2_mLo hq.1 hk false
      have f3 := (hq.2.2.1 _ f1).2
      rw [f2] at f3
      have f4 : mLo Y.2.1 k false = 2 * k + 1 := by unfold mLo; rw [if_pos ⟨hb2, rfl⟩]
      rw [f4] at f3
      exact f3
    have hw : wS (true, false, v, reg, cn) G Y k c = (true, false, G.2.2.2.1 k, E.1 (lko S.1 k false), va_up cn c (cn c + 1)) := by
      unfold wS
      rw [if_pos hb2, e4]
    have hsm := sm_inc (f := cn) (show c < 200 by omega)
    refine ⟨(nI (G.2.2.2.1 k), E.1 (lko S.1 k false), va_up cn c (cn c + 1), sm cn + 1), wS (true, false, v, reg, cn) G Y k c, ?_, fun B => ?_, fun A O1 => ?_⟩
    · rw [hw]
      have hsm2 : sm (va_up cn c (cn c + 1)) ≤ n + 1 := by rw [hsm]; omega
      have hdc : false = decide (G.2.2.2.1 k = G.1 - 1) := (decide_eq_false (by have := hbk k hb; omega)).symm
      exact ⟨h1, h2, ⟨hcu _ _ _, rfl, rfl, hsm.symm, hsm2⟩, fun _ => ⟨hc, ht, hdc, np, nv, po, hL, a6, a7, c3⟩, h5⟩
    · exact c_step v k x reg cn (sm cn) _ hg hv1 hk hx rfl (c_fwBack (nI v) reg cn (sm cn) k c hg hk hb (by omega) c2)
    · exact m_step x k c hg hk rfl rfl (fun _ => ⟨by omega, by show reg + _ = _; rw [e3]; exact c2⟩) (hM2 A O1)
  · obtain ⟨w3, w4⟩ := w2 hb
    have hb2 : ¬ Y.2.1 k = true := by rw [hbm, hb]; decide
    by_cases hX : G.2.2.2.1 k = G.1 - 1
    · obtain ⟨c, c1, c2⟩ := w4 hX
      have hw : wS (true, false, v, reg, cn) G Y k c = (true, true, G.2.2.2.1 k, nI c, va_up cn c (cn c + 1)) := by
        unfold wS
        rw [if_neg hb2, if_pos hX, e3]
        show (true, true, G.2.2.2.1 k, reg + E.1 (lko S.1 k true), va_up cn c (cn c + 1)) = _
        rw [c2]
      have hsm := sm_inc (f := cn) (show c < 200 by omega)
      refine ⟨(nI (G.2.2.2.1 k), nI c, va_up cn c (cn c + 1), sm cn + 1), wS (true, false, v, reg, cn) G Y k c, ?_, fun B => ?_, fun A O1 => ?_⟩
      · rw [hw]
        have hsm2 : sm (va_up cn c (cn c + 1)) ≤ n + 1 := by rw [hsm]; omega
        have hdc : true = decide (G.2.2.2.1 k = G.1 - 1) := (decide_eq_true hX).symm
        rw [c2] at w3
        exact ⟨h1, h2, ⟨hcu _ _ _, rfl, rfl, hsm.symm, hsm2⟩, fun _ => ⟨hc, ht, hdc, np, nv, po, hL, a6, a7, w3⟩, h5⟩
      · exact c_step v k x reg cn (sm cn) _ hg hv1 hk hx rfl (c_fwExit (nI v) reg cn (sm cn) k c hg hk hb hX (by omega) c2)
      · exact m_step x k c hg hk rfl rfl (fun _ => ⟨by omega, by show reg + _ = _; rw [e3]; exact c2⟩) (hM2 A O1)
    · have hw : wS (true, false, v, reg, cn) G Y k 0 = (true, false, G.2.2.2.1 k, reg + E.1 (lko S.1 k true), cn) := by
        unfold wS
        rw [if_neg hb2, if_neg hX, e3]
      refine ⟨(nI (G.2.2.2.1 k), reg + E.1 (lko S.1 k true), cn, sm cn), wS (true, false, v, reg, cn) G Y k 0, ?_, fun B => ?_, fun A O1 => ?_⟩
      · rw [hw]
        have hsm2 : sm cn ≤ n + 1 := by omega
        have hsm3 : sm cn = sm cn := Eq.refl (sm cn)
        have hdc : false = decide (G.2.2.2.1 k = G.1 - 1) := (decide_eq_false hX).symm
        exact ⟨h1, h2, ⟨hcu _ _ _, rfl, rfl, hsm3, hsm2⟩, fun _ => ⟨hc, ht, hdc, np, nv, po, hL, a6, a7, w3⟩, h5⟩
      · exact c_step v k x reg cn (sm cn) _ hg hv1 hk hx rfl (c_fwOn (nI v) reg cn (sm cn) k hg hk hb hX)
      · exact m_step x k 0 hg hk rfl rfl (fun z => by
          rcases z with z | z
          · exact absurd z hb2
          · exact absurd z hX) (hM2 A O1)
theorem s_step (hr : Rl n G T S K E V Y W) (hb : lwB g n j kc ns) : lwA g j kc ns 1127 (CA g G T R S K E Q V Y.1) (BM g G T th Y W D Z U L h O) := by
  obtain ⟨b1, b2, b3, b4, b5, nx⟩ := hb
  have hg := hr.1.1
  obtain ⟨g1, g2, g3, g4, g5⟩ := id hg
  intro L6 L7 L8
  obtain ⟨V1, s, f, t⟩ := V
  obtain ⟨w1, w2, v, reg, cn⟩ := W
  have e2 : s = reg := hr.2.2.1.2.1
  have e3 : f = cn := hr.2.2.1.2.2.1
  have e4 : t = sm cn := hr.2.2.1.2.2.2.1
  have e1 : V1 = cuN (w1, w2, v, reg, cn) := hr.2.2.1.1
  subst e2; subst e3; subst e4
  have off : ((w1 && !w2) = false) → (V1 = -1 ∨ V1 = nI (G.1 - 1)) → AW g mL_law 1098 10013 lwP noX kc ns 1127 [some (.ref g.2.2.2.2.1), some (.ref (g.1 + 0)), some (.ref (g.2.1 + 0)), some (.ref (g.2.1 + 23)), some (.ref (g.2.1 + 24)), some (.int (nI (3 * j))), L6, L7, L8] [] 0 (CA g G T R S K E Q (V1, s, f, sm f) Y.1) (BM g G T th Y (w1, w2, v, s, f) D Z U L h O) := fun o1 o2 => by
    refine q_step (nI 0) b1 b2 b3 b4 (k := 1) (by decide) (hx_step1 _ rfl (x_step1 _ hg o2)) (mx_step1 _ o1).toM (fun e => nomatch e) ?_ L6 L7 L8
    rintro _ _ _ _ R9 Z9 U9 L9 h9 ⟨rfl, rfl, rfl, rfl⟩
    exact nx _ _ (LI.mk R Q (by rfl) hr.succ)
  cases w1 with
  | false => exact off rfl (Or.inl (by rw [e1]; unfold cuN; exact if_neg (fun z => nomatch z)))
  | true =>
    have e6 : V1 = nI v := by rw [e1]; unfold cuN; exact if_pos rfl
    clear e1
    obtain ⟨hc, hv, ho, hk⟩ := hr.2.2.2.1 rfl
    have hv : v < G.1 := hv
    have ho : w2 = decide (v = G.1 - 1) := ho
    cases w2 with
    | true => exact off rfl (Or.inr (e6.trans (by rw [of_decide_eq_true ho.symm])))
    | false =>
      have hv1 : v + 1 < G.1 := by have := of_decide_eq_false ho.symm; omega
      have bad : eaF G.2.2.1 v (g.2.2.2.2.2.2 (3 * j + 1)) G.2.1 0 0 = -1 → (∀ A : List va_E, Ct g mX9_edgeAt [.ref (g.2.1 + 0), .int (nI v), .int (g.2.2.2.2.2.2 (3 * j + 1))] 0 A (BM g G T th Y (true, false, v, s, f) D Z U L h O) 0 0 (rP (some (.int (-1))) A (BM g G T th Y (true, false, v, s, f) D Z U L h O)) noX) → AW g mL_law 1098 10013 lwP noX kc ns 1127 [some (.ref g.2.2.2.2.1), some (.ref (g.1 + 0)), some (.ref (g.2.1 + 0)), some (.ref (g.2.1 + 23)), some (.ref (g.2.1 + 24)), some (.int (nI (3 * j))), L6, L7, L8] [] 0 (CA g G T R S K E Q (V1, s, f, sm f) Y.1) (BM g G T th Y (true, false, v, s, f) D Z U L h O) := fun o1 o2 => by
        subst e6
        refine q_step (nI 0) b1 b2 b3 b4 (k := 2) (by decide) (hx_step2 _ rfl (x_step2 v _ s f (sm f) hg hv1 o1)) (mx_step2 _ rfl rfl (o2 _)).toM (fun e => nomatch e) ?_ L6 L7 L8
        rintro _ _ _ _ R9 Z9 U9 L9 h9 ⟨rfl, rfl, rfl, rfl⟩
        exact nx _ _ (LI.mk R Q (by rfl) hr.succ)
      by_cases hx : g.2.2.2.2.2.2 (3 * j + 1) < 0
      · exact bad (ea_neg hx _ _ _ (by omega)) (fun A => mx_edgeAt v _ hx hg)
      · obtain ⟨r, r1, r2⟩ := pos_n hx
        have he := ea_em (G := G) (v := v) (show r < 2 ^ 31 by omega) G.2.1 0 0 (Nat.zero_le _) (by omega)
        rw [Nat.sub_zero] at he
        cases hem : emF G v G.2.1 0 r with
        | none =>
          rw [hem] at he
          refine bad (by rw [r2]; exact he) (fun A => ?_)
          have hM := m_edgeAt (g := g) (A := A) (G := G) (T := T) (th := th) (Y := Y) (W := (true, false, v, s, f)) (R := D) (Z := Z) (U := U) (L := L) (h := h) (O := O) v (by omega) r (by show _ < 2147483648; omega) hg
          rw [hem] at hM
          rw [r2]
          exact hM
        | some k =>
          rw [hem] at he
          obtain ⟨k1, k2⟩ := emF_lt _ _ _ _ hem
          have hM : ∀ (A : List va_E) (O1 : Oa), Ct g mX9_edgeAt [.ref (g.2.1 + 0), .int (nI v), .int (nI r)] 0 A (BM g G T th Y (true, false, v, s, f) D Z U L h O1) 0 0 (rP (some (.int (nI k))) A (BM g G T th Y (true, false, v, s, f) D Z U L h O1)) noX := fun A O1 => by
            have hM := m_edgeAt (g := g) (A := A) (G := G) (T := T) (th := th) (Y := Y) (W := (true, false, v, s, f)) (R := D) (Z := Z) (U := U) (L := L) (h := h) (O := O1) v (by omega) r (by show _ < 2147483648; omega) hg
            rw [hem] at hM
            exact hM
          obtain ⟨V', W', hR, hC, hS⟩ := step_ok (g := g) (R := R) (Q := Q) (D := D) (Z := Z) (U := U) (L := L) (h := h) (th := th) hr (by omega) k2 he hM
          subst e6
          refine q_step (nI (G.2.2.2.1 k)) b1 b2 b3 b4 (k := 0) (by decide) (h_step _ _ rfl (by rw [r2]; exact hC _)) (by rw [r2]; exact (hS _ _).toM) (fun _ => oJ_at _ _) ?_ L6 L7 L8
          rintro _ _ _ _ R9 Z9 U9 L9 h9 ⟨rfl, rfl, rfl, rfl⟩
          exact nx _ _ (LI.mk R Q (by rfl) hR)
end Steps5

