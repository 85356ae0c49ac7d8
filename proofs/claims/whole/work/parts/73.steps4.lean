/-! ===== each call keeps the two alike: walk, counts, digest ===== -/
section Steps4
variable {g : gp_T} {G : Gr} {T : Tx} {R : Rd} {S : Se} {K : Lk} {E : Tr} {Q : Pa} {V : Wk} {th : Nat} {Y : Ya} {W : Wa} {D : Ra} {Z : Za} {U : Ua} {L : La} {h : Int64} {O : Oa} {n j kc ns : Nat}
theorem cbl_an {an : Bool} {p : Int32} (h : cbl an p = true) : an = true := by
  unfold cbl at h
  exact (Bool.and_eq_true_iff.mp h).1
theorem cbl_np {an : Bool} {np : Nat} (h : cbl an (nI np) = true) (hn : np < 2 ^ 30) : np ≤ 200 := by
  unfold cbl at h
  have h1 := of_decide_eq_true (Bool.and_eq_true_iff.mp h).2
  rw [nI_lt_iff (by omega) (by omega)] at h1
  omega
theorem s_start (hr : Rl n G T S K E V Y W) (hb : lwB g n j kc ns) : lwA g j kc ns 1103 (CA g G T R S K E Q V Y.1) (BM g G T th Y W D Z U L h O) := by
  obtain ⟨b1, b2, b3, b4, b5, nx⟩ := hb
  have hcb := hr.cb
  intro L6 L7 L8
  rcases hyb (cbl Y.1 (K.2.2.2 0)) with hc | hc
  · refine q_start b1 b2 b3 b4 (k := 0) (by decide) (h_start rfl (c_start hc)) (m_start (by rw [hcb]; exact hc)).toM ?_ L6 L7 L8
    have hR : Rl (n + 1) G T S K E (nI 0, nI 0, V.2.2) Y (true, false, 0, nI 0, W.2.2.2.2) := by
      have hy := cbl_an hc
      obtain ⟨h1, h2, ⟨v1, v2, v3, v4, v5⟩, h4, h5⟩ := hr
      have g1 := h1.1.1
      obtain ⟨-, -, -, -, -, -, -, -, np, nv, po, hL, a6, a7⟩ := h5 hy
      have hcu : nI 0 = cuN (true, false, 0, nI 0, W.2.2.2.2) := by unfold cuN; exact (if_pos rfl).symm
      have hdc : false = decide (0 = G.1 - 1) := (decide_eq_false (by omega)).symm
      exact ⟨h1, h2, ⟨hcu, rfl, v3, v4, Nat.le_succ_of_le v5⟩, fun _ => ⟨hc, by show 0 < G.1; omega, hdc, np, nv, po, hL, a6, a7, wk_0⟩, h5⟩
    rintro _ _ _ _ R9 Z9 U9 L9 h9 ⟨rfl, rfl, rfl, rfl⟩
    exact nx _ _ (LI.mk R Q (by rfl) hR)
  · refine q_start b1 b2 b3 b4 (k := 1) (by decide) (hx_start1 rfl (x_start hc)) (mx_start (by rw [hcb]; exact hc)).toM ?_ L6 L7 L8
    rintro _ _ _ _ R9 Z9 U9 L9 h9 ⟨rfl, rfl, rfl, rfl⟩
    exact nx _ _ (LI.mk R Q (by rfl) hr.succ)
theorem s_current (hr : Rl n G T S K E V Y W) (hb : lwB g n j kc ns) : lwA g j kc ns 1183 (CA g G T R S K E Q V Y.1) (BM g G T th Y W D Z U L h O) := by
  obtain ⟨b1, b2, b3, b4, b5, nx⟩ := hb
  have e := hr.2.2.1.1
  intro L6 L7 L8
  refine q_current V.1 rfl (by omega) (by omega) c_current.toC (fun A1 e1 => by subst e1; rw [e]; exact m_current.toM) ?_ L6 L7 L8
  rintro _ _ _ _ _ R9 Z9 U9 L9 h9 rfl ⟨rfl, rfl, rfl, rfl⟩
  exact (nx _ _ (LI.mk R Q (by rfl) hr.succ)).less
theorem s_register (hr : Rl n G T S K E V Y W) (hb : lwB g n j kc ns) : lwA g j kc ns 1196 (CA g G T R S K E Q V Y.1) (BM g G T th Y W D Z U L h O) := by
  obtain ⟨b1, b2, b3, b4, b5, nx⟩ := hb
  have e := hr.2.2.1.2.1
  intro L6 L7 L8
  refine q_register V.2.1 rfl (by omega) (by omega) c_register.toC (fun A1 e1 => by subst e1; rw [e]; exact m_register.toM) ?_ L6 L7 L8
  rintro _ _ _ _ _ R9 Z9 U9 L9 h9 rfl ⟨rfl, rfl, rfl, rfl⟩
  exact (nx _ _ (LI.mk R Q (by rfl) hr.succ)).less
theorem s_hottest (hr : Rl n G T S K E V Y W) (hb : lwB g n j kc ns) : lwA g j kc ns 1342 (CA g G T R S K E Q V Y.1) (BM g G T th Y W D Z U L h O) := by
  obtain ⟨b1, b2, b3, b4, b5, nx⟩ := hb
  have e := hr.2.2.1.2.2.1
  have hf := hr.cnt (by omega)
  intro L6 L7 L8
  refine q_hottest (mcF V.2.2.1 200 0 (-1) 0) rfl (by omega) (by omega) (c_hottest (by rw [e]; exact hf)).toC (fun A1 e1 => by rw [e, mc_hot]; exact (m_hottest hf).toM) ?_ L6 L7 L8
  rintro _ _ _ _ _ R9 Z9 U9 L9 h9 rfl ⟨rfl, rfl, rfl, rfl⟩
  exact (nx _ _ (LI.mk R Q (by rfl) hr.succ)).less
/-- a path's number where counts are kept -/
theorem pthC (hr : Rl n G T S K E V Y W) (hc : cbl Y.1 (K.2.2.2 0) = true) (x : Int32) : (ptk x (K.2.2.2 0) = false ∧ mPt Y.1 x (Y.2.2.1 0) = false) ∨ ∃ k, k < 200 ∧ x = nI k ∧ ptk (nI k) (K.2.2.2 0) = true ∧ mPt Y.1 (nI k) (Y.2.2.1 0) = true := by
  have hy := cbl_an hc
  obtain ⟨np, n1, n2, n3, n4⟩ := anQ_np hr.1.1 (hr.2.2.2.2 hy).2.2.2
  have e : mPt Y.1 x (Y.2.2.1 0) = ptk x (K.2.2.2 0) := by rw [hy, n3, n2, mPt_ptk n1]
  rcases hyb (ptk x (K.2.2.2 0)) with hp | hp
  · right
    have hi : inR x np = true := by rw [← ptk_inR n1, ← n2]; exact hp
    obtain ⟨r, r1, r2⟩ := inR_true hi (by show np < 2147483648; omega)
    have h200 : np ≤ 200 := cbl_np (by rw [← n2]; exact hc) n1
    exact ⟨r, by omega, r2, by rw [← r2]; exact hp, by rw [← r2, e]; exact hp⟩
  · left
    exact ⟨hp, by rw [e]; exact hp⟩
theorem s_count (hr : Rl n G T S K E V Y W) (hb : lwB g n j kc ns) : lwA g j kc ns 1209 (CA g G T R S K E Q V Y.1) (BM g G T th Y W D Z U L h O) := by
  obtain ⟨b1, b2, b3, b4, b5, nx⟩ := hb
  have hcb := hr.cb
  have ev := hr.2.2.1.2.2.1
  intro L6 L7 L8
  rcases hyb (cbl Y.1 (K.2.2.2 0)) with hc | hc
  · have hc2 : cbl Y.1 (Y.2.2.1 0) = true := by rw [hcb]; exact hc
    rcases pthC hr hc (g.2.2.2.2.2.2 (3 * j + 1)) with ⟨hp, hm⟩ | ⟨k, k1, k2, hp, hm⟩
    · have e := lk2 hc2 hm
      have hM := fun (A : List va_E) => mx_count (g := g) (A := A) (G := G) (T := T) (th := th) (Y := Y) (W := W) (R := D) (Z := Z) (U := U) (L := L) (h := h) (O := O) _ (by rw [e]; decide)
      rw [e] at hM
      refine q_count (nI 0) b1 b2 b3 b4 (k := 2) (by decide) (hx_count2 _ rfl (x_count2 _ hc hp)) (hM _).toM (fun e => nomatch e) ?_ L6 L7 L8
      rintro _ _ _ _ R9 Z9 U9 L9 h9 ⟨rfl, rfl, rfl, rfl⟩
      exact nx _ _ (LI.mk R Q (by rfl) hr.succ)
    · refine q_count (nI (V.2.2.1 k)) b1 b2 b3 b4 (k := 0) (by decide) (h_count _ _ rfl (by rw [k2]; exact c_count k hc hp k1)) (by rw [k2, ev]; exact (m_count k k1 hc2 hm).toM) (fun _ => oJ_at _ _) ?_ L6 L7 L8
      rintro _ _ _ _ R9 Z9 U9 L9 h9 ⟨rfl, rfl, rfl, rfl⟩
      exact nx _ _ (LI.mk R Q (by rfl) hr.succ)
  · have hc2 : cbl Y.1 (Y.2.2.1 0) = false := by rw [hcb]; exact hc
    have e := lk1 (ok := mPt Y.1 (g.2.2.2.2.2.2 (3 * j + 1)) (Y.2.2.1 0)) hc2
    have hM := fun (A : List va_E) => mx_count (g := g) (A := A) (G := G) (T := T) (th := th) (Y := Y) (W := W) (R := D) (Z := Z) (U := U) (L := L) (h := h) (O := O) _ (by rw [e]; decide)
    rw [e] at hM
    refine q_count (nI 0) b1 b2 b3 b4 (k := 1) (by decide) (hx_count1 _ rfl (x_count1 _ hc)) (hM _).toM (fun e => nomatch e) ?_ L6 L7 L8
    rintro _ _ _ _ R9 Z9 U9 L9 h9 ⟨rfl, rfl, rfl, rfl⟩
    exact nx _ _ (LI.mk R Q (by rfl) hr.succ)
theorem s_share (hr : Rl n G T S K E V Y W) (hb : lwB g n j kc ns) : lwA g j kc ns 1265 (CA g G T R S K E Q V Y.1) (BM g G T th Y W D Z U L h O) := by
  obtain ⟨b1, b2, b3, b4, b5, nx⟩ := hb
  have hcb := hr.cb
  obtain ⟨-, -, e3, e4, e5⟩ := hr.2.2.1
  intro L6 L7 L8
  rcases hyb (cbl Y.1 (K.2.2.2 0)) with hc | hc
  · have hc2 : cbl Y.1 (Y.2.2.1 0) = true := by rw [hcb]; exact hc
    rcases pthC hr hc (g.2.2.2.2.2.2 (3 * j + 1)) with ⟨hp, hm⟩ | ⟨k, k1, k2, hp, hm⟩
    · have e := lk2 hc2 hm
      have hM := fun (A : List va_E) => mx_share (g := g) (A := A) (G := G) (T := T) (th := th) (Y := Y) (W := W) (R := D) (Z := Z) (U := U) (L := L) (h := h) (O := O) _ (by rw [e]; decide)
      rw [e] at hM
      refine q_share FP.dconst0 b1 b2 b3 b4 (k := 2) (by decide) (hx_share2 _ rfl (x_share2 _ hc hp)) (hM _).toM (fun e => nomatch e) ?_ L6 L7 L8
      rintro _ _ _ _ R9 Z9 U9 L9 h9 ⟨rfl, rfl, rfl, rfl⟩
      exact nx _ _ (LI.mk R Q (by rfl) hr.succ)
    · have hd : sm W.2.2.2.2 ≠ 0 → vf_n64 (FP.ddiv (FP.i2d (nI (W.2.2.2.2 k))) (FP.i2d (nI (sm W.2.2.2.2)))) := fun z => sh_n64 _ _ (by rw [nI_toInt (by omega)]; omega)
      refine q_share (if sm W.2.2.2.2 = 0 then FP.dconst0 else FP.ddiv (FP.i2d (nI (W.2.2.2.2 k))) (FP.i2d (nI (sm W.2.2.2.2)))) b1 b2 b3 b4 (k := 0) (by decide) (h_share _ _ rfl (by
        have c := fun (B : List va_E) => c_share (g := g) (B := B) (G := G) (T := T) (R := R) (S := S) (E := E) (Q := Q) k hc hp k1 (by rw [e4]; show _ < 2147483648; omega) (by rw [e3, e4]; exact hd)
        rw [e3, e4] at c
        rw [k2]
        exact c _)) (by rw [k2]; exact (m_share k k1 hc2 hm (by show _ < 2147483648; omega) hd).toM) (fun _ => oD_at _ _) ?_ L6 L7 L8
      rintro _ _ _ _ R9 Z9 U9 L9 h9 ⟨rfl, rfl, rfl, rfl⟩
      exact nx _ _ (LI.mk R Q (by rfl) hr.succ)
  · have hc2 : cbl Y.1 (Y.2.2.1 0) = false := by rw [hcb]; exact hc
    have e := lk1 (ok := mPt Y.1 (g.2.2.2.2.2.2 (3 * j + 1)) (Y.2.2.1 0)) hc2
    have hM := fun (A : List va_E) => mx_share (g := g) (A := A) (G := G) (T := T) (th := th) (Y := Y) (W := W) (R := D) (Z := Z) (U := U) (L := L) (h := h) (O := O) _ (by rw [e]; decide)
    rw [e] at hM
    refine q_share FP.dconst0 b1 b2 b3 b4 (k := 1) (by decide) (hx_share1 _ rfl (x_share1 _ hc)) (hM _).toM (fun e => nomatch e) ?_ L6 L7 L8
    rintro _ _ _ _ R9 Z9 U9 L9 h9 ⟨rfl, rfl, rfl, rfl⟩
    exact nx _ _ (LI.mk R Q (by rfl) hr.succ)
theorem s_edgeFrequency (hr : Rl n G T S K E V Y W) (hb : lwB g n j kc ns) : lwA g j kc ns 1355 (CA g G T R S K E Q V Y.1) (BM g G T th Y W D Z U L h O) := by
  obtain ⟨b1, b2, b3, b4, b5, nx⟩ := hb
  have hg := hr.1.1
  have hcb := hr.cb
  have ev := hr.2.2.1.2.2.1
  have hf := hr.cnt (by omega)
  have g3 := hg.2.2.1
  intro L6 L7 L8
  rcases hyb (cbl Y.1 (K.2.2.2 0)) with hc | hc
  · have hc2 : cbl Y.1 (Y.2.2.1 0) = true := by rw [hcb]; exact hc
    rcases hyb (inR (g.2.2.2.2.2.2 (3 * j + 1)) G.2.1) with hi | hi
    · have hy := cbl_an hc
      obtain ⟨K1, K2, vl, pt⟩ := K
      obtain ⟨k1, k2, hbk, hq⟩ := hr.2.2.2.2 hy
      have k1 : K1 = lsr G S.1 := k1
      have k2 : K2 = ltg G S.1 := k2
      subst k1; subst k2
      have hq : anQ G S.1 vl pt E.1 E.2.1 E.2.2.1 Y := hq
      have hc : cbl Y.1 (pt 0) = true := hc
      obtain ⟨np, n1, n2, n3, n4⟩ := anQ_np hg hq
      have h200 : np ≤ 200 := cbl_np (by rw [← n2]; exact hc) n1
      obtain ⟨k, k1, k2⟩ := inR_true hi (by show _ < 2147483648; omega)
      have e := ef_fq (f := W.2.2.2.2) hg hq n2 n1 k1 np 0 0 Q L (by omega)
      refine q_edgeFrequency (nI (fqF G Y W.2.2.2.2 (2 * k) np 0 0 L).1) b1 b2 b3 b4 (k := 0) (by decide) (h_edgeFrequency _ _ rfl (by
        have c := fun (B : List va_E) => c_ef (g := g) (B := B) (G := G) (T := T) (R := R) (S := S) (vl := vl) (pt := pt) (E := E) (Q := Q) (V := V) (an := Y.1) k np hg hc k1 h200 n2 (by rw [ev]; exact hf)
        rw [ev, e] at c
        rw [k2]
        exact c _)) (by rw [k2]; exact (m_edgeFrequency k np k1 hg hc2 h200 n3 hf (fun p hp _ q => by
          obtain ⟨q', f1, -⟩ := n4 p hp Q q
          exact ⟨q', f1⟩)).toM) (fun _ => oJ_at _ _) ?_ L6 L7 L8
      rintro _ _ _ _ R9 Z9 U9 L9 h9 ⟨rfl, rfl, rfl, rfl⟩
      exact nx _ _ (LI.mk R _ (by rfl) hr.succ)
    · have e := lk2 hc2 hi
      have hM := fun (A : List va_E) => mx_edgeFrequency (g := g) (A := A) (G := G) (T := T) (th := th) (Y := Y) (W := W) (R := D) (Z := Z) (U := U) (L := L) (h := h) (O := O) _ hg (by rw [e]; decide)
      rw [e] at hM
      refine q_edgeFrequency (nI 0) b1 b2 b3 b4 (k := 2) (by decide) (hx_edgeFrequency2 _ rfl (x_ef2 _ hc hi)) (hM _).toM (fun e => nomatch e) ?_ L6 L7 L8
      rintro _ _ _ _ R9 Z9 U9 L9 h9 ⟨rfl, rfl, rfl, rfl⟩
      exact nx _ _ (LI.mk R Q (by rfl) hr.succ)
  · have hc2 : cbl Y.1 (Y.2.2.1 0) = false := by rw [hcb]; exact hc
    have e := lk1 (ok := inR (g.2.2.2.2.2.2 (3 * j + 1)) G.2.1) hc2
    have hM := fun (A : List va_E) => mx_edgeFrequency (g := g) (A := A) (G := G) (T := T) (th := th) (Y := Y) (W := W) (R := D) (Z := Z) (U := U) (L := L) (h := h) (O := O) _ hg (by rw [e]; decide)
    rw [e] at hM
    refine q_edgeFrequency (nI 0) b1 b2 b3 b4 (k := 1) (by decide) (hx_edgeFrequency1 _ rfl (x_ef1 _ hc)) (hM _).toM (fun e => nomatch e) ?_ L6 L7 L8
    rintro _ _ _ _ R9 Z9 U9 L9 h9 ⟨rfl, rfl, rfl, rfl⟩
    exact nx _ _ (LI.mk R Q (by rfl) hr.succ)
theorem s_digest (hr : Rl n G T S K E V Y W) (hb : lwB g n j kc ns) : lwA g j kc ns 1411 (CA g G T R S K E Q V Y.1) (BM g G T th Y W D Z U L h O) := by
  obtain ⟨p1, p2, p3, p4, p5, nx⟩ := hb
  have hg := hr.1.1
  have hcb := hr.cb
  obtain ⟨v1, v2, v3, v4, v5⟩ := hr.2.2.1
  have hf := hr.cnt (by omega)
  have hfV : ∀ i, i < 200 → V.2.2.1 i < big := by rw [v3]; exact hf
  have hT := hr.2.1.1
  have hdg := fun x => dg_dgM (T := T) v1 v2 v3 x
  have key : ∀ (x : Int64) (hc : ∀ B : List va_E, Ct g mX8_digest [.ref (g.1 + 0)] 0 (CA g G T R S K E Q V Y.1) B 0 0 (rP (some (.long (dgE T V x))) (CA g G T R S K E Q V Y.1) B) noX) (hM : ∀ A : List va_E, Ct g mX9_digest [.ref (g.2.1 + 0)] 0 A (BM g G T th Y W D Z U L h O) 0 0 (fun v z A' B' => v = some (.long (dgM T W x)) ∧ z = 0 ∧ A' = A ∧ ∃ h', B' = BM g G T 0 Y W D Z U L h' O) noX), lwA g j kc ns 1411 (CA g G T R S K E Q V Y.1) (BM g G T th Y W D Z U L h O) := by
    intro x hc hM L6 L7 L8
    refine q_digest (N := fun G' T' Y' W' => G' = G ∧ T' = T ∧ Y' = Y ∧ W' = W) (dgE T V x) rfl (by omega) (by omega) (hc _).toC (fun A1 _ => by
      rw [hdg]
      refine (hM A1).weak (fun v z A B q => ?_)
      obtain ⟨rfl, rfl, rfl, h', rfl⟩ := q
      exact ⟨rfl, rfl, rfl, _, _, _, _, _, _, _, _, _, rfl, rfl, rfl, rfl, rfl⟩) ?_ L6 L7 L8
    rintro _ _ _ _ _ R9 Z9 U9 L9 h9 rfl ⟨rfl, rfl, rfl, rfl⟩
    exact (nx _ _ (LI.mk R Q (by rfl) hr.succ)).less
  rcases hyb Y.1 with hy | hy
  · obtain ⟨-, -, -, hq⟩ := hr.2.2.2.2 hy
    rcases hyb (cbl Y.1 (K.2.2.2 0)) with hc | hc
    · have hc2 : cbl Y.1 (Y.2.2.1 0) = true := by rw [hcb]; exact hc
      obtain ⟨np, n1, n2, n3, n4⟩ := anQ_np hg hq
      have h200 : np ≤ 200 := cbl_np (by rw [← n2]; exact hc) n1
      have e := ma_maM hq (mx (mg G 1831) (b2 true))
      refine key _ (fun B => c_digest2 np h200 n2 hg.2.1 hg.2.2.1 hT hfV hy hc) (fun A => ?_)
      rw [e, v3]
      exact m_digest1 hg hT hf hy _ (m_mixAnalysis2 np h200 n3 hg hr.1.2 hc2)
    · have hc2 : cbl Y.1 (Y.2.2.1 0) = false := by rw [hcb]; exact hc
      have e := ma_maM hq (mx (mg G 1831) (b2 true))
      refine key _ (fun B => c_digest1 hg.2.1 hg.2.2.1 hT hfV hy hc) (fun A => ?_)
      rw [e]
      exact m_digest1 hg hT hf hy _ (m_mixAnalysis1 hg hr.1.2 hc2)
  · exact key _ (fun B => c_digest0 hg.2.1 hg.2.2.1 hT hfV hy) (fun A => m_digest0 hg hT hf hy)
end Steps4

