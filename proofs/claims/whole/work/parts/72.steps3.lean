/-! ===== each call keeps the two alike: paths ===== -/
section Steps3
variable {g : gp_T} {G : Gr} {T : Tx} {R : Rd} {S : Se} {K : Lk} {E : Tr} {Q : Pa} {V : Wk} {th : Nat} {Y : Ya} {W : Wa} {D : Ra} {Z : Za} {U : Ua} {L : La} {h : Int64} {O : Oa} {n j kc ns : Nat}
/-- a path's number, asked of both -/
theorem pth {bc : Nat → Bool} {vc pt inc : Nat → Int32} {cn cw : Nat} (hg : gok G) (hy : Y.1 = true) (hq : anQ G bc vc pt inc cn cw Y) (x : Int32) : ((ptk x (pt 0) = false ∧ mPt Y.1 x (Y.2.2.1 0) = false) ∨ ∃ r, x = nI r ∧ ptk x (pt 0) = true ∧ mPt Y.1 x (Y.2.2.1 0) = true ∧ ∀ (q : Pa) (q' : La), ∃ q'', fol G Y.2.1 Y.2.2.1 Y.2.2.2.1 (nI r) q' = some q'' ∧ pRel G Y.2.1 (trc G (lsr G bc, ltg G bc, vc, pt) (nI r) q) q'' ∧ 1 ≤ q''.2 ∧ q''.2 ≤ 12) := by
  obtain ⟨np, n1, n2, n3, n4⟩ := anQ_np hg hq
  have e : mPt Y.1 x (Y.2.2.1 0) = ptk x (pt 0) := by rw [hy, n3, n2, mPt_ptk n1]
  rcases hyb (ptk x (pt 0)) with hp | hp
  · right
    have hi : inR x np = true := by rw [← ptk_inR n1, ← n2]; exact hp
    obtain ⟨r, r1, r2⟩ := inR_true hi (by show np < 2147483648; omega)
    refine ⟨r, r2, hp, by rw [e]; exact hp, fun q q' => ?_⟩
    obtain ⟨q'', f1, f2⟩ := n4 r r1 q q'
    have f3 := fol_ok hg.2.2.1 hg.1 f1
    exact ⟨q'', f1, f2, f3.1, f3.2.1⟩
  · left
    exact ⟨hp, by rw [e]; exact hp⟩
theorem s_pathLength (hr : Rl n G T S K E V Y W) (hb : lwB g n j kc ns) : lwA g j kc ns 851 (CA g G T R S K E Q V Y.1) (BM g G T th Y W D Z U L h O) := by
  obtain ⟨b1, b2, b3, b4, b5, nx⟩ := hb
  have hg := hr.1.1
  intro L6 L7 L8
  rcases hyb Y.1 with hy | hy
  · obtain ⟨K1, K2, vl, pt⟩ := K
    obtain ⟨k1, k2, hbk, hq⟩ := hr.2.2.2.2 hy
    have k1 : K1 = lsr G S.1 := k1
    have k2 : K2 = ltg G S.1 := k2
    subst k1; subst k2
    have hq : anQ G S.1 vl pt E.1 E.2.1 E.2.2.1 Y := hq
    rcases pth hg hy hq (g.2.2.2.2.2.2 (3 * j + 1)) with ⟨hp, hm⟩ | ⟨r, rx, hp, hm, hf⟩
    · have e := lk2 hy hm
      have hM := fun (A : List va_E) => mx_pathLength (g := g) (A := A) (G := G) (T := T) (th := th) (Y := Y) (W := W) (R := D) (Z := Z) (U := U) (L := L) (h := h) (O := O) _ (by rw [e]; decide)
      rw [e] at hM
      refine q_pathLength (nI 0) b1 b2 b3 b4 (k := 2) (by decide) (hx_pathLength2 _ rfl (x_pathLength2 _ hy hp)) (hM _).toM (fun e => nomatch e) ?_ L6 L7 L8
      rintro _ _ _ _ R9 Z9 U9 L9 h9 ⟨rfl, rfl, rfl, rfl⟩
      exact nx _ _ (LI.mk R Q (by rfl) hr.succ)
    · obtain ⟨q', f1, f2, f3, f4⟩ := hf Q L
      have f5 := pr_len hg.2.2.1 f2 (by rw [f2.1]; exact f3)
      refine q_pathLength (nI (vsN Y.2.1 q')) b1 b2 b3 b4 (k := 0) (by decide) (h_pathLength _ _ rfl (by
        have c := fun (B : List va_E) => c_pathLength (g := g) (B := B) (G := G) (T := T) (R := R) (S := S) (vl := vl) (pt := pt) (E := E) (Q := Q) (V := V) (an := Y.1) _ hg hy hp
        rw [rx] at c
        rw [f5] at c
        rw [rx]
        exact c _)) (m_pathLength _ hg hm q' (by rw [rx]; exact f1)).toM (fun _ => oJ_at _ _) ?_ L6 L7 L8
      rintro _ _ _ _ R9 Z9 U9 L9 h9 ⟨rfl, rfl, rfl, rfl⟩
      exact nx _ _ (LI.mk R _ (by rfl) hr.succ)
  · have e := lk1 (ok := mPt Y.1 (g.2.2.2.2.2.2 (3 * j + 1)) (Y.2.2.1 0)) hy
    have hM := fun (A : List va_E) => mx_pathLength (g := g) (A := A) (G := G) (T := T) (th := th) (Y := Y) (W := W) (R := D) (Z := Z) (U := U) (L := L) (h := h) (O := O) _ (by rw [e]; decide)
    rw [e] at hM
    refine q_pathLength (nI 0) b1 b2 b3 b4 (k := 1) (by decide) (hx_pathLength1 _ rfl (x_pathLength1 _ hy)) (hM _).toM (fun e => nomatch e) ?_ L6 L7 L8
    rintro _ _ _ _ R9 Z9 U9 L9 h9 ⟨rfl, rfl, rfl, rfl⟩
    exact nx _ _ (LI.mk R Q (by rfl) hr.succ)
theorem s_pathNode (hr : Rl n G T S K E V Y W) (hb : lwB g n j kc ns) : lwA g j kc ns 907 (CA g G T R S K E Q V Y.1) (BM g G T th Y W D Z U L h O) := by
  obtain ⟨b1, b2, b3, b4, b5, nx⟩ := hb
  have hg := hr.1.1
  intro L6 L7 L8
  rcases hyb Y.1 with hy | hy
  · obtain ⟨K1, K2, vl, pt⟩ := K
    obtain ⟨k1, k2, hbk, hq⟩ := hr.2.2.2.2 hy
    have k1 : K1 = lsr G S.1 := k1
    have k2 : K2 = ltg G S.1 := k2
    subst k1; subst k2
    have hq : anQ G S.1 vl pt E.1 E.2.1 E.2.2.1 Y := hq
    rcases pth hg hy hq (g.2.2.2.2.2.2 (3 * j + 1)) with ⟨hp, hm⟩ | ⟨r, rx, hp, hm, hf⟩
    · have e := lk2 hy (rfl : false = false)
      have hM := fun (A : List va_E) => mx_pathNode (g := g) (A := A) (G := G) (T := T) (th := th) (Y := Y) (W := W) (R := D) (Z := Z) (U := U) (L := L) (h := h) (O := O) _ (g.2.2.2.2.2.2 (3 * j + 2)) hm
      rw [e] at hM
      refine q_pathNode (nI 0) b1 b2 b3 b4 (k := 2) (by decide) (hx_pathNode2 _ _ rfl (x_pathNode2 _ _ hy hp)) (hM _).toM (fun e => nomatch e) ?_ L6 L7 L8
      rintro _ _ _ _ R9 Z9 U9 L9 h9 ⟨rfl, rfl, rfl, rfl⟩
      exact nx _ _ (LI.mk R Q (by rfl) hr.succ)
    · obtain ⟨q', f1, f2, f3, f4⟩ := hf Q L
      have f6 : 1 ≤ (trc G (lsr G S.1, ltg G S.1, vl, pt) (nI r) Q).2 := by rw [f2.1]; exact f3
      have f5 := pr_len hg.2.2.1 f2 f6
      have f7 := pr_bgn hg.2.2.1 f2 f6
      have f1' : fol G Y.2.1 Y.2.2.1 Y.2.2.2.1 (g.2.2.2.2.2.2 (3 * j + 1)) L = some q' := by rw [rx]; exact f1
      rcases hyb (inR (g.2.2.2.2.2.2 (3 * j + 2)) (vsN Y.2.1 q')) with hi | hi
      · have hv := vsN_le (bk := Y.2.1) (q := q')
        obtain ⟨k, k1, k2⟩ := inR_true hi (by show _ < 2147483648; omega)
        have hkb : bgn Y.2.1 q' = true → k + 1 ≤ q'.2 := fun hb9 => by
          unfold vsN at k1
          rw [if_pos hb9] at k1
          omega
        have hvn : vnI Y.2.1 q' k ≤ (trc G (lsr G S.1, ltg G S.1, vl, pt) (nI r) Q).2 := by
          rw [f2.1]
          unfold vnI
          split
          · rename_i hb9; exact hkb hb9
          · omega
        have f8 := pr_node (f := vl) (p := pt) hg hq.1 f2 f6 hvn
        refine q_pathNode (nI (vnN G Y.2.1 q' k)) b1 b2 b3 b4 (k := 0) (by decide) (h_pathNode _ _ _ rfl (by
          have c := fun (B : List va_E) => c_pathNode (g := g) (B := B) (G := G) (T := T) (R := R) (S := S) (vl := vl) (pt := pt) (E := E) (Q := Q) (V := V) (an := Y.1) (nI r) k hg hy (by rw [← rx]; exact hp) (by rw [f5]; exact (nI_lt_iff (by omega) (by omega)).mpr k1) (by show k < 2147483648; omega) (by rw [f2.1]; omega) (fun hst => by
            rw [f2.1]
            rcases hyb (bgn Y.2.1 q') with z | z
            · have := hkb z; omega
            · exact absurd (f7.2.mpr z) hst)
          rw [f8] at c
          rw [rx, k2]
          exact c _)) (by rw [k2]; exact (m_pathNode _ k hg hm q' f1' k1).toM) (fun _ => oJ_at _ _) ?_ L6 L7 L8
        rintro _ _ _ _ R9 Z9 U9 L9 h9 ⟨rfl, rfl, rfl, rfl⟩
        exact nx _ _ (LI.mk R _ (by rfl) hr.succ)
      · refine q_pathNode (nI 0) b1 b2 b3 b4 (k := 2) (by decide) (hx_pathNode2 _ _ rfl (x_pathNode3 _ _ hg hy hp (by
          have z := of_decide_eq_false hi
          by_cases z1 : g.2.2.2.2.2.2 (3 * j + 2) < 0
          · exact Or.inl z1
          · refine Or.inr (fun z2 => z ⟨z1, fun z3 => ?_⟩)
            rw [rx, f5] at z2
            rw [i32_lt] at z2
            rw [i32_le] at z3
            omega))) (mx_pathNode2 _ _ hg hm q' f1' hi).toM (fun e => nomatch e) ?_ L6 L7 L8
        rintro _ _ _ _ R9 Z9 U9 L9 h9 ⟨rfl, rfl, rfl, rfl⟩
        exact nx _ _ (LI.mk R _ (by rfl) hr.succ)
  · have e := lk1 (ok := false) hy
    have hm : mPt Y.1 (g.2.2.2.2.2.2 (3 * j + 1)) (Y.2.2.1 0) = false := by unfold mPt; rw [hy, Bool.false_and]
    have hM := fun (A : List va_E) => mx_pathNode (g := g) (A := A) (G := G) (T := T) (th := th) (Y := Y) (W := W) (R := D) (Z := Z) (U := U) (L := L) (h := h) (O := O) _ (g.2.2.2.2.2.2 (3 * j + 2)) hm
    rw [e] at hM
    refine q_pathNode (nI 0) b1 b2 b3 b4 (k := 1) (by decide) (hx_pathNode1 _ _ rfl (x_pathNode1 _ _ hy)) (hM _).toM (fun e => nomatch e) ?_ L6 L7 L8
    rintro _ _ _ _ R9 Z9 U9 L9 h9 ⟨rfl, rfl, rfl, rfl⟩
    exact nx _ _ (LI.mk R Q (by rfl) hr.succ)
theorem s_pathEdge (hr : Rl n G T S K E V Y W) (hb : lwB g n j kc ns) : lwA g j kc ns 975 (CA g G T R S K E Q V Y.1) (BM g G T th Y W D Z U L h O) := by
  obtain ⟨b1, b2, b3, b4, b5, nx⟩ := hb
  have hg := hr.1.1
  intro L6 L7 L8
  generalize hbb : decide (¬ g.2.2.2.2.2.2 (3 * j + 2) = 0) = b
  rcases hyb Y.1 with hy | hy
  · obtain ⟨K1, K2, vl, pt⟩ := K
    obtain ⟨k1, k2, hbk, hq⟩ := hr.2.2.2.2 hy
    have k1 : K1 = lsr G S.1 := k1
    have k2 : K2 = ltg G S.1 := k2
    subst k1; subst k2
    have hq : anQ G S.1 vl pt E.1 E.2.1 E.2.2.1 Y := hq
    rcases pth hg hy hq (g.2.2.2.2.2.2 (3 * j + 1)) with ⟨hp, hm⟩ | ⟨r, rx, hp, hm, hf⟩
    · have e := lk2 hy hm
      have hM := fun (A : List va_E) => mx_pathEdge (g := g) (A := A) (G := G) (T := T) (th := th) (Y := Y) (W := W) (R := D) (Z := Z) (U := U) (L := L) (h := h) (O := O) _ b (by rw [e]; decide)
      rw [e] at hM
      refine q_pathEdge (nI 0) b hbb.symm b1 b2 b3 b4 (k := 2) (by decide) (hx_pathEdge2 _ _ rfl (x_pathEdge2 _ b hy hp)) (hM _).toM (fun e => nomatch e) ?_ L6 L7 L8
      rintro _ _ _ _ R9 Z9 U9 L9 h9 ⟨rfl, rfl, rfl, rfl⟩
      exact nx _ _ (LI.mk R Q (by rfl) hr.succ)
    · obtain ⟨q', f1, f2, f3, f4⟩ := hf Q L
      have f6 : 1 ≤ (trc G (lsr G S.1, ltg G S.1, vl, pt) (nI r) Q).2 := by rw [f2.1]; exact f3
      have f5 : (if b = true then enE (trc G (lsr G S.1, ltg G S.1, vl, pt) (nI r) Q) else stE (trc G (lsr G S.1, ltg G S.1, vl, pt) (nI r) Q)) = enM Y.2.1 q' b := by
        cases b with
        | true => rw [if_pos rfl]; exact (pr_enn hg.2.2.1 f2 f6).1
        | false => rw [if_neg (by decide)]; exact (pr_bgn hg.2.2.1 f2 f6).1
      refine q_pathEdge (enM Y.2.1 q' b) b hbb.symm b1 b2 b3 b4 (k := 0) (by decide) (h_pathEdge _ _ _ rfl (by
        have c := fun (B : List va_E) => c_pathEdge (g := g) (B := B) (G := G) (T := T) (R := R) (S := S) (vl := vl) (pt := pt) (E := E) (Q := Q) (V := V) (an := Y.1) (nI r) b hg hy (by rw [← rx]; exact hp)
        rw [f5] at c
        rw [rx]
        exact c _)) (m_pathEdge _ b hg hm q' (by rw [rx]; exact f1)).toM (fun _ => oJ_at _ _) ?_ L6 L7 L8
      rintro _ _ _ _ R9 Z9 U9 L9 h9 ⟨rfl, rfl, rfl, rfl⟩
      exact nx _ _ (LI.mk R _ (by rfl) hr.succ)
  · have e := lk1 (ok := mPt Y.1 (g.2.2.2.2.2.2 (3 * j + 1)) (Y.2.2.1 0)) hy
    have hM := fun (A : List va_E) => mx_pathEdge (g := g) (A := A) (G := G) (T := T) (th := th) (Y := Y) (W := W) (R := D) (Z := Z) (U := U) (L := L) (h := h) (O := O) _ b (by rw [e]; decide)
    rw [e] at hM
    refine q_pathEdge (nI 0) b hbb.symm b1 b2 b3 b4 (k := 1) (by decide) (hx_pathEdge1 _ _ rfl (x_pathEdge1 _ b hy)) (hM _).toM (fun e => nomatch e) ?_ L6 L7 L8
    rintro _ _ _ _ R9 Z9 U9 L9 h9 ⟨rfl, rfl, rfl, rfl⟩
    exact nx _ _ (LI.mk R Q (by rfl) hr.succ)
theorem s_findPath (hr : Rl n G T S K E V Y W) (hb : lwB g n j kc ns) : lwA g j kc ns 1059 (CA g G T R S K E Q V Y.1) (BM g G T th Y W D Z U L h O) := by
  obtain ⟨b1, b2, b3, b4, b5, nx⟩ := hb
  have hg := hr.1.1
  obtain ⟨t1, t2⟩ := hr.2.1
  intro L6 L7 L8
  rcases hyb Y.1 with hy | hy
  · obtain ⟨K1, K2, vl, pt⟩ := K
    obtain ⟨k1, k2, hbk, hq⟩ := hr.2.2.2.2 hy
    have k1 : K1 = lsr G S.1 := k1
    have k2 : K2 = ltg G S.1 := k2
    subst k1; subst k2
    have hq : anQ G S.1 vl pt E.1 E.2.1 E.2.2.1 Y := hq
    obtain ⟨a1, a2, a3, a4, a5, np, nv, po, hL, a6, a7⟩ := hq
    have e := fnd_fnR (T := T) hg a1 hL (fun k hk => (a3 k hk).1)
    refine q_findPath (fnR G T Y.2.1 Y.2.2.2.1) b1 b2 b3 b4 (k := 0) (by decide) (h_findPath _ rfl (by
      have c := fun (B : List va_E) => c_findPath (g := g) (B := B) (G := G) (T := T) (R := R) (S := S) (vl := vl) (pt := pt) (E := E) (Q := Q) (V := V) (an := Y.1) hg t1 hy
      rw [e] at c
      exact c _)) (m_findPath hg t1 hy).toM (fun _ => oJ_at _ _) ?_ L6 L7 L8
    rintro _ _ _ _ R9 Z9 U9 L9 h9 ⟨rfl, rfl, rfl, rfl⟩
    exact nx _ _ (LI.mk R _ (by rfl) hr.succ)
  · refine q_findPath (nI 0) b1 b2 b3 b4 (k := 1) (by decide) (hx_findPath1 rfl (x_findPath hy)) (mx_findPath hy).toM (fun e => nomatch e) ?_ L6 L7 L8
    rintro _ _ _ _ R9 Z9 U9 L9 h9 ⟨rfl, rfl, rfl, rfl⟩
    exact nx _ _ (LI.mk R Q (by rfl) hr.succ)
end Steps3

