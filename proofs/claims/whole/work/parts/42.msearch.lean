/-! ===== the reference: search ===== -/
/-- what the reference's search holds beside the class's -/
def dR (G : Gr) (S : Se) (bk : Nat → Bool) (Z : Za) : Prop := Z.1 = S.2.2.2.2.2.2.1 ∧ Z.2.1 = S.2.2.2.2.2.2.2.1 ∧ Z.2.2.2.2.2 = S.2.2.1 ∧ (∀ i, i < S.2.2.2.2.1 → Z.2.2.1 i = S.2.2.2.1 i) ∧ (∀ i, i < S.2.2.1 → Z.2.2.2.2.1 i = S.2.1 i) ∧ (∀ v, (S.2.2.2.2.2.2.1 v = false ∨ S.2.2.2.2.2.2.2.1 v = true) → Z.2.2.2.1 v = S.2.2.2.2.2.1 v) ∧ ∀ k, k < G.2.1 → flw G S k = true → bk k = S.1 k
theorem dR_leave {G : Gr} {S : Se} {bk : Nat → Bool} {pt nx lf : Nat → Nat} (h : dI G S) (hd : 0 < S.2.2.2.2.1) (hr : dR G S bk (S.2.2.2.2.2.2.1, S.2.2.2.2.2.2.2.1, pt, nx, lf, S.2.2.1)) (y : Nat) : dR G (lvS S (tpS S)) bk (S.2.2.2.2.2.2.1, va_up S.2.2.2.2.2.2.2.1 (tpS S) false, pt, va_up nx (tpS S) y, va_up lf S.2.2.1 (tpS S), S.2.2.1 + 1) := by
  obtain ⟨-, -, -, r4, r5, r6, r7⟩ := hr
  have t2 := (h.2.1 (S.2.2.2.2.1 - 1) (by omega)).2.1
  refine ⟨rfl, rfl, rfl, fun i hi => r4 i (by have : i < S.2.2.2.2.1 - 1 := hi; omega), fun i hi => ?_, fun v hv => ?_, r7⟩
  · have hi' : i < S.2.2.1 + 1 := hi
    show va_up lf S.2.2.1 (tpS S) i = va_up S.2.1 S.2.2.1 (tpS S) i
    by_cases e : i = S.2.2.1
    · rw [e, va_same, va_same]
    · rw [va_other e, va_other e]; exact r5 i (by omega)
  · have hv' : S.2.2.2.2.2.2.1 v = false ∨ va_up S.2.2.2.2.2.2.2.1 (tpS S) false v = true := hv
    have hne : v ≠ tpS S := by
      intro e
      rw [e, va_same] at hv'
      rcases hv' with q | q
      · rw [show S.2.2.2.2.2.2.1 (tpS S) = true from t2] at q; cases q
      · cases q
    show va_up nx (tpS S) y v = S.2.2.2.2.2.1 v
    rw [va_other hne] at hv' ⊢
    exact r6 v hv'
theorem dR_follow {G : Gr} {S : Se} {bk : Nat → Bool} {pt nx lf : Nat → Nat} (hg : gok G) (h : dI G S) (hd : 0 < S.2.2.2.2.1) (hn : neS G S < G.2.1) (hr : dR G S bk (S.2.2.2.2.2.2.1, S.2.2.2.2.2.2.2.1, pt, nx, lf, S.2.2.1)) :
    dR G (foS G (nxS S (tpS S) (neS G S + 1)) (neS G S)) (va_up bk (neS G S) (S.2.2.2.2.2.2.2.1 (G.2.2.2.1 (neS G S)))) (if S.2.2.2.2.2.2.1 (G.2.2.2.1 (neS G S)) = true then (S.2.2.2.2.2.2.1, S.2.2.2.2.2.2.2.1, pt, va_up nx (tpS S) (neS G S + 1), lf, S.2.2.1) else (va_up S.2.2.2.2.2.2.1 (G.2.2.2.1 (neS G S)) true, va_up S.2.2.2.2.2.2.2.1 (G.2.2.2.1 (neS G S)) true, va_up pt S.2.2.2.2.1 (G.2.2.2.1 (neS G S)), va_up nx (tpS S) (neS G S + 1), lf, S.2.2.1)) := by
  obtain ⟨-, -, -, r4, r5, r6, r7⟩ := hr
  have hdi := (dI_follow hg h hd hn).1
  have h16 := h.2.2.2.2.2.2.2.2.2.2.2.2.2.2.2
  have hon : ∀ w, S.2.2.2.2.2.2.2.1 w = true → S.2.2.2.2.2.2.1 w = true := by
    intro w hw
    obtain ⟨i, hi, e⟩ := h.2.2.2.2.2.2.2.1 w hw
    rw [← e]; exact (h.2.1 i hi).2.1
  have hb0 : S.1 (neS G S) = false := by
    cases hb : S.1 (neS G S) with
    | false => rfl
    | true =>
      have hf := (h.2.2.2.2.2.2.2.2.2.2.2.1 _ hb).2.2
      unfold flw at hf
      have hs : G.2.2.1 (neS G S) = tpS S := nxt_at (h.2.2.2.2.2.1 _) hn
      rw [hs] at hf
      have := of_decide_eq_true hf
      have hge : S.2.2.2.2.2.1 (tpS S) ≤ neS G S := nxt_ge
      omega
  have hnx : ∀ v, (S.2.2.2.2.2.2.1 v = false ∨ S.2.2.2.2.2.2.2.1 v = true) → va_up nx (tpS S) (neS G S + 1) v = va_up S.2.2.2.2.2.1 (tpS S) (neS G S + 1) v := by
    intro v hv
    by_cases e : v = tpS S
    · rw [e, va_same, va_same]
    · rw [va_other e, va_other e]; exact r6 v hv
  have hold : ∀ k, k < G.2.1 → k ≠ neS G S → decide (k < va_up S.2.2.2.2.2.1 (tpS S) (neS G S + 1) (G.2.2.1 k)) = true → flw G S k = true := by
    intro k hk hne hf
    unfold flw
    have hf := of_decide_eq_true hf
    apply decide_eq_true
    by_cases e : G.2.2.1 k = tpS S
    · rw [e, va_same] at hf
      rw [e]
      apply Nat.lt_of_not_le
      intro hle
      exact nxt_no (e := G.2.1) (src := G.2.2.1) hle (by show k < neS G S; omega) e
    · rwa [va_other e] at hf
  unfold foS
  rw [show (nxS S (tpS S) (neS G S + 1)).2.2.2.2.2.2.2.1 = S.2.2.2.2.2.2.2.1 from rfl, show (nxS S (tpS S) (neS G S + 1)).2.2.2.2.2.2.1 = S.2.2.2.2.2.2.1 from rfl]
  by_cases ho : S.2.2.2.2.2.2.2.1 (G.2.2.2.1 (neS G S)) = true
  · rw [if_pos ho, if_pos (hon _ ho), ho]
    refine ⟨rfl, rfl, rfl, r4, r5, hnx, fun k hk hf => ?_⟩
    show va_up bk (neS G S) true k = va_up S.1 (neS G S) true k
    by_cases e : k = neS G S
    · rw [e, va_same, va_same]
    · rw [va_other e, va_other e]; exact r7 k hk (hold k hk e hf)
  · have ho' : S.2.2.2.2.2.2.2.1 (G.2.2.2.1 (neS G S)) = false := by
      cases hh : S.2.2.2.2.2.2.2.1 (G.2.2.2.1 (neS G S)) with
      | true => exact absurd hh ho
      | false => rfl
    rw [if_neg ho, ho']
    have hbk : ∀ k, k < G.2.1 → decide (k < va_up S.2.2.2.2.2.1 (tpS S) (neS G S + 1) (G.2.2.1 k)) = true → va_up bk (neS G S) false k = S.1 k := by
      intro k hk hf
      by_cases e : k = neS G S
      · rw [e, va_same, hb0]
      · rw [va_other e]; exact r7 k hk (hold k hk e hf)
    by_cases hs : S.2.2.2.2.2.2.1 (G.2.2.2.1 (neS G S)) = true
    · rw [if_pos hs, if_pos hs]
      exact ⟨rfl, rfl, rfl, r4, r5, hnx, hbk⟩
    · rw [if_neg hs, if_neg hs]
      refine ⟨rfl, rfl, rfl, fun i hi => ?_, r5, fun v hv => ?_, hbk⟩
      · have hi' : i < S.2.2.2.2.1 + 1 := hi
        show va_up pt S.2.2.2.2.1 _ i = va_up S.2.2.2.1 S.2.2.2.2.1 _ i
        by_cases e : i = S.2.2.2.2.1
        · rw [e, va_same, va_same]
        · rw [va_other e, va_other e]; exact r4 i (by omega)
      · have hv' : va_up S.2.2.2.2.2.2.1 (G.2.2.2.1 (neS G S)) true v = false ∨ va_up S.2.2.2.2.2.2.2.1 (G.2.2.2.1 (neS G S)) true v = true := hv
        by_cases e : v = G.2.2.2.1 (neS G S)
        · refine hnx v (Or.inl ?_)
          rw [e]
          cases hh : S.2.2.2.2.2.2.1 (G.2.2.2.1 (neS G S)) with
          | true => exact absurd hh hs
          | false => rfl
        · rw [va_other e, va_other e] at hv'
          exact hnx v hv'
theorem foS_d {G : Gr} {S : Se} {v y k : Nat} : (foS G (nxS S v y) k).2.2.2.2.1 = if S.2.2.2.2.2.2.2.1 (G.2.2.2.1 k) = true then S.2.2.2.2.1 else if S.2.2.2.2.2.2.1 (G.2.2.2.1 k) = true then S.2.2.2.2.1 else S.2.2.2.2.1 + 1 := by
  unfold foS
  by_cases h1 : S.2.2.2.2.2.2.2.1 (G.2.2.2.1 k) = true
  · rw [if_pos (show (nxS S v y).2.2.2.2.2.2.2.1 (G.2.2.2.1 k) = true from h1), if_pos h1]; rfl
  · rw [if_neg (show ¬ (nxS S v y).2.2.2.2.2.2.2.1 (G.2.2.2.1 k) = true from h1), if_neg h1]
    by_cases h2 : S.2.2.2.2.2.2.1 (G.2.2.2.1 k) = true
    · rw [if_pos (show (nxS S v y).2.2.2.2.2.2.1 (G.2.2.2.1 k) = true from h2), if_pos h2]; rfl
    · rw [if_neg (show ¬ (nxS S v y).2.2.2.2.2.2.1 (G.2.2.2.1 k) = true from h2), if_neg h2]; rfl
section MSearch
variable {g : gp_T} {A : List va_E} {G : Gr} {T : Tx} {th : Nat} {Y : Ya} {W : Wa} {R : Ra} {Z : Za} {U : Ua} {L : La} {h : Int64} {O : Oa}
theorem l_ms1 (P : ps_T) (cont : AW g mX9_search 0 0 P noX 0 0 35 [some (.ref (g.2.1 + 0)), some (.int (nI 12)), none, none] [] 0 A (BM g G T th Y W R (fun _ => false, fun _ => false, Z.2.2.1, fun _ => 0, Z.2.2.2.2) U L h O)) : ∀ (m k : Nat) (f1 f2 : Nat → Bool) (f3 : Nat → Nat), 12 - k = m → k ≤ 12 → (∀ i, i < k → f1 i = false ∧ f2 i = false ∧ f3 i = 0) → AW g mX9_search 0 0 P noX 0 0 2 [some (.ref (g.2.1 + 0)), some (.int (nI k)), none, none] [] 0 A (BM g G T th Y W R (f1, f2, Z.2.2.1, f3, Z.2.2.2.2) U L h O) := by
  intro m
  induction m with
  | zero =>
    intro k f1 f2 f3 hm hk hf
    have hk2 : k = 12 := by omega
    subst hk2
    refine a_swapB 13 (aB g 12 (fun _ => false)) rfl (ceq_b (fun i hi => (hf i hi).1)) ?_
    refine a_swapB 14 (aB g 12 (fun _ => false)) rfl (ceq_b (fun i hi => (hf i hi).2.1)) ?_
    refine a_swapB 16 (aN g 12 (fun _ => 0)) rfl (ceq_n (fun i hi => (hf i hi).2.2)) ?_
    refine a_iload_n (q := 3) dX9_search_2 rfl rfl rfl ?_
    refine a_bipush (q := 5) (nI 12) dX9_search_3 (by decide) rfl ?_
    refine a_icmp_geN (q := 8) 35 dX9_search_5 (by decide) (by omega) (by omega) rfl (fun c5 => ?_) (fun c5 => ?_)
    · skip
      exact cont
    · omega
  | succ m ih =>
    intro k f1 f2 f3 hm hk hf
    refine a_iload_n (q := 3) dX9_search_2 rfl rfl rfl ?_
    refine a_bipush (q := 5) (nI 12) dX9_search_3 (by decide) rfl ?_
    refine a_icmp_geN (q := 8) 35 dX9_search_5 (by decide) (by omega) (by omega) rfl (fun c5 => ?_) (fun c5 => ?_)
    · omega
    · skip
      refine a_aload_n (q := 9) dX9_search_8 rfl rfl rfl ?_
      refine a_getB (q := 12) dX9_search_9 fX9_51 rfl rfl rfl ?_
      refine a_iload_n (q := 13) dX9_search_12 rfl rfl rfl ?_
      refine a_iconst (q := 14) (b2 false) dX9_search_13 (by decide) rfl ?_
      refine a_zastBN (q := 15) dX9_search_14 rfl (by omega) (by decide) rfl ?_
      refine a_aload_n (q := 16) dX9_search_15 rfl rfl rfl ?_
      refine a_getB (q := 19) dX9_search_16 fX9_54 rfl rfl rfl ?_
      refine a_iload_n (q := 20) dX9_search_19 rfl rfl rfl ?_
      refine a_iconst (q := 21) (b2 false) dX9_search_20 (by decide) rfl ?_
      refine a_zastBN (q := 22) dX9_search_21 rfl (by omega) (by decide) rfl ?_
      refine a_aload_n (q := 23) dX9_search_22 rfl rfl rfl ?_
      refine a_getB (q := 26) dX9_search_23 fX9_60 rfl rfl rfl ?_
      refine a_iload_n (q := 27) dX9_search_26 rfl rfl rfl ?_
      refine a_iconst (q := 28) (nI 0) dX9_search_27 (by decide) rfl ?_
      refine a_iastBN (q := 29) dX9_search_28 rfl (by omega) (by decide) rfl ?_
      refine a_iincN (q := 32) (c := 1) dX9_search_29 rfl (by decide) rfl rfl ?_
      refine a_goto 2 dX9_search_32 (by decide) ?_
      exact ih (k + 1) (va_up f1 k false) (va_up f2 k false) (va_up f3 k 0) (by omega) (by omega) (fun i hi => by
      by_cases e : i = k
      · rw [e, va_same, va_same, va_same]; exact ⟨rfl, rfl, rfl⟩
      · rw [va_other e, va_other e, va_other e]; exact hf i (by omega))
/-- the next edge of v from k on -/
theorem l_ms2 (P : ps_T) (hg : gok G) (dp v : Nat) (hv : v < 12) (Z : Za) : ∀ m k : Nat, G.2.1 - k = m → k ≤ G.2.1 → AW g mX9_search 0 0 P noX 0 0 107 [some (.ref (g.2.1 + 0)), some (.int (nI dp)), some (.int (nI v)), some (.int (nI (nxF G.2.2.1 v m k)))] [] 0 A (BM g G T th Y W R Z U L h O) → AW g mX9_search 0 0 P noX 0 0 83 [some (.ref (g.2.1 + 0)), some (.int (nI dp)), some (.int (nI v)), some (.int (nI k))] [] 0 A (BM g G T th Y W R Z U L h O) := by
  intro m
  obtain ⟨g1, g2, g3, g4, g5⟩ := id hg
  induction m with
  | zero =>
    intro k hm hk hp
    refine a_iload_n (q := 84) dX9_search_83 rfl rfl rfl ?_
    refine a_aload_n (q := 85) dX9_search_84 rfl rfl rfl ?_
    refine a_getB (q := 88) dX9_search_85 fX9_101 rfl rfl rfl ?_
    refine a_icmp_geN (q := 91) 107 dX9_search_88 (by decide) (by omega) (by omega) rfl (fun c88 => ?_) (fun c88 => ?_)
    · skip
      exact hp
    · omega
  | succ m ih =>
    intro k hm hk hp
    have h9 := (g4 k (by omega)).1
    unfold nxF at hp
    refine a_iload_n (q := 84) dX9_search_83 rfl rfl rfl ?_
    refine a_aload_n (q := 85) dX9_search_84 rfl rfl rfl ?_
    refine a_getB (q := 88) dX9_search_85 fX9_101 rfl rfl rfl ?_
    refine a_icmp_geN (q := 91) 107 dX9_search_88 (by decide) (by omega) (by omega) rfl (fun c88 => ?_) (fun c88 => ?_)
    · omega
    · skip
      refine a_aload_n (q := 92) dX9_search_91 rfl rfl rfl ?_
      refine a_getB (q := 95) dX9_search_92 fX9_13 rfl rfl rfl ?_
      refine a_iload_n (q := 96) dX9_search_95 rfl rfl rfl ?_
      refine a_ialdBN (q := 97) dX9_search_96 rfl (by omega) (by decide) rfl ?_
      refine a_iload_n (q := 98) dX9_search_97 rfl rfl rfl ?_
      refine a_icmp_eqN (q := 101) 107 dX9_search_98 (by decide) (by omega) (by omega) rfl (fun c98 => ?_) (fun c98 => ?_)
      · rw [if_pos c98] at hp
        exact hp
      · rw [if_neg c98] at hp
        refine a_iincN (q := 104) (c := 1) dX9_search_101 rfl (by decide) rfl rfl ?_
        refine a_goto 83 dX9_search_104 (by decide) ?_
        exact ih (k + 1) (by omega) (by omega) hp
theorem l_ms3 (P : ps_T) (hg : gok G) : ∀ (m : Nat) (S : Se) (bk : Nat → Bool) (pt nx lf : Nat → Nat) (L2 L3 : Option Value), 36 - tcn G S = m → dI G S → dR G S bk (S.2.2.2.2.2.2.1, S.2.2.2.2.2.2.2.1, pt, nx, lf, S.2.2.1) → (∀ (bk' : Nat → Bool) (Z' : Za), dR G (dfF G m S) bk' Z' → P none 0 A (BM g G T th (Y.1, bk', Y.2.2) W R Z' U L h O)) → AW g mX9_search 0 0 P noX 0 0 63 [some (.ref (g.2.1 + 0)), some (.int (nI S.2.2.2.2.1)), L2, L3] [] 0 A (BM g G T th (Y.1, bk, Y.2.2) W R (S.2.2.2.2.2.2.1, S.2.2.2.2.2.2.2.1, pt, nx, lf, S.2.2.1) U L h O) := by
  intro m
  obtain ⟨g1, g2, g3, g4, g5⟩ := id hg
  induction m with
  | zero =>
    intro S bk pt nx lf L2 L3 hm hd hr hp
    have hle := dI_le hd
    have htc := tcn_le hg hd
    refine a_iload_n (q := 64) dX9_search_63 rfl rfl rfl ?_
    refine a_if_leN (q := 67) 230 dX9_search_64 (by decide) (by omega) rfl (fun c64 => ?_) (fun c64 => ?_)
    · skip
      exact a_ret dX9_search_230 rfl (Nat.le_of_ble_eq_true rfl) (Nat.le_of_ble_eq_true rfl) (hp _ _ hr)
    · omega
  | succ m ih =>
    intro S bk pt nx lf L2 L3 hm hd hr hp
    have hle := dI_le hd
    unfold dfF at hp
    by_cases hz : S.2.2.2.2.1 = 0
    · rw [if_pos hz] at hp
      refine a_iload_n (q := 64) dX9_search_63 rfl rfl rfl ?_
      refine a_if_leN (q := 67) 230 dX9_search_64 (by decide) (by omega) rfl (fun c64 => ?_) (fun c64 => ?_)
      · skip
        exact a_ret dX9_search_230 rfl (Nat.le_of_ble_eq_true rfl) (Nat.le_of_ble_eq_true rfl) (hp _ _ hr)
      · omega
    · rw [if_neg hz] at hp
      have hdp : 0 < S.2.2.2.2.1 := by omega
      have htr := dI_trn hg hd hdp
      obtain ⟨t1, t2, t3⟩ := hd.2.1 (S.2.2.2.2.1 - 1) (by omega)
      have htop : tpS S < G.1 := t1
      have hpt : pt (S.2.2.2.2.1 - 1) = tpS S := hr.2.2.2.1 _ (by omega)
      have hnx : nx (tpS S) = S.2.2.2.2.2.1 (tpS S) := hr.2.2.2.2.2.1 _ (Or.inr t3)
      have hnl : S.2.2.2.2.2.1 (tpS S) ≤ G.2.1 := hd.2.2.2.2.2.1 _
      have hne2 : nxF G.2.2.1 (tpS S) (G.2.1 - S.2.2.2.2.2.1 (tpS S)) (S.2.2.2.2.2.1 (tpS S)) = neS G S := rfl
      by_cases hne : neS G S < G.2.1
      · have e1 : trn G S = foS G (nxS S (tpS S) (neS G S + 1)) (neS G S) := by unfold trn; rw [if_pos hne]
        have hfo := dR_follow hg hd hdp hne hr
        rw [← e1] at hfo
        obtain ⟨e2, e3, e4, e5⟩ := g4 _ hne
        have htc : 36 - tcn G (trn G S) = m := by rw [htr.2]; omega
        by_cases hs : S.2.2.2.2.2.2.1 (G.2.2.2.1 (neS G S)) = true
        · rw [if_pos hs] at hfo
          have z1 := hfo.1
          have z2 := hfo.2.1
          have z3 := hfo.2.2.1
          have z0 : (trn G S).2.2.2.2.1 = S.2.2.2.2.1 := by
            rw [e1, foS_d, if_pos hs]; split <;> rfl
          have hih := ih (trn G S) _ pt _ lf (some (.int (nI (tpS S)))) (some (.int (nI (neS G S)))) htc htr.1 (by rw [← show _ = _ from z1, ← show _ = _ from z2, ← show _ = _ from z3]; exact hfo) hp
          rw [← show _ = _ from z1, ← show _ = _ from z2, ← show _ = _ from z3, z0] at hih
          refine a_iload_n (q := 64) dX9_search_63 rfl rfl rfl ?_
          refine a_if_leN (q := 67) 230 dX9_search_64 (by decide) (by omega) rfl (fun c64 => ?_) (fun c64 => ?_)
          · omega
          · skip
            refine a_aload_n (q := 68) dX9_search_67 rfl rfl rfl ?_
            refine a_getB (q := 71) dX9_search_68 fX9_57 rfl rfl rfl ?_
            refine a_iload_n (q := 72) dX9_search_71 rfl rfl rfl ?_
            refine a_iconst (q := 73) (nI 1) dX9_search_72 (by decide) rfl ?_
            refine a_isubN (q := 74) dX9_search_73 (by omega) rfl ?_
            refine a_ialdBN (q := 75) dX9_search_74 rfl (by omega) (by decide) rfl ?_
            show AW _ _ _ _ _ _ _ _ _ _ (.int (nI (pt (S.2.2.2.2.1 - 1))) :: _) _ _ _
            rw [hpt]
            refine a_istore_n (q := 76) dX9_search_75 rfl (Nat.le_of_ble_eq_true rfl) rfl rfl ?_
            refine a_aload_n (q := 77) dX9_search_76 rfl rfl rfl ?_
            refine a_getB (q := 80) dX9_search_77 fX9_60 rfl rfl rfl ?_
            refine a_iload_n (q := 81) dX9_search_80 rfl rfl rfl ?_
            refine a_ialdBN (q := 82) dX9_search_81 rfl (by omega) (by decide) rfl ?_
            show AW _ _ _ _ _ _ _ _ _ _ (.int (nI (nx (tpS S))) :: _) _ _ _
            rw [hnx]
            refine a_istore_n (q := 83) dX9_search_82 rfl (Nat.le_of_ble_eq_true rfl) rfl rfl ?_
            refine l_ms2 _ hg _ (tpS S) (by omega) _ _ _ rfl hnl ?_
            rw [hne2]
            refine a_aload_n (q := 108) dX9_search_107 rfl rfl rfl ?_
            refine a_getB (q := 111) dX9_search_108 fX9_60 rfl rfl rfl ?_
            refine a_iload_n (q := 112) dX9_search_111 rfl rfl rfl ?_
            refine a_iload_n (q := 113) dX9_search_112 rfl rfl rfl ?_
            refine a_iconst (q := 114) (nI 1) dX9_search_113 (by decide) rfl ?_
            refine a_iaddN (q := 115) dX9_search_114 rfl ?_
            refine a_iastBN (q := 116) dX9_search_115 rfl (by omega) (by decide) rfl ?_
            refine a_iload_n (q := 117) dX9_search_116 rfl rfl rfl ?_
            refine a_aload_n (q := 118) dX9_search_117 rfl rfl rfl ?_
            refine a_getB (q := 121) dX9_search_118 fX9_101 rfl rfl rfl ?_
            refine a_icmp_ltN (q := 124) 157 dX9_search_121 (by decide) (by omega) (by omega) rfl (fun c121 => ?_) (fun c121 => ?_)
            · skip
              refine a_aload_n (q := 158) dX9_search_157 rfl rfl rfl ?_
              refine a_getB (q := 161) dX9_search_158 fX9_26 rfl rfl rfl ?_
              refine a_iload_n (q := 162) dX9_search_161 rfl rfl rfl ?_
              refine a_aload_n (q := 163) dX9_search_162 rfl rfl rfl ?_
              refine a_getB (q := 166) dX9_search_163 fX9_54 rfl rfl rfl ?_
              refine a_aload_n (q := 167) dX9_search_166 rfl rfl rfl ?_
              refine a_getB (q := 170) dX9_search_167 fX9_17 rfl rfl rfl ?_
              refine a_iload_n (q := 171) dX9_search_170 rfl rfl rfl ?_
              refine a_ialdBN (q := 172) dX9_search_171 rfl (by omega) (by decide) rfl ?_
              refine a_zaldBN (q := 173) dX9_search_172 rfl (by omega) (by decide) rfl ?_
              refine a_zastBN (q := 174) dX9_search_173 rfl (by omega) (by decide) rfl ?_
              refine a_aload_n (q := 175) dX9_search_174 rfl rfl rfl ?_
              refine a_getB (q := 178) dX9_search_175 fX9_51 rfl rfl rfl ?_
              refine a_aload_n (q := 179) dX9_search_178 rfl rfl rfl ?_
              refine a_getB (q := 182) dX9_search_179 fX9_17 rfl rfl rfl ?_
              refine a_iload_n (q := 183) dX9_search_182 rfl rfl rfl ?_
              refine a_ialdBN (q := 184) dX9_search_183 rfl (by omega) (by decide) rfl ?_
              refine a_zaldBN (q := 185) dX9_search_184 rfl (by omega) (by decide) rfl ?_
              refine a_if_neZ (q := 188) 227 dX9_search_185 (by decide) rfl (fun c185 => ?_) (fun c185 => ?_)
              · skip
                refine a_goto 63 dX9_search_227 (by decide) ?_
                exact hih
              · exact absurd hs (by rw [show S.2.2.2.2.2.2.1 (G.2.2.2.1 (neS G S)) = false from c185]; decide)
            · omega
        · rw [if_neg hs] at hfo
          have hs' : S.2.2.2.2.2.2.1 (G.2.2.2.1 (neS G S)) = false := by
            cases hh : S.2.2.2.2.2.2.1 (G.2.2.2.1 (neS G S)) with
            | true => exact absurd hh hs
            | false => rfl
          have hdlt : S.2.2.2.2.1 < 12 := by
            have h9 := cnt_lt (p := S.2.2.2.2.2.2.1) G.1 e4 hs'
            rw [hd.1] at h9
            omega
          have z1 := hfo.1
          have z2 := hfo.2.1
          have z3 := hfo.2.2.1
          have hon : S.2.2.2.2.2.2.2.1 (G.2.2.2.1 (neS G S)) ≠ true := by
            intro q
            obtain ⟨i, hi, e⟩ := hd.2.2.2.2.2.2.2.1 _ q
            have := (hd.2.1 i hi).2.1
            rw [e, hs'] at this; cases this
          have z0 : (trn G S).2.2.2.2.1 = S.2.2.2.2.1 + 1 := by
            rw [e1, foS_d, if_neg hon, if_neg hs]
          have hih := ih (trn G S) _ _ _ lf (some (.int (nI (tpS S)))) (some (.int (nI (neS G S)))) htc htr.1 (by rw [← show _ = _ from z1, ← show _ = _ from z2, ← show _ = _ from z3]; exact hfo) hp
          rw [← show _ = _ from z1, ← show _ = _ from z2, ← show _ = _ from z3, z0] at hih
          refine a_iload_n (q := 64) dX9_search_63 rfl rfl rfl ?_
          refine a_if_leN (q := 67) 230 dX9_search_64 (by decide) (by omega) rfl (fun c64 => ?_) (fun c64 => ?_)
          · omega
          · skip
            refine a_aload_n (q := 68) dX9_search_67 rfl rfl rfl ?_
            refine a_getB (q := 71) dX9_search_68 fX9_57 rfl rfl rfl ?_
            refine a_iload_n (q := 72) dX9_search_71 rfl rfl rfl ?_
            refine a_iconst (q := 73) (nI 1) dX9_search_72 (by decide) rfl ?_
            refine a_isubN (q := 74) dX9_search_73 (by omega) rfl ?_
            refine a_ialdBN (q := 75) dX9_search_74 rfl (by omega) (by decide) rfl ?_
            show AW _ _ _ _ _ _ _ _ _ _ (.int (nI (pt (S.2.2.2.2.1 - 1))) :: _) _ _ _
            rw [hpt]
            refine a_istore_n (q := 76) dX9_search_75 rfl (Nat.le_of_ble_eq_true rfl) rfl rfl ?_
            refine a_aload_n (q := 77) dX9_search_76 rfl rfl rfl ?_
            refine a_getB (q := 80) dX9_search_77 fX9_60 rfl rfl rfl ?_
            refine a_iload_n (q := 81) dX9_search_80 rfl rfl rfl ?_
            refine a_ialdBN (q := 82) dX9_search_81 rfl (by omega) (by decide) rfl ?_
            show AW _ _ _ _ _ _ _ _ _ _ (.int (nI (nx (tpS S))) :: _) _ _ _
            rw [hnx]
            refine a_istore_n (q := 83) dX9_search_82 rfl (Nat.le_of_ble_eq_true rfl) rfl rfl ?_
            refine l_ms2 _ hg _ (tpS S) (by omega) _ _ _ rfl hnl ?_
            rw [hne2]
            refine a_aload_n (q := 108) dX9_search_107 rfl rfl rfl ?_
            refine a_getB (q := 111) dX9_search_108 fX9_60 rfl rfl rfl ?_
            refine a_iload_n (q := 112) dX9_search_111 rfl rfl rfl ?_
            refine a_iload_n (q := 113) dX9_search_112 rfl rfl rfl ?_
            refine a_iconst (q := 114) (nI 1) dX9_search_113 (by decide) rfl ?_
            refine a_iaddN (q := 115) dX9_search_114 rfl ?_
            refine a_iastBN (q := 116) dX9_search_115 rfl (by omega) (by decide) rfl ?_
            refine a_iload_n (q := 117) dX9_search_116 rfl rfl rfl ?_
            refine a_aload_n (q := 118) dX9_search_117 rfl rfl rfl ?_
            refine a_getB (q := 121) dX9_search_118 fX9_101 rfl rfl rfl ?_
            refine a_icmp_ltN (q := 124) 157 dX9_search_121 (by decide) (by omega) (by omega) rfl (fun c121 => ?_) (fun c121 => ?_)
            · skip
              refine a_aload_n (q := 158) dX9_search_157 rfl rfl rfl ?_
              refine a_getB (q := 161) dX9_search_158 fX9_26 rfl rfl rfl ?_
              refine a_iload_n (q := 162) dX9_search_161 rfl rfl rfl ?_
              refine a_aload_n (q := 163) dX9_search_162 rfl rfl rfl ?_
              refine a_getB (q := 166) dX9_search_163 fX9_54 rfl rfl rfl ?_
              refine a_aload_n (q := 167) dX9_search_166 rfl rfl rfl ?_
              refine a_getB (q := 170) dX9_search_167 fX9_17 rfl rfl rfl ?_
              refine a_iload_n (q := 171) dX9_search_170 rfl rfl rfl ?_
              refine a_ialdBN (q := 172) dX9_search_171 rfl (by omega) (by decide) rfl ?_
              refine a_zaldBN (q := 173) dX9_search_172 rfl (by omega) (by decide) rfl ?_
              refine a_zastBN (q := 174) dX9_search_173 rfl (by omega) (by decide) rfl ?_
              refine a_aload_n (q := 175) dX9_search_174 rfl rfl rfl ?_
              refine a_getB (q := 178) dX9_search_175 fX9_51 rfl rfl rfl ?_
              refine a_aload_n (q := 179) dX9_search_178 rfl rfl rfl ?_
              refine a_getB (q := 182) dX9_search_179 fX9_17 rfl rfl rfl ?_
              refine a_iload_n (q := 183) dX9_search_182 rfl rfl rfl ?_
              refine a_ialdBN (q := 184) dX9_search_183 rfl (by omega) (by decide) rfl ?_
              refine a_zaldBN (q := 185) dX9_search_184 rfl (by omega) (by decide) rfl ?_
              refine a_if_neZ (q := 188) 227 dX9_search_185 (by decide) rfl (fun c185 => ?_) (fun c185 => ?_)
              · exact absurd (show S.2.2.2.2.2.2.1 (G.2.2.2.1 (neS G S)) = true from c185) hs
              · skip
                refine a_aload_n (q := 189) dX9_search_188 rfl rfl rfl ?_
                refine a_getB (q := 192) dX9_search_189 fX9_51 rfl rfl rfl ?_
                refine a_aload_n (q := 193) dX9_search_192 rfl rfl rfl ?_
                refine a_getB (q := 196) dX9_search_193 fX9_17 rfl rfl rfl ?_
                refine a_iload_n (q := 197) dX9_search_196 rfl rfl rfl ?_
                refine a_ialdBN (q := 198) dX9_search_197 rfl (by omega) (by decide) rfl ?_
                refine a_iconst (q := 199) (b2 true) dX9_search_198 (by decide) rfl ?_
                refine a_zastBN (q := 200) dX9_search_199 rfl (by omega) (by decide) rfl ?_
                refine a_aload_n (q := 201) dX9_search_200 rfl rfl rfl ?_
                refine a_getB (q := 204) dX9_search_201 fX9_54 rfl rfl rfl ?_
                refine a_aload_n (q := 205) dX9_search_204 rfl rfl rfl ?_
                refine a_getB (q := 208) dX9_search_205 fX9_17 rfl rfl rfl ?_
                refine a_iload_n (q := 209) dX9_search_208 rfl rfl rfl ?_
                refine a_ialdBN (q := 210) dX9_search_209 rfl (by omega) (by decide) rfl ?_
                refine a_iconst (q := 211) (b2 true) dX9_search_210 (by decide) rfl ?_
                refine a_zastBN (q := 212) dX9_search_211 rfl (by omega) (by decide) rfl ?_
                refine a_aload_n (q := 213) dX9_search_212 rfl rfl rfl ?_
                refine a_getB (q := 216) dX9_search_213 fX9_57 rfl rfl rfl ?_
                refine a_iload_n (q := 217) dX9_search_216 rfl rfl rfl ?_
                refine a_aload_n (q := 218) dX9_search_217 rfl rfl rfl ?_
                refine a_getB (q := 221) dX9_search_218 fX9_17 rfl rfl rfl ?_
                refine a_iload_n (q := 222) dX9_search_221 rfl rfl rfl ?_
                refine a_ialdBN (q := 223) dX9_search_222 rfl (by omega) (by decide) rfl ?_
                refine a_iastBN (q := 224) dX9_search_223 rfl (by omega) (by decide) rfl ?_
                refine a_iincN (q := 227) (c := 1) dX9_search_224 rfl (by decide) rfl rfl ?_
                refine a_goto 63 dX9_search_227 (by decide) ?_
                exact hih
            · omega
      · have e1 : trn G S = lvS S (tpS S) := by unfold trn; rw [if_neg hne]
        have hfo := dR_leave hd hdp hr (G.2.1 + 1)
        rw [← e1] at hfo
        have hne3 : neS G S = G.2.1 := Nat.le_antisymm (nxt_le hnl) (by omega)
        have htc : 36 - tcn G (trn G S) = m := by rw [htr.2]; omega
        have z1 := hfo.1
        have z2 := hfo.2.1
        have z3 := hfo.2.2.1
        have z0 : (trn G S).2.2.2.2.1 = S.2.2.2.2.1 - 1 := by rw [e1]; rfl
        have hih := ih (trn G S) bk pt _ _ (some (.int (nI (tpS S)))) (some (.int (nI (neS G S)))) htc htr.1 (by rw [← show _ = _ from z1, ← show _ = _ from z2, ← show _ = _ from z3]; exact hfo) hp
        rw [← show _ = _ from z1, ← show _ = _ from z2, ← show _ = _ from z3, z0, hne3] at hih
        obtain ⟨dp, hdp2⟩ : ∃ d, S.2.2.2.2.1 = d + 1 := ⟨S.2.2.2.2.1 - 1, by omega⟩
        rw [hdp2, Nat.add_sub_cancel] at hih
        refine a_iload_n (q := 64) dX9_search_63 rfl rfl rfl ?_
        refine a_if_leN (q := 67) 230 dX9_search_64 (by decide) (by omega) rfl (fun c64 => ?_) (fun c64 => ?_)
        · omega
        · skip
          refine a_aload_n (q := 68) dX9_search_67 rfl rfl rfl ?_
          refine a_getB (q := 71) dX9_search_68 fX9_57 rfl rfl rfl ?_
          refine a_iload_n (q := 72) dX9_search_71 rfl rfl rfl ?_
          refine a_iconst (q := 73) (nI 1) dX9_search_72 (by decide) rfl ?_
          refine a_isubN (q := 74) dX9_search_73 (by omega) rfl ?_
          refine a_ialdBN (q := 75) dX9_search_74 rfl (by omega) (by decide) rfl ?_
          show AW _ _ _ _ _ _ _ _ _ _ (.int (nI (pt (S.2.2.2.2.1 - 1))) :: _) _ _ _
          rw [hpt]
          refine a_istore_n (q := 76) dX9_search_75 rfl (Nat.le_of_ble_eq_true rfl) rfl rfl ?_
          refine a_aload_n (q := 77) dX9_search_76 rfl rfl rfl ?_
          refine a_getB (q := 80) dX9_search_77 fX9_60 rfl rfl rfl ?_
          refine a_iload_n (q := 81) dX9_search_80 rfl rfl rfl ?_
          refine a_ialdBN (q := 82) dX9_search_81 rfl (by omega) (by decide) rfl ?_
          show AW _ _ _ _ _ _ _ _ _ _ (.int (nI (nx (tpS S))) :: _) _ _ _
          rw [hnx]
          refine a_istore_n (q := 83) dX9_search_82 rfl (Nat.le_of_ble_eq_true rfl) rfl rfl ?_
          refine l_ms2 _ hg _ (tpS S) (by omega) _ _ _ rfl hnl ?_
          rw [hne2, hne3, hdp2]
          refine a_aload_n (q := 108) dX9_search_107 rfl rfl rfl ?_
          refine a_getB (q := 111) dX9_search_108 fX9_60 rfl rfl rfl ?_
          refine a_iload_n (q := 112) dX9_search_111 rfl rfl rfl ?_
          refine a_iload_n (q := 113) dX9_search_112 rfl rfl rfl ?_
          refine a_iconst (q := 114) (nI 1) dX9_search_113 (by decide) rfl ?_
          refine a_iaddN (q := 115) dX9_search_114 rfl ?_
          refine a_iastBN (q := 116) dX9_search_115 rfl (by omega) (by decide) rfl ?_
          refine a_iload_n (q := 117) dX9_search_116 rfl rfl rfl ?_
          refine a_aload_n (q := 118) dX9_search_117 rfl rfl rfl ?_
          refine a_getB (q := 121) dX9_search_118 fX9_101 rfl rfl rfl ?_
          refine a_icmp_ltN (q := 124) 157 dX9_search_121 (by decide) (by omega) (by omega) rfl (fun c121 => ?_) (fun c121 => ?_)
          · omega
          · skip
            refine a_aload_n (q := 125) dX9_search_124 rfl rfl rfl ?_
            refine a_getB (q := 128) dX9_search_125 fX9_54 rfl rfl rfl ?_
            refine a_iload_n (q := 129) dX9_search_128 rfl rfl rfl ?_
            refine a_iconst (q := 130) (b2 false) dX9_search_129 (by decide) rfl ?_
            refine a_zastBN (q := 131) dX9_search_130 rfl (by omega) (by decide) rfl ?_
            refine a_aload_n (q := 132) dX9_search_131 rfl rfl rfl ?_
            refine a_getB (q := 135) dX9_search_132 fX9_63 rfl rfl rfl ?_
            refine a_aload_n (q := 136) dX9_search_135 rfl rfl rfl ?_
            refine a_getB (q := 139) dX9_search_136 fX9_145 rfl rfl rfl ?_
            refine a_iload_n (q := 140) dX9_search_139 rfl rfl rfl ?_
            refine a_iastBN (q := 141) dX9_search_140 rfl (show S.2.2.1 < 12 by omega) (by decide) rfl ?_
            refine a_aload_n (q := 142) dX9_search_141 rfl rfl rfl ?_
            refine a_dup (q := 143) dX9_search_142 rfl rfl ?_
            refine a_getB (q := 146) dX9_search_143 fX9_145 rfl rfl rfl ?_
            refine a_iconst (q := 147) (nI 1) dX9_search_146 (by decide) rfl ?_
            refine a_iaddN (q := 148) dX9_search_147 rfl ?_
            refine a_putB (q := 151) dX9_search_148 fX9_145 (fun h => nomatch h) rfl (Nat.le_of_ble_eq_true rfl) rfl rfl rfl ?_
            refine a_iincD (q := 154) dX9_search_151 rfl (by decide) rfl rfl ?_
            refine a_goto 227 dX9_search_154 (by decide) ?_
            refine a_goto 63 dX9_search_227 (by decide) ?_
            exact hih
theorem m_search (S0 : Se) (hg : gok G) : Ct g mX9_search [.ref (g.2.1 + 0)] 0 A (BM g G T th Y W R Z U L h O) 0 0 (fun v z A' B' => v = none ∧ z = 0 ∧ A' = A ∧ ∃ bk' Z', dR G (dfs G S0) bk' Z' ∧ B' = BM g G T th (Y.1, bk', Y.2.2) W R Z' U L h O) noX := by
  have h0 := dI_start hg S0
  refine Ct.of [some (.ref (g.2.1 + 0)), none, none, none] (by decide) rfl (Nat.le_of_ble_eq_true rfl) rfl ?_
  refine a_iconst (q := 1) (nI 0) dX9_search_0 (by decide) rfl ?_
  refine a_istore_n (q := 2) dX9_search_1 rfl (Nat.le_of_ble_eq_true rfl) rfl rfl ?_
  refine l_ms1 (Z := Z) _ ?_ _ 0 Z.1 Z.2.1 Z.2.2.2.1 rfl (Nat.zero_le _) (fun i hi => absurd hi (Nat.not_lt_zero i))
  refine a_aload_n (q := 36) dX9_search_35 rfl rfl rfl ?_
  refine a_iconst (q := 37) (nI 0) dX9_search_36 (by decide) rfl ?_
  refine a_putB (q := 40) dX9_search_37 fX9_145 (fun h => nomatch h) rfl (Nat.le_of_ble_eq_true rfl) rfl rfl rfl ?_
  refine a_aload_n (q := 41) dX9_search_40 rfl rfl rfl ?_
  refine a_getB (q := 44) dX9_search_41 fX9_57 rfl rfl rfl ?_
  refine a_iconst (q := 45) (nI 0) dX9_search_44 (by decide) rfl ?_
  refine a_iconst (q := 46) (nI 0) dX9_search_45 (by decide) rfl ?_
  refine a_iastBN (q := 47) dX9_search_46 rfl (by omega) (by decide) rfl ?_
  refine a_aload_n (q := 48) dX9_search_47 rfl rfl rfl ?_
  refine a_getB (q := 51) dX9_search_48 fX9_51 rfl rfl rfl ?_
  refine a_iconst (q := 52) (nI 0) dX9_search_51 (by decide) rfl ?_
  refine a_iconst (q := 53) (b2 true) dX9_search_52 (by decide) rfl ?_
  refine a_zastBN (q := 54) dX9_search_53 rfl (by omega) (by decide) rfl ?_
  refine a_aload_n (q := 55) dX9_search_54 rfl rfl rfl ?_
  refine a_getB (q := 58) dX9_search_55 fX9_54 rfl rfl rfl ?_
  refine a_iconst (q := 59) (nI 0) dX9_search_58 (by decide) rfl ?_
  refine a_iconst (q := 60) (b2 true) dX9_search_59 (by decide) rfl ?_
  refine a_zastBN (q := 61) dX9_search_60 rfl (by omega) (by decide) rfl ?_
  refine a_iconst (q := 62) (nI 1) dX9_search_61 (by decide) rfl ?_
  refine a_istore_n (q := 63) dX9_search_62 rfl (Nat.le_of_ble_eq_true rfl) rfl rfl ?_
  refine l_ms3 _ hg 36 (stS S0) Y.2.1 (va_up Z.2.2.1 0 0) (fun _ => 0) Z.2.2.2.2.1 _ _ (by rw [h0.2]) h0.1 ⟨rfl, rfl, rfl, fun i hi => ?_, fun i hi => absurd hi (Nat.not_lt_zero i), fun v _ => rfl, fun k _ hf => ?_⟩ (fun bk' Z' hz => ⟨rfl, rfl, rfl, bk', Z', hz, rfl⟩)
  · have hi' : i < 1 := hi
    show va_up Z.2.2.1 0 0 i = va_up S0.2.2.2.1 0 0 i
    rw [show i = 0 by omega, va_same, va_same]
  · exact absurd (of_decide_eq_true (show decide (k < 0) = true from hf)) (Nat.not_lt_zero _)
end MSearch

