/-! ===== the reference: text ===== -/
def stg (k : Nat) : Nat := if k = 0 then 0 else if k = 1 then 1 else if k % 3 = 2 then 2 else if k % 3 = 0 then 3 else 4
/-- what the reference's reader holds beside the class's -/
def mR (k : Nat) (R : Rd) (x : Ra) : Prop := x.2.2.2.2 = stg k ∧ x.2.1 = R.1.2.1 ∧ (1 ≤ k → x.1 = nI R.1.1) ∧ (∀ i, i < R.1.2.1 → x.2.2.1 i = nI (R.1.2.2.1 i) ∧ x.2.2.2.1 i = nI (R.1.2.2.2.1 i)) ∧ (3 ≤ k → k % 3 = 0 → x.2.2.1 R.1.2.1 = nI R.2 ∧ R.2 + 1 < R.1.1)
section MRead
variable {g : gp_T} {A : List va_E} {G : Gr} {T : Tx} {th : Nat} {Y : Ya} {W : Wa} {R : Ra} {Z : Za} {U : Ua} {L : La} {h : Int64} {O : Oa}
def mnew (x : Ra) : Bool := !anyR x.2.1 (fun i => decide (x.2.2.1 i = x.2.2.1 x.2.1 ∧ x.2.2.2.1 i = x.2.2.2.1 x.2.1))
theorem l_misNew (P : ps_T) (he : R.2.1 < 24) (hp : P (some (.int (b2 (mnew R)))) 0 A (BM g G T th Y W R Z U L h O)) : ∀ (m k : Nat) (b : Bool), R.2.1 - k = m → k ≤ R.2.1 → b = !anyR k (fun i => decide (R.2.2.1 i = R.2.2.1 R.2.1 ∧ R.2.2.2.1 i = R.2.2.2.1 R.2.1)) → AW g mX9_isNew 0 0 P noX 0 0 4 [some (.ref (g.2.1 + 0)), some (.int (b2 b)), some (.int (nI k))] [] 0 A (BM g G T th Y W R Z U L h O) := by
  intro m
  induction m with
  | zero =>
    intro k b hm hk hb
    have hk2 : k = R.2.1 := by omega
    subst hk2
    refine a_iload_n (q := 5) dX9_isNew_4 rfl rfl rfl ?_
    refine a_aload_n (q := 6) dX9_isNew_5 rfl rfl rfl ?_
    refine a_getB (q := 9) dX9_isNew_6 fX9_125 rfl rfl rfl ?_
    refine a_icmp_geN (q := 12) 64 dX9_isNew_9 (by decide) (by omega) (by omega) rfl (fun c9 => ?_) (fun c9 => ?_)
    · skip
      refine a_iload_n (q := 65) dX9_isNew_64 rfl rfl rfl ?_
      exact a_iret dX9_isNew_65 rfl (b2_narrow _) (Nat.le_of_ble_eq_true rfl) (Nat.le_of_ble_eq_true rfl) (by rw [hb]; exact hp)
    · omega
  | succ m ih =>
    intro k b hm hk hb
    have hs : ∀ p : Nat → Bool, anyR (k + 1) p = (anyR k p || p k) := fun p => by unfold anyR; rw [List.range_succ, List.any_append]; simp
    refine a_iload_n (q := 5) dX9_isNew_4 rfl rfl rfl ?_
    refine a_aload_n (q := 6) dX9_isNew_5 rfl rfl rfl ?_
    refine a_getB (q := 9) dX9_isNew_6 fX9_125 rfl rfl rfl ?_
    refine a_icmp_geN (q := 12) 64 dX9_isNew_9 (by decide) (by omega) (by omega) rfl (fun c9 => ?_) (fun c9 => ?_)
    · omega
    · skip
      refine a_iload_n (q := 13) dX9_isNew_12 rfl rfl rfl ?_
      refine a_if_eqZ (q := 16) 56 dX9_isNew_13 (by decide) rfl (fun c13 => ?_) (fun c13 => ?_)
      · have hn : false = !anyR (k + 1) (fun i => decide (R.2.2.1 i = R.2.2.1 R.2.1 ∧ R.2.2.2.1 i = R.2.2.2.1 R.2.1)) := by rw [hs, Bool.not_or, ← hb, c13]; rfl
        refine a_iconst (q := 57) (b2 false) dX9_isNew_56 (by decide) rfl ?_
        refine a_istore_n (q := 58) dX9_isNew_57 rfl (Nat.le_of_ble_eq_true rfl) rfl rfl ?_
        refine a_iincN (q := 61) (c := 1) dX9_isNew_58 rfl (by decide) rfl rfl ?_
        refine a_goto 4 dX9_isNew_61 (by decide) ?_
        exact ih (k + 1) _ (by omega) (by omega) hn
      · skip
        refine a_aload_n (q := 17) dX9_isNew_16 rfl rfl rfl ?_
        refine a_getB (q := 20) dX9_isNew_17 fX9_45 rfl rfl rfl ?_
        refine a_iload_n (q := 21) dX9_isNew_20 rfl rfl rfl ?_
        refine a_ialdBI (q := 22) dX9_isNew_21 rfl (by omega) (by decide) rfl ?_
        refine a_aload_n (q := 23) dX9_isNew_22 rfl rfl rfl ?_
        refine a_getB (q := 26) dX9_isNew_23 fX9_45 rfl rfl rfl ?_
        refine a_aload_n (q := 27) dX9_isNew_26 rfl rfl rfl ?_
        refine a_getB (q := 30) dX9_isNew_27 fX9_125 rfl rfl rfl ?_
        refine a_ialdBI (q := 31) dX9_isNew_30 rfl (by omega) (by decide) rfl ?_
        refine a_icmp_ne (q := 34) 52 dX9_isNew_31 (by decide) rfl (fun c31 => ?_) (fun c31 => ?_)
        · have hn : true = !anyR (k + 1) (fun i => decide (R.2.2.1 i = R.2.2.1 R.2.1 ∧ R.2.2.2.1 i = R.2.2.2.1 R.2.1)) := by rw [hs, Bool.not_or, ← hb, c13, decide_eq_false (fun q => c31 q.1)]; rfl
          refine a_iconst (q := 53) (b2 true) dX9_isNew_52 (by decide) rfl ?_
          refine a_goto 57 dX9_isNew_53 (by decide) ?_
          refine a_istore_n (q := 58) dX9_isNew_57 rfl (Nat.le_of_ble_eq_true rfl) rfl rfl ?_
          refine a_iincN (q := 61) (c := 1) dX9_isNew_58 rfl (by decide) rfl rfl ?_
          refine a_goto 4 dX9_isNew_61 (by decide) ?_
          exact ih (k + 1) _ (by omega) (by omega) hn
        · skip
          refine a_aload_n (q := 35) dX9_isNew_34 rfl rfl rfl ?_
          refine a_getB (q := 38) dX9_isNew_35 fX9_48 rfl rfl rfl ?_
          refine a_iload_n (q := 39) dX9_isNew_38 rfl rfl rfl ?_
          refine a_ialdBI (q := 40) dX9_isNew_39 rfl (by omega) (by decide) rfl ?_
          refine a_aload_n (q := 41) dX9_isNew_40 rfl rfl rfl ?_
          refine a_getB (q := 44) dX9_isNew_41 fX9_48 rfl rfl rfl ?_
          refine a_aload_n (q := 45) dX9_isNew_44 rfl rfl rfl ?_
          refine a_getB (q := 48) dX9_isNew_45 fX9_125 rfl rfl rfl ?_
          refine a_ialdBI (q := 49) dX9_isNew_48 rfl (by omega) (by decide) rfl ?_
          refine a_icmp_eq (q := 52) 56 dX9_isNew_49 (by decide) rfl (fun c49 => ?_) (fun c49 => ?_)
          · have hn : false = !anyR (k + 1) (fun i => decide (R.2.2.1 i = R.2.2.1 R.2.1 ∧ R.2.2.2.1 i = R.2.2.2.1 R.2.1)) := by rw [hs, Bool.not_or, ← hb, c13, decide_eq_true ⟨c31, c49⟩]; rfl
            refine a_iconst (q := 57) (b2 false) dX9_isNew_56 (by decide) rfl ?_
            refine a_istore_n (q := 58) dX9_isNew_57 rfl (Nat.le_of_ble_eq_true rfl) rfl rfl ?_
            refine a_iincN (q := 61) (c := 1) dX9_isNew_58 rfl (by decide) rfl rfl ?_
            refine a_goto 4 dX9_isNew_61 (by decide) ?_
            exact ih (k + 1) _ (by omega) (by omega) hn
          · have hn : true = !anyR (k + 1) (fun i => decide (R.2.2.1 i = R.2.2.1 R.2.1 ∧ R.2.2.2.1 i = R.2.2.2.1 R.2.1)) := by rw [hs, Bool.not_or, ← hb, c13, decide_eq_false (fun q => c49 q.2)]; rfl
            refine a_iconst (q := 53) (b2 true) dX9_isNew_52 (by decide) rfl ?_
            refine a_goto 57 dX9_isNew_53 (by decide) ?_
            refine a_istore_n (q := 58) dX9_isNew_57 rfl (Nat.le_of_ble_eq_true rfl) rfl rfl ?_
            refine a_iincN (q := 61) (c := 1) dX9_isNew_58 rfl (by decide) rfl rfl ?_
            refine a_goto 4 dX9_isNew_61 (by decide) ?_
            exact ih (k + 1) _ (by omega) (by omega) hn
theorem m_isNew (he : R.2.1 < 24) : Ct g mX9_isNew [.ref (g.2.1 + 0)] 0 A (BM g G T th Y W R Z U L h O) 0 0 (rP (some (.int (b2 (mnew R)))) A (BM g G T th Y W R Z U L h O)) noX := by
  refine Ct.of [some (.ref (g.2.1 + 0)), none, none] (by decide) rfl (Nat.le_of_ble_eq_true rfl) rfl ?_
  refine a_iconst (q := 1) (b2 true) dX9_isNew_0 (by decide) rfl ?_
  refine a_istore_n (q := 2) dX9_isNew_1 rfl (Nat.le_of_ble_eq_true rfl) rfl rfl ?_
  refine a_iconst (q := 3) (nI 0) dX9_isNew_2 (by decide) rfl ?_
  refine a_istore_n (q := 4) dX9_isNew_3 rfl (Nat.le_of_ble_eq_true rfl) rfl rfl ?_
  exact l_misNew _ he ⟨rfl, rfl, rfl, rfl⟩ _ 0 true rfl (Nat.zero_le _) rfl
def tkP (g : gp_T) (A : List va_E) (G : Gr) (T : Tx) (th : Nat) (Y : Ya) (W : Wa) (Z : Za) (U : Ua) (L : La) (h : Int64) (O : Oa) (k c : Nat) (D : Rd) : ps_T := fun v z A' B' => v = some (.int (b2 (tk k c D).isSome)) ∧ z = 0 ∧ A' = A ∧ ∃ x : Ra, B' = BM g G T th Y W x Z U L h O ∧ ∀ D', tk k c D = some D' → mR (k + 1) D' x
theorem m_takes0 (c : Nat) (D : Rd) (hc : c < 127) (hr : mR 0 D R) (he : D.1.2.1 = 0) : Ct g mX9_takes [.ref (g.2.1 + 0), .int (nI c)] 0 A (BM g G T th Y W R Z U L h O) 0 0 (tkP g A G T th Y W Z U L h O 0 c D) noX := by
  obtain ⟨h1, h2, h3, h4, h5⟩ := hr
  obtain ⟨rn, re, rf, rt, sg⟩ := R
  have h1 : sg = 0 := h1
  have h2 : re = D.1.2.1 := h2
  subst h1
  have hv : tk 0 c D = if wi (nI c - nI 97) (nI 1) (nI 11) = true then some ((c - 96, 0, D.1.2.2), D.2) else none := by
    unfold tk
    rw [if_pos rfl]
    have hw : wi (nI c - nI 97) (nI 1) (nI 11) = decide (98 ≤ c ∧ c ≤ 108) := by
      unfold wi
      congr 1
      apply propext
      rw [i32_lt, i32_lt, pk_sub_toInt (by omega) (by decide), nI_toInt (show 1 < 2 ^ 31 by decide), nI_toInt (show 11 < 2 ^ 31 by decide)]
      omega
    rw [hw]
    by_cases q : 98 ≤ c ∧ c ≤ 108
    · rw [if_pos q, if_pos (decide_eq_true q)]
    · rw [if_neg q, if_neg (by rw [decide_eq_false q]; decide)]
  have hq : wi (nI c - nI 97) (nI 1) (nI 11) = true → nI c - nI 97 + nI 1 = nI (c - 96) := by
    intro q
    have q2 : 98 ≤ c := by
      unfold wi at q
      have := of_decide_eq_true q
      rw [i32_lt, i32_lt, pk_sub_toInt (by omega) (by decide), nI_toInt (show 1 < 2 ^ 31 by decide), nI_toInt (show 11 < 2 ^ 31 by decide)] at this
      omega
    rw [pk_sub (by omega), nI_add, show c - 97 + 1 = c - 96 by omega]
  refine Ct.of [some (.ref (g.2.1 + 0)), some (.int (nI c)), none, none] (by decide) rfl (Nat.le_of_ble_eq_true rfl) rfl ?_
  refine a_iload_n (q := 1) dX9_takes_0 rfl rfl rfl ?_
  refine a_bipush (q := 3) (nI 97) dX9_takes_1 (by decide) rfl ?_
  refine a_isub (q := 4) dX9_takes_3 rfl ?_
  refine a_istore_n (q := 5) dX9_takes_4 rfl (Nat.le_of_ble_eq_true rfl) rfl rfl ?_
  refine a_aload_n (q := 6) dX9_takes_5 rfl rfl rfl ?_
  refine a_getB (q := 9) dX9_takes_6 fX9_128 rfl rfl rfl ?_
  show AW _ _ _ _ _ _ _ _ _ _ (.int (nI 0) :: _) _ _ _
  refine a_tin (off := 31) 40 dX9_takes_9 (by decide) (by decide) (by decide) (by decide) ?_
  refine a_aload_n (q := 41) dX9_takes_40 rfl rfl rfl ?_
  refine a_iload_n (q := 42) dX9_takes_41 rfl rfl rfl ?_
  refine a_iconst (q := 43) (nI 1) dX9_takes_42 (by decide) rfl ?_
  refine a_iadd (q := 44) dX9_takes_43 rfl ?_
  refine a_putB (q := 47) dX9_takes_44 fX9_131 (fun h => nomatch h) rfl (Nat.le_of_ble_eq_true rfl) rfl rfl rfl ?_
  refine a_aload_n (q := 48) dX9_takes_47 rfl rfl rfl ?_
  refine a_iconst (q := 49) (nI 1) dX9_takes_48 (by decide) rfl ?_
  refine a_putB (q := 52) dX9_takes_49 fX9_128 (fun h => nomatch h) rfl (Nat.le_of_ble_eq_true rfl) rfl rfl rfl ?_
  refine a_iload_n (q := 53) dX9_takes_52 rfl rfl rfl ?_
  refine a_iconst (q := 54) (nI 1) dX9_takes_53 (by decide) rfl ?_
  refine a_bipush (q := 56) (nI 11) dX9_takes_54 (by decide) rfl ?_
  refine a_cSv (q := 59) _ dX9_takes_56 kX9_97 (m_within _ _ _) rfl rfl (Nat.le_of_ble_eq_true rfl) ⟨(Nat.le_of_ble_eq_true rfl), (Nat.le_of_ble_eq_true rfl)⟩ ⟨(Nat.le_of_ble_eq_true rfl), (Nat.le_of_ble_eq_true rfl)⟩ rfl ?_
  exact a_iret dX9_takes_59 rfl (b2_narrow _) (Nat.le_of_ble_eq_true rfl) (Nat.le_of_ble_eq_true rfl) (⟨by rw [hv]; cases hh : wi (nI c - nI 97) (nI 1) (nI 11) <;> rfl, rfl, rfl, (nI c - nI 97 + nI 1, re, rf, rt, 1), rfl, fun D' hD => by
      rw [hv] at hD
      split at hD
      · rename_i q
        cases hD
        refine ⟨rfl, ?_, fun _ => hq q, fun i hi => absurd hi (Nat.not_lt_zero i), fun hh _ => absurd hh (by decide)⟩
        show re = 0
        omega
      · cases hD⟩)
theorem m_takes1 (c : Nat) (D : Rd) (hc : c < 127) (hr : mR 1 D R) : Ct g mX9_takes [.ref (g.2.1 + 0), .int (nI c)] 0 A (BM g G T th Y W R Z U L h O) 0 0 (tkP g A G T th Y W Z U L h O 1 c D) noX := by
  obtain ⟨h1, h2, h3, h4, h5⟩ := hr
  obtain ⟨rn, re, rf, rt, sg⟩ := R
  have h1 : sg = 1 := h1
  subst h1
  have hv : tk 1 c D = if c = 58 then some D else none := by
    unfold tk
    rw [if_neg (by decide), if_pos rfl]
  have hnx : ∀ D', tk 1 c D = some D' → mR 2 D' (rn, re, rf, rt, 2) := by
    intro D' hD
    rw [hv] at hD
    split at hD
    · cases hD
      exact ⟨rfl, h2, fun _ => h3 (by decide), h4, fun hh _ => absurd hh (by decide)⟩
    · cases hD
  refine Ct.of [some (.ref (g.2.1 + 0)), some (.int (nI c)), none, none] (by decide) rfl (Nat.le_of_ble_eq_true rfl) rfl ?_
  refine a_iload_n (q := 1) dX9_takes_0 rfl rfl rfl ?_
  refine a_bipush (q := 3) (nI 97) dX9_takes_1 (by decide) rfl ?_
  refine a_isub (q := 4) dX9_takes_3 rfl ?_
  refine a_istore_n (q := 5) dX9_takes_4 rfl (Nat.le_of_ble_eq_true rfl) rfl rfl ?_
  refine a_aload_n (q := 6) dX9_takes_5 rfl rfl rfl ?_
  refine a_getB (q := 9) dX9_takes_6 fX9_128 rfl rfl rfl ?_
  show AW _ _ _ _ _ _ _ _ _ _ (.int (nI 1) :: _) _ _ _
  refine a_tin (off := 51) 60 dX9_takes_9 (by decide) (by decide) (by decide) (by decide) ?_
  refine a_aload_n (q := 61) dX9_takes_60 rfl rfl rfl ?_
  refine a_iconst (q := 62) (nI 2) dX9_takes_61 (by decide) rfl ?_
  refine a_putB (q := 65) dX9_takes_62 fX9_128 (fun h => nomatch h) rfl (Nat.le_of_ble_eq_true rfl) rfl rfl rfl ?_
  refine a_iload_n (q := 66) dX9_takes_65 rfl rfl rfl ?_
  refine a_bipush (q := 68) (nI 58) dX9_takes_66 (by decide) rfl ?_
  refine a_icmp_neN (q := 71) 75 dX9_takes_68 (by decide) (by omega) (by omega) rfl (fun c68 => ?_) (fun c68 => ?_)
  · have hs : (tk 1 c D).isSome = false := by rw [hv, if_neg c68]; rfl
    refine a_iconst (q := 76) (b2 false) dX9_takes_75 (by decide) rfl ?_
    exact a_iret dX9_takes_76 rfl (b2_narrow _) (Nat.le_of_ble_eq_true rfl) (Nat.le_of_ble_eq_true rfl) (⟨by rw [hs], rfl, rfl, (rn, re, rf, rt, 2), rfl, hnx⟩)
  · have hs : (tk 1 c D).isSome = true := by rw [hv, if_pos c68]; rfl
    refine a_iconst (q := 72) (b2 true) dX9_takes_71 (by decide) rfl ?_
    refine a_goto 76 dX9_takes_72 (by decide) ?_
    exact a_iret dX9_takes_76 rfl (b2_narrow _) (Nat.le_of_ble_eq_true rfl) (Nat.le_of_ble_eq_true rfl) (⟨by rw [hs], rfl, rfl, (rn, re, rf, rt, 2), rfl, hnx⟩)
theorem m_takes2 (k c : Nat) (D : Rd) (hk : 2 ≤ k) (hk3 : k % 3 = 2) (hc : c < 127) (hr : mR k D R) (hn : 1 ≤ D.1.1 ∧ D.1.1 ≤ 12) (he : D.1.2.1 < 24) : Ct g mX9_takes [.ref (g.2.1 + 0), .int (nI c)] 0 A (BM g G T th Y W R Z U L h O) 0 0 (tkP g A G T th Y W Z U L h O k c D) noX := by
  obtain ⟨h1, h2, h3, h4, h5⟩ := hr
  obtain ⟨rn, re, rf, rt, sg⟩ := R
  have h1 : sg = 2 := by rw [show sg = stg k from h1]; unfold stg; rw [if_neg (by omega), if_neg (by omega), if_pos hk3]
  have h2 : re = D.1.2.1 := h2
  have h3' : rn = nI D.1.1 := h3 (by omega)
  subst h1; subst h2; subst h3'
  have hv : tk k c D = if 97 ≤ c ∧ c - 97 + 1 < D.1.1 then some (D.1, c - 97) else none := by
    unfold tk
    rw [if_neg (by omega), if_neg (by omega), if_neg (by omega), if_neg (by omega)]
  have hw : wi (nI c - nI 97) (nI 0) (nI D.1.1 - nI 2) = decide (97 ≤ c ∧ c - 97 + 1 < D.1.1) := by
    unfold wi
    congr 1
    apply propext
    rw [i32_lt, i32_lt, pk_sub_toInt (by omega) (by decide), nI_toInt (show 0 < 2 ^ 31 by decide), pk_sub_toInt (by omega) (by decide)]
    omega
  have hs : (tk k c D).isSome = wi (nI c - nI 97) (nI 0) (nI D.1.1 - nI 2) := by
    rw [hv, hw]
    by_cases q : 97 ≤ c ∧ c - 97 + 1 < D.1.1
    · rw [if_pos q, decide_eq_true q]; rfl
    · rw [if_neg q, decide_eq_false q]; rfl
  have hnx : ∀ D', tk k c D = some D' → mR (k + 1) D' (nI D.1.1, D.1.2.1, va_up rf D.1.2.1 (nI c - nI 97), rt, 3) := by
    intro D' hD
    rw [hv] at hD
    split at hD
    · rename_i q
      cases hD
      refine ⟨?_, rfl, fun _ => rfl, fun i hi => ?_, fun _ _ => ⟨?_, q.2⟩⟩
      · show 3 = stg (k + 1)
        unfold stg; rw [if_neg (by omega), if_neg (by omega), if_neg (by omega), if_pos (by omega)]
      · have hi' : i < D.1.2.1 := hi
        show va_up rf D.1.2.1 (nI c - nI 97) i = _ ∧ _
        rw [va_other (by omega)]
        exact h4 i hi'
      · show va_up rf D.1.2.1 (nI c - nI 97) D.1.2.1 = nI (c - 97)
        rw [va_same, pk_sub q.1]
    · cases hD
  refine Ct.of [some (.ref (g.2.1 + 0)), some (.int (nI c)), none, none] (by decide) rfl (Nat.le_of_ble_eq_true rfl) rfl ?_
  refine a_iload_n (q := 1) dX9_takes_0 rfl rfl rfl ?_
  refine a_bipush (q := 3) (nI 97) dX9_takes_1 (by decide) rfl ?_
  refine a_isub (q := 4) dX9_takes_3 rfl ?_
  refine a_istore_n (q := 5) dX9_takes_4 rfl (Nat.le_of_ble_eq_true rfl) rfl rfl ?_
  refine a_aload_n (q := 6) dX9_takes_5 rfl rfl rfl ?_
  refine a_getB (q := 9) dX9_takes_6 fX9_128 rfl rfl rfl ?_
  show AW _ _ _ _ _ _ _ _ _ _ (.int (nI 2) :: _) _ _ _
  refine a_tin (off := 68) 77 dX9_takes_9 (by decide) (by decide) (by decide) (by decide) ?_
  refine a_aload_n (q := 78) dX9_takes_77 rfl rfl rfl ?_
  refine a_getB (q := 81) dX9_takes_78 fX9_45 rfl rfl rfl ?_
  refine a_aload_n (q := 82) dX9_takes_81 rfl rfl rfl ?_
  refine a_getB (q := 85) dX9_takes_82 fX9_125 rfl rfl rfl ?_
  refine a_iload_n (q := 86) dX9_takes_85 rfl rfl rfl ?_
  refine a_iastBI (q := 87) dX9_takes_86 rfl (by omega) (by decide) rfl ?_
  refine a_aload_n (q := 88) dX9_takes_87 rfl rfl rfl ?_
  refine a_iconst (q := 89) (nI 3) dX9_takes_88 (by decide) rfl ?_
  refine a_putB (q := 92) dX9_takes_89 fX9_128 (fun h => nomatch h) rfl (Nat.le_of_ble_eq_true rfl) rfl rfl rfl ?_
  refine a_iload_n (q := 93) dX9_takes_92 rfl rfl rfl ?_
  refine a_iconst (q := 94) (nI 0) dX9_takes_93 (by decide) rfl ?_
  refine a_aload_n (q := 95) dX9_takes_94 rfl rfl rfl ?_
  refine a_getB (q := 98) dX9_takes_95 fX9_131 rfl rfl rfl ?_
  refine a_iconst (q := 99) (nI 2) dX9_takes_98 (by decide) rfl ?_
  refine a_isub (q := 100) dX9_takes_99 rfl ?_
  refine a_cSv (q := 103) _ dX9_takes_100 kX9_97 (m_within _ _ _) rfl rfl (Nat.le_of_ble_eq_true rfl) ⟨(Nat.le_of_ble_eq_true rfl), (Nat.le_of_ble_eq_true rfl)⟩ ⟨(Nat.le_of_ble_eq_true rfl), (Nat.le_of_ble_eq_true rfl)⟩ rfl ?_
  exact a_iret dX9_takes_103 rfl (b2_narrow _) (Nat.le_of_ble_eq_true rfl) (Nat.le_of_ble_eq_true rfl) (⟨by rw [hs], rfl, rfl, (nI D.1.1, D.1.2.1, va_up rf D.1.2.1 (nI c - nI 97), rt, 3), rfl, hnx⟩)
theorem m_takes3 (k c : Nat) (D : Rd) (hk : 2 ≤ k) (hk3 : k % 3 = 0) (hc : c < 127) (hr : mR k D R) (hn : 1 ≤ D.1.1 ∧ D.1.1 ≤ 12) (he : D.1.2.1 < 24) : Ct g mX9_takes [.ref (g.2.1 + 0), .int (nI c)] 0 A (BM g G T th Y W R Z U L h O) 0 0 (tkP g A G T th Y W Z U L h O k c D) noX := by
  obtain ⟨h1, h2, h3, h4, h5⟩ := hr
  obtain ⟨rn, re, rf, rt, sg⟩ := R
  have h1 : sg = 3 := by rw [show sg = stg k from h1]; unfold stg; rw [if_neg (by omega), if_neg (by omega), if_neg (by omega), if_pos hk3]
  have h2 : re = D.1.2.1 := h2
  have h3' : rn = nI D.1.1 := h3 (by omega)
  subst h1; subst h2; subst h3'
  obtain ⟨h6, h7⟩ := h5 (by omega) hk3
  have hv : tk k c D = if 97 ≤ c ∧ alw D.1 (nI D.2) (nI (c - 97)) = true then some (gadd D.1 D.2 (c - 97), D.2) else none := by
    unfold tk
    rw [if_neg (by omega), if_neg (by omega), if_pos hk3]
  have hjn : mnew (nI D.1.1, D.1.2.1, rf, va_up rt D.1.2.1 (nI c - nI 97), 4) = !jn D.1 (nI D.2) (nI c - nI 97) := by
    unfold mnew jn
    congr 1
    show anyR D.1.2.1 (fun i => decide (rf i = rf D.1.2.1 ∧ va_up rt D.1.2.1 (nI c - nI 97) i = va_up rt D.1.2.1 (nI c - nI 97) D.1.2.1)) = _
    have key : ∀ i, i < D.1.2.1 → decide (rf i = rf D.1.2.1 ∧ va_up rt D.1.2.1 (nI c - nI 97) i = va_up rt D.1.2.1 (nI c - nI 97) D.1.2.1) = decide (nI (D.1.2.2.1 i) = nI D.2 ∧ nI (D.1.2.2.2.1 i) = nI c - nI 97) := by
      intro i hi
      rw [va_same, va_other (by omega)]
      obtain ⟨a1, a2⟩ := h4 i hi
      rw [show rf i = _ from a1, show rt i = _ from a2, show rf D.1.2.1 = _ from h6]
    cases hh : anyR D.1.2.1 (fun i => decide (nI (D.1.2.2.1 i) = nI D.2 ∧ nI (D.1.2.2.2.1 i) = nI c - nI 97)) with
    | true =>
      obtain ⟨i, hi, hp⟩ := anyR_tE hh
      exact anyR_t hi (by rw [key i hi]; exact hp)
    | false => exact anyR_f (fun i hi => by rw [key i hi]; exact anyR_fE hh i hi)
  have hs : (tk k c D).isSome = (wi (nI c - nI 97) (nI 1) (nI D.1.1 - nI 1) && !jn D.1 (nI D.2) (nI c - nI 97)) := by
    have hw : wi (nI c - nI 97) (nI 1) (nI D.1.1 - nI 1) = decide (98 ≤ c ∧ c - 97 < D.1.1) := by
      unfold wi
      congr 1
      apply propext
      rw [i32_lt, i32_lt, pk_sub_toInt (by omega) (by decide), nI_toInt (show 1 < 2 ^ 31 by decide), pk_sub_toInt (by omega) (by decide)]
      omega
    rw [hv, hw]
    by_cases q : 97 ≤ c
    · rw [pk_sub q]
      have ha : alw D.1 (nI D.2) (nI (c - 97)) = (decide (98 ≤ c ∧ c - 97 < D.1.1) && !jn D.1 (nI D.2) (nI (c - 97))) := by
        unfold alw
        rw [inR_nI (by unfold big; omega) (by unfold big; omega), inR_nI (by unfold big; omega) (by unfold big; omega), decide_eq_true (show D.2 < D.1.1 by omega), decide_eq_true (show ¬ nI D.2 = nI (D.1.1 - 1) by rw [nI_eq (by omega) (by omega)]; omega)]
        congr 1
        by_cases q2 : c - 97 < D.1.1
        · rw [decide_eq_true q2]
          by_cases q3 : 98 ≤ c
          · rw [decide_eq_true (show 98 ≤ c ∧ c - 97 < D.1.1 from ⟨q3, q2⟩), decide_eq_true (show ¬ nI (c - 97) = 0 from fun z => by rw [← nI_0, nI_eq (by omega) (by omega)] at z; omega)]; rfl
          · rw [decide_eq_false (show ¬ (98 ≤ c ∧ c - 97 < D.1.1) from fun z => q3 z.1), decide_eq_false (show ¬ ¬ nI (c - 97) = 0 from fun z => z (by rw [show c - 97 = 0 by omega]; rfl))]; rfl
        · rw [decide_eq_false q2, decide_eq_false (show ¬ (98 ≤ c ∧ c - 97 < D.1.1) from fun z => q2 z.2)]; rfl
      rw [← ha]
      cases hb : alw D.1 (nI D.2) (nI (c - 97)) with
      | true => rw [if_pos ⟨q, rfl⟩]; rfl
      | false => rw [if_neg (fun z => by cases z.2)]; rfl
    · rw [if_neg (fun z => q z.1), decide_eq_false (fun z => by omega)]; rfl
  have hnx : ∀ D', tk k c D = some D' → mR (k + 1) D' (nI D.1.1, D.1.2.1 + 1, rf, va_up rt D.1.2.1 (nI c - nI 97), 4) := by
    intro D' hD
    rw [hv] at hD
    split at hD
    · rename_i q
      cases hD
      refine ⟨?_, rfl, fun _ => rfl, fun i hi => ?_, fun _ q2 => by omega⟩
      · show 4 = stg (k + 1)
        unfold stg; rw [if_neg (by omega), if_neg (by omega), if_neg (by omega), if_neg (by omega)]
      · have hi' : i < D.1.2.1 + 1 := hi
        show rf i = nI (va_up D.1.2.2.1 D.1.2.1 D.2 i) ∧ va_up rt D.1.2.1 (nI c - nI 97) i = nI (va_up D.1.2.2.2.1 D.1.2.1 (c - 97) i)
        by_cases e : i = D.1.2.1
        · rw [e, va_same, va_same, va_same, pk_sub q.1]; exact ⟨h6, rfl⟩
        · rw [va_other e, va_other e, va_other e]; exact h4 i (by omega)
    · cases hD
  refine Ct.of [some (.ref (g.2.1 + 0)), some (.int (nI c)), none, none] (by decide) rfl (Nat.le_of_ble_eq_true rfl) rfl ?_
  refine a_iload_n (q := 1) dX9_takes_0 rfl rfl rfl ?_
  refine a_bipush (q := 3) (nI 97) dX9_takes_1 (by decide) rfl ?_
  refine a_isub (q := 4) dX9_takes_3 rfl ?_
  refine a_istore_n (q := 5) dX9_takes_4 rfl (Nat.le_of_ble_eq_true rfl) rfl rfl ?_
  refine a_aload_n (q := 6) dX9_takes_5 rfl rfl rfl ?_
  refine a_getB (q := 9) dX9_takes_6 fX9_128 rfl rfl rfl ?_
  show AW _ _ _ _ _ _ _ _ _ _ (.int (nI 3) :: _) _ _ _
  refine a_tin (off := 95) 104 dX9_takes_9 (by decide) (by decide) (by decide) (by decide) ?_
  refine a_aload_n (q := 105) dX9_takes_104 rfl rfl rfl ?_
  refine a_getB (q := 108) dX9_takes_105 fX9_48 rfl rfl rfl ?_
  refine a_aload_n (q := 109) dX9_takes_108 rfl rfl rfl ?_
  refine a_getB (q := 112) dX9_takes_109 fX9_125 rfl rfl rfl ?_
  refine a_iload_n (q := 113) dX9_takes_112 rfl rfl rfl ?_
  refine a_iastBI (q := 114) dX9_takes_113 rfl (by omega) (by decide) rfl ?_
  refine a_aload_n (q := 115) dX9_takes_114 rfl rfl rfl ?_
  refine a_iconst (q := 116) (nI 4) dX9_takes_115 (by decide) rfl ?_
  refine a_putB (q := 119) dX9_takes_116 fX9_128 (fun h => nomatch h) rfl (Nat.le_of_ble_eq_true rfl) rfl rfl rfl ?_
  refine a_iload_n (q := 120) dX9_takes_119 rfl rfl rfl ?_
  refine a_iconst (q := 121) (nI 1) dX9_takes_120 (by decide) rfl ?_
  refine a_aload_n (q := 122) dX9_takes_121 rfl rfl rfl ?_
  refine a_getB (q := 125) dX9_takes_122 fX9_131 rfl rfl rfl ?_
  refine a_iconst (q := 126) (nI 1) dX9_takes_125 (by decide) rfl ?_
  refine a_isub (q := 127) dX9_takes_126 rfl ?_
  refine a_cSv (q := 130) _ dX9_takes_127 kX9_97 (m_within _ _ _) rfl rfl (Nat.le_of_ble_eq_true rfl) ⟨(Nat.le_of_ble_eq_true rfl), (Nat.le_of_ble_eq_true rfl)⟩ ⟨(Nat.le_of_ble_eq_true rfl), (Nat.le_of_ble_eq_true rfl)⟩ rfl ?_
  refine a_if_eqZ (q := 133) 144 dX9_takes_130 (by decide) rfl (fun c130 => ?_) (fun c130 => ?_)
  · have hs2 : (tk k c D).isSome = false := by rw [hs, c130]; rfl
    refine a_iconst (q := 145) (b2 false) dX9_takes_144 (by decide) rfl ?_
    refine a_istore_n (q := 146) dX9_takes_145 rfl (Nat.le_of_ble_eq_true rfl) rfl rfl ?_
    refine a_aload_n (q := 147) dX9_takes_146 rfl rfl rfl ?_
    refine a_dup (q := 148) dX9_takes_147 rfl rfl ?_
    refine a_getB (q := 151) dX9_takes_148 fX9_125 rfl rfl rfl ?_
    refine a_iconst (q := 152) (nI 1) dX9_takes_151 (by decide) rfl ?_
    refine a_iaddN (q := 153) dX9_takes_152 rfl ?_
    refine a_putB (q := 156) dX9_takes_153 fX9_125 (fun h => nomatch h) rfl (Nat.le_of_ble_eq_true rfl) rfl rfl rfl ?_
    refine a_iload_n (q := 157) dX9_takes_156 rfl rfl rfl ?_
    exact a_iret dX9_takes_157 rfl (b2_narrow _) (Nat.le_of_ble_eq_true rfl) (Nat.le_of_ble_eq_true rfl) (⟨by rw [hs2], rfl, rfl, (nI D.1.1, D.1.2.1 + 1, rf, va_up rt D.1.2.1 (nI c - nI 97), 4), rfl, hnx⟩)
  · skip
    refine a_aload_n (q := 134) dX9_takes_133 rfl rfl rfl ?_
    refine a_cVBv (q := 137) _ dX9_takes_134 kX9_134 (m_isNew (R := (nI D.1.1, D.1.2.1, rf, va_up rt D.1.2.1 (nI c - nI 97), 4)) he) rfl rfl rfl (Nat.le_of_ble_eq_true rfl) ⟨(Nat.le_of_ble_eq_true rfl), (Nat.le_of_ble_eq_true rfl)⟩ ⟨(Nat.le_of_ble_eq_true rfl), (Nat.le_of_ble_eq_true rfl)⟩ rfl ?_
    refine a_if_eqZ (q := 140) 144 dX9_takes_137 (by decide) rfl (fun c137 => ?_) (fun c137 => ?_)
    · have hs2 : (tk k c D).isSome = false := by rw [hs, ← hjn, c137, Bool.and_false]
      refine a_iconst (q := 145) (b2 false) dX9_takes_144 (by decide) rfl ?_
      refine a_istore_n (q := 146) dX9_takes_145 rfl (Nat.le_of_ble_eq_true rfl) rfl rfl ?_
      refine a_aload_n (q := 147) dX9_takes_146 rfl rfl rfl ?_
      refine a_dup (q := 148) dX9_takes_147 rfl rfl ?_
      refine a_getB (q := 151) dX9_takes_148 fX9_125 rfl rfl rfl ?_
      refine a_iconst (q := 152) (nI 1) dX9_takes_151 (by decide) rfl ?_
      refine a_iaddN (q := 153) dX9_takes_152 rfl ?_
      refine a_putB (q := 156) dX9_takes_153 fX9_125 (fun h => nomatch h) rfl (Nat.le_of_ble_eq_true rfl) rfl rfl rfl ?_
      refine a_iload_n (q := 157) dX9_takes_156 rfl rfl rfl ?_
      exact a_iret dX9_takes_157 rfl (b2_narrow _) (Nat.le_of_ble_eq_true rfl) (Nat.le_of_ble_eq_true rfl) (⟨by rw [hs2], rfl, rfl, (nI D.1.1, D.1.2.1 + 1, rf, va_up rt D.1.2.1 (nI c - nI 97), 4), rfl, hnx⟩)
    · have hs2 : (tk k c D).isSome = true := by rw [hs, ← hjn, c137, c130]; rfl
      refine a_iconst (q := 141) (b2 true) dX9_takes_140 (by decide) rfl ?_
      refine a_goto 145 dX9_takes_141 (by decide) ?_
      refine a_istore_n (q := 146) dX9_takes_145 rfl (Nat.le_of_ble_eq_true rfl) rfl rfl ?_
      refine a_aload_n (q := 147) dX9_takes_146 rfl rfl rfl ?_
      refine a_dup (q := 148) dX9_takes_147 rfl rfl ?_
      refine a_getB (q := 151) dX9_takes_148 fX9_125 rfl rfl rfl ?_
      refine a_iconst (q := 152) (nI 1) dX9_takes_151 (by decide) rfl ?_
      refine a_iaddN (q := 153) dX9_takes_152 rfl ?_
      refine a_putB (q := 156) dX9_takes_153 fX9_125 (fun h => nomatch h) rfl (Nat.le_of_ble_eq_true rfl) rfl rfl rfl ?_
      refine a_iload_n (q := 157) dX9_takes_156 rfl rfl rfl ?_
      exact a_iret dX9_takes_157 rfl (b2_narrow _) (Nat.le_of_ble_eq_true rfl) (Nat.le_of_ble_eq_true rfl) (⟨by rw [hs2], rfl, rfl, (nI D.1.1, D.1.2.1 + 1, rf, va_up rt D.1.2.1 (nI c - nI 97), 4), rfl, hnx⟩)
theorem m_takes4 (k c : Nat) (D : Rd) (hk : 2 ≤ k) (hk3 : k % 3 = 1) (hc : c < 127) (hr : mR k D R) (he : D.1.2.1 < 24) : Ct g mX9_takes [.ref (g.2.1 + 0), .int (nI c)] 0 A (BM g G T th Y W R Z U L h O) 0 0 (tkP g A G T th Y W Z U L h O k c D) noX := by
  obtain ⟨h1, h2, h3, h4, h5⟩ := hr
  obtain ⟨rn, re, rf, rt, sg⟩ := R
  have h1 : sg = 4 := by rw [show sg = stg k from h1]; unfold stg; rw [if_neg (by omega), if_neg (by omega), if_neg (by omega), if_neg (by omega)]
  have h2 : re = D.1.2.1 := h2
  subst h1; subst h2
  have hv : tk k c D = if c = 44 ∧ D.1.2.1 < 24 then some D else none := by
    unfold tk
    rw [if_neg (by omega), if_neg (by omega), if_neg (by omega), if_pos hk3]
  have hnx : ∀ D', tk k c D = some D' → mR (k + 1) D' (rn, D.1.2.1, rf, rt, 2) := by
    intro D' hD
    rw [hv] at hD
    split at hD
    · cases hD
      refine ⟨?_, rfl, fun _ => h3 (by omega), h4, fun _ q2 => by omega⟩
      show 2 = stg (k + 1)
      unfold stg; rw [if_neg (by omega), if_neg (by omega), if_pos (by omega)]
    · cases hD
  refine Ct.of [some (.ref (g.2.1 + 0)), some (.int (nI c)), none, none] (by decide) rfl (Nat.le_of_ble_eq_true rfl) rfl ?_
  refine a_iload_n (q := 1) dX9_takes_0 rfl rfl rfl ?_
  refine a_bipush (q := 3) (nI 97) dX9_takes_1 (by decide) rfl ?_
  refine a_isub (q := 4) dX9_takes_3 rfl ?_
  refine a_istore_n (q := 5) dX9_takes_4 rfl (Nat.le_of_ble_eq_true rfl) rfl rfl ?_
  refine a_aload_n (q := 6) dX9_takes_5 rfl rfl rfl ?_
  refine a_getB (q := 9) dX9_takes_6 fX9_128 rfl rfl rfl ?_
  show AW _ _ _ _ _ _ _ _ _ _ (.int (nI 4) :: _) _ _ _
  refine a_tout 158 dX9_takes_9 (by decide) (by decide) ?_
  refine a_aload_n (q := 159) dX9_takes_158 rfl rfl rfl ?_
  refine a_iconst (q := 160) (nI 2) dX9_takes_159 (by decide) rfl ?_
  refine a_putB (q := 163) dX9_takes_160 fX9_128 (fun h => nomatch h) rfl (Nat.le_of_ble_eq_true rfl) rfl rfl rfl ?_
  refine a_iload_n (q := 164) dX9_takes_163 rfl rfl rfl ?_
  refine a_bipush (q := 166) (nI 44) dX9_takes_164 (by decide) rfl ?_
  refine a_icmp_neN (q := 169) 182 dX9_takes_166 (by decide) (by omega) (by omega) rfl (fun c166 => ?_) (fun c166 => ?_)
  · have hs2 : (tk k c D).isSome = false := by rw [hv, if_neg (fun q => c166 q.1)]; rfl
    refine a_iconst (q := 183) (b2 false) dX9_takes_182 (by decide) rfl ?_
    exact a_iret dX9_takes_183 rfl (b2_narrow _) (Nat.le_of_ble_eq_true rfl) (Nat.le_of_ble_eq_true rfl) (⟨by rw [hs2], rfl, rfl, (rn, D.1.2.1, rf, rt, 2), rfl, hnx⟩)
  · skip
    refine a_aload_n (q := 170) dX9_takes_169 rfl rfl rfl ?_
    refine a_getB (q := 173) dX9_takes_170 fX9_125 rfl rfl rfl ?_
    refine a_bipush (q := 175) (nI 24) dX9_takes_173 (by decide) rfl ?_
    show AW _ _ _ _ _ _ _ _ _ _ (.int (nI 24) :: .int (nI D.1.2.1) :: _) _ _ _
    refine a_icmp_geN (q := 178) 182 dX9_takes_175 (by decide) (by omega) (by omega) rfl (fun c175 => ?_) (fun c175 => ?_)
    · omega
    · have hs2 : (tk k c D).isSome = true := by rw [hv, if_pos ⟨c166, he⟩]; rfl
      refine a_iconst (q := 179) (b2 true) dX9_takes_178 (by decide) rfl ?_
      refine a_goto 183 dX9_takes_179 (by decide) ?_
      exact a_iret dX9_takes_183 rfl (b2_narrow _) (Nat.le_of_ble_eq_true rfl) (Nat.le_of_ble_eq_true rfl) (⟨by rw [hs2], rfl, rfl, (rn, D.1.2.1, rf, rt, 2), rfl, hnx⟩)
theorem m_takes (k c : Nat) (D : Rd) (hk : k < 60) (hc : c < 127) (hr : mR k D R) (hro : rok k D) (h0 : k = 0 → D.1.2.1 = 0) : Ct g mX9_takes [.ref (g.2.1 + 0), .int (nI c)] 0 A (BM g G T th Y W R Z U L h O) 0 0 (tkP g A G T th Y W Z U L h O k c D) noX := by
  obtain ⟨r1, r2, r3⟩ := hro
  rcases Nat.eq_zero_or_pos k with e | e
  · subst e; exact m_takes0 c D hc hr (h0 rfl)
  · rcases Nat.lt_or_ge k 2 with e2 | e2
    · have : k = 1 := by omega
      subst this; exact m_takes1 c D hc hr
    · rcases (show k % 3 = 0 ∨ k % 3 = 1 ∨ k % 3 = 2 by omega) with h3 | h3 | h3
      · exact m_takes3 k c D e2 h3 hc hr ⟨r1, r2⟩ (by omega)
      · exact m_takes4 k c D e2 h3 hc hr (by omega)
      · exact m_takes2 k c D e2 h3 hc hr ⟨r1, r2⟩ (by omega)
theorem l_mrl (P : ps_T) (hT : T.1 ≤ 60) (hc : ∀ i, i < T.1 → T.2 i < 127) : ∀ (m k : Nat) (D : Rd) (R : Ra), T.1 - k = m → k ≤ T.1 → rok k D → mR k D R → (k = 0 → D.1.2.1 = 0) → (∀ x : Ra, ((rdF T m k D).1 = T.1 → mR T.1 (rdF T m k D).2 x) → P (some (.int (nI (rdF T m k D).1))) 0 A (BM g G T th Y W x Z U L h O)) → AW g mX9_rightLength 0 0 P noX 0 0 12 [some (.ref (g.2.1 + 0)), some (.int (nI k))] [] 0 A (BM g G T th Y W R Z U L h O) := by
  intro m
  induction m with
  | zero =>
    intro k D R hm hk hro hr h0 hp
    have hk2 : k = T.1 := by omega
    subst hk2
    refine a_iload_n (q := 13) dX9_rightLength_12 rfl rfl rfl ?_
    refine a_aload_n (q := 14) dX9_rightLength_13 rfl rfl rfl ?_
    refine a_getB (q := 17) dX9_rightLength_14 fX9_122 rfl rfl rfl ?_
    refine a_icmp_geN (q := 20) 39 dX9_rightLength_17 (by decide) (by omega) (by omega) rfl (fun c17 => ?_) (fun c17 => ?_)
    · skip
      refine a_iload_n (q := 40) dX9_rightLength_39 rfl rfl rfl ?_
      exact a_iret dX9_rightLength_40 rfl rfl (Nat.le_of_ble_eq_true rfl) (Nat.le_of_ble_eq_true rfl) (hp R (fun _ => hr))
    · omega
  | succ m ih =>
    intro k D R hm hk hro hr h0 hp
    have h9 := hc k (by omega)
    unfold rdF at hp
    cases ht : tk k (T.2 k) D with
    | none =>
      rw [ht] at hp
      refine a_iload_n (q := 13) dX9_rightLength_12 rfl rfl rfl ?_
      refine a_aload_n (q := 14) dX9_rightLength_13 rfl rfl rfl ?_
      refine a_getB (q := 17) dX9_rightLength_14 fX9_122 rfl rfl rfl ?_
      refine a_icmp_geN (q := 20) 39 dX9_rightLength_17 (by decide) (by omega) (by omega) rfl (fun c17 => ?_) (fun c17 => ?_)
      · omega
      · skip
        refine a_aload_n (q := 21) dX9_rightLength_20 rfl rfl rfl ?_
        refine a_aload_n (q := 22) dX9_rightLength_21 rfl rfl rfl ?_
        refine a_getB (q := 25) dX9_rightLength_22 fX9_23 rfl rfl rfl ?_
        refine a_iload_n (q := 26) dX9_rightLength_25 rfl rfl rfl ?_
        refine a_ialdBN (q := 27) dX9_rightLength_26 rfl (by omega) (by decide) rfl ?_
        refine a_callVB (q := 30) _ dX9_rightLength_27 kX9_138 (m_takes k _ D (by omega) h9 hr hro h0) rfl rfl rfl (Nat.le_of_ble_eq_true rfl) ⟨(Nat.le_of_ble_eq_true rfl), (Nat.le_of_ble_eq_true rfl)⟩ ⟨(Nat.le_of_ble_eq_true rfl), (Nat.le_of_ble_eq_true rfl)⟩ rfl (fun v9 z9 A9 B9 h9 => ?_) (fun E9 z9 A9 B9 h9 => h9.elim)
        obtain ⟨rfl, rfl, rfl, x, rfl, hx⟩ := h9
        show AW _ _ _ _ _ _ _ _ _ _ (_ :: _) _ _ _
        refine a_if_eqZ (q := 33) 39 dX9_rightLength_30 (by decide) rfl (fun c30 => ?_) (fun c30 => ?_)
        · skip
          refine a_iload_n (q := 40) dX9_rightLength_39 rfl rfl rfl ?_
          exact a_iret dX9_rightLength_40 rfl rfl (Nat.le_of_ble_eq_true rfl) (Nat.le_of_ble_eq_true rfl) (hp x (fun q => absurd (show k = T.1 from q) (by omega)))
        · rw [ht] at c30; cases c30
    | some D2 =>
      rw [ht] at hp
      have hro2 := tk_ok hro ht
      refine a_iload_n (q := 13) dX9_rightLength_12 rfl rfl rfl ?_
      refine a_aload_n (q := 14) dX9_rightLength_13 rfl rfl rfl ?_
      refine a_getB (q := 17) dX9_rightLength_14 fX9_122 rfl rfl rfl ?_
      refine a_icmp_geN (q := 20) 39 dX9_rightLength_17 (by decide) (by omega) (by omega) rfl (fun c17 => ?_) (fun c17 => ?_)
      · omega
      · skip
        refine a_aload_n (q := 21) dX9_rightLength_20 rfl rfl rfl ?_
        refine a_aload_n (q := 22) dX9_rightLength_21 rfl rfl rfl ?_
        refine a_getB (q := 25) dX9_rightLength_22 fX9_23 rfl rfl rfl ?_
        refine a_iload_n (q := 26) dX9_rightLength_25 rfl rfl rfl ?_
        refine a_ialdBN (q := 27) dX9_rightLength_26 rfl (by omega) (by decide) rfl ?_
        refine a_callVB (q := 30) _ dX9_rightLength_27 kX9_138 (m_takes k _ D (by omega) h9 hr hro h0) rfl rfl rfl (Nat.le_of_ble_eq_true rfl) ⟨(Nat.le_of_ble_eq_true rfl), (Nat.le_of_ble_eq_true rfl)⟩ ⟨(Nat.le_of_ble_eq_true rfl), (Nat.le_of_ble_eq_true rfl)⟩ rfl (fun v9 z9 A9 B9 h9 => ?_) (fun E9 z9 A9 B9 h9 => h9.elim)
        obtain ⟨rfl, rfl, rfl, x, rfl, hx⟩ := h9
        show AW _ _ _ _ _ _ _ _ _ _ (_ :: _) _ _ _
        refine a_if_eqZ (q := 33) 39 dX9_rightLength_30 (by decide) rfl (fun c30 => ?_) (fun c30 => ?_)
        · rw [ht] at c30; cases c30
        · skip
          refine a_iincN (q := 36) (c := 1) dX9_rightLength_33 rfl (by decide) rfl rfl ?_
          refine a_goto 12 dX9_rightLength_36 (by decide) ?_
          exact ih (k + 1) D2 x (by omega) (by omega) hro2 (hx D2 ht) (fun q => by omega) hp
theorem m_rightLength (D : Rd) (hT : T.1 ≤ 60) (hc : ∀ i, i < T.1 → T.2 i < 127) : Ct g mX9_rightLength [.ref (g.2.1 + 0)] 0 A (BM g G T th Y W R Z U L h O) 0 0 (fun v z A' B' => v = some (.int (nI (rd T D).1)) ∧ z = 0 ∧ A' = A ∧ ∃ x : Ra, ((rd T D).1 = T.1 → mR T.1 (rd T D).2 x) ∧ B' = BM g G T th Y W x Z U L h O) noX := by
  refine Ct.of [some (.ref (g.2.1 + 0)), none] (by decide) rfl (Nat.le_of_ble_eq_true rfl) rfl ?_
  refine a_aload_n (q := 1) dX9_rightLength_0 rfl rfl rfl ?_
  refine a_iconst (q := 2) (nI 0) dX9_rightLength_1 (by decide) rfl ?_
  refine a_putB (q := 5) dX9_rightLength_2 fX9_125 (fun h => nomatch h) rfl (Nat.le_of_ble_eq_true rfl) rfl rfl rfl ?_
  refine a_aload_n (q := 6) dX9_rightLength_5 rfl rfl rfl ?_
  refine a_iconst (q := 7) (nI 0) dX9_rightLength_6 (by decide) rfl ?_
  refine a_putB (q := 10) dX9_rightLength_7 fX9_128 (fun h => nomatch h) rfl (Nat.le_of_ble_eq_true rfl) rfl rfl rfl ?_
  refine a_iconst (q := 11) (nI 0) dX9_rightLength_10 (by decide) rfl ?_
  refine a_istore_n (q := 12) dX9_rightLength_11 rfl (Nat.le_of_ble_eq_true rfl) rfl rfl ?_
  exact l_mrl _ hT hc _ 0 ((2, 0, D.1.2.2), D.2) (R.1, 0, R.2.2.1, R.2.2.2.1, 0) rfl (Nat.zero_le _) ⟨by show 1 ≤ 2; decide, by show 2 ≤ 12; decide, rfl⟩ ⟨rfl, rfl, fun q => absurd q (by decide), fun i hi => absurd hi (Nat.not_lt_zero i), fun q _ => absurd q (by decide)⟩ (fun _ => rfl) (fun x hx => ⟨rfl, rfl, rfl, x, hx, rfl⟩)
theorem m_firstError (D : Rd) (hT : T.1 ≤ 60) (hc : ∀ i, i < T.1 → T.2 i < 127) : Ct g mX9_firstError [.ref (g.2.1 + 0)] 0 A (BM g G T th Y W R Z U L h O) 0 0 (fun v z A' B' => v = some (.int (nI (rd T D).1)) ∧ z = 0 ∧ A' = A ∧ ∃ x : Ra, B' = BM g G T 0 Y W x Z U L h O) noX := by
  refine Ct.of [some (.ref (g.2.1 + 0))] (by decide) rfl (Nat.le_of_ble_eq_true rfl) rfl ?_
  refine a_aload_n (q := 1) dX9_firstError_0 rfl rfl rfl ?_
  refine a_iconst (q := 2) (nI 0) dX9_firstError_1 (by decide) rfl ?_
  refine a_putB (q := 5) dX9_firstError_2 fX9_81 (fun h => nomatch h) rfl (Nat.le_of_ble_eq_true rfl) rfl rfl rfl ?_
  refine a_aload_n (q := 6) dX9_firstError_5 rfl rfl rfl ?_
  refine a_callVB (q := 9) _ dX9_firstError_6 kX9_141 (m_rightLength (th := 0) D hT hc) rfl rfl rfl (Nat.le_of_ble_eq_true rfl) ⟨(Nat.le_of_ble_eq_true rfl), (Nat.le_of_ble_eq_true rfl)⟩ ⟨(Nat.le_of_ble_eq_true rfl), (Nat.le_of_ble_eq_true rfl)⟩ rfl (fun v9 z9 A9 B9 h9 => ?_) (fun E9 z9 A9 B9 h9 => h9.elim)
  obtain ⟨rfl, rfl, rfl, x, -, rfl⟩ := h9
  show AW _ _ _ _ _ _ _ _ _ _ (_ :: _) _ _ _
  exact a_iret dX9_firstError_9 rfl rfl (Nat.le_of_ble_eq_true rfl) (Nat.le_of_ble_eq_true rfl) (⟨rfl, rfl, rfl, x, rfl⟩)
theorem stg_4 {k : Nat} : stg k = 4 ↔ 4 ≤ k ∧ k % 3 = 1 := by
  unfold stg
  split
  · omega
  · split
    · omega
    · split
      · omega
      · split <;> omega
theorem l_mload (P : ps_T) (D : Gr) (hd : D.2.1 ≤ 24) (hre : R.2.1 = D.2.1) (hr : ∀ i, i < D.2.1 → R.2.2.1 i = nI (D.2.2.1 i) ∧ R.2.2.2.1 i = nI (D.2.2.2.1 i)) : ∀ (m k : Nat) (G : Gr), D.2.1 - k = m → k ≤ D.2.1 → G.2.1 = k → P (some (.int (nI (beF D m k G).2.1))) 0 A (BM g (beF D m k G) (0, T.2) th (false, Y.2) (noWa W) R Z U L h O) → AW g mX9_load 0 0 P noX 0 0 52 [some (.ref (g.2.1 + 0)), some (.int (nI k))] [] 0 A (BM g G T th Y W R Z U L h O) := by
  intro m
  induction m with
  | zero =>
    intro k G hm hk hg hp
    refine a_iload_n (q := 53) dX9_load_52 rfl rfl rfl ?_
    refine a_aload_n (q := 54) dX9_load_53 rfl rfl rfl ?_
    refine a_getB (q := 57) dX9_load_54 fX9_125 rfl rfl rfl ?_
    refine a_icmp_geN (q := 60) 82 dX9_load_57 (by decide) (by omega) (by omega) rfl (fun c57 => ?_) (fun c57 => ?_)
    · skip
      refine a_aload_n (q := 83) dX9_load_82 rfl rfl rfl ?_
      refine a_iconst (q := 84) (nI 0) dX9_load_83 (by decide) rfl ?_
      refine a_putB (q := 87) dX9_load_84 fX9_122 (fun h => nomatch h) rfl (Nat.le_of_ble_eq_true rfl) rfl rfl rfl ?_
      refine a_aload_n (q := 88) dX9_load_87 rfl rfl rfl ?_
      refine a_cVB0 (q := 91) _ dX9_load_88 kX9_104 (m_discard (T := (0, T.2))) rfl rfl rfl (Nat.le_of_ble_eq_true rfl) ⟨(Nat.le_of_ble_eq_true rfl), (Nat.le_of_ble_eq_true rfl)⟩ ⟨(Nat.le_of_ble_eq_true rfl), (Nat.le_of_ble_eq_true rfl)⟩ rfl ?_
      refine a_aload_n (q := 92) dX9_load_91 rfl rfl rfl ?_
      refine a_getB (q := 95) dX9_load_92 fX9_101 rfl rfl rfl ?_
      exact a_iret dX9_load_95 rfl rfl (Nat.le_of_ble_eq_true rfl) (Nat.le_of_ble_eq_true rfl) (hp)
    · omega
  | succ m ih =>
    intro k G hm hk hg hp
    obtain ⟨a1, a2⟩ := hr k (by omega)
    refine a_iload_n (q := 53) dX9_load_52 rfl rfl rfl ?_
    refine a_aload_n (q := 54) dX9_load_53 rfl rfl rfl ?_
    refine a_getB (q := 57) dX9_load_54 fX9_125 rfl rfl rfl ?_
    refine a_icmp_geN (q := 60) 82 dX9_load_57 (by decide) (by omega) (by omega) rfl (fun c57 => ?_) (fun c57 => ?_)
    · omega
    · skip
      refine a_aload_n (q := 61) dX9_load_60 rfl rfl rfl ?_
      refine a_aload_n (q := 62) dX9_load_61 rfl rfl rfl ?_
      refine a_getB (q := 65) dX9_load_62 fX9_45 rfl rfl rfl ?_
      refine a_iload_n (q := 66) dX9_load_65 rfl rfl rfl ?_
      refine a_ialdBI (q := 67) dX9_load_66 rfl (by omega) (by decide) rfl ?_
      rw [a1]
      refine a_aload_n (q := 68) dX9_load_67 rfl rfl rfl ?_
      refine a_getB (q := 71) dX9_load_68 fX9_48 rfl rfl rfl ?_
      refine a_iload_n (q := 72) dX9_load_71 rfl rfl rfl ?_
      refine a_ialdBI (q := 73) dX9_load_72 rfl (by omega) (by decide) rfl ?_
      rw [a2]
      refine a_cVB0 (q := 76) _ dX9_load_73 kX9_115 (m_put _ _ (by omega)) rfl rfl rfl (Nat.le_of_ble_eq_true rfl) ⟨(Nat.le_of_ble_eq_true rfl), (Nat.le_of_ble_eq_true rfl)⟩ ⟨(Nat.le_of_ble_eq_true rfl), (Nat.le_of_ble_eq_true rfl)⟩ rfl ?_
      refine a_iincN (q := 79) (c := 1) dX9_load_76 rfl (by decide) rfl rfl ?_
      refine a_goto 52 dX9_load_79 (by decide) ?_
      exact ih (k + 1) _ (by omega) (by omega) (by show G.2.1 + 1 = k + 1; omega) hp
theorem rok_e {k : Nat} {R : Rd} (h : rok k R) (hk : k ≤ 60) : R.1.2.1 ≤ 24 := by have := h.2.2; omega
theorem rdF_ok {T : Tx} : ∀ (m k : Nat) (R : Rd), rok k R → rok (rdF T m k R).1 (rdF T m k R).2
  | 0, k, R, h => h
  | m + 1, k, R, h => by
    unfold rdF
    split
    · exact h
    · rename_i R' ht
      exact rdF_ok m (k + 1) _ (tk_ok h ht)
theorem rd_ok {T : Tx} {R : Rd} : rok (rd T R).1 (rd T R).2 := rdF_ok _ _ _ ⟨by show 1 ≤ 2; decide, by show 2 ≤ 12; decide, rfl⟩
theorem m_load0 (D : Rd) (hT : T.1 ≤ 60) (hc : ∀ i, i < T.1 → T.2 i < 127) (hg : isGr T D = true) : Ct g mX9_load [.ref (g.2.1 + 0)] 0 A (BM g G T th Y W R Z U L h O) 0 0 (fun v z A' B' => v = some (.int (nI (rd T D).2.1.2.1)) ∧ z = 0 ∧ A' = A ∧ ∃ x : Ra, B' = BM g (ldG G (rd T D).2.1) (0, T.2) 0 (false, Y.2) (noWa W) x Z U L h O) noX := by
  obtain ⟨q1, q2, q3⟩ := of_decide_eq_true hg
  have hle : (rd T D).1 ≤ 60 := by omega
  have hro := rd_ok (T := T) (R := D)
  have hen := rok_e hro hle
  have hst : stg T.1 = 4 := stg_4.mpr ⟨q1, q2⟩
  refine Ct.of [some (.ref (g.2.1 + 0)), none] (by decide) rfl (Nat.le_of_ble_eq_true rfl) rfl ?_
  refine a_aload_n (q := 1) dX9_load_0 rfl rfl rfl ?_
  refine a_aload_n (q := 2) dX9_load_1 rfl rfl rfl ?_
  refine a_callVB (q := 5) _ dX9_load_2 kX9_141 (m_rightLength D hT hc) rfl rfl rfl (Nat.le_of_ble_eq_true rfl) ⟨(Nat.le_of_ble_eq_true rfl), (Nat.le_of_ble_eq_true rfl)⟩ ⟨(Nat.le_of_ble_eq_true rfl), (Nat.le_of_ble_eq_true rfl)⟩ rfl (fun v9 z9 A9 B9 h9 => ?_) (fun E9 z9 A9 B9 h9 => h9.elim)
  obtain ⟨rfl, rfl, rfl, x, hx, rfl⟩ := h9
  obtain ⟨m1, m2, m3, m4, m5⟩ := hx q3
  obtain ⟨rn, re, rf, rt, sg⟩ := x
  have m1 : sg = 4 := m1.trans hst
  have m3' : rn = nI (rd T D).2.1.1 := m3 (by omega)
  subst m1; subst m3'
  show AW _ _ _ _ _ _ _ _ _ _ (_ :: _) _ _ _
  refine a_aload_n (q := 6) dX9_load_5 rfl rfl rfl ?_
  refine a_getB (q := 9) dX9_load_6 fX9_122 rfl rfl rfl ?_
  refine a_icmp_neN (q := 12) 24 dX9_load_9 (by decide) (by omega) (by omega) rfl (fun c9 => ?_) (fun c9 => ?_)
  · omega
  · skip
    refine a_aload_n (q := 13) dX9_load_12 rfl rfl rfl ?_
    refine a_getB (q := 16) dX9_load_13 fX9_128 rfl rfl rfl ?_
    refine a_iconst (q := 17) (nI 4) dX9_load_16 (by decide) rfl ?_
    refine a_icmp_neN (q := 20) 24 dX9_load_17 (by decide) (by omega) (by omega) rfl (fun c17 => ?_) (fun c17 => ?_)
    · exact absurd rfl c17
    · skip
      refine a_iconst (q := 21) (nI 0) dX9_load_20 (by decide) rfl ?_
      refine a_goto 25 dX9_load_21 (by decide) ?_
      refine a_putB (q := 28) dX9_load_25 fX9_81 (fun h => nomatch h) rfl (Nat.le_of_ble_eq_true rfl) rfl rfl rfl ?_
      refine a_aload_n (q := 29) dX9_load_28 rfl rfl rfl ?_
      refine a_getB (q := 32) dX9_load_29 fX9_81 rfl rfl rfl ?_
      refine a_if_leN (q := 35) 37 dX9_load_32 (by decide) (by omega) rfl (fun c32 => ?_) (fun c32 => ?_)
      · skip
        refine a_aload_n (q := 38) dX9_load_37 rfl rfl rfl ?_
        refine a_aload_n (q := 39) dX9_load_38 rfl rfl rfl ?_
        refine a_getB (q := 42) dX9_load_39 fX9_131 rfl rfl rfl ?_
        refine a_putB (q := 45) dX9_load_42 fX9_7 (fun h => nomatch h) rfl (Nat.le_of_ble_eq_true rfl) rfl rfl rfl ?_
        refine a_aload_n (q := 46) dX9_load_45 rfl rfl rfl ?_
        refine a_iconst (q := 47) (nI 0) dX9_load_46 (by decide) rfl ?_
        refine a_putB (q := 50) dX9_load_47 fX9_101 (fun h => nomatch h) rfl (Nat.le_of_ble_eq_true rfl) rfl rfl rfl ?_
        refine a_iconst (q := 51) (nI 0) dX9_load_50 (by decide) rfl ?_
        refine a_istore_n (q := 52) dX9_load_51 rfl (Nat.le_of_ble_eq_true rfl) rfl rfl ?_
        refine l_mload _ (rd T D).2.1 hen m2 m4 _ 0 ((rd T D).2.1.1, 0, G.2.2) rfl (Nat.zero_le _) rfl ⟨?_, rfl, rfl, _, rfl⟩
        rw [beF_e]
        show some (Value.int (nI (0 + (rd T D).2.1.2.1))) = _
        rw [Nat.zero_add]
      · exact absurd c32 (Nat.lt_irrefl 0)
theorem m_load1 (D : Rd) (hT : T.1 ≤ 60) (hc : ∀ i, i < T.1 → T.2 i < 127) (hg : isGr T D = false) : Ct g mX9_load [.ref (g.2.1 + 0)] 0 A (BM g G T th Y W R Z U L h O) 0 0 (fun v z A' B' => v = some (.int (nI 0)) ∧ z = 0 ∧ A' = A ∧ ∃ x : Ra, B' = BM g G T 1 Y W x Z U L h O) noX := by
  have q := of_decide_eq_false hg
  have hle : (rd T D).1 ≤ T.1 := Nat.le_trans (rdF_le _ _ _) (by omega)
  have hs5 : ∀ k, stg k < 5 := fun k => by unfold stg; (repeat' split) <;> omega
  refine Ct.of [some (.ref (g.2.1 + 0)), none] (by decide) rfl (Nat.le_of_ble_eq_true rfl) rfl ?_
  refine a_aload_n (q := 1) dX9_load_0 rfl rfl rfl ?_
  refine a_aload_n (q := 2) dX9_load_1 rfl rfl rfl ?_
  refine a_callVB (q := 5) _ dX9_load_2 kX9_141 (m_rightLength D hT hc) rfl rfl rfl (Nat.le_of_ble_eq_true rfl) ⟨(Nat.le_of_ble_eq_true rfl), (Nat.le_of_ble_eq_true rfl)⟩ ⟨(Nat.le_of_ble_eq_true rfl), (Nat.le_of_ble_eq_true rfl)⟩ rfl (fun v9 z9 A9 B9 h9 => ?_) (fun E9 z9 A9 B9 h9 => h9.elim)
  obtain ⟨rfl, rfl, rfl, x, hx, rfl⟩ := h9
  show AW _ _ _ _ _ _ _ _ _ _ (_ :: _) _ _ _
  refine a_aload_n (q := 6) dX9_load_5 rfl rfl rfl ?_
  refine a_getB (q := 9) dX9_load_6 fX9_122 rfl rfl rfl ?_
  refine a_icmp_neN (q := 12) 24 dX9_load_9 (by decide) (by omega) (by omega) rfl (fun c9 => ?_) (fun c9 => ?_)
  · skip
    refine a_iconst (q := 25) (nI 1) dX9_load_24 (by decide) rfl ?_
    refine a_putB (q := 28) dX9_load_25 fX9_81 (fun h => nomatch h) rfl (Nat.le_of_ble_eq_true rfl) rfl rfl rfl ?_
    refine a_aload_n (q := 29) dX9_load_28 rfl rfl rfl ?_
    refine a_getB (q := 32) dX9_load_29 fX9_81 rfl rfl rfl ?_
    refine a_if_leN (q := 35) 37 dX9_load_32 (by decide) (by omega) rfl (fun c32 => ?_) (fun c32 => ?_)
    · exact absurd c32 (by decide)
    · skip
      refine a_iconst (q := 36) (nI 0) dX9_load_35 (by decide) rfl ?_
      exact a_iret dX9_load_36 rfl rfl (Nat.le_of_ble_eq_true rfl) (Nat.le_of_ble_eq_true rfl) (⟨rfl, rfl, rfl, _, rfl⟩)
  · obtain ⟨m1, m2, m3, m4, m5⟩ := hx c9
    obtain ⟨rn, re, rf, rt, sg⟩ := x
    have m1 : sg = stg T.1 := m1
    have m6 := hs5 T.1
    subst m1
    refine a_aload_n (q := 13) dX9_load_12 rfl rfl rfl ?_
    refine a_getB (q := 16) dX9_load_13 fX9_128 rfl rfl rfl ?_
    refine a_iconst (q := 17) (nI 4) dX9_load_16 (by decide) rfl ?_
    refine a_icmp_ne (q := 20) 24 dX9_load_17 (by decide) rfl (fun c17 => ?_) (fun c17 => ?_)
    · skip
      refine a_iconst (q := 25) (nI 1) dX9_load_24 (by decide) rfl ?_
      refine a_putB (q := 28) dX9_load_25 fX9_81 (fun h => nomatch h) rfl (Nat.le_of_ble_eq_true rfl) rfl rfl rfl ?_
      refine a_aload_n (q := 29) dX9_load_28 rfl rfl rfl ?_
      refine a_getB (q := 32) dX9_load_29 fX9_81 rfl rfl rfl ?_
      refine a_if_leN (q := 35) 37 dX9_load_32 (by decide) (by omega) rfl (fun c32 => ?_) (fun c32 => ?_)
      · exact absurd c32 (by decide)
      · skip
        refine a_iconst (q := 36) (nI 0) dX9_load_35 (by decide) rfl ?_
        exact a_iret dX9_load_36 rfl rfl (Nat.le_of_ble_eq_true rfl) (Nat.le_of_ble_eq_true rfl) (⟨rfl, rfl, rfl, _, rfl⟩)
    · exact absurd ⟨(stg_4.mp ((nI_eq (by omega) (by decide)).mp c17)).1, (stg_4.mp ((nI_eq (by omega) (by decide)).mp c17)).2, c9⟩ q
theorem m_setWeight0 (k w : Nat) (he : G.2.1 ≤ 24) (hk : k < G.2.1) (hw : w ≤ 99) : Ct g mX9_setWeight [.ref (g.2.1 + 0), .int (nI k), .int (nI w)] 0 A (BM g G T th Y W R Z U L h O) 0 0 (rP (some (.int (nI (G.2.2.2.2 k)))) A (BM g (G.1, G.2.1, G.2.2.1, G.2.2.2.1, va_up G.2.2.2.2 k w) T 0 (false, Y.2) (noWa W) R Z U L h O)) noX := by
  have hi : inR (nI k) G.2.1 = true := by rw [inR_nI (by unfold big; omega) (by unfold big; omega)]; exact decide_eq_true hk
  have hwi : wi (nI w) (nI 0) (nI 99) = true := decide_eq_true ⟨nI_nlt (Nat.zero_le _) (by omega), nI_nlt hw (by omega)⟩
  refine Ct.of [some (.ref (g.2.1 + 0)), some (.int (nI k)), some (.int (nI w)), none] (by decide) rfl (Nat.le_of_ble_eq_true rfl) rfl ?_
  refine a_aload_n (q := 1) dX9_setWeight_0 rfl rfl rfl ?_
  refine a_aload_n (q := 2) dX9_setWeight_1 rfl rfl rfl ?_
  refine a_iload_n (q := 3) dX9_setWeight_2 rfl rfl rfl ?_
  refine a_cVBv (q := 6) _ dX9_setWeight_3 kX9_119 (m_isEdge _ he) rfl rfl rfl (Nat.le_of_ble_eq_true rfl) ⟨(Nat.le_of_ble_eq_true rfl), (Nat.le_of_ble_eq_true rfl)⟩ ⟨(Nat.le_of_ble_eq_true rfl), (Nat.le_of_ble_eq_true rfl)⟩ rfl ?_
  refine a_if_neZ (q := 9) 13 dX9_setWeight_6 (by decide) rfl (fun c6 => ?_) (fun c6 => ?_)
  · skip
    refine a_iload_n (q := 14) dX9_setWeight_13 rfl rfl rfl ?_
    refine a_iconst (q := 15) (nI 0) dX9_setWeight_14 (by decide) rfl ?_
    refine a_bipush (q := 17) (nI 99) dX9_setWeight_15 (by decide) rfl ?_
    refine a_cSv (q := 20) _ dX9_setWeight_17 kX9_97 (m_within _ _ _) rfl rfl (Nat.le_of_ble_eq_true rfl) ⟨(Nat.le_of_ble_eq_true rfl), (Nat.le_of_ble_eq_true rfl)⟩ ⟨(Nat.le_of_ble_eq_true rfl), (Nat.le_of_ble_eq_true rfl)⟩ rfl ?_
    refine a_if_eqZ (q := 23) 27 dX9_setWeight_20 (by decide) rfl (fun c20 => ?_) (fun c20 => ?_)
    · rw [hwi] at c20; cases c20
    · skip
      refine a_iconst (q := 24) (nI 0) dX9_setWeight_23 (by decide) rfl ?_
      refine a_goto 28 dX9_setWeight_24 (by decide) ?_
      refine a_putB (q := 31) dX9_setWeight_28 fX9_81 (fun h => nomatch h) rfl (Nat.le_of_ble_eq_true rfl) rfl rfl rfl ?_
      refine a_aload_n (q := 32) dX9_setWeight_31 rfl rfl rfl ?_
      refine a_getB (q := 35) dX9_setWeight_32 fX9_81 rfl rfl rfl ?_
      refine a_if_leN (q := 38) 40 dX9_setWeight_35 (by decide) (by omega) rfl (fun c35 => ?_) (fun c35 => ?_)
      · skip
        refine a_aload_n (q := 41) dX9_setWeight_40 rfl rfl rfl ?_
        refine a_getB (q := 44) dX9_setWeight_41 fX9_20 rfl rfl rfl ?_
        refine a_iload_n (q := 45) dX9_setWeight_44 rfl rfl rfl ?_
        refine a_ialdBN (q := 46) dX9_setWeight_45 rfl (by omega) (by decide) rfl ?_
        refine a_istore_n (q := 47) dX9_setWeight_46 rfl (Nat.le_of_ble_eq_true rfl) rfl rfl ?_
        refine a_aload_n (q := 48) dX9_setWeight_47 rfl rfl rfl ?_
        refine a_getB (q := 51) dX9_setWeight_48 fX9_20 rfl rfl rfl ?_
        refine a_iload_n (q := 52) dX9_setWeight_51 rfl rfl rfl ?_
        refine a_iload_n (q := 53) dX9_setWeight_52 rfl rfl rfl ?_
        refine a_iastBN (q := 54) dX9_setWeight_53 rfl (by omega) (by decide) rfl ?_
        refine a_aload_n (q := 55) dX9_setWeight_54 rfl rfl rfl ?_
        refine a_cVB0 (q := 58) _ dX9_setWeight_55 kX9_104 (m_discard (G := (G.1, G.2.1, G.2.2.1, G.2.2.2.1, va_up G.2.2.2.2 k w)) (th := 0)) rfl rfl rfl (Nat.le_of_ble_eq_true rfl) ⟨(Nat.le_of_ble_eq_true rfl), (Nat.le_of_ble_eq_true rfl)⟩ ⟨(Nat.le_of_ble_eq_true rfl), (Nat.le_of_ble_eq_true rfl)⟩ rfl ?_
        refine a_iload_n (q := 59) dX9_setWeight_58 rfl rfl rfl ?_
        exact a_iret dX9_setWeight_59 rfl rfl (Nat.le_of_ble_eq_true rfl) (Nat.le_of_ble_eq_true rfl) (⟨rfl, rfl, rfl, rfl⟩)
      · exact absurd c35 (Nat.lt_irrefl 0)
  · rw [hi] at c6; cases c6
theorem m_setWeight1 (x w : Int32) (he : G.2.1 ≤ 24) (hi : inR x G.2.1 = false) : Ct g mX9_setWeight [.ref (g.2.1 + 0), .int x, .int w] 0 A (BM g G T th Y W R Z U L h O) 0 0 (rP (some (.int (nI 0))) A (BM g G T 1 Y W R Z U L h O)) noX := by
  refine Ct.of [some (.ref (g.2.1 + 0)), some (.int x), some (.int w), none] (by decide) rfl (Nat.le_of_ble_eq_true rfl) rfl ?_
  refine a_aload_n (q := 1) dX9_setWeight_0 rfl rfl rfl ?_
  refine a_aload_n (q := 2) dX9_setWeight_1 rfl rfl rfl ?_
  refine a_iload_n (q := 3) dX9_setWeight_2 rfl rfl rfl ?_
  refine a_cVBv (q := 6) _ dX9_setWeight_3 kX9_119 (m_isEdge _ he) rfl rfl rfl (Nat.le_of_ble_eq_true rfl) ⟨(Nat.le_of_ble_eq_true rfl), (Nat.le_of_ble_eq_true rfl)⟩ ⟨(Nat.le_of_ble_eq_true rfl), (Nat.le_of_ble_eq_true rfl)⟩ rfl ?_
  refine a_if_neZ (q := 9) 13 dX9_setWeight_6 (by decide) rfl (fun c6 => ?_) (fun c6 => ?_)
  · rw [hi] at c6; cases c6
  · skip
    refine a_iconst (q := 10) (nI 1) dX9_setWeight_9 (by decide) rfl ?_
    refine a_goto 28 dX9_setWeight_10 (by decide) ?_
    refine a_putB (q := 31) dX9_setWeight_28 fX9_81 (fun h => nomatch h) rfl (Nat.le_of_ble_eq_true rfl) rfl rfl rfl ?_
    refine a_aload_n (q := 32) dX9_setWeight_31 rfl rfl rfl ?_
    refine a_getB (q := 35) dX9_setWeight_32 fX9_81 rfl rfl rfl ?_
    refine a_if_leN (q := 38) 40 dX9_setWeight_35 (by decide) (by omega) rfl (fun c35 => ?_) (fun c35 => ?_)
    · exact absurd c35 (by decide)
    · skip
      refine a_iconst (q := 39) (nI 0) dX9_setWeight_38 (by decide) rfl ?_
      exact a_iret dX9_setWeight_39 rfl rfl (Nat.le_of_ble_eq_true rfl) (Nat.le_of_ble_eq_true rfl) (⟨rfl, rfl, rfl, rfl⟩)
theorem m_setWeight2 (x w : Int32) (he : G.2.1 ≤ 24) (hi : inR x G.2.1 = true) (hw : w < 0 ∨ nI 99 < w) : Ct g mX9_setWeight [.ref (g.2.1 + 0), .int x, .int w] 0 A (BM g G T th Y W R Z U L h O) 0 0 (rP (some (.int (nI 0))) A (BM g G T 2 Y W R Z U L h O)) noX := by
  have hwi : wi w (nI 0) (nI 99) = false := decide_eq_false (fun q => by rcases hw with z | z; exact q.1 z; exact q.2 z)
  refine Ct.of [some (.ref (g.2.1 + 0)), some (.int x), some (.int w), none] (by decide) rfl (Nat.le_of_ble_eq_true rfl) rfl ?_
  refine a_aload_n (q := 1) dX9_setWeight_0 rfl rfl rfl ?_
  refine a_aload_n (q := 2) dX9_setWeight_1 rfl rfl rfl ?_
  refine a_iload_n (q := 3) dX9_setWeight_2 rfl rfl rfl ?_
  refine a_cVBv (q := 6) _ dX9_setWeight_3 kX9_119 (m_isEdge _ he) rfl rfl rfl (Nat.le_of_ble_eq_true rfl) ⟨(Nat.le_of_ble_eq_true rfl), (Nat.le_of_ble_eq_true rfl)⟩ ⟨(Nat.le_of_ble_eq_true rfl), (Nat.le_of_ble_eq_true rfl)⟩ rfl ?_
  refine a_if_neZ (q := 9) 13 dX9_setWeight_6 (by decide) rfl (fun c6 => ?_) (fun c6 => ?_)
  · skip
    refine a_iload_n (q := 14) dX9_setWeight_13 rfl rfl rfl ?_
    refine a_iconst (q := 15) (nI 0) dX9_setWeight_14 (by decide) rfl ?_
    refine a_bipush (q := 17) (nI 99) dX9_setWeight_15 (by decide) rfl ?_
    refine a_cSv (q := 20) _ dX9_setWeight_17 kX9_97 (m_within _ _ _) rfl rfl (Nat.le_of_ble_eq_true rfl) ⟨(Nat.le_of_ble_eq_true rfl), (Nat.le_of_ble_eq_true rfl)⟩ ⟨(Nat.le_of_ble_eq_true rfl), (Nat.le_of_ble_eq_true rfl)⟩ rfl ?_
    refine a_if_eqZ (q := 23) 27 dX9_setWeight_20 (by decide) rfl (fun c20 => ?_) (fun c20 => ?_)
    · skip
      refine a_iconst (q := 28) (nI 2) dX9_setWeight_27 (by decide) rfl ?_
      refine a_putB (q := 31) dX9_setWeight_28 fX9_81 (fun h => nomatch h) rfl (Nat.le_of_ble_eq_true rfl) rfl rfl rfl ?_
      refine a_aload_n (q := 32) dX9_setWeight_31 rfl rfl rfl ?_
      refine a_getB (q := 35) dX9_setWeight_32 fX9_81 rfl rfl rfl ?_
      refine a_if_leN (q := 38) 40 dX9_setWeight_35 (by decide) (by omega) rfl (fun c35 => ?_) (fun c35 => ?_)
      · exact absurd c35 (by decide)
      · skip
        refine a_iconst (q := 39) (nI 0) dX9_setWeight_38 (by decide) rfl ?_
        exact a_iret dX9_setWeight_39 rfl rfl (Nat.le_of_ble_eq_true rfl) (Nat.le_of_ble_eq_true rfl) (⟨rfl, rfl, rfl, rfl⟩)
    · rw [hwi] at c20; cases c20
  · rw [hi] at c6; cases c6
theorem m_edgeCount : Ct g mX9_edgeCount [.ref (g.2.1 + 0)] 0 A (BM g G T th Y W R Z U L h O) 0 0 (rP (some (.int (nI G.2.1))) A (BM g G T 0 Y W R Z U L h O)) noX := by
  refine Ct.of [some (.ref (g.2.1 + 0))] (by decide) rfl (Nat.le_of_ble_eq_true rfl) rfl ?_
  refine a_aload_n (q := 1) dX9_edgeCount_0 rfl rfl rfl ?_
  refine a_iconst (q := 2) (nI 0) dX9_edgeCount_1 (by decide) rfl ?_
  refine a_putB (q := 5) dX9_edgeCount_2 fX9_81 (fun h => nomatch h) rfl (Nat.le_of_ble_eq_true rfl) rfl rfl rfl ?_
  refine a_aload_n (q := 6) dX9_edgeCount_5 rfl rfl rfl ?_
  refine a_getB (q := 9) dX9_edgeCount_6 fX9_101 rfl rfl rfl ?_
  exact a_iret dX9_edgeCount_9 rfl rfl (Nat.le_of_ble_eq_true rfl) (Nat.le_of_ble_eq_true rfl) (⟨rfl, rfl, rfl, rfl⟩)
theorem m_append0 (c : Nat) (hc : 32 ≤ c ∧ c ≤ 126) (ht : T.1 < 60) : Ct g mX9_append [.ref (g.2.1 + 0), .int (nI c)] 0 A (BM g G T th Y W R Z U L h O) 0 0 (rP (some (.int (nI (T.1 + 1)))) A (BM g G (tadd T c) 0 Y W R Z U L h O)) noX := by
  have hwi : wi (nI c) (nI 32) (nI 126) = true := decide_eq_true ⟨nI_nlt hc.1 (by omega), nI_nlt hc.2 (by omega)⟩
  refine Ct.of [some (.ref (g.2.1 + 0)), some (.int (nI c))] (by decide) rfl (Nat.le_of_ble_eq_true rfl) rfl ?_
  refine a_aload_n (q := 1) dX9_append_0 rfl rfl rfl ?_
  refine a_iload_n (q := 2) dX9_append_1 rfl rfl rfl ?_
  refine a_bipush (q := 4) (nI 32) dX9_append_2 (by decide) rfl ?_
  refine a_bipush (q := 6) (nI 126) dX9_append_4 (by decide) rfl ?_
  refine a_cSv (q := 9) _ dX9_append_6 kX9_97 (m_within _ _ _) rfl rfl (Nat.le_of_ble_eq_true rfl) ⟨(Nat.le_of_ble_eq_true rfl), (Nat.le_of_ble_eq_true rfl)⟩ ⟨(Nat.le_of_ble_eq_true rfl), (Nat.le_of_ble_eq_true rfl)⟩ rfl ?_
  refine a_if_neZ (q := 12) 16 dX9_append_9 (by decide) rfl (fun c9 => ?_) (fun c9 => ?_)
  · skip
    refine a_aload_n (q := 17) dX9_append_16 rfl rfl rfl ?_
    refine a_getB (q := 20) dX9_append_17 fX9_122 rfl rfl rfl ?_
    refine a_bipush (q := 22) (nI 60) dX9_append_20 (by decide) rfl ?_
    refine a_icmp_neN (q := 25) 29 dX9_append_22 (by decide) (by omega) (by omega) rfl (fun c22 => ?_) (fun c22 => ?_)
    · skip
      refine a_iconst (q := 30) (nI 0) dX9_append_29 (by decide) rfl ?_
      refine a_putB (q := 33) dX9_append_30 fX9_81 (fun h => nomatch h) rfl (Nat.le_of_ble_eq_true rfl) rfl rfl rfl ?_
      refine a_aload_n (q := 34) dX9_append_33 rfl rfl rfl ?_
      refine a_getB (q := 37) dX9_append_34 fX9_81 rfl rfl rfl ?_
      refine a_if_leN (q := 40) 42 dX9_append_37 (by decide) (by omega) rfl (fun c37 => ?_) (fun c37 => ?_)
      · skip
        refine a_aload_n (q := 43) dX9_append_42 rfl rfl rfl ?_
        refine a_getB (q := 46) dX9_append_43 fX9_23 rfl rfl rfl ?_
        refine a_aload_n (q := 47) dX9_append_46 rfl rfl rfl ?_
        refine a_getB (q := 50) dX9_append_47 fX9_122 rfl rfl rfl ?_
        refine a_iload_n (q := 51) dX9_append_50 rfl rfl rfl ?_
        refine a_iastBN (q := 52) dX9_append_51 rfl (by omega) (by decide) rfl ?_
        refine a_aload_n (q := 53) dX9_append_52 rfl rfl rfl ?_
        refine a_dup (q := 54) dX9_append_53 rfl rfl ?_
        refine a_getB (q := 57) dX9_append_54 fX9_122 rfl rfl rfl ?_
        refine a_iconst (q := 58) (nI 1) dX9_append_57 (by decide) rfl ?_
        refine a_iaddN (q := 59) dX9_append_58 rfl ?_
        refine a_putB (q := 62) dX9_append_59 fX9_122 (fun h => nomatch h) rfl (Nat.le_of_ble_eq_true rfl) rfl rfl rfl ?_
        refine a_aload_n (q := 63) dX9_append_62 rfl rfl rfl ?_
        refine a_getB (q := 66) dX9_append_63 fX9_122 rfl rfl rfl ?_
        exact a_iret dX9_append_66 rfl rfl (Nat.le_of_ble_eq_true rfl) (Nat.le_of_ble_eq_true rfl) (⟨rfl, rfl, rfl, rfl⟩)
      · exact absurd c37 (Nat.lt_irrefl 0)
    · omega
  · rw [hwi] at c9; cases c9
theorem m_append1 (x : Int32) (hx : x < nI 32 ∨ nI 126 < x) : Ct g mX9_append [.ref (g.2.1 + 0), .int x] 0 A (BM g G T th Y W R Z U L h O) 0 0 (rP (some (.int (nI 0))) A (BM g G T 1 Y W R Z U L h O)) noX := by
  have hwi : wi x (nI 32) (nI 126) = false := decide_eq_false (fun q => by rcases hx with z | z; exact q.1 z; exact q.2 z)
  refine Ct.of [some (.ref (g.2.1 + 0)), some (.int x)] (by decide) rfl (Nat.le_of_ble_eq_true rfl) rfl ?_
  refine a_aload_n (q := 1) dX9_append_0 rfl rfl rfl ?_
  refine a_iload_n (q := 2) dX9_append_1 rfl rfl rfl ?_
  refine a_bipush (q := 4) (nI 32) dX9_append_2 (by decide) rfl ?_
  refine a_bipush (q := 6) (nI 126) dX9_append_4 (by decide) rfl ?_
  refine a_cSv (q := 9) _ dX9_append_6 kX9_97 (m_within _ _ _) rfl rfl (Nat.le_of_ble_eq_true rfl) ⟨(Nat.le_of_ble_eq_true rfl), (Nat.le_of_ble_eq_true rfl)⟩ ⟨(Nat.le_of_ble_eq_true rfl), (Nat.le_of_ble_eq_true rfl)⟩ rfl ?_
  refine a_if_neZ (q := 12) 16 dX9_append_9 (by decide) rfl (fun c9 => ?_) (fun c9 => ?_)
  · rw [hwi] at c9; cases c9
  · skip
    refine a_iconst (q := 13) (nI 1) dX9_append_12 (by decide) rfl ?_
    refine a_goto 30 dX9_append_13 (by decide) ?_
    refine a_putB (q := 33) dX9_append_30 fX9_81 (fun h => nomatch h) rfl (Nat.le_of_ble_eq_true rfl) rfl rfl rfl ?_
    refine a_aload_n (q := 34) dX9_append_33 rfl rfl rfl ?_
    refine a_getB (q := 37) dX9_append_34 fX9_81 rfl rfl rfl ?_
    refine a_if_leN (q := 40) 42 dX9_append_37 (by decide) (by omega) rfl (fun c37 => ?_) (fun c37 => ?_)
    · exact absurd c37 (by decide)
    · skip
      refine a_iconst (q := 41) (nI 0) dX9_append_40 (by decide) rfl ?_
      exact a_iret dX9_append_41 rfl rfl (Nat.le_of_ble_eq_true rfl) (Nat.le_of_ble_eq_true rfl) (⟨rfl, rfl, rfl, rfl⟩)
theorem m_append2 (x : Int32) (hx : ¬ x < nI 32 ∧ ¬ nI 126 < x) (ht : T.1 = 60) : Ct g mX9_append [.ref (g.2.1 + 0), .int x] 0 A (BM g G T th Y W R Z U L h O) 0 0 (rP (some (.int (nI 0))) A (BM g G T 2 Y W R Z U L h O)) noX := by
  have hwi : wi x (nI 32) (nI 126) = true := decide_eq_true hx
  refine Ct.of [some (.ref (g.2.1 + 0)), some (.int x)] (by decide) rfl (Nat.le_of_ble_eq_true rfl) rfl ?_
  refine a_aload_n (q := 1) dX9_append_0 rfl rfl rfl ?_
  refine a_iload_n (q := 2) dX9_append_1 rfl rfl rfl ?_
  refine a_bipush (q := 4) (nI 32) dX9_append_2 (by decide) rfl ?_
  refine a_bipush (q := 6) (nI 126) dX9_append_4 (by decide) rfl ?_
  refine a_cSv (q := 9) _ dX9_append_6 kX9_97 (m_within _ _ _) rfl rfl (Nat.le_of_ble_eq_true rfl) ⟨(Nat.le_of_ble_eq_true rfl), (Nat.le_of_ble_eq_true rfl)⟩ ⟨(Nat.le_of_ble_eq_true rfl), (Nat.le_of_ble_eq_true rfl)⟩ rfl ?_
  refine a_if_neZ (q := 12) 16 dX9_append_9 (by decide) rfl (fun c9 => ?_) (fun c9 => ?_)
  · skip
    refine a_aload_n (q := 17) dX9_append_16 rfl rfl rfl ?_
    refine a_getB (q := 20) dX9_append_17 fX9_122 rfl rfl rfl ?_
    refine a_bipush (q := 22) (nI 60) dX9_append_20 (by decide) rfl ?_
    refine a_icmp_neN (q := 25) 29 dX9_append_22 (by decide) (by omega) (by omega) rfl (fun c22 => ?_) (fun c22 => ?_)
    · omega
    · skip
      refine a_iconst (q := 26) (nI 2) dX9_append_25 (by decide) rfl ?_
      refine a_goto 30 dX9_append_26 (by decide) ?_
      refine a_putB (q := 33) dX9_append_30 fX9_81 (fun h => nomatch h) rfl (Nat.le_of_ble_eq_true rfl) rfl rfl rfl ?_
      refine a_aload_n (q := 34) dX9_append_33 rfl rfl rfl ?_
      refine a_getB (q := 37) dX9_append_34 fX9_81 rfl rfl rfl ?_
      refine a_if_leN (q := 40) 42 dX9_append_37 (by decide) (by omega) rfl (fun c37 => ?_) (fun c37 => ?_)
      · exact absurd c37 (by decide)
      · skip
        refine a_iconst (q := 41) (nI 0) dX9_append_40 (by decide) rfl ?_
        exact a_iret dX9_append_41 rfl rfl (Nat.le_of_ble_eq_true rfl) (Nat.le_of_ble_eq_true rfl) (⟨rfl, rfl, rfl, rfl⟩)
  · rw [hwi] at c9; cases c9
theorem m_clearInput : Ct g mX9_clearInput [.ref (g.2.1 + 0)] 0 A (BM g G T th Y W R Z U L h O) 0 0 (rP (some (.int (nI T.1))) A (BM g G (0, T.2) 0 Y W R Z U L h O)) noX := by
  refine Ct.of [some (.ref (g.2.1 + 0)), none] (by decide) rfl (Nat.le_of_ble_eq_true rfl) rfl ?_
  refine a_aload_n (q := 1) dX9_clearInput_0 rfl rfl rfl ?_
  refine a_iconst (q := 2) (nI 0) dX9_clearInput_1 (by decide) rfl ?_
  refine a_putB (q := 5) dX9_clearInput_2 fX9_81 (fun h => nomatch h) rfl (Nat.le_of_ble_eq_true rfl) rfl rfl rfl ?_
  refine a_aload_n (q := 6) dX9_clearInput_5 rfl rfl rfl ?_
  refine a_getB (q := 9) dX9_clearInput_6 fX9_122 rfl rfl rfl ?_
  refine a_istore_n (q := 10) dX9_clearInput_9 rfl (Nat.le_of_ble_eq_true rfl) rfl rfl ?_
  refine a_aload_n (q := 11) dX9_clearInput_10 rfl rfl rfl ?_
  refine a_iconst (q := 12) (nI 0) dX9_clearInput_11 (by decide) rfl ?_
  refine a_putB (q := 15) dX9_clearInput_12 fX9_122 (fun h => nomatch h) rfl (Nat.le_of_ble_eq_true rfl) rfl rfl rfl ?_
  refine a_iload_n (q := 16) dX9_clearInput_15 rfl rfl rfl ?_
  exact a_iret dX9_clearInput_16 rfl rfl (Nat.le_of_ble_eq_true rfl) (Nat.le_of_ble_eq_true rfl) (⟨rfl, rfl, rfl, rfl⟩)
end MRead

