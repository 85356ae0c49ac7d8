/-! ===== the law's loop ===== -/
section Loop
variable {g : gp_T} {G : Gr} {T : Tx} {R : Rd} {S : Se} {K : Lk} {E : Tr} {Q : Pa} {V : Wk} {th : Nat} {Y : Ya} {W : Wa} {D : Ra} {Z : Za} {U : Ua} {L : La} {h : Int64} {O : Oa} {n j kc ns : Nat}
theorem law_sw {c : Nat} (hc : c < 32) (hr : Rl n G T S K E V Y W) (hb : lwB g n j kc ns) (L6 L7 L8 : Option Value) : AW g mL_law 1098 10013 lwP noX kc ns 44 [some (.ref g.2.2.2.2.1), some (.ref (g.1 + 0)), some (.ref (g.2.1 + 0)), some (.ref (g.2.1 + 23)), some (.ref (g.2.1 + 24)), some (.int (nI (3 * j))), L6, L7, L8] [.int (nI c)] 0 (CA g G T R S K E Q V Y.1) (BM g G T th Y W D Z U L h O) := by
  match c, hc with
  | 0, _ => exact a_tin (off := 124) 168 dL_law_44 (by decide) (by decide) (by decide) (by decide) (s_setNodes hr hb L6 L7 L8)
  | 1, _ => exact a_tin (off := 160) 204 dL_law_44 (by decide) (by decide) (by decide) (by decide) (s_addEdge hr hb L6 L7 L8)
  | 2, _ => exact a_tin (off := 228) 272 dL_law_44 (by decide) (by decide) (by decide) (by decide) (s_setWeight hr hb L6 L7 L8)
  | 3, _ => exact a_tin (off := 296) 340 dL_law_44 (by decide) (by decide) (by decide) (by decide) (s_edgeCount hr hb L6 L7 L8)
  | 4, _ => exact a_tin (off := 309) 353 dL_law_44 (by decide) (by decide) (by decide) (by decide) (s_append hr hb L6 L7 L8)
  | 5, _ => exact a_tin (off := 365) 409 dL_law_44 (by decide) (by decide) (by decide) (by decide) (s_clearInput hr hb L6 L7 L8)
  | 6, _ => exact a_tin (off := 378) 422 dL_law_44 (by decide) (by decide) (by decide) (by decide) (s_firstError hr hb L6 L7 L8)
  | 7, _ => exact a_tin (off := 391) 435 dL_law_44 (by decide) (by decide) (by decide) (by decide) (s_load hr hb L6 L7 L8)
  | 8, _ => exact a_tin (off := 435) 479 dL_law_44 (by decide) (by decide) (by decide) (by decide) (s_analyse hr hb L6 L7 L8)
  | 9, _ => exact a_tin (off := 448) 492 dL_law_44 (by decide) (by decide) (by decide) (by decide) (s_pathsFrom hr hb L6 L7 L8)
  | 10, _ => exact a_tin (off := 504) 548 dL_law_44 (by decide) (by decide) (by decide) (by decide) (s_isBack hr hb L6 L7 L8)
  | 11, _ => exact a_tin (off := 567) 611 dL_law_44 (by decide) (by decide) (by decide) (by decide) (s_value hr hb L6 L7 L8)
  | 12, _ => exact a_tin (off := 651) 695 dL_law_44 (by decide) (by decide) (by decide) (by decide) (s_increment hr hb L6 L7 L8)
  | 13, _ => exact a_tin (off := 735) 779 dL_law_44 (by decide) (by decide) (by decide) (by decide) (s_chords hr hb L6 L7 L8)
  | 14, _ => exact a_tin (off := 807) 851 dL_law_44 (by decide) (by decide) (by decide) (by decide) (s_pathLength hr hb L6 L7 L8)
  | 15, _ => exact a_tin (off := 863) 907 dL_law_44 (by decide) (by decide) (by decide) (by decide) (s_pathNode hr hb L6 L7 L8)
  | 16, _ => exact a_tin (off := 931) 975 dL_law_44 (by decide) (by decide) (by decide) (by decide) (s_pathEdge hr hb L6 L7 L8)
  | 17, _ => exact a_tin (off := 1015) 1059 dL_law_44 (by decide) (by decide) (by decide) (by decide) (s_findPath hr hb L6 L7 L8)
  | 18, _ => exact a_tin (off := 1059) 1103 dL_law_44 (by decide) (by decide) (by decide) (by decide) (s_start hr hb L6 L7 L8)
  | 19, _ => exact a_tin (off := 1083) 1127 dL_law_44 (by decide) (by decide) (by decide) (by decide) (s_step hr hb L6 L7 L8)
  | 20, _ => exact a_tin (off := 1139) 1183 dL_law_44 (by decide) (by decide) (by decide) (by decide) (s_current hr hb L6 L7 L8)
  | 21, _ => exact a_tin (off := 1152) 1196 dL_law_44 (by decide) (by decide) (by decide) (by decide) (s_register hr hb L6 L7 L8)
  | 22, _ => exact a_tin (off := 1165) 1209 dL_law_44 (by decide) (by decide) (by decide) (by decide) (s_count hr hb L6 L7 L8)
  | 23, _ => exact a_tin (off := 1221) 1265 dL_law_44 (by decide) (by decide) (by decide) (by decide) (s_share hr hb L6 L7 L8)
  | 24, _ => exact a_tin (off := 1298) 1342 dL_law_44 (by decide) (by decide) (by decide) (by decide) (s_hottest hr hb L6 L7 L8)
  | 25, _ => exact a_tin (off := 1311) 1355 dL_law_44 (by decide) (by decide) (by decide) (by decide) (s_edgeFrequency hr hb L6 L7 L8)
  | 26, _ => exact a_tin (off := 1367) 1411 dL_law_44 (by decide) (by decide) (by decide) (by decide) (s_digest hr hb L6 L7 L8)
  | k + 27, hk =>
    refine a_tout 1425 dL_law_44 (Or.inr ?_) (by decide) ?_
    · rw [nI_toInt (by omega)]; omega
    · exact (hb.2.2.2.2.2 _ _ (LI.mk R Q (by rfl) hr.succ)).less L6 L7 L8
theorem law_loop (hL : g.2.2.2.2.2.1 ≤ 1536) : ∀ (m j : Nat) (A B : List va_E), g.2.2.2.2.2.1 ≤ 3 * j + 3 * m + 2 → 3 * j ≤ g.2.2.2.2.2.1 → LI g j A B → lwA g j (59 + j) (1731 + 6 * j) 28 A B := by
  intro m
  induction m with
  | zero =>
    intro j A B h1 h2 hI L6 L7 L8
    refine a_iload (q := 30) dL_law_28 rfl rfl ?_
    refine a_aload_n (q := 31) dL_law_30 rfl rfl rfl ?_
    refine a_slenN (q := 32) dL_law_31 rfl ?_
    refine a_iconst (q := 33) (nI 3) dL_law_32 (by decide) rfl ?_
    refine a_isub (q := 34) dL_law_33 rfl ?_
    refine a_icmp_gt (q := 37) 1431 dL_law_34 (by decide) rfl (fun c34 => ?_) (fun c34 => ?_)
    · skip
      skip
      refine a_iconst (q := 1432) (b2 true) dL_law_1431 (by decide) rfl ?_
      exact a_iret dL_law_1432 rfl rfl (by omega) (by omega) rfl
    · rw [i32_lt, pk_sub_toInt (by omega) (by omega), nI_toInt (by omega)] at c34
      omega
  | succ m ih =>
    intro j A B h1 h2 hI L6 L7 L8
    refine a_iload (q := 30) dL_law_28 rfl rfl ?_
    refine a_aload_n (q := 31) dL_law_30 rfl rfl rfl ?_
    refine a_slenN (q := 32) dL_law_31 rfl ?_
    refine a_iconst (q := 33) (nI 3) dL_law_32 (by decide) rfl ?_
    refine a_isub (q := 34) dL_law_33 rfl ?_
    refine a_icmp_gt (q := 37) 1431 dL_law_34 (by decide) rfl (fun c34 => ?_) (fun c34 => ?_)
    · skip
      refine a_iconst (q := 1432) (b2 true) dL_law_1431 (by decide) rfl ?_
      exact a_iret dL_law_1432 rfl rfl (by omega) (by omega) rfl
    · rw [i32_lt, pk_sub_toInt (by omega) (by omega), nI_toInt (by omega)] at c34
      have hj : 3 * j + 2 < g.2.2.2.2.2.1 := by omega
      obtain ⟨G, T, R, S, K, E, Q, V, Y, W, th, D, Z, U, L, h, O, rfl, rfl, hr⟩ := hI
      refine a_aload_n (q := 38) dL_law_37 rfl rfl rfl ?_
      refine a_iload (q := 40) dL_law_38 rfl rfl ?_
      refine a_sldN (q := 41) dL_law_40 (by omega) hL rfl ?_
      refine a_bipush (q := 43) (nI 31) dL_law_41 (by decide) rfl ?_
      refine a_iand (q := 44) dL_law_43 rfl ?_
      obtain ⟨c, hc, he⟩ := pk_andE (g.2.2.2.2.2.2 (3 * j)) (m := nI 31) 5 (by decide)
      rw [he]
      refine law_sw hc hr ⟨hj, hL, by omega, by omega, by omega, fun A B hI L6 L7 L8 => ?_⟩ L6 L7 L8
      refine a_iincN (q := 1428) (c := 3) dL_law_1425 rfl (by decide) rfl rfl ?_
      refine a_goto 28 dL_law_1428 (by decide) ?_
      have hn := ih (j + 1) A B (by omega) (by omega) hI L6 L7 L8
      rw [show 59 + (j + 1) = 59 + j + 1 by omega, show 1731 + 6 * (j + 1) = 1731 + 6 * j + 6 by omega, show 3 * (j + 1) = 3 * j + 3 by omega] at hn
      exact hn
end Loop

