/-! ===== PathProfiler: walks, counts, digest ===== -/
/-- how often a link is among the counted paths, from path p on -/
def efF (G : Gr) (K : Lk) (f : Nat → Nat) (l : Nat) : Nat → Nat → Nat → Pa → Nat × Pa
  | 0, _, s, q => (s, q)
  | m + 1, p, s, q => if f p = 0 then efF G K f l m (p + 1) s q else efF G K f l m (p + 1) (s + (if anyR (trc G K (nI p) q).2 (fun i => decide ((trc G K (nI p) q).1 i = l)) = true then f p else 0)) (trc G K (nI p) q)
section Walk8
variable {g : gp_T} {B : List va_E} {G : Gr} {T : Tx} {R : Rd} {S : Se} {vl pt : Nat → Int32} {K : Lk} {E : Tr} {Q : Pa} {V : Wk} {an : Bool}
theorem c_start (h : cbl an (K.2.2.2 0) = true) : Ct g mX8_start [.ref (g.1 + 0)] 0 (CA g G T R S K E Q V an) B 0 0 (rP none (CA g G T R S K E Q (nI 0, nI 0, V.2.2) an) B) noX := by
  refine Ct.of [some (.ref (g.1 + 0))] (by decide) rfl (Nat.le_of_ble_eq_true rfl) rfl ?_
  refine a_aload_n (q := 1) dX8_start_0 rfl rfl rfl ?_
  refine a_cVA0 (q := 4) _ dX8_start_1 kX8_223 (c_reqC h) rfl rfl rfl (Nat.le_of_ble_eq_true rfl) ⟨(Nat.le_of_ble_eq_true rfl), (Nat.le_of_ble_eq_true rfl)⟩ ⟨(Nat.le_of_ble_eq_true rfl), (Nat.le_of_ble_eq_true rfl)⟩ rfl ?_
  refine a_aload_n (q := 5) dX8_start_4 rfl rfl rfl ?_
  refine a_getA (q := 8) dX8_start_5 fX8_67 rfl rfl rfl ?_
  refine a_cVA0 (q := 11) _ dX8_start_8 kX8_226 (c_begin) rfl rfl rfl (Nat.le_of_ble_eq_true rfl) ⟨(Nat.le_of_ble_eq_true rfl), (Nat.le_of_ble_eq_true rfl)⟩ ⟨(Nat.le_of_ble_eq_true rfl), (Nat.le_of_ble_eq_true rfl)⟩ rfl ?_
  exact a_ret dX8_start_11 rfl (Nat.le_of_ble_eq_true rfl) (Nat.le_of_ble_eq_true rfl) (⟨rfl, rfl, rfl, rfl⟩)
theorem x_start (h : cbl an (K.2.2.2 0) = false) : Ct g mX8_start [.ref (g.1 + 0)] 0 (CA g G T R S K E Q V an) B 1 6 noP (tX xIS (CA g G T R S K E Q V an) B) := by
  refine Ct.of [some (.ref (g.1 + 0))] (by decide) rfl (Nat.le_of_ble_eq_true rfl) rfl ?_
  refine a_aload_n (q := 1) dX8_start_0 rfl rfl rfl ?_
  exact a_xVA _ dX8_start_1 kX8_223 (x_reqC h) rfl rfl rfl (Nat.le_of_ble_eq_true rfl) ⟨(Nat.le_of_ble_eq_true rfl), (Nat.le_of_ble_eq_true rfl)⟩ ⟨(Nat.le_of_ble_eq_true rfl), (Nat.le_of_ble_eq_true rfl)⟩ (ax_out rfl (Nat.le_of_ble_eq_true rfl) (Nat.le_of_ble_eq_true rfl) ⟨rfl, rfl, rfl, rfl⟩)
theorem c_current : Ct g mX8_current [.ref (g.1 + 0)] 0 (CA g G T R S K E Q V an) B 0 0 (rP (some (.int V.1)) (CA g G T R S K E Q V an) B) noX := by
  refine Ct.of [some (.ref (g.1 + 0))] (by decide) rfl (Nat.le_of_ble_eq_true rfl) rfl ?_
  refine a_aload_n (q := 1) dX8_current_0 rfl rfl rfl ?_
  refine a_getA (q := 4) dX8_current_1 fX8_67 rfl rfl rfl ?_
  refine a_getA (q := 7) dX8_current_4 fX8_229 rfl rfl rfl ?_
  exact a_iret dX8_current_7 rfl rfl (Nat.le_of_ble_eq_true rfl) (Nat.le_of_ble_eq_true rfl) (⟨rfl, rfl, rfl, rfl⟩)
theorem c_register : Ct g mX8_register [.ref (g.1 + 0)] 0 (CA g G T R S K E Q V an) B 0 0 (rP (some (.int V.2.1)) (CA g G T R S K E Q V an) B) noX := by
  refine Ct.of [some (.ref (g.1 + 0))] (by decide) rfl (Nat.le_of_ble_eq_true rfl) rfl ?_
  refine a_aload_n (q := 1) dX8_register_0 rfl rfl rfl ?_
  refine a_getA (q := 4) dX8_register_1 fX8_67 rfl rfl rfl ?_
  refine a_getA (q := 7) dX8_register_4 fX8_245 rfl rfl rfl ?_
  exact a_iret dX8_register_7 rfl rfl (Nat.le_of_ble_eq_true rfl) (Nat.le_of_ble_eq_true rfl) (⟨rfl, rfl, rfl, rfl⟩)
theorem c_fwBack (v s : Int32) (f : Nat → Nat) (t k c : Nat) (hg : gok G) (hk : k < G.2.1) (hb : S.1 k = true) (hc : c < 200) (hs : s + E.1 (lko S.1 k true) = nI c) : Ct g mX8_follow [.ref (g.1 + 0), .int (nI k)] 0 (CA g G T R S K E Q (v, s, f, t) an) B 0 0 (rP none (CA g G T R S K E Q (nI (G.2.2.2.1 k), E.1 (lko S.1 k false), va_up f c (f c + 1), t + 1) an) B) noX := by
  have h3 := hg.2.2.1
  have hl1 := lko_lt (bk := S.1) (b := true) (show k < 24 by omega)
  have hl2 := lko_lt (bk := S.1) (b := false) (show k < 24 by omega)
  refine Ct.of [some (.ref (g.1 + 0)), some (.int (nI k)), none] (by decide) rfl (Nat.le_of_ble_eq_true rfl) rfl ?_
  refine a_aload_n (q := 1) dX8_follow_0 rfl rfl rfl ?_
  refine a_getA (q := 4) dX8_follow_1 fX8_12 rfl rfl rfl ?_
  refine a_getA (q := 7) dX8_follow_4 fX8_296 rfl rfl rfl ?_
  refine a_iload_n (q := 8) dX8_follow_7 rfl rfl rfl ?_
  refine a_ialdAN (q := 9) dX8_follow_8 rfl (by omega) (by decide) rfl ?_
  refine a_istore_n (q := 10) dX8_follow_9 rfl (Nat.le_of_ble_eq_true rfl) rfl rfl ?_
  refine a_aload_n (q := 11) dX8_follow_10 rfl rfl rfl ?_
  refine a_getA (q := 14) dX8_follow_11 fX8_67 rfl rfl rfl ?_
  refine a_dup (q := 15) dX8_follow_14 rfl rfl ?_
  refine a_getA (q := 18) dX8_follow_15 fX8_245 rfl rfl rfl ?_
  refine a_aload_n (q := 19) dX8_follow_18 rfl rfl rfl ?_
  refine a_getA (q := 22) dX8_follow_19 fX8_53 rfl rfl rfl ?_
  refine a_getA (q := 25) dX8_follow_22 fX8_190 rfl rfl rfl ?_
  refine a_aload_n (q := 26) dX8_follow_25 rfl rfl rfl ?_
  refine a_getA (q := 29) dX8_follow_26 fX8_44 rfl rfl rfl ?_
  refine a_iload_n (q := 30) dX8_follow_29 rfl rfl rfl ?_
  refine a_iconst (q := 31) (b2 true) dX8_follow_30 (by decide) rfl ?_
  refine a_cVAv (q := 34) _ dX8_follow_31 kX8_186 (c_linkOf k true (by omega)) rfl rfl rfl (Nat.le_of_ble_eq_true rfl) ⟨(Nat.le_of_ble_eq_true rfl), (Nat.le_of_ble_eq_true rfl)⟩ ⟨(Nat.le_of_ble_eq_true rfl), (Nat.le_of_ble_eq_true rfl)⟩ rfl ?_
  refine a_ialdAI (q := 35) dX8_follow_34 rfl (by omega) (by decide) rfl ?_
  refine a_iadd (q := 36) dX8_follow_35 rfl ?_
  show AW _ _ _ _ _ _ _ _ _ _ (.int (s + E.1 (lko S.1 k true)) :: _) _ _ _
  rw [hs]
  refine a_putA (q := 39) dX8_follow_36 fX8_245 (fun h => nomatch h) rfl (Nat.le_of_ble_eq_true rfl) rfl rfl rfl ?_
  refine a_aload_n (q := 40) dX8_follow_39 rfl rfl rfl ?_
  refine a_getA (q := 43) dX8_follow_40 fX8_35 rfl rfl rfl ?_
  refine a_getA (q := 46) dX8_follow_43 fX8_179 rfl rfl rfl ?_
  refine a_iload_n (q := 47) dX8_follow_46 rfl rfl rfl ?_
  refine a_zaldAN (q := 48) dX8_follow_47 rfl (by omega) (by decide) rfl ?_
  refine a_if_eqZ (q := 51) 85 dX8_follow_48 (by decide) rfl (fun c48 => ?_) (fun c48 => ?_)
  · rw [hb] at c48; cases c48
  · skip
    refine a_aload_n (q := 52) dX8_follow_51 rfl rfl rfl ?_
    refine a_getA (q := 55) dX8_follow_52 fX8_67 rfl rfl rfl ?_
    refine a_cVA0 (q := 58) _ dX8_follow_55 kX8_299 (c_countPath v c t f hc) rfl rfl rfl (Nat.le_of_ble_eq_true rfl) ⟨(Nat.le_of_ble_eq_true rfl), (Nat.le_of_ble_eq_true rfl)⟩ ⟨(Nat.le_of_ble_eq_true rfl), (Nat.le_of_ble_eq_true rfl)⟩ rfl ?_
    refine a_aload_n (q := 59) dX8_follow_58 rfl rfl rfl ?_
    refine a_getA (q := 62) dX8_follow_59 fX8_67 rfl rfl rfl ?_
    refine a_aload_n (q := 63) dX8_follow_62 rfl rfl rfl ?_
    refine a_getA (q := 66) dX8_follow_63 fX8_53 rfl rfl rfl ?_
    refine a_getA (q := 69) dX8_follow_66 fX8_190 rfl rfl rfl ?_
    refine a_aload_n (q := 70) dX8_follow_69 rfl rfl rfl ?_
    refine a_getA (q := 73) dX8_follow_70 fX8_44 rfl rfl rfl ?_
    refine a_iload_n (q := 74) dX8_follow_73 rfl rfl rfl ?_
    refine a_iconst (q := 75) (b2 false) dX8_follow_74 (by decide) rfl ?_
    refine a_cVAv (q := 78) _ dX8_follow_75 kX8_186 (c_linkOf (V := (v, nI c, va_up f c (f c + 1), t + 1)) k false (by omega)) rfl rfl rfl (Nat.le_of_ble_eq_true rfl) ⟨(Nat.le_of_ble_eq_true rfl), (Nat.le_of_ble_eq_true rfl)⟩ ⟨(Nat.le_of_ble_eq_true rfl), (Nat.le_of_ble_eq_true rfl)⟩ rfl ?_
    refine a_ialdAI (q := 79) dX8_follow_78 rfl (by omega) (by decide) rfl ?_
    refine a_putA (q := 82) dX8_follow_79 fX8_245 (fun h => nomatch h) rfl (Nat.le_of_ble_eq_true rfl) rfl rfl rfl ?_
    refine a_goto 103 dX8_follow_82 (by decide) ?_
    refine a_aload_n (q := 104) dX8_follow_103 rfl rfl rfl ?_
    refine a_getA (q := 107) dX8_follow_104 fX8_67 rfl rfl rfl ?_
    refine a_iload_n (q := 108) dX8_follow_107 rfl rfl rfl ?_
    refine a_putA (q := 111) dX8_follow_108 fX8_229 (fun h => nomatch h) rfl (Nat.le_of_ble_eq_true rfl) rfl rfl rfl ?_
    exact a_ret dX8_follow_111 rfl (Nat.le_of_ble_eq_true rfl) (Nat.le_of_ble_eq_true rfl) (⟨rfl, rfl, rfl, rfl⟩)
theorem c_fwExit (v s : Int32) (f : Nat → Nat) (t k c : Nat) (hg : gok G) (hk : k < G.2.1) (hb : S.1 k = false) (hx : G.2.2.2.1 k = G.1 - 1) (hc : c < 200) (hs : s + E.1 (lko S.1 k true) = nI c) : Ct g mX8_follow [.ref (g.1 + 0), .int (nI k)] 0 (CA g G T R S K E Q (v, s, f, t) an) B 0 0 (rP none (CA g G T R S K E Q (nI (G.2.2.2.1 k), nI c, va_up f c (f c + 1), t + 1) an) B) noX := by
  have h1 := hg.1
  have h2 := hg.2.1
  have h3 := hg.2.2.1
  have hl1 := lko_lt (bk := S.1) (b := true) (show k < 24 by omega)
  refine Ct.of [some (.ref (g.1 + 0)), some (.int (nI k)), none] (by decide) rfl (Nat.le_of_ble_eq_true rfl) rfl ?_
  refine a_aload_n (q := 1) dX8_follow_0 rfl rfl rfl ?_
  refine a_getA (q := 4) dX8_follow_1 fX8_12 rfl rfl rfl ?_
  refine a_getA (q := 7) dX8_follow_4 fX8_296 rfl rfl rfl ?_
  refine a_iload_n (q := 8) dX8_follow_7 rfl rfl rfl ?_
  refine a_ialdAN (q := 9) dX8_follow_8 rfl (by omega) (by decide) rfl ?_
  refine a_istore_n (q := 10) dX8_follow_9 rfl (Nat.le_of_ble_eq_true rfl) rfl rfl ?_
  refine a_aload_n (q := 11) dX8_follow_10 rfl rfl rfl ?_
  refine a_getA (q := 14) dX8_follow_11 fX8_67 rfl rfl rfl ?_
  refine a_dup (q := 15) dX8_follow_14 rfl rfl ?_
  refine a_getA (q := 18) dX8_follow_15 fX8_245 rfl rfl rfl ?_
  refine a_aload_n (q := 19) dX8_follow_18 rfl rfl rfl ?_
  refine a_getA (q := 22) dX8_follow_19 fX8_53 rfl rfl rfl ?_
  refine a_getA (q := 25) dX8_follow_22 fX8_190 rfl rfl rfl ?_
  refine a_aload_n (q := 26) dX8_follow_25 rfl rfl rfl ?_
  refine a_getA (q := 29) dX8_follow_26 fX8_44 rfl rfl rfl ?_
  refine a_iload_n (q := 30) dX8_follow_29 rfl rfl rfl ?_
  refine a_iconst (q := 31) (b2 true) dX8_follow_30 (by decide) rfl ?_
  refine a_cVAv (q := 34) _ dX8_follow_31 kX8_186 (c_linkOf k true (by omega)) rfl rfl rfl (Nat.le_of_ble_eq_true rfl) ⟨(Nat.le_of_ble_eq_true rfl), (Nat.le_of_ble_eq_true rfl)⟩ ⟨(Nat.le_of_ble_eq_true rfl), (Nat.le_of_ble_eq_true rfl)⟩ rfl ?_
  refine a_ialdAI (q := 35) dX8_follow_34 rfl (by omega) (by decide) rfl ?_
  refine a_iadd (q := 36) dX8_follow_35 rfl ?_
  show AW _ _ _ _ _ _ _ _ _ _ (.int (s + E.1 (lko S.1 k true)) :: _) _ _ _
  rw [hs]
  refine a_putA (q := 39) dX8_follow_36 fX8_245 (fun h => nomatch h) rfl (Nat.le_of_ble_eq_true rfl) rfl rfl rfl ?_
  refine a_aload_n (q := 40) dX8_follow_39 rfl rfl rfl ?_
  refine a_getA (q := 43) dX8_follow_40 fX8_35 rfl rfl rfl ?_
  refine a_getA (q := 46) dX8_follow_43 fX8_179 rfl rfl rfl ?_
  refine a_iload_n (q := 47) dX8_follow_46 rfl rfl rfl ?_
  refine a_zaldAN (q := 48) dX8_follow_47 rfl (by omega) (by decide) rfl ?_
  refine a_if_eqZ (q := 51) 85 dX8_follow_48 (by decide) rfl (fun c48 => ?_) (fun c48 => ?_)
  · skip
    refine a_iload_n (q := 86) dX8_follow_85 rfl rfl rfl ?_
    refine a_aload_n (q := 87) dX8_follow_86 rfl rfl rfl ?_
    refine a_getA (q := 90) dX8_follow_87 fX8_12 rfl rfl rfl ?_
    refine a_cVAv (q := 93) _ dX8_follow_90 kX8_232 (c_exit (G := G) rfl (by omega)) rfl rfl rfl (Nat.le_of_ble_eq_true rfl) ⟨(Nat.le_of_ble_eq_true rfl), (Nat.le_of_ble_eq_true rfl)⟩ ⟨(Nat.le_of_ble_eq_true rfl), (Nat.le_of_ble_eq_true rfl)⟩ rfl ?_
    refine a_icmp_neN (q := 96) 103 dX8_follow_93 (by decide) (by omega) (by omega) rfl (fun c93 => ?_) (fun c93 => ?_)
    · exact absurd hx c93
    · skip
      refine a_aload_n (q := 97) dX8_follow_96 rfl rfl rfl ?_
      refine a_getA (q := 100) dX8_follow_97 fX8_67 rfl rfl rfl ?_
      refine a_cVA0 (q := 103) _ dX8_follow_100 kX8_299 (c_countPath v c t f hc) rfl rfl rfl (Nat.le_of_ble_eq_true rfl) ⟨(Nat.le_of_ble_eq_true rfl), (Nat.le_of_ble_eq_true rfl)⟩ ⟨(Nat.le_of_ble_eq_true rfl), (Nat.le_of_ble_eq_true rfl)⟩ rfl ?_
      refine a_aload_n (q := 104) dX8_follow_103 rfl rfl rfl ?_
      refine a_getA (q := 107) dX8_follow_104 fX8_67 rfl rfl rfl ?_
      refine a_iload_n (q := 108) dX8_follow_107 rfl rfl rfl ?_
      refine a_putA (q := 111) dX8_follow_108 fX8_229 (fun h => nomatch h) rfl (Nat.le_of_ble_eq_true rfl) rfl rfl rfl ?_
      exact a_ret dX8_follow_111 rfl (Nat.le_of_ble_eq_true rfl) (Nat.le_of_ble_eq_true rfl) (⟨rfl, rfl, rfl, rfl⟩)
  · rw [hb] at c48; cases c48
theorem c_fwOn (v s : Int32) (f : Nat → Nat) (t k : Nat) (hg : gok G) (hk : k < G.2.1) (hb : S.1 k = false) (hx : G.2.2.2.1 k ≠ G.1 - 1) : Ct g mX8_follow [.ref (g.1 + 0), .int (nI k)] 0 (CA g G T R S K E Q (v, s, f, t) an) B 0 0 (rP none (CA g G T R S K E Q (nI (G.2.2.2.1 k), s + E.1 (lko S.1 k true), f, t) an) B) noX := by
  have h1 := hg.1
  have h2 := hg.2.1
  have h3 := hg.2.2.1
  have h4 := (hg.2.2.2.1 k hk).2.2.1
  have hl1 := lko_lt (bk := S.1) (b := true) (show k < 24 by omega)
  refine Ct.of [some (.ref (g.1 + 0)), some (.int (nI k)), none] (by decide) rfl (Nat.le_of_ble_eq_true rfl) rfl ?_
  refine a_aload_n (q := 1) dX8_follow_0 rfl rfl rfl ?_
  refine a_getA (q := 4) dX8_follow_1 fX8_12 rfl rfl rfl ?_
  refine a_getA (q := 7) dX8_follow_4 fX8_296 rfl rfl rfl ?_
  refine a_iload_n (q := 8) dX8_follow_7 rfl rfl rfl ?_
  refine a_ialdAN (q := 9) dX8_follow_8 rfl (by omega) (by decide) rfl ?_
  refine a_istore_n (q := 10) dX8_follow_9 rfl (Nat.le_of_ble_eq_true rfl) rfl rfl ?_
  refine a_aload_n (q := 11) dX8_follow_10 rfl rfl rfl ?_
  refine a_getA (q := 14) dX8_follow_11 fX8_67 rfl rfl rfl ?_
  refine a_dup (q := 15) dX8_follow_14 rfl rfl ?_
  refine a_getA (q := 18) dX8_follow_15 fX8_245 rfl rfl rfl ?_
  refine a_aload_n (q := 19) dX8_follow_18 rfl rfl rfl ?_
  refine a_getA (q := 22) dX8_follow_19 fX8_53 rfl rfl rfl ?_
  refine a_getA (q := 25) dX8_follow_22 fX8_190 rfl rfl rfl ?_
  refine a_aload_n (q := 26) dX8_follow_25 rfl rfl rfl ?_
  refine a_getA (q := 29) dX8_follow_26 fX8_44 rfl rfl rfl ?_
  refine a_iload_n (q := 30) dX8_follow_29 rfl rfl rfl ?_
  refine a_iconst (q := 31) (b2 true) dX8_follow_30 (by decide) rfl ?_
  refine a_cVAv (q := 34) _ dX8_follow_31 kX8_186 (c_linkOf k true (by omega)) rfl rfl rfl (Nat.le_of_ble_eq_true rfl) ⟨(Nat.le_of_ble_eq_true rfl), (Nat.le_of_ble_eq_true rfl)⟩ ⟨(Nat.le_of_ble_eq_true rfl), (Nat.le_of_ble_eq_true rfl)⟩ rfl ?_
  refine a_ialdAI (q := 35) dX8_follow_34 rfl (by omega) (by decide) rfl ?_
  refine a_iadd (q := 36) dX8_follow_35 rfl ?_
  refine a_putA (q := 39) dX8_follow_36 fX8_245 (fun h => nomatch h) rfl (Nat.le_of_ble_eq_true rfl) rfl rfl rfl ?_
  refine a_aload_n (q := 40) dX8_follow_39 rfl rfl rfl ?_
  refine a_getA (q := 43) dX8_follow_40 fX8_35 rfl rfl rfl ?_
  refine a_getA (q := 46) dX8_follow_43 fX8_179 rfl rfl rfl ?_
  refine a_iload_n (q := 47) dX8_follow_46 rfl rfl rfl ?_
  refine a_zaldAN (q := 48) dX8_follow_47 rfl (by omega) (by decide) rfl ?_
  refine a_if_eqZ (q := 51) 85 dX8_follow_48 (by decide) rfl (fun c48 => ?_) (fun c48 => ?_)
  · skip
    refine a_iload_n (q := 86) dX8_follow_85 rfl rfl rfl ?_
    refine a_aload_n (q := 87) dX8_follow_86 rfl rfl rfl ?_
    refine a_getA (q := 90) dX8_follow_87 fX8_12 rfl rfl rfl ?_
    refine a_cVAv (q := 93) _ dX8_follow_90 kX8_232 (c_exit (G := G) rfl (by omega)) rfl rfl rfl (Nat.le_of_ble_eq_true rfl) ⟨(Nat.le_of_ble_eq_true rfl), (Nat.le_of_ble_eq_true rfl)⟩ ⟨(Nat.le_of_ble_eq_true rfl), (Nat.le_of_ble_eq_true rfl)⟩ rfl ?_
    refine a_icmp_neN (q := 96) 103 dX8_follow_93 (by decide) (by omega) (by omega) rfl (fun c93 => ?_) (fun c93 => ?_)
    · skip
      refine a_aload_n (q := 104) dX8_follow_103 rfl rfl rfl ?_
      refine a_getA (q := 107) dX8_follow_104 fX8_67 rfl rfl rfl ?_
      refine a_iload_n (q := 108) dX8_follow_107 rfl rfl rfl ?_
      refine a_putA (q := 111) dX8_follow_108 fX8_229 (fun h => nomatch h) rfl (Nat.le_of_ble_eq_true rfl) rfl rfl rfl ?_
      exact a_ret dX8_follow_111 rfl (Nat.le_of_ble_eq_true rfl) (Nat.le_of_ble_eq_true rfl) (⟨rfl, rfl, rfl, rfl⟩)
    · exact absurd c93 hx
  · rw [hb] at c48; cases c48
/-- a step that goes: what 'follow' does -/
theorem c_step (v k : Nat) (x s : Int32) (f : Nat → Nat) (t : Nat) (V' : Wk) (hg : gok G) (hv : v + 1 < G.1) (hk : k < G.2.1) (hx : eaF G.2.2.1 v x G.2.1 0 0 = nI k) (hV : V'.1 = nI (G.2.2.2.1 k)) (hM : Ct g mX8_follow [.ref (g.1 + 0), .int (nI k)] 0 (CA g G T R S K E Q (nI v, s, f, t) an) B 0 0 (rP none (CA g G T R S K E Q V' an) B) noX) : Ct g mX8_step [.ref (g.1 + 0), .int x] 0 (CA g G T R S K E Q (nI v, s, f, t) an) B 0 0 (rP (some (.int (nI (G.2.2.2.1 k)))) (CA g G T R S K E Q V' an) B) noX := by
  have h1 := hg.1
  have h2 := hg.2.1
  have h3 := hg.2.2.1
  refine Ct.of [some (.ref (g.1 + 0)), some (.int x), none] (by decide) rfl (Nat.le_of_ble_eq_true rfl) rfl ?_
  refine a_aload_n (q := 1) dX8_step_0 rfl rfl rfl ?_
  refine a_getA (q := 4) dX8_step_1 fX8_67 rfl rfl rfl ?_
  refine a_getA (q := 7) dX8_step_4 fX8_229 rfl rfl rfl ?_
  refine a_iconst (q := 8) (-1) dX8_step_7 (by decide) rfl ?_
  refine a_icmp_eq (q := 11) 28 dX8_step_8 (by decide) rfl (fun c8 => ?_) (fun c8 => ?_)
  · exact absurd c8 (nI_m1 (by omega))
  · skip
    refine a_aload_n (q := 12) dX8_step_11 rfl rfl rfl ?_
    refine a_getA (q := 15) dX8_step_12 fX8_67 rfl rfl rfl ?_
    refine a_getA (q := 18) dX8_step_15 fX8_229 rfl rfl rfl ?_
    refine a_aload_n (q := 19) dX8_step_18 rfl rfl rfl ?_
    refine a_getA (q := 22) dX8_step_19 fX8_12 rfl rfl rfl ?_
    refine a_cVAv (q := 25) _ dX8_step_22 kX8_232 (c_exit (G := G) rfl (by omega)) rfl rfl rfl (Nat.le_of_ble_eq_true rfl) ⟨(Nat.le_of_ble_eq_true rfl), (Nat.le_of_ble_eq_true rfl)⟩ ⟨(Nat.le_of_ble_eq_true rfl), (Nat.le_of_ble_eq_true rfl)⟩ rfl ?_
    refine a_icmp_ne (q := 28) 38 dX8_step_25 (by decide) rfl (fun c25 => ?_) (fun c25 => ?_)
    · skip
      refine a_aload_n (q := 39) dX8_step_38 rfl rfl rfl ?_
      refine a_getA (q := 42) dX8_step_39 fX8_12 rfl rfl rfl ?_
      refine a_aload_n (q := 43) dX8_step_42 rfl rfl rfl ?_
      refine a_getA (q := 46) dX8_step_43 fX8_67 rfl rfl rfl ?_
      refine a_getA (q := 49) dX8_step_46 fX8_229 rfl rfl rfl ?_
      refine a_iload_n (q := 50) dX8_step_49 rfl rfl rfl ?_
      refine a_cVAv (q := 53) _ dX8_step_50 kX8_237 (c_edgeAt v x (by omega) (by unfold big; omega) (fun i hi => by have := (hg.2.2.2.1 i hi).1; unfold big; omega)) rfl rfl rfl (Nat.le_of_ble_eq_true rfl) ⟨(Nat.le_of_ble_eq_true rfl), (Nat.le_of_ble_eq_true rfl)⟩ ⟨(Nat.le_of_ble_eq_true rfl), (Nat.le_of_ble_eq_true rfl)⟩ rfl ?_
      rw [hx]
      refine a_istore_n (q := 54) dX8_step_53 rfl (Nat.le_of_ble_eq_true rfl) rfl rfl ?_
      refine a_iload_n (q := 55) dX8_step_54 rfl rfl rfl ?_
      refine a_iconst (q := 56) (-1) dX8_step_55 (by decide) rfl ?_
      refine a_icmp_ne (q := 59) 69 dX8_step_56 (by decide) rfl (fun c56 => ?_) (fun c56 => ?_)
      · skip
        refine a_aload_n (q := 70) dX8_step_69 rfl rfl rfl ?_
        refine a_iload_n (q := 71) dX8_step_70 rfl rfl rfl ?_
        refine a_cVA0 (q := 74) _ dX8_step_71 kX8_242 (hM) rfl rfl rfl (Nat.le_of_ble_eq_true rfl) ⟨(Nat.le_of_ble_eq_true rfl), (Nat.le_of_ble_eq_true rfl)⟩ ⟨(Nat.le_of_ble_eq_true rfl), (Nat.le_of_ble_eq_true rfl)⟩ rfl ?_
        refine a_aload_n (q := 75) dX8_step_74 rfl rfl rfl ?_
        refine a_getA (q := 78) dX8_step_75 fX8_67 rfl rfl rfl ?_
        refine a_getA (q := 81) dX8_step_78 fX8_229 rfl rfl rfl ?_
        exact a_iret dX8_step_81 rfl rfl (Nat.le_of_ble_eq_true rfl) (Nat.le_of_ble_eq_true rfl) (⟨by rw [hV], rfl, rfl, rfl⟩)
      · exact absurd c56 (nI_m1 (by omega))
    · exact absurd ((nI_eq (by omega) (by omega)).mp c25) (by omega)
theorem x_step1 (x : Int32) (hg : gok G) (h : V.1 = -1 ∨ V.1 = nI (G.1 - 1)) : Ct g mX8_step [.ref (g.1 + 0), .int x] 0 (CA g G T R S K E Q V an) B 1 6 noP (tX xIS (CA g G T R S K E Q V an) B) := by
  have h1 := hg.1
  refine Ct.of [some (.ref (g.1 + 0)), some (.int x), none] (by decide) rfl (Nat.le_of_ble_eq_true rfl) rfl ?_
  refine a_aload_n (q := 1) dX8_step_0 rfl rfl rfl ?_
  refine a_getA (q := 4) dX8_step_1 fX8_67 rfl rfl rfl ?_
  refine a_getA (q := 7) dX8_step_4 fX8_229 rfl rfl rfl ?_
  refine a_iconst (q := 8) (-1) dX8_step_7 (by decide) rfl ?_
  refine a_icmp_eq (q := 11) 28 dX8_step_8 (by decide) rfl (fun c8 => ?_) (fun c8 => ?_)
  · skip
    exact a_throw dX8_step_28 dX8_step_31 dX8_step_32 dX8_step_34 dX8_step_37 tX8_235 rfl ⟨(Nat.le_of_ble_eq_true rfl), (Nat.le_of_ble_eq_true rfl)⟩ ⟨(Nat.le_of_ble_eq_true rfl), (Nat.le_of_ble_eq_true rfl)⟩ (⟨rfl, rfl, rfl, rfl⟩)
  · skip
    refine a_aload_n (q := 12) dX8_step_11 rfl rfl rfl ?_
    refine a_getA (q := 15) dX8_step_12 fX8_67 rfl rfl rfl ?_
    refine a_getA (q := 18) dX8_step_15 fX8_229 rfl rfl rfl ?_
    refine a_aload_n (q := 19) dX8_step_18 rfl rfl rfl ?_
    refine a_getA (q := 22) dX8_step_19 fX8_12 rfl rfl rfl ?_
    refine a_cVAv (q := 25) _ dX8_step_22 kX8_232 (c_exit (G := G) rfl (by omega)) rfl rfl rfl (Nat.le_of_ble_eq_true rfl) ⟨(Nat.le_of_ble_eq_true rfl), (Nat.le_of_ble_eq_true rfl)⟩ ⟨(Nat.le_of_ble_eq_true rfl), (Nat.le_of_ble_eq_true rfl)⟩ rfl ?_
    refine a_icmp_ne (q := 28) 38 dX8_step_25 (by decide) rfl (fun c25 => ?_) (fun c25 => ?_)
    · exact absurd h (by rintro (q | q); exact c8 q; exact c25 q)
    · skip
      exact a_throw dX8_step_28 dX8_step_31 dX8_step_32 dX8_step_34 dX8_step_37 tX8_235 rfl ⟨(Nat.le_of_ble_eq_true rfl), (Nat.le_of_ble_eq_true rfl)⟩ ⟨(Nat.le_of_ble_eq_true rfl), (Nat.le_of_ble_eq_true rfl)⟩ (⟨rfl, rfl, rfl, rfl⟩)
theorem x_step2 (v : Nat) (x s : Int32) (f : Nat → Nat) (t : Nat) (hg : gok G) (hv : v + 1 < G.1) (hx : eaF G.2.2.1 v x G.2.1 0 0 = -1) : Ct g mX8_step [.ref (g.1 + 0), .int x] 0 (CA g G T R S K E Q (nI v, s, f, t) an) B 1 6 noP (tX xIB (CA g G T R S K E Q (nI v, s, f, t) an) B) := by
  have h1 := hg.1
  have h2 := hg.2.1
  have h3 := hg.2.2.1
  refine Ct.of [some (.ref (g.1 + 0)), some (.int x), none] (by decide) rfl (Nat.le_of_ble_eq_true rfl) rfl ?_
  refine a_aload_n (q := 1) dX8_step_0 rfl rfl rfl ?_
  refine a_getA (q := 4) dX8_step_1 fX8_67 rfl rfl rfl ?_
  refine a_getA (q := 7) dX8_step_4 fX8_229 rfl rfl rfl ?_
  refine a_iconst (q := 8) (-1) dX8_step_7 (by decide) rfl ?_
  refine a_icmp_eq (q := 11) 28 dX8_step_8 (by decide) rfl (fun c8 => ?_) (fun c8 => ?_)
  · exact absurd c8 (nI_m1 (by omega))
  · skip
    refine a_aload_n (q := 12) dX8_step_11 rfl rfl rfl ?_
    refine a_getA (q := 15) dX8_step_12 fX8_67 rfl rfl rfl ?_
    refine a_getA (q := 18) dX8_step_15 fX8_229 rfl rfl rfl ?_
    refine a_aload_n (q := 19) dX8_step_18 rfl rfl rfl ?_
    refine a_getA (q := 22) dX8_step_19 fX8_12 rfl rfl rfl ?_
    refine a_cVAv (q := 25) _ dX8_step_22 kX8_232 (c_exit (G := G) rfl (by omega)) rfl rfl rfl (Nat.le_of_ble_eq_true rfl) ⟨(Nat.le_of_ble_eq_true rfl), (Nat.le_of_ble_eq_true rfl)⟩ ⟨(Nat.le_of_ble_eq_true rfl), (Nat.le_of_ble_eq_true rfl)⟩ rfl ?_
    refine a_icmp_ne (q := 28) 38 dX8_step_25 (by decide) rfl (fun c25 => ?_) (fun c25 => ?_)
    · skip
      refine a_aload_n (q := 39) dX8_step_38 rfl rfl rfl ?_
      refine a_getA (q := 42) dX8_step_39 fX8_12 rfl rfl rfl ?_
      refine a_aload_n (q := 43) dX8_step_42 rfl rfl rfl ?_
      refine a_getA (q := 46) dX8_step_43 fX8_67 rfl rfl rfl ?_
      refine a_getA (q := 49) dX8_step_46 fX8_229 rfl rfl rfl ?_
      refine a_iload_n (q := 50) dX8_step_49 rfl rfl rfl ?_
      refine a_cVAv (q := 53) _ dX8_step_50 kX8_237 (c_edgeAt v x (by omega) (by unfold big; omega) (fun i hi => by have := (hg.2.2.2.1 i hi).1; unfold big; omega)) rfl rfl rfl (Nat.le_of_ble_eq_true rfl) ⟨(Nat.le_of_ble_eq_true rfl), (Nat.le_of_ble_eq_true rfl)⟩ ⟨(Nat.le_of_ble_eq_true rfl), (Nat.le_of_ble_eq_true rfl)⟩ rfl ?_
      rw [hx]
      refine a_istore_n (q := 54) dX8_step_53 rfl (Nat.le_of_ble_eq_true rfl) rfl rfl ?_
      refine a_iload_n (q := 55) dX8_step_54 rfl rfl rfl ?_
      refine a_iconst (q := 56) (-1) dX8_step_55 (by decide) rfl ?_
      refine a_icmp_ne (q := 59) 69 dX8_step_56 (by decide) rfl (fun c56 => ?_) (fun c56 => ?_)
      · exact absurd rfl c56
      · skip
        exact a_throw dX8_step_59 dX8_step_62 dX8_step_63 dX8_step_65 dX8_step_68 tX8_240 rfl ⟨(Nat.le_of_ble_eq_true rfl), (Nat.le_of_ble_eq_true rfl)⟩ ⟨(Nat.le_of_ble_eq_true rfl), (Nat.le_of_ble_eq_true rfl)⟩ (⟨rfl, rfl, rfl, rfl⟩)
    · exact absurd ((nI_eq (by omega) (by omega)).mp c25) (by omega)
theorem c_count (k : Nat) (h : cbl an (K.2.2.2 0) = true) (hp : ptk (nI k) (K.2.2.2 0) = true) (hk : k < 200) : Ct g mX8_count [.ref (g.1 + 0), .int (nI k)] 0 (CA g G T R S K E Q V an) B 0 0 (rP (some (.int (nI (V.2.2.1 k)))) (CA g G T R S K E Q V an) B) noX := by
  refine Ct.of [some (.ref (g.1 + 0)), some (.int (nI k))] (by decide) rfl (Nat.le_of_ble_eq_true rfl) rfl ?_
  refine a_aload_n (q := 1) dX8_count_0 rfl rfl rfl ?_
  refine a_cVA0 (q := 4) _ dX8_count_1 kX8_223 (c_reqC h) rfl rfl rfl (Nat.le_of_ble_eq_true rfl) ⟨(Nat.le_of_ble_eq_true rfl), (Nat.le_of_ble_eq_true rfl)⟩ ⟨(Nat.le_of_ble_eq_true rfl), (Nat.le_of_ble_eq_true rfl)⟩ rfl ?_
  refine a_aload_n (q := 5) dX8_count_4 rfl rfl rfl ?_
  refine a_iload_n (q := 6) dX8_count_5 rfl rfl rfl ?_
  refine a_cVA0 (q := 9) _ dX8_count_6 kX8_199 (c_reqP _ hp) rfl rfl rfl (Nat.le_of_ble_eq_true rfl) ⟨(Nat.le_of_ble_eq_true rfl), (Nat.le_of_ble_eq_true rfl)⟩ ⟨(Nat.le_of_ble_eq_true rfl), (Nat.le_of_ble_eq_true rfl)⟩ rfl ?_
  refine a_aload_n (q := 10) dX8_count_9 rfl rfl rfl ?_
  refine a_getA (q := 13) dX8_count_10 fX8_67 rfl rfl rfl ?_
  refine a_getA (q := 16) dX8_count_13 fX8_248 rfl rfl rfl ?_
  refine a_iload_n (q := 17) dX8_count_16 rfl rfl rfl ?_
  refine a_ialdAN (q := 18) dX8_count_17 rfl (by omega) (by decide) rfl ?_
  exact a_iret dX8_count_18 rfl rfl (Nat.le_of_ble_eq_true rfl) (Nat.le_of_ble_eq_true rfl) (⟨rfl, rfl, rfl, rfl⟩)
theorem x_count1 (x : Int32) (h : cbl an (K.2.2.2 0) = false) : Ct g mX8_count [.ref (g.1 + 0), .int x] 0 (CA g G T R S K E Q V an) B 1 6 noP (tX xIS (CA g G T R S K E Q V an) B) := by
  refine Ct.of [some (.ref (g.1 + 0)), some (.int x)] (by decide) rfl (Nat.le_of_ble_eq_true rfl) rfl ?_
  refine a_aload_n (q := 1) dX8_count_0 rfl rfl rfl ?_
  exact a_xVA _ dX8_count_1 kX8_223 (x_reqC h) rfl rfl rfl (Nat.le_of_ble_eq_true rfl) ⟨(Nat.le_of_ble_eq_true rfl), (Nat.le_of_ble_eq_true rfl)⟩ ⟨(Nat.le_of_ble_eq_true rfl), (Nat.le_of_ble_eq_true rfl)⟩ (ax_out rfl (Nat.le_of_ble_eq_true rfl) (Nat.le_of_ble_eq_true rfl) ⟨rfl, rfl, rfl, rfl⟩)
theorem x_count2 (x : Int32) (h : cbl an (K.2.2.2 0) = true) (hp : ptk x (K.2.2.2 0) = false) : Ct g mX8_count [.ref (g.1 + 0), .int x] 0 (CA g G T R S K E Q V an) B 1 6 noP (tX xIB (CA g G T R S K E Q V an) B) := by
  refine Ct.of [some (.ref (g.1 + 0)), some (.int x)] (by decide) rfl (Nat.le_of_ble_eq_true rfl) rfl ?_
  refine a_aload_n (q := 1) dX8_count_0 rfl rfl rfl ?_
  refine a_cVA0 (q := 4) _ dX8_count_1 kX8_223 (c_reqC h) rfl rfl rfl (Nat.le_of_ble_eq_true rfl) ⟨(Nat.le_of_ble_eq_true rfl), (Nat.le_of_ble_eq_true rfl)⟩ ⟨(Nat.le_of_ble_eq_true rfl), (Nat.le_of_ble_eq_true rfl)⟩ rfl ?_
  refine a_aload_n (q := 5) dX8_count_4 rfl rfl rfl ?_
  refine a_iload_n (q := 6) dX8_count_5 rfl rfl rfl ?_
  exact a_xVA _ dX8_count_6 kX8_199 (x_reqP _ hp) rfl rfl rfl (Nat.le_of_ble_eq_true rfl) ⟨(Nat.le_of_ble_eq_true rfl), (Nat.le_of_ble_eq_true rfl)⟩ ⟨(Nat.le_of_ble_eq_true rfl), (Nat.le_of_ble_eq_true rfl)⟩ (ax_out rfl (Nat.le_of_ble_eq_true rfl) (Nat.le_of_ble_eq_true rfl) ⟨rfl, rfl, rfl, rfl⟩)
theorem c_share (k : Nat) (h : cbl an (K.2.2.2 0) = true) (hp : ptk (nI k) (K.2.2.2 0) = true) (hk : k < 200) (ht : V.2.2.2 < big) (hd : V.2.2.2 ≠ 0 → vf_n64 (FP.ddiv (FP.i2d (nI (V.2.2.1 k))) (FP.i2d (nI V.2.2.2)))) : Ct g mX8_share [.ref (g.1 + 0), .int (nI k)] 0 (CA g G T R S K E Q V an) B 0 0 (rP (some (.double (if V.2.2.2 = 0 then FP.dconst0 else FP.ddiv (FP.i2d (nI (V.2.2.1 k))) (FP.i2d (nI V.2.2.2))))) (CA g G T R S K E Q V an) B) noX := by
  unfold big at ht
  refine Ct.of [some (.ref (g.1 + 0)), some (.int (nI k))] (by decide) rfl (Nat.le_of_ble_eq_true rfl) rfl ?_
  refine a_aload_n (q := 1) dX8_share_0 rfl rfl rfl ?_
  refine a_cVA0 (q := 4) _ dX8_share_1 kX8_223 (c_reqC h) rfl rfl rfl (Nat.le_of_ble_eq_true rfl) ⟨(Nat.le_of_ble_eq_true rfl), (Nat.le_of_ble_eq_true rfl)⟩ ⟨(Nat.le_of_ble_eq_true rfl), (Nat.le_of_ble_eq_true rfl)⟩ rfl ?_
  refine a_aload_n (q := 5) dX8_share_4 rfl rfl rfl ?_
  refine a_iload_n (q := 6) dX8_share_5 rfl rfl rfl ?_
  refine a_cVA0 (q := 9) _ dX8_share_6 kX8_199 (c_reqP _ hp) rfl rfl rfl (Nat.le_of_ble_eq_true rfl) ⟨(Nat.le_of_ble_eq_true rfl), (Nat.le_of_ble_eq_true rfl)⟩ ⟨(Nat.le_of_ble_eq_true rfl), (Nat.le_of_ble_eq_true rfl)⟩ rfl ?_
  refine a_aload_n (q := 10) dX8_share_9 rfl rfl rfl ?_
  refine a_getA (q := 13) dX8_share_10 fX8_67 rfl rfl rfl ?_
  refine a_getA (q := 16) dX8_share_13 fX8_251 rfl rfl rfl ?_
  refine a_if_neN (q := 19) 21 dX8_share_16 (by decide) (by omega) rfl (fun c16 => ?_) (fun c16 => ?_)
  · skip
    refine a_aload_n (q := 22) dX8_share_21 rfl rfl rfl ?_
    refine a_getA (q := 25) dX8_share_22 fX8_67 rfl rfl rfl ?_
    refine a_getA (q := 28) dX8_share_25 fX8_248 rfl rfl rfl ?_
    refine a_iload_n (q := 29) dX8_share_28 rfl rfl rfl ?_
    refine a_ialdAN (q := 30) dX8_share_29 rfl (by omega) (by decide) rfl ?_
    refine a_i2d (q := 31) dX8_share_30 rfl ?_
    refine a_aload_n (q := 32) dX8_share_31 rfl rfl rfl ?_
    refine a_getA (q := 35) dX8_share_32 fX8_67 rfl rfl rfl ?_
    refine a_getA (q := 38) dX8_share_35 fX8_251 rfl rfl rfl ?_
    refine a_i2d (q := 39) dX8_share_38 rfl ?_
    refine a_ddiv (q := 40) dX8_share_39 (hd (by omega)) rfl ?_
    exact a_dret dX8_share_40 rfl (Nat.le_of_ble_eq_true rfl) (Nat.le_of_ble_eq_true rfl) (⟨by rw [if_neg (by omega)], rfl, rfl, rfl⟩)
  · skip
    refine a_dconst0 (q := 20) dX8_share_19 rfl ?_
    exact a_dret dX8_share_20 rfl (Nat.le_of_ble_eq_true rfl) (Nat.le_of_ble_eq_true rfl) (⟨by rw [if_pos c16], rfl, rfl, rfl⟩)
theorem x_share1 (x : Int32) (h : cbl an (K.2.2.2 0) = false) : Ct g mX8_share [.ref (g.1 + 0), .int x] 0 (CA g G T R S K E Q V an) B 1 6 noP (tX xIS (CA g G T R S K E Q V an) B) := by
  refine Ct.of [some (.ref (g.1 + 0)), some (.int x)] (by decide) rfl (Nat.le_of_ble_eq_true rfl) rfl ?_
  refine a_aload_n (q := 1) dX8_share_0 rfl rfl rfl ?_
  exact a_xVA _ dX8_share_1 kX8_223 (x_reqC h) rfl rfl rfl (Nat.le_of_ble_eq_true rfl) ⟨(Nat.le_of_ble_eq_true rfl), (Nat.le_of_ble_eq_true rfl)⟩ ⟨(Nat.le_of_ble_eq_true rfl), (Nat.le_of_ble_eq_true rfl)⟩ (ax_out rfl (Nat.le_of_ble_eq_true rfl) (Nat.le_of_ble_eq_true rfl) ⟨rfl, rfl, rfl, rfl⟩)
theorem x_share2 (x : Int32) (h : cbl an (K.2.2.2 0) = true) (hp : ptk x (K.2.2.2 0) = false) : Ct g mX8_share [.ref (g.1 + 0), .int x] 0 (CA g G T R S K E Q V an) B 1 6 noP (tX xIB (CA g G T R S K E Q V an) B) := by
  refine Ct.of [some (.ref (g.1 + 0)), some (.int x)] (by decide) rfl (Nat.le_of_ble_eq_true rfl) rfl ?_
  refine a_aload_n (q := 1) dX8_share_0 rfl rfl rfl ?_
  refine a_cVA0 (q := 4) _ dX8_share_1 kX8_223 (c_reqC h) rfl rfl rfl (Nat.le_of_ble_eq_true rfl) ⟨(Nat.le_of_ble_eq_true rfl), (Nat.le_of_ble_eq_true rfl)⟩ ⟨(Nat.le_of_ble_eq_true rfl), (Nat.le_of_ble_eq_true rfl)⟩ rfl ?_
  refine a_aload_n (q := 5) dX8_share_4 rfl rfl rfl ?_
  refine a_iload_n (q := 6) dX8_share_5 rfl rfl rfl ?_
  exact a_xVA _ dX8_share_6 kX8_199 (x_reqP _ hp) rfl rfl rfl (Nat.le_of_ble_eq_true rfl) ⟨(Nat.le_of_ble_eq_true rfl), (Nat.le_of_ble_eq_true rfl)⟩ ⟨(Nat.le_of_ble_eq_true rfl), (Nat.le_of_ble_eq_true rfl)⟩ (ax_out rfl (Nat.le_of_ble_eq_true rfl) (Nat.le_of_ble_eq_true rfl) ⟨rfl, rfl, rfl, rfl⟩)
theorem c_hottest (hf : ∀ i, i < 200 → V.2.2.1 i < big) : Ct g mX8_hottest [.ref (g.1 + 0)] 0 (CA g G T R S K E Q V an) B 0 0 (rP (some (.int (mcF V.2.2.1 200 0 (-1) 0))) (CA g G T R S K E Q V an) B) noX := by
  refine Ct.of [some (.ref (g.1 + 0))] (by decide) rfl (Nat.le_of_ble_eq_true rfl) rfl ?_
  refine a_aload_n (q := 1) dX8_hottest_0 rfl rfl rfl ?_
  refine a_getA (q := 4) dX8_hottest_1 fX8_67 rfl rfl rfl ?_
  refine a_cVAv (q := 7) _ dX8_hottest_4 kX8_254 (c_most hf) rfl rfl rfl (Nat.le_of_ble_eq_true rfl) ⟨(Nat.le_of_ble_eq_true rfl), (Nat.le_of_ble_eq_true rfl)⟩ ⟨(Nat.le_of_ble_eq_true rfl), (Nat.le_of_ble_eq_true rfl)⟩ rfl ?_
  exact a_iret dX8_hottest_7 rfl rfl (Nat.le_of_ble_eq_true rfl) (Nat.le_of_ble_eq_true rfl) (⟨rfl, rfl, rfl, rfl⟩)
theorem l_ef (P : ps_T) (hg : gok G) (k l np : Nat) (hl : l < 72) (hnp : np ≤ 200) (h0 : pt 0 = nI np) (hf : ∀ i, i < 200 → V.2.2.1 i < big) : ∀ (m p s : Nat) (Q : Pa), np - p = m → p ≤ np → P (some (.int (nI (efF G (kT G S vl pt) V.2.2.1 l m p s Q).1))) 0 (CA g G T R S (kT G S vl pt) E (efF G (kT G S vl pt) V.2.2.1 l m p s Q).2 V an) B → AW g mX8_edgeFrequency 0 0 P noX 0 0 24 [some (.ref (g.1 + 0)), some (.int (nI k)), some (.int (nI l)), some (.int (nI s)), some (.int (nI p))] [] 0 (CA g G T R S (kT G S vl pt) E Q V an) B := by
  intro m
  unfold big at hf
  induction m with
  | zero =>
    intro p s Q hm hp hP
    refine a_iload (q := 26) dX8_edgeFrequency_24 rfl rfl ?_
    refine a_aload_n (q := 27) dX8_edgeFrequency_26 rfl rfl rfl ?_
    refine a_getA (q := 30) dX8_edgeFrequency_27 fX8_44 rfl rfl rfl ?_
    refine a_cVAv (q := 33) _ dX8_edgeFrequency_30 kX8_160 (c_allPaths) rfl rfl rfl (Nat.le_of_ble_eq_true rfl) ⟨(Nat.le_of_ble_eq_true rfl), (Nat.le_of_ble_eq_true rfl)⟩ ⟨(Nat.le_of_ble_eq_true rfl), (Nat.le_of_ble_eq_true rfl)⟩ rfl ?_
    show AW _ _ _ _ _ _ _ _ _ _ (.int (pt 0) :: .int (nI p) :: []) _ _ _
    rw [h0]
    refine a_icmp_ge (q := 36) 100 dX8_edgeFrequency_33 (by decide) rfl (fun c33 => ?_) (fun c33 => ?_)
    · skip
      refine a_iload_n (q := 101) dX8_edgeFrequency_100 rfl rfl rfl ?_
      exact a_iret dX8_edgeFrequency_101 rfl rfl (Nat.le_of_ble_eq_true rfl) (Nat.le_of_ble_eq_true rfl) (hP)
    · exact absurd (nI_le (show np ≤ p by omega) (by omega)) c33
  | succ m ih =>
    intro p s Q hm hp hP
    have h9 := hf p (by omega)
    unfold efF at hP
    refine a_iload (q := 26) dX8_edgeFrequency_24 rfl rfl ?_
    refine a_aload_n (q := 27) dX8_edgeFrequency_26 rfl rfl rfl ?_
    refine a_getA (q := 30) dX8_edgeFrequency_27 fX8_44 rfl rfl rfl ?_
    refine a_cVAv (q := 33) _ dX8_edgeFrequency_30 kX8_160 (c_allPaths) rfl rfl rfl (Nat.le_of_ble_eq_true rfl) ⟨(Nat.le_of_ble_eq_true rfl), (Nat.le_of_ble_eq_true rfl)⟩ ⟨(Nat.le_of_ble_eq_true rfl), (Nat.le_of_ble_eq_true rfl)⟩ rfl ?_
    show AW _ _ _ _ _ _ _ _ _ _ (.int (pt 0) :: .int (nI p) :: []) _ _ _
    rw [h0]
    refine a_icmp_ge (q := 36) 100 dX8_edgeFrequency_33 (by decide) rfl (fun c33 => ?_) (fun c33 => ?_)
    · exact absurd c33 (nI_ge (by omega) (by omega))
    · skip
      refine a_iload (q := 38) dX8_edgeFrequency_36 rfl rfl ?_
      refine a_sipush (q := 41) (nI 200) dX8_edgeFrequency_38 (by decide) rfl ?_
      refine a_icmp_geN (q := 44) 100 dX8_edgeFrequency_41 (by decide) (by omega) (by omega) rfl (fun c41 => ?_) (fun c41 => ?_)
      · omega
      · skip
        refine a_aload_n (q := 45) dX8_edgeFrequency_44 rfl rfl rfl ?_
        refine a_getA (q := 48) dX8_edgeFrequency_45 fX8_67 rfl rfl rfl ?_
        refine a_getA (q := 51) dX8_edgeFrequency_48 fX8_248 rfl rfl rfl ?_
        refine a_iload (q := 53) dX8_edgeFrequency_51 rfl rfl ?_
        refine a_ialdAN (q := 54) dX8_edgeFrequency_53 rfl (by omega) (by decide) rfl ?_
        refine a_if_eqN (q := 57) 94 dX8_edgeFrequency_54 (by decide) (by omega) rfl (fun c54 => ?_) (fun c54 => ?_)
        · rw [if_pos c54] at hP
          refine a_iincN (q := 97) (c := 1) dX8_edgeFrequency_94 rfl (by decide) rfl rfl ?_
          refine a_goto 24 dX8_edgeFrequency_97 (by decide) ?_
          exact ih (p + 1) _ _ (by omega) (by omega) hP
        · rw [if_neg (by omega)] at hP
          refine a_aload_n (q := 58) dX8_edgeFrequency_57 rfl rfl rfl ?_
          refine a_getA (q := 61) dX8_edgeFrequency_58 fX8_60 rfl rfl rfl ?_
          refine a_iload (q := 63) dX8_edgeFrequency_61 rfl rfl ?_
          refine a_cVA0 (q := 66) _ dX8_edgeFrequency_63 kX8_202 (c_trace hg vl pt (nI p)) rfl rfl rfl (Nat.le_of_ble_eq_true rfl) ⟨(Nat.le_of_ble_eq_true rfl), (Nat.le_of_ble_eq_true rfl)⟩ ⟨(Nat.le_of_ble_eq_true rfl), (Nat.le_of_ble_eq_true rfl)⟩ rfl ?_
          refine a_iload_n (q := 67) dX8_edgeFrequency_66 rfl rfl rfl ?_
          refine a_aload_n (q := 68) dX8_edgeFrequency_67 rfl rfl rfl ?_
          refine a_getA (q := 71) dX8_edgeFrequency_68 fX8_60 rfl rfl rfl ?_
          refine a_iload_n (q := 72) dX8_edgeFrequency_71 rfl rfl rfl ?_
          refine a_cVAv (q := 75) _ dX8_edgeFrequency_72 kX8_257 (c_contains l hl trc_ok.1 trc_ok.2) rfl rfl rfl (Nat.le_of_ble_eq_true rfl) ⟨(Nat.le_of_ble_eq_true rfl), (Nat.le_of_ble_eq_true rfl)⟩ ⟨(Nat.le_of_ble_eq_true rfl), (Nat.le_of_ble_eq_true rfl)⟩ rfl ?_
          refine a_if_eqZ (q := 78) 91 dX8_edgeFrequency_75 (by decide) rfl (fun c75 => ?_) (fun c75 => ?_)
          · rw [if_neg (by rw [c75]; decide)] at hP
            refine a_iconst (q := 92) (nI 0) dX8_edgeFrequency_91 (by decide) rfl ?_
            refine a_iaddN (q := 93) dX8_edgeFrequency_92 rfl ?_
            refine a_istore_n (q := 94) dX8_edgeFrequency_93 rfl (Nat.le_of_ble_eq_true rfl) rfl rfl ?_
            refine a_iincN (q := 97) (c := 1) dX8_edgeFrequency_94 rfl (by decide) rfl rfl ?_
            refine a_goto 24 dX8_edgeFrequency_97 (by decide) ?_
            exact ih (p + 1) _ _ (by omega) (by omega) hP
          · rw [if_pos c75] at hP
            refine a_aload_n (q := 79) dX8_edgeFrequency_78 rfl rfl rfl ?_
            refine a_getA (q := 82) dX8_edgeFrequency_79 fX8_67 rfl rfl rfl ?_
            refine a_getA (q := 85) dX8_edgeFrequency_82 fX8_248 rfl rfl rfl ?_
            refine a_iload (q := 87) dX8_edgeFrequency_85 rfl rfl ?_
            refine a_ialdAN (q := 88) dX8_edgeFrequency_87 rfl (by omega) (by decide) rfl ?_
            refine a_goto 92 dX8_edgeFrequency_88 (by decide) ?_
            refine a_iaddN (q := 93) dX8_edgeFrequency_92 rfl ?_
            refine a_istore_n (q := 94) dX8_edgeFrequency_93 rfl (Nat.le_of_ble_eq_true rfl) rfl rfl ?_
            refine a_iincN (q := 97) (c := 1) dX8_edgeFrequency_94 rfl (by decide) rfl rfl ?_
            refine a_goto 24 dX8_edgeFrequency_97 (by decide) ?_
            exact ih (p + 1) _ _ (by omega) (by omega) hP
theorem c_ef (k np : Nat) (hg : gok G) (h : cbl an (pt 0) = true) (hk : k < G.2.1) (hnp : np ≤ 200) (h0 : pt 0 = nI np) (hf : ∀ i, i < 200 → V.2.2.1 i < big) : Ct g mX8_edgeFrequency [.ref (g.1 + 0), .int (nI k)] 0 (CA g G T R S (kT G S vl pt) E Q V an) B 0 0 (rP (some (.int (nI (efF G (kT G S vl pt) V.2.2.1 (lko S.1 k true) np 0 0 Q).1))) (CA g G T R S (kT G S vl pt) E (efF G (kT G S vl pt) V.2.2.1 (lko S.1 k true) np 0 0 Q).2 V an) B) noX := by
  have h3 := hg.2.2.1
  have hl1 := lko_lt (bk := S.1) (b := true) (show k < 24 by omega)
  refine Ct.of [some (.ref (g.1 + 0)), some (.int (nI k)), none, none, none] (by decide) rfl (Nat.le_of_ble_eq_true rfl) rfl ?_
  refine a_aload_n (q := 1) dX8_edgeFrequency_0 rfl rfl rfl ?_
  refine a_cVA0 (q := 4) _ dX8_edgeFrequency_1 kX8_223 (c_reqC h) rfl rfl rfl (Nat.le_of_ble_eq_true rfl) ⟨(Nat.le_of_ble_eq_true rfl), (Nat.le_of_ble_eq_true rfl)⟩ ⟨(Nat.le_of_ble_eq_true rfl), (Nat.le_of_ble_eq_true rfl)⟩ rfl ?_
  refine a_aload_n (q := 5) dX8_edgeFrequency_4 rfl rfl rfl ?_
  refine a_iload_n (q := 6) dX8_edgeFrequency_5 rfl rfl rfl ?_
  refine a_cVA0 (q := 9) _ dX8_edgeFrequency_6 kX8_108 (c_reqE _ (inE h3 hk)) rfl rfl rfl (Nat.le_of_ble_eq_true rfl) ⟨(Nat.le_of_ble_eq_true rfl), (Nat.le_of_ble_eq_true rfl)⟩ ⟨(Nat.le_of_ble_eq_true rfl), (Nat.le_of_ble_eq_true rfl)⟩ rfl ?_
  refine a_aload_n (q := 10) dX8_edgeFrequency_9 rfl rfl rfl ?_
  refine a_getA (q := 13) dX8_edgeFrequency_10 fX8_44 rfl rfl rfl ?_
  refine a_iload_n (q := 14) dX8_edgeFrequency_13 rfl rfl rfl ?_
  refine a_iconst (q := 15) (b2 true) dX8_edgeFrequency_14 (by decide) rfl ?_
  refine a_cVAv (q := 18) _ dX8_edgeFrequency_15 kX8_186 (c_linkOf k true (by omega)) rfl rfl rfl (Nat.le_of_ble_eq_true rfl) ⟨(Nat.le_of_ble_eq_true rfl), (Nat.le_of_ble_eq_true rfl)⟩ ⟨(Nat.le_of_ble_eq_true rfl), (Nat.le_of_ble_eq_true rfl)⟩ rfl ?_
  refine a_istore_n (q := 19) dX8_edgeFrequency_18 rfl (Nat.le_of_ble_eq_true rfl) rfl rfl ?_
  refine a_iconst (q := 20) (nI 0) dX8_edgeFrequency_19 (by decide) rfl ?_
  refine a_istore_n (q := 21) dX8_edgeFrequency_20 rfl (Nat.le_of_ble_eq_true rfl) rfl rfl ?_
  refine a_iconst (q := 22) (nI 0) dX8_edgeFrequency_21 (by decide) rfl ?_
  refine a_istore (q := 24) dX8_edgeFrequency_22 (Nat.le_of_ble_eq_true rfl) rfl rfl ?_
  exact l_ef _ hg k _ np hl1 hnp h0 hf _ 0 0 Q rfl (Nat.zero_le _) ⟨rfl, rfl, rfl, rfl⟩
theorem x_ef1 (x : Int32) (h : cbl an (K.2.2.2 0) = false) : Ct g mX8_edgeFrequency [.ref (g.1 + 0), .int x] 0 (CA g G T R S K E Q V an) B 1 6 noP (tX xIS (CA g G T R S K E Q V an) B) := by
  refine Ct.of [some (.ref (g.1 + 0)), some (.int x), none, none, none] (by decide) rfl (Nat.le_of_ble_eq_true rfl) rfl ?_
  refine a_aload_n (q := 1) dX8_edgeFrequency_0 rfl rfl rfl ?_
  exact a_xVA _ dX8_edgeFrequency_1 kX8_223 (x_reqC h) rfl rfl rfl (Nat.le_of_ble_eq_true rfl) ⟨(Nat.le_of_ble_eq_true rfl), (Nat.le_of_ble_eq_true rfl)⟩ ⟨(Nat.le_of_ble_eq_true rfl), (Nat.le_of_ble_eq_true rfl)⟩ (ax_out rfl (Nat.le_of_ble_eq_true rfl) (Nat.le_of_ble_eq_true rfl) ⟨rfl, rfl, rfl, rfl⟩)
theorem x_ef2 (x : Int32) (h : cbl an (K.2.2.2 0) = true) (hi : inR x G.2.1 = false) : Ct g mX8_edgeFrequency [.ref (g.1 + 0), .int x] 0 (CA g G T R S K E Q V an) B 1 6 noP (tX xIB (CA g G T R S K E Q V an) B) := by
  refine Ct.of [some (.ref (g.1 + 0)), some (.int x), none, none, none] (by decide) rfl (Nat.le_of_ble_eq_true rfl) rfl ?_
  refine a_aload_n (q := 1) dX8_edgeFrequency_0 rfl rfl rfl ?_
  refine a_cVA0 (q := 4) _ dX8_edgeFrequency_1 kX8_223 (c_reqC h) rfl rfl rfl (Nat.le_of_ble_eq_true rfl) ⟨(Nat.le_of_ble_eq_true rfl), (Nat.le_of_ble_eq_true rfl)⟩ ⟨(Nat.le_of_ble_eq_true rfl), (Nat.le_of_ble_eq_true rfl)⟩ rfl ?_
  refine a_aload_n (q := 5) dX8_edgeFrequency_4 rfl rfl rfl ?_
  refine a_iload_n (q := 6) dX8_edgeFrequency_5 rfl rfl rfl ?_
  exact a_xVA _ dX8_edgeFrequency_6 kX8_108 (x_reqE x hi) rfl rfl rfl (Nat.le_of_ble_eq_true rfl) ⟨(Nat.le_of_ble_eq_true rfl), (Nat.le_of_ble_eq_true rfl)⟩ ⟨(Nat.le_of_ble_eq_true rfl), (Nat.le_of_ble_eq_true rfl)⟩ (ax_out rfl (Nat.le_of_ble_eq_true rfl) (Nat.le_of_ble_eq_true rfl) ⟨rfl, rfl, rfl, rfl⟩)
end Walk8
section Digest8
variable {g : gp_T} {A B : List va_E} {G : Gr} {T : Tx} {R : Rd} {S : Se} {vl pt : Nat → Int32} {K : Lk} {E : Tr} {Q : Pa} {V : Wk} {an : Bool}
theorem c_mix (h : Int64) (x : Int32) : Ct g mX8_mix [.long h, .int x] 0 A B 0 0 (rP (some (.long (mx h x))) A B) noX := by
  refine Ct.of [some (.long h), none, some (.int x)] (by decide) rfl (Nat.le_of_ble_eq_true rfl) rfl ?_
  refine a_ldc2 (q := 3) _ dX8_mix_0 jX8_302 rfl ?_
  refine a_lload_n (q := 4) dX8_mix_3 rfl rfl rfl ?_
  refine a_lmul (q := 5) dX8_mix_4 rfl ?_
  refine a_iload_n (q := 6) dX8_mix_5 rfl rfl rfl ?_
  refine a_i2l (q := 7) dX8_mix_6 rfl ?_
  refine a_ladd (q := 8) dX8_mix_7 rfl ?_
  exact a_lret dX8_mix_8 rfl (Nat.le_of_ble_eq_true rfl) (Nat.le_of_ble_eq_true rfl) (⟨rfl, rfl, rfl, rfl⟩)
theorem l_mixGraph (P : ps_T) (he : G.2.1 ≤ 24) (h0 : Int64) : ∀ (m k : Nat) (h : Int64), G.2.1 - k = m → k ≤ G.2.1 → P (some (.long (mgF G m k h))) 0 (CA g G T R S K E Q V an) B → AW g mX8_mixGraph 0 0 P noX 0 0 27 [some (.ref (g.1 + 0)), some (.long h0), none, some (.long h), none, some (.int (nI k))] [] 0 (CA g G T R S K E Q V an) B := by
  intro m
  induction m with
  | zero =>
    intro k h hm hk hp
    refine a_iload (q := 29) dX8_mixGraph_27 rfl rfl ?_
    refine a_aload_n (q := 30) dX8_mixGraph_29 rfl rfl rfl ?_
    refine a_getA (q := 33) dX8_mixGraph_30 fX8_12 rfl rfl rfl ?_
    refine a_getA (q := 36) dX8_mixGraph_33 fX8_117 rfl rfl rfl ?_
    refine a_icmp_geN (q := 39) 90 dX8_mixGraph_36 (by decide) (by omega) (by omega) rfl (fun c36 => ?_) (fun c36 => ?_)
    · skip
      refine a_lload_n (q := 91) dX8_mixGraph_90 rfl rfl rfl ?_
      exact a_lret dX8_mixGraph_91 rfl (Nat.le_of_ble_eq_true rfl) (Nat.le_of_ble_eq_true rfl) (hp)
    · omega
  | succ m ih =>
    intro k h hm hk hp
    refine a_iload (q := 29) dX8_mixGraph_27 rfl rfl ?_
    refine a_aload_n (q := 30) dX8_mixGraph_29 rfl rfl rfl ?_
    refine a_getA (q := 33) dX8_mixGraph_30 fX8_12 rfl rfl rfl ?_
    refine a_getA (q := 36) dX8_mixGraph_33 fX8_117 rfl rfl rfl ?_
    refine a_icmp_geN (q := 39) 90 dX8_mixGraph_36 (by decide) (by omega) (by omega) rfl (fun c36 => ?_) (fun c36 => ?_)
    · omega
    · skip
      refine a_lload_n (q := 40) dX8_mixGraph_39 rfl rfl rfl ?_
      refine a_aload_n (q := 41) dX8_mixGraph_40 rfl rfl rfl ?_
      refine a_getA (q := 44) dX8_mixGraph_41 fX8_12 rfl rfl rfl ?_
      refine a_getA (q := 47) dX8_mixGraph_44 fX8_307 rfl rfl rfl ?_
      refine a_iload (q := 49) dX8_mixGraph_47 rfl rfl ?_
      refine a_ialdAN (q := 50) dX8_mixGraph_49 rfl (by omega) (by decide) rfl ?_
      refine a_cSv (q := 53) _ dX8_mixGraph_50 kX8_266 (c_mix _ _) rfl rfl (Nat.le_of_ble_eq_true rfl) ⟨(Nat.le_of_ble_eq_true rfl), (Nat.le_of_ble_eq_true rfl)⟩ ⟨(Nat.le_of_ble_eq_true rfl), (Nat.le_of_ble_eq_true rfl)⟩ rfl ?_
      refine a_lstore_n (q := 54) dX8_mixGraph_53 rfl (Nat.le_of_ble_eq_true rfl) rfl rfl ?_
      refine a_lload_n (q := 55) dX8_mixGraph_54 rfl rfl rfl ?_
      refine a_aload_n (q := 56) dX8_mixGraph_55 rfl rfl rfl ?_
      refine a_getA (q := 59) dX8_mixGraph_56 fX8_12 rfl rfl rfl ?_
      refine a_getA (q := 62) dX8_mixGraph_59 fX8_296 rfl rfl rfl ?_
      refine a_iload (q := 64) dX8_mixGraph_62 rfl rfl ?_
      refine a_ialdAN (q := 65) dX8_mixGraph_64 rfl (by omega) (by decide) rfl ?_
      refine a_cSv (q := 68) _ dX8_mixGraph_65 kX8_266 (c_mix _ _) rfl rfl (Nat.le_of_ble_eq_true rfl) ⟨(Nat.le_of_ble_eq_true rfl), (Nat.le_of_ble_eq_true rfl)⟩ ⟨(Nat.le_of_ble_eq_true rfl), (Nat.le_of_ble_eq_true rfl)⟩ rfl ?_
      refine a_lstore_n (q := 69) dX8_mixGraph_68 rfl (Nat.le_of_ble_eq_true rfl) rfl rfl ?_
      refine a_lload_n (q := 70) dX8_mixGraph_69 rfl rfl rfl ?_
      refine a_aload_n (q := 71) dX8_mixGraph_70 rfl rfl rfl ?_
      refine a_getA (q := 74) dX8_mixGraph_71 fX8_12 rfl rfl rfl ?_
      refine a_getA (q := 77) dX8_mixGraph_74 fX8_113 rfl rfl rfl ?_
      refine a_iload (q := 79) dX8_mixGraph_77 rfl rfl ?_
      refine a_ialdAN (q := 80) dX8_mixGraph_79 rfl (by omega) (by decide) rfl ?_
      refine a_cSv (q := 83) _ dX8_mixGraph_80 kX8_266 (c_mix _ _) rfl rfl (Nat.le_of_ble_eq_true rfl) ⟨(Nat.le_of_ble_eq_true rfl), (Nat.le_of_ble_eq_true rfl)⟩ ⟨(Nat.le_of_ble_eq_true rfl), (Nat.le_of_ble_eq_true rfl)⟩ rfl ?_
      refine a_lstore_n (q := 84) dX8_mixGraph_83 rfl (Nat.le_of_ble_eq_true rfl) rfl rfl ?_
      refine a_iincN (q := 87) (c := 1) dX8_mixGraph_84 rfl (by decide) rfl rfl ?_
      refine a_goto 27 dX8_mixGraph_87 (by decide) ?_
      exact ih (k + 1) _ (by omega) (by omega) hp
theorem c_mixGraph (he : G.2.1 ≤ 24) (h : Int64) : Ct g mX8_mixGraph [.ref (g.1 + 0), .long h] 0 (CA g G T R S K E Q V an) B 0 0 (rP (some (.long (mg G h))) (CA g G T R S K E Q V an) B) noX := by
  refine Ct.of [some (.ref (g.1 + 0)), some (.long h), none, none, none, none] (by decide) rfl (Nat.le_of_ble_eq_true rfl) rfl ?_
  refine a_lload_n (q := 1) dX8_mixGraph_0 rfl rfl rfl ?_
  refine a_aload_n (q := 2) dX8_mixGraph_1 rfl rfl rfl ?_
  refine a_getA (q := 5) dX8_mixGraph_2 fX8_12 rfl rfl rfl ?_
  refine a_getA (q := 8) dX8_mixGraph_5 fX8_304 rfl rfl rfl ?_
  refine a_cSv (q := 11) _ dX8_mixGraph_8 kX8_266 (c_mix _ _) rfl rfl (Nat.le_of_ble_eq_true rfl) ⟨(Nat.le_of_ble_eq_true rfl), (Nat.le_of_ble_eq_true rfl)⟩ ⟨(Nat.le_of_ble_eq_true rfl), (Nat.le_of_ble_eq_true rfl)⟩ rfl ?_
  refine a_lstore_n (q := 12) dX8_mixGraph_11 rfl (Nat.le_of_ble_eq_true rfl) rfl rfl ?_
  refine a_lload_n (q := 13) dX8_mixGraph_12 rfl rfl rfl ?_
  refine a_aload_n (q := 14) dX8_mixGraph_13 rfl rfl rfl ?_
  refine a_getA (q := 17) dX8_mixGraph_14 fX8_12 rfl rfl rfl ?_
  refine a_getA (q := 20) dX8_mixGraph_17 fX8_117 rfl rfl rfl ?_
  refine a_cSv (q := 23) _ dX8_mixGraph_20 kX8_266 (c_mix _ _) rfl rfl (Nat.le_of_ble_eq_true rfl) ⟨(Nat.le_of_ble_eq_true rfl), (Nat.le_of_ble_eq_true rfl)⟩ ⟨(Nat.le_of_ble_eq_true rfl), (Nat.le_of_ble_eq_true rfl)⟩ rfl ?_
  refine a_lstore_n (q := 24) dX8_mixGraph_23 rfl (Nat.le_of_ble_eq_true rfl) rfl rfl ?_
  refine a_iconst (q := 25) (nI 0) dX8_mixGraph_24 (by decide) rfl ?_
  refine a_istore (q := 27) dX8_mixGraph_25 (Nat.le_of_ble_eq_true rfl) rfl rfl ?_
  exact l_mixGraph _ he h _ 0 _ rfl (Nat.zero_le _) ⟨rfl, rfl, rfl, rfl⟩
theorem c_mixLink (h : Int64) (l : Nat) (hl : l < 72) : Ct g mX8_mixLink [.ref (g.1 + 0), .long h, .int (nI l)] 0 (CA g G T R S K E Q V an) B 0 0 (rP (some (.long (mlk K.2.2.1 E.1 l h))) (CA g G T R S K E Q V an) B) noX := by
  refine Ct.of [some (.ref (g.1 + 0)), some (.long h), none, some (.int (nI l)), none, none] (by decide) rfl (Nat.le_of_ble_eq_true rfl) rfl ?_
  refine a_lload_n (q := 1) dX8_mixLink_0 rfl rfl rfl ?_
  refine a_aload_n (q := 2) dX8_mixLink_1 rfl rfl rfl ?_
  refine a_getA (q := 5) dX8_mixLink_2 fX8_44 rfl rfl rfl ?_
  refine a_getA (q := 8) dX8_mixLink_5 fX8_183 rfl rfl rfl ?_
  refine a_iload_n (q := 9) dX8_mixLink_8 rfl rfl rfl ?_
  refine a_ialdAI (q := 10) dX8_mixLink_9 rfl (by omega) (by decide) rfl ?_
  refine a_cSv (q := 13) _ dX8_mixLink_10 kX8_266 (c_mix _ _) rfl rfl (Nat.le_of_ble_eq_true rfl) ⟨(Nat.le_of_ble_eq_true rfl), (Nat.le_of_ble_eq_true rfl)⟩ ⟨(Nat.le_of_ble_eq_true rfl), (Nat.le_of_ble_eq_true rfl)⟩ rfl ?_
  refine a_lstore (q := 15) dX8_mixLink_13 (Nat.le_of_ble_eq_true rfl) rfl rfl ?_
  refine a_lload (q := 17) dX8_mixLink_15 rfl rfl ?_
  refine a_aload_n (q := 18) dX8_mixLink_17 rfl rfl rfl ?_
  refine a_getA (q := 21) dX8_mixLink_18 fX8_53 rfl rfl rfl ?_
  refine a_getA (q := 24) dX8_mixLink_21 fX8_190 rfl rfl rfl ?_
  refine a_iload_n (q := 25) dX8_mixLink_24 rfl rfl rfl ?_
  refine a_ialdAI (q := 26) dX8_mixLink_25 rfl (by omega) (by decide) rfl ?_
  refine a_cSv (q := 29) _ dX8_mixLink_26 kX8_266 (c_mix _ _) rfl rfl (Nat.le_of_ble_eq_true rfl) ⟨(Nat.le_of_ble_eq_true rfl), (Nat.le_of_ble_eq_true rfl)⟩ ⟨(Nat.le_of_ble_eq_true rfl), (Nat.le_of_ble_eq_true rfl)⟩ rfl ?_
  exact a_lret dX8_mixLink_29 rfl (Nat.le_of_ble_eq_true rfl) (Nat.le_of_ble_eq_true rfl) (⟨rfl, rfl, rfl, rfl⟩)
theorem l_mixA2 (P : ps_T) (he : G.2.1 ≤ 24) (h0 : Int64) : ∀ (m k : Nat) (h : Int64), G.2.1 - k = m → k ≤ G.2.1 → P (some (.long (mx (mx (meF S.1 K.2.2.1 E.1 m k h) (nI E.2.1)) (nI E.2.2.1)))) 0 (CA g G T R S K E Q V an) B → AW g mX8_mixAnalysis 0 0 P noX 0 0 41 [some (.ref (g.1 + 0)), some (.long h0), none, some (.long h), none, some (.int (nI k))] [] 0 (CA g G T R S K E Q V an) B := by
  intro m
  induction m with
  | zero =>
    intro k h hm hk hp
    refine a_iload (q := 43) dX8_mixAnalysis_41 rfl rfl ?_
    refine a_aload_n (q := 44) dX8_mixAnalysis_43 rfl rfl rfl ?_
    refine a_getA (q := 47) dX8_mixAnalysis_44 fX8_12 rfl rfl rfl ?_
    refine a_getA (q := 50) dX8_mixAnalysis_47 fX8_117 rfl rfl rfl ?_
    refine a_icmp_geN (q := 53) 114 dX8_mixAnalysis_50 (by decide) (by omega) (by omega) rfl (fun c50 => ?_) (fun c50 => ?_)
    · skip
      refine a_lload_n (q := 115) dX8_mixAnalysis_114 rfl rfl rfl ?_
      refine a_aload_n (q := 116) dX8_mixAnalysis_115 rfl rfl rfl ?_
      refine a_getA (q := 119) dX8_mixAnalysis_116 fX8_53 rfl rfl rfl ?_
      refine a_getA (q := 122) dX8_mixAnalysis_119 fX8_196 rfl rfl rfl ?_
      refine a_cSv (q := 125) _ dX8_mixAnalysis_122 kX8_266 (c_mix _ _) rfl rfl (Nat.le_of_ble_eq_true rfl) ⟨(Nat.le_of_ble_eq_true rfl), (Nat.le_of_ble_eq_true rfl)⟩ ⟨(Nat.le_of_ble_eq_true rfl), (Nat.le_of_ble_eq_true rfl)⟩ rfl ?_
      refine a_lstore_n (q := 126) dX8_mixAnalysis_125 rfl (Nat.le_of_ble_eq_true rfl) rfl rfl ?_
      refine a_lload_n (q := 127) dX8_mixAnalysis_126 rfl rfl rfl ?_
      refine a_aload_n (q := 128) dX8_mixAnalysis_127 rfl rfl rfl ?_
      refine a_getA (q := 131) dX8_mixAnalysis_128 fX8_53 rfl rfl rfl ?_
      refine a_getA (q := 134) dX8_mixAnalysis_131 fX8_193 rfl rfl rfl ?_
      refine a_cSv (q := 137) _ dX8_mixAnalysis_134 kX8_266 (c_mix _ _) rfl rfl (Nat.le_of_ble_eq_true rfl) ⟨(Nat.le_of_ble_eq_true rfl), (Nat.le_of_ble_eq_true rfl)⟩ ⟨(Nat.le_of_ble_eq_true rfl), (Nat.le_of_ble_eq_true rfl)⟩ rfl ?_
      exact a_lret dX8_mixAnalysis_137 rfl (Nat.le_of_ble_eq_true rfl) (Nat.le_of_ble_eq_true rfl) (hp)
    · omega
  | succ m ih =>
    intro k h hm hk hp
    unfold meF at hp
    refine a_iload (q := 43) dX8_mixAnalysis_41 rfl rfl ?_
    refine a_aload_n (q := 44) dX8_mixAnalysis_43 rfl rfl rfl ?_
    refine a_getA (q := 47) dX8_mixAnalysis_44 fX8_12 rfl rfl rfl ?_
    refine a_getA (q := 50) dX8_mixAnalysis_47 fX8_117 rfl rfl rfl ?_
    refine a_icmp_geN (q := 53) 114 dX8_mixAnalysis_50 (by decide) (by omega) (by omega) rfl (fun c50 => ?_) (fun c50 => ?_)
    · omega
    · skip
      refine a_lload_n (q := 54) dX8_mixAnalysis_53 rfl rfl rfl ?_
      refine a_aload_n (q := 55) dX8_mixAnalysis_54 rfl rfl rfl ?_
      refine a_getA (q := 58) dX8_mixAnalysis_55 fX8_35 rfl rfl rfl ?_
      refine a_getA (q := 61) dX8_mixAnalysis_58 fX8_179 rfl rfl rfl ?_
      refine a_iload (q := 63) dX8_mixAnalysis_61 rfl rfl ?_
      refine a_zaldAN (q := 64) dX8_mixAnalysis_63 rfl (by omega) (by decide) rfl ?_
      refine a_if_eqZ (q := 67) 71 dX8_mixAnalysis_64 (by decide) rfl (fun c64 => ?_) (fun c64 => ?_)
      · rw [c64] at hp
        refine a_iconst (q := 72) (b2 false) dX8_mixAnalysis_71 (by decide) rfl ?_
        refine a_cSv (q := 75) _ dX8_mixAnalysis_72 kX8_266 (c_mix _ _) rfl rfl (Nat.le_of_ble_eq_true rfl) ⟨(Nat.le_of_ble_eq_true rfl), (Nat.le_of_ble_eq_true rfl)⟩ ⟨(Nat.le_of_ble_eq_true rfl), (Nat.le_of_ble_eq_true rfl)⟩ rfl ?_
        refine a_lstore_n (q := 76) dX8_mixAnalysis_75 rfl (Nat.le_of_ble_eq_true rfl) rfl rfl ?_
        refine a_aload_n (q := 77) dX8_mixAnalysis_76 rfl rfl rfl ?_
        refine a_lload_n (q := 78) dX8_mixAnalysis_77 rfl rfl rfl ?_
        refine a_aload_n (q := 79) dX8_mixAnalysis_78 rfl rfl rfl ?_
        refine a_getA (q := 82) dX8_mixAnalysis_79 fX8_44 rfl rfl rfl ?_
        refine a_iload (q := 84) dX8_mixAnalysis_82 rfl rfl ?_
        refine a_iconst (q := 85) (b2 false) dX8_mixAnalysis_84 (by decide) rfl ?_
        refine a_cVAv (q := 88) _ dX8_mixAnalysis_85 kX8_186 (c_linkOf k false (by omega)) rfl rfl rfl (Nat.le_of_ble_eq_true rfl) ⟨(Nat.le_of_ble_eq_true rfl), (Nat.le_of_ble_eq_true rfl)⟩ ⟨(Nat.le_of_ble_eq_true rfl), (Nat.le_of_ble_eq_true rfl)⟩ rfl ?_
        refine a_cVAv (q := 91) _ dX8_mixAnalysis_88 kX8_310 (c_mixLink _ _ (lko_lt (by omega))) rfl rfl rfl (Nat.le_of_ble_eq_true rfl) ⟨(Nat.le_of_ble_eq_true rfl), (Nat.le_of_ble_eq_true rfl)⟩ ⟨(Nat.le_of_ble_eq_true rfl), (Nat.le_of_ble_eq_true rfl)⟩ rfl ?_
        refine a_lstore_n (q := 92) dX8_mixAnalysis_91 rfl (Nat.le_of_ble_eq_true rfl) rfl rfl ?_
        refine a_aload_n (q := 93) dX8_mixAnalysis_92 rfl rfl rfl ?_
        refine a_lload_n (q := 94) dX8_mixAnalysis_93 rfl rfl rfl ?_
        refine a_aload_n (q := 95) dX8_mixAnalysis_94 rfl rfl rfl ?_
        refine a_getA (q := 98) dX8_mixAnalysis_95 fX8_44 rfl rfl rfl ?_
        refine a_iload (q := 100) dX8_mixAnalysis_98 rfl rfl ?_
        refine a_iconst (q := 101) (b2 true) dX8_mixAnalysis_100 (by decide) rfl ?_
        refine a_cVAv (q := 104) _ dX8_mixAnalysis_101 kX8_186 (c_linkOf k true (by omega)) rfl rfl rfl (Nat.le_of_ble_eq_true rfl) ⟨(Nat.le_of_ble_eq_true rfl), (Nat.le_of_ble_eq_true rfl)⟩ ⟨(Nat.le_of_ble_eq_true rfl), (Nat.le_of_ble_eq_true rfl)⟩ rfl ?_
        refine a_cVAv (q := 107) _ dX8_mixAnalysis_104 kX8_310 (c_mixLink _ _ (lko_lt (by omega))) rfl rfl rfl (Nat.le_of_ble_eq_true rfl) ⟨(Nat.le_of_ble_eq_true rfl), (Nat.le_of_ble_eq_true rfl)⟩ ⟨(Nat.le_of_ble_eq_true rfl), (Nat.le_of_ble_eq_true rfl)⟩ rfl ?_
        refine a_lstore_n (q := 108) dX8_mixAnalysis_107 rfl (Nat.le_of_ble_eq_true rfl) rfl rfl ?_
        refine a_iincN (q := 111) (c := 1) dX8_mixAnalysis_108 rfl (by decide) rfl rfl ?_
        refine a_goto 41 dX8_mixAnalysis_111 (by decide) ?_
        exact ih (k + 1) _ (by omega) (by omega) hp
      · rw [c64] at hp
        refine a_iconst (q := 68) (b2 true) dX8_mixAnalysis_67 (by decide) rfl ?_
        refine a_goto 72 dX8_mixAnalysis_68 (by decide) ?_
        refine a_cSv (q := 75) _ dX8_mixAnalysis_72 kX8_266 (c_mix _ _) rfl rfl (Nat.le_of_ble_eq_true rfl) ⟨(Nat.le_of_ble_eq_true rfl), (Nat.le_of_ble_eq_true rfl)⟩ ⟨(Nat.le_of_ble_eq_true rfl), (Nat.le_of_ble_eq_true rfl)⟩ rfl ?_
        refine a_lstore_n (q := 76) dX8_mixAnalysis_75 rfl (Nat.le_of_ble_eq_true rfl) rfl rfl ?_
        refine a_aload_n (q := 77) dX8_mixAnalysis_76 rfl rfl rfl ?_
        refine a_lload_n (q := 78) dX8_mixAnalysis_77 rfl rfl rfl ?_
        refine a_aload_n (q := 79) dX8_mixAnalysis_78 rfl rfl rfl ?_
        refine a_getA (q := 82) dX8_mixAnalysis_79 fX8_44 rfl rfl rfl ?_
        refine a_iload (q := 84) dX8_mixAnalysis_82 rfl rfl ?_
        refine a_iconst (q := 85) (b2 false) dX8_mixAnalysis_84 (by decide) rfl ?_
        refine a_cVAv (q := 88) _ dX8_mixAnalysis_85 kX8_186 (c_linkOf k false (by omega)) rfl rfl rfl (Nat.le_of_ble_eq_true rfl) ⟨(Nat.le_of_ble_eq_true rfl), (Nat.le_of_ble_eq_true rfl)⟩ ⟨(Nat.le_of_ble_eq_true rfl), (Nat.le_of_ble_eq_true rfl)⟩ rfl ?_
        refine a_cVAv (q := 91) _ dX8_mixAnalysis_88 kX8_310 (c_mixLink _ _ (lko_lt (by omega))) rfl rfl rfl (Nat.le_of_ble_eq_true rfl) ⟨(Nat.le_of_ble_eq_true rfl), (Nat.le_of_ble_eq_true rfl)⟩ ⟨(Nat.le_of_ble_eq_true rfl), (Nat.le_of_ble_eq_true rfl)⟩ rfl ?_
        refine a_lstore_n (q := 92) dX8_mixAnalysis_91 rfl (Nat.le_of_ble_eq_true rfl) rfl rfl ?_
        refine a_aload_n (q := 93) dX8_mixAnalysis_92 rfl rfl rfl ?_
        refine a_lload_n (q := 94) dX8_mixAnalysis_93 rfl rfl rfl ?_
        refine a_aload_n (q := 95) dX8_mixAnalysis_94 rfl rfl rfl ?_
        refine a_getA (q := 98) dX8_mixAnalysis_95 fX8_44 rfl rfl rfl ?_
        refine a_iload (q := 100) dX8_mixAnalysis_98 rfl rfl ?_
        refine a_iconst (q := 101) (b2 true) dX8_mixAnalysis_100 (by decide) rfl ?_
        refine a_cVAv (q := 104) _ dX8_mixAnalysis_101 kX8_186 (c_linkOf k true (by omega)) rfl rfl rfl (Nat.le_of_ble_eq_true rfl) ⟨(Nat.le_of_ble_eq_true rfl), (Nat.le_of_ble_eq_true rfl)⟩ ⟨(Nat.le_of_ble_eq_true rfl), (Nat.le_of_ble_eq_true rfl)⟩ rfl ?_
        refine a_cVAv (q := 107) _ dX8_mixAnalysis_104 kX8_310 (c_mixLink _ _ (lko_lt (by omega))) rfl rfl rfl (Nat.le_of_ble_eq_true rfl) ⟨(Nat.le_of_ble_eq_true rfl), (Nat.le_of_ble_eq_true rfl)⟩ ⟨(Nat.le_of_ble_eq_true rfl), (Nat.le_of_ble_eq_true rfl)⟩ rfl ?_
        refine a_lstore_n (q := 108) dX8_mixAnalysis_107 rfl (Nat.le_of_ble_eq_true rfl) rfl rfl ?_
        refine a_iincN (q := 111) (c := 1) dX8_mixAnalysis_108 rfl (by decide) rfl rfl ?_
        refine a_goto 41 dX8_mixAnalysis_111 (by decide) ?_
        exact ih (k + 1) _ (by omega) (by omega) hp
theorem l_mixA1 (P : ps_T) (hn : G.1 ≤ 12) (h0 : Int64) : ∀ (m k : Nat) (h : Int64), G.1 - k = m → k ≤ G.1 → AW g mX8_mixAnalysis 0 0 P noX 0 0 38 [some (.ref (g.1 + 0)), some (.long h0), none, some (.long (mpF K.2.2.2 m k h)), none, some (.int (nI G.1))] [] 0 (CA g G T R S K E Q V an) B → AW g mX8_mixAnalysis 0 0 P noX 0 0 5 [some (.ref (g.1 + 0)), some (.long h0), none, some (.long h), none, some (.int (nI k))] [] 0 (CA g G T R S K E Q V an) B := by
  intro m
  induction m with
  | zero =>
    intro k h hm hk hp
    have hk2 : k = G.1 := by omega
    subst hk2
    refine a_iload (q := 7) dX8_mixAnalysis_5 rfl rfl ?_
    refine a_aload_n (q := 8) dX8_mixAnalysis_7 rfl rfl rfl ?_
    refine a_getA (q := 11) dX8_mixAnalysis_8 fX8_12 rfl rfl rfl ?_
    refine a_getA (q := 14) dX8_mixAnalysis_11 fX8_304 rfl rfl rfl ?_
    refine a_icmp_geN (q := 17) 38 dX8_mixAnalysis_14 (by decide) (by omega) (by omega) rfl (fun c14 => ?_) (fun c14 => ?_)
    · skip
      exact hp
    · omega
  | succ m ih =>
    intro k h hm hk hp
    refine a_iload (q := 7) dX8_mixAnalysis_5 rfl rfl ?_
    refine a_aload_n (q := 8) dX8_mixAnalysis_7 rfl rfl rfl ?_
    refine a_getA (q := 11) dX8_mixAnalysis_8 fX8_12 rfl rfl rfl ?_
    refine a_getA (q := 14) dX8_mixAnalysis_11 fX8_304 rfl rfl rfl ?_
    refine a_icmp_geN (q := 17) 38 dX8_mixAnalysis_14 (by decide) (by omega) (by omega) rfl (fun c14 => ?_) (fun c14 => ?_)
    · omega
    · skip
      refine a_lload_n (q := 18) dX8_mixAnalysis_17 rfl rfl rfl ?_
      refine a_aload_n (q := 19) dX8_mixAnalysis_18 rfl rfl rfl ?_
      refine a_getA (q := 22) dX8_mixAnalysis_19 fX8_44 rfl rfl rfl ?_
      refine a_getA (q := 25) dX8_mixAnalysis_22 fX8_176 rfl rfl rfl ?_
      refine a_iload (q := 27) dX8_mixAnalysis_25 rfl rfl ?_
      refine a_ialdAI (q := 28) dX8_mixAnalysis_27 rfl (by omega) (by decide) rfl ?_
      refine a_cSv (q := 31) _ dX8_mixAnalysis_28 kX8_266 (c_mix _ _) rfl rfl (Nat.le_of_ble_eq_true rfl) ⟨(Nat.le_of_ble_eq_true rfl), (Nat.le_of_ble_eq_true rfl)⟩ ⟨(Nat.le_of_ble_eq_true rfl), (Nat.le_of_ble_eq_true rfl)⟩ rfl ?_
      refine a_lstore_n (q := 32) dX8_mixAnalysis_31 rfl (Nat.le_of_ble_eq_true rfl) rfl rfl ?_
      refine a_iincN (q := 35) (c := 1) dX8_mixAnalysis_32 rfl (by decide) rfl rfl ?_
      refine a_goto 5 dX8_mixAnalysis_35 (by decide) ?_
      exact ih (k + 1) _ (by omega) (by omega) hp
theorem c_mixA (hn : G.1 ≤ 12) (he : G.2.1 ≤ 24) (h : Int64) : Ct g mX8_mixAnalysis [.ref (g.1 + 0), .long h] 0 (CA g G T R S K E Q V an) B 0 0 (rP (some (.long (ma G S.1 K.2.2.1 K.2.2.2 E.1 E.2.1 E.2.2.1 h))) (CA g G T R S K E Q V an) B) noX := by
  refine Ct.of [some (.ref (g.1 + 0)), some (.long h), none, none, none, none] (by decide) rfl (Nat.le_of_ble_eq_true rfl) rfl ?_
  refine a_lload_n (q := 1) dX8_mixAnalysis_0 rfl rfl rfl ?_
  refine a_lstore_n (q := 2) dX8_mixAnalysis_1 rfl (Nat.le_of_ble_eq_true rfl) rfl rfl ?_
  refine a_iconst (q := 3) (nI 0) dX8_mixAnalysis_2 (by decide) rfl ?_
  refine a_istore (q := 5) dX8_mixAnalysis_3 (Nat.le_of_ble_eq_true rfl) rfl rfl ?_
  refine l_mixA1 _ hn h _ 0 _ rfl (Nat.zero_le _) ?_
  refine a_iconst (q := 39) (nI 0) dX8_mixAnalysis_38 (by decide) rfl ?_
  refine a_istore (q := 41) dX8_mixAnalysis_39 (Nat.le_of_ble_eq_true rfl) rfl rfl ?_
  exact l_mixA2 _ he h _ 0 _ rfl (Nat.zero_le _) ⟨rfl, rfl, rfl, rfl⟩
theorem l_mixC (P : ps_T) (np : Nat) (hnp : np ≤ 200) (hp0 : K.2.2.2 0 = nI np) (h0 : Int64) : ∀ (m k : Nat) (h : Int64), np - k = m → k ≤ np → P (some (.long (mtF V.2.2.1 m k h))) 0 (CA g G T R S K E Q V an) B → AW g mX8_mixCounts 0 0 P noX 0 0 12 [some (.ref (g.1 + 0)), some (.long h0), none, some (.long h), none, some (.int (nI k))] [] 0 (CA g G T R S K E Q V an) B := by
  intro m
  induction m with
  | zero =>
    intro k h hm hk hp
    refine a_iload (q := 14) dX8_mixCounts_12 rfl rfl ?_
    refine a_aload_n (q := 15) dX8_mixCounts_14 rfl rfl rfl ?_
    refine a_getA (q := 18) dX8_mixCounts_15 fX8_44 rfl rfl rfl ?_
    refine a_cVAv (q := 21) _ dX8_mixCounts_18 kX8_160 (c_allPaths) rfl rfl rfl (Nat.le_of_ble_eq_true rfl) ⟨(Nat.le_of_ble_eq_true rfl), (Nat.le_of_ble_eq_true rfl)⟩ ⟨(Nat.le_of_ble_eq_true rfl), (Nat.le_of_ble_eq_true rfl)⟩ rfl ?_
    rw [hp0]
    refine a_icmp_ge (q := 24) 45 dX8_mixCounts_21 (by decide) rfl (fun c21 => ?_) (fun c21 => ?_)
    · skip
      refine a_lload_n (q := 46) dX8_mixCounts_45 rfl rfl rfl ?_
      exact a_lret dX8_mixCounts_46 rfl (Nat.le_of_ble_eq_true rfl) (Nat.le_of_ble_eq_true rfl) (hp)
    · exact absurd (nI_le (show np ≤ k by omega) (by omega)) c21
  | succ m ih =>
    intro k h hm hk hp
    refine a_iload (q := 14) dX8_mixCounts_12 rfl rfl ?_
    refine a_aload_n (q := 15) dX8_mixCounts_14 rfl rfl rfl ?_
    refine a_getA (q := 18) dX8_mixCounts_15 fX8_44 rfl rfl rfl ?_
    refine a_cVAv (q := 21) _ dX8_mixCounts_18 kX8_160 (c_allPaths) rfl rfl rfl (Nat.le_of_ble_eq_true rfl) ⟨(Nat.le_of_ble_eq_true rfl), (Nat.le_of_ble_eq_true rfl)⟩ ⟨(Nat.le_of_ble_eq_true rfl), (Nat.le_of_ble_eq_true rfl)⟩ rfl ?_
    rw [hp0]
    refine a_icmp_ge (q := 24) 45 dX8_mixCounts_21 (by decide) rfl (fun c21 => ?_) (fun c21 => ?_)
    · exact absurd c21 (nI_ge (by omega) (by omega))
    · skip
      refine a_lload_n (q := 25) dX8_mixCounts_24 rfl rfl rfl ?_
      refine a_aload_n (q := 26) dX8_mixCounts_25 rfl rfl rfl ?_
      refine a_getA (q := 29) dX8_mixCounts_26 fX8_67 rfl rfl rfl ?_
      refine a_getA (q := 32) dX8_mixCounts_29 fX8_248 rfl rfl rfl ?_
      refine a_iload (q := 34) dX8_mixCounts_32 rfl rfl ?_
      refine a_ialdAN (q := 35) dX8_mixCounts_34 rfl (by omega) (by decide) rfl ?_
      refine a_cSv (q := 38) _ dX8_mixCounts_35 kX8_266 (c_mix _ _) rfl rfl (Nat.le_of_ble_eq_true rfl) ⟨(Nat.le_of_ble_eq_true rfl), (Nat.le_of_ble_eq_true rfl)⟩ ⟨(Nat.le_of_ble_eq_true rfl), (Nat.le_of_ble_eq_true rfl)⟩ rfl ?_
      refine a_lstore_n (q := 39) dX8_mixCounts_38 rfl (Nat.le_of_ble_eq_true rfl) rfl rfl ?_
      refine a_iincN (q := 42) (c := 1) dX8_mixCounts_39 rfl (by decide) rfl rfl ?_
      refine a_goto 12 dX8_mixCounts_42 (by decide) ?_
      exact ih (k + 1) _ (by omega) (by omega) hp
theorem c_mixC1 (h : Int64) (hc : cbl an (K.2.2.2 0) = false) : Ct g mX8_mixCounts [.ref (g.1 + 0), .long h] 0 (CA g G T R S K E Q V an) B 0 0 (rP (some (.long h)) (CA g G T R S K E Q V an) B) noX := by
  refine Ct.of [some (.ref (g.1 + 0)), some (.long h), none, none, none, none] (by decide) rfl (Nat.le_of_ble_eq_true rfl) rfl ?_
  refine a_lload_n (q := 1) dX8_mixCounts_0 rfl rfl rfl ?_
  refine a_lstore_n (q := 2) dX8_mixCounts_1 rfl (Nat.le_of_ble_eq_true rfl) rfl rfl ?_
  refine a_aload_n (q := 3) dX8_mixCounts_2 rfl rfl rfl ?_
  refine a_cVAv (q := 6) _ dX8_mixCounts_3 kX8_284 (c_isCountable) rfl rfl rfl (Nat.le_of_ble_eq_true rfl) ⟨(Nat.le_of_ble_eq_true rfl), (Nat.le_of_ble_eq_true rfl)⟩ ⟨(Nat.le_of_ble_eq_true rfl), (Nat.le_of_ble_eq_true rfl)⟩ rfl ?_
  refine a_if_eqZ (q := 9) 45 dX8_mixCounts_6 (by decide) rfl (fun c6 => ?_) (fun c6 => ?_)
  · skip
    refine a_lload_n (q := 46) dX8_mixCounts_45 rfl rfl rfl ?_
    exact a_lret dX8_mixCounts_46 rfl (Nat.le_of_ble_eq_true rfl) (Nat.le_of_ble_eq_true rfl) (⟨rfl, rfl, rfl, rfl⟩)
  · rw [hc] at c6; cases c6
theorem c_mixC2 (h : Int64) (np : Nat) (hnp : np ≤ 200) (hp0 : K.2.2.2 0 = nI np) (hc : cbl an (K.2.2.2 0) = true) : Ct g mX8_mixCounts [.ref (g.1 + 0), .long h] 0 (CA g G T R S K E Q V an) B 0 0 (rP (some (.long (mtF V.2.2.1 np 0 h))) (CA g G T R S K E Q V an) B) noX := by
  refine Ct.of [some (.ref (g.1 + 0)), some (.long h), none, none, none, none] (by decide) rfl (Nat.le_of_ble_eq_true rfl) rfl ?_
  refine a_lload_n (q := 1) dX8_mixCounts_0 rfl rfl rfl ?_
  refine a_lstore_n (q := 2) dX8_mixCounts_1 rfl (Nat.le_of_ble_eq_true rfl) rfl rfl ?_
  refine a_aload_n (q := 3) dX8_mixCounts_2 rfl rfl rfl ?_
  refine a_cVAv (q := 6) _ dX8_mixCounts_3 kX8_284 (c_isCountable) rfl rfl rfl (Nat.le_of_ble_eq_true rfl) ⟨(Nat.le_of_ble_eq_true rfl), (Nat.le_of_ble_eq_true rfl)⟩ ⟨(Nat.le_of_ble_eq_true rfl), (Nat.le_of_ble_eq_true rfl)⟩ rfl ?_
  refine a_if_eqZ (q := 9) 45 dX8_mixCounts_6 (by decide) rfl (fun c6 => ?_) (fun c6 => ?_)
  · rw [hc] at c6; cases c6
  · skip
    refine a_iconst (q := 10) (nI 0) dX8_mixCounts_9 (by decide) rfl ?_
    refine a_istore (q := 12) dX8_mixCounts_10 (Nat.le_of_ble_eq_true rfl) rfl rfl ?_
    exact l_mixC _ np hnp hp0 h _ 0 _ rfl (Nat.zero_le _) ⟨rfl, rfl, rfl, rfl⟩
theorem l_mixT (P : ps_T) (hT : T.1 ≤ 60) (h0 : Int64) : ∀ (m k : Nat) (h : Int64), T.1 - k = m → k ≤ T.1 → P (some (.long (mtF T.2 m k h))) 0 (CA g G T R S K E Q V an) B → AW g mX8_mixText 0 0 P noX 0 0 15 [some (.ref (g.1 + 0)), some (.long h0), none, some (.long h), none, some (.int (nI k))] [] 0 (CA g G T R S K E Q V an) B := by
  intro m
  induction m with
  | zero =>
    intro k h hm hk hp
    refine a_iload (q := 17) dX8_mixText_15 rfl rfl ?_
    refine a_aload_n (q := 18) dX8_mixText_17 rfl rfl rfl ?_
    refine a_getA (q := 21) dX8_mixText_18 fX8_19 rfl rfl rfl ?_
    refine a_getA (q := 24) dX8_mixText_21 fX8_128 rfl rfl rfl ?_
    refine a_icmp_geN (q := 27) 48 dX8_mixText_24 (by decide) (by omega) (by omega) rfl (fun c24 => ?_) (fun c24 => ?_)
    · skip
      refine a_lload_n (q := 49) dX8_mixText_48 rfl rfl rfl ?_
      exact a_lret dX8_mixText_49 rfl (Nat.le_of_ble_eq_true rfl) (Nat.le_of_ble_eq_true rfl) (hp)
    · omega
  | succ m ih =>
    intro k h hm hk hp
    refine a_iload (q := 17) dX8_mixText_15 rfl rfl ?_
    refine a_aload_n (q := 18) dX8_mixText_17 rfl rfl rfl ?_
    refine a_getA (q := 21) dX8_mixText_18 fX8_19 rfl rfl rfl ?_
    refine a_getA (q := 24) dX8_mixText_21 fX8_128 rfl rfl rfl ?_
    refine a_icmp_geN (q := 27) 48 dX8_mixText_24 (by decide) (by omega) (by omega) rfl (fun c24 => ?_) (fun c24 => ?_)
    · omega
    · skip
      refine a_lload_n (q := 28) dX8_mixText_27 rfl rfl rfl ?_
      refine a_aload_n (q := 29) dX8_mixText_28 rfl rfl rfl ?_
      refine a_getA (q := 32) dX8_mixText_29 fX8_19 rfl rfl rfl ?_
      refine a_getA (q := 35) dX8_mixText_32 fX8_313 rfl rfl rfl ?_
      refine a_iload (q := 37) dX8_mixText_35 rfl rfl ?_
      refine a_ialdAN (q := 38) dX8_mixText_37 rfl (by omega) (by decide) rfl ?_
      refine a_cSv (q := 41) _ dX8_mixText_38 kX8_266 (c_mix _ _) rfl rfl (Nat.le_of_ble_eq_true rfl) ⟨(Nat.le_of_ble_eq_true rfl), (Nat.le_of_ble_eq_true rfl)⟩ ⟨(Nat.le_of_ble_eq_true rfl), (Nat.le_of_ble_eq_true rfl)⟩ rfl ?_
      refine a_lstore_n (q := 42) dX8_mixText_41 rfl (Nat.le_of_ble_eq_true rfl) rfl rfl ?_
      refine a_iincN (q := 45) (c := 1) dX8_mixText_42 rfl (by decide) rfl rfl ?_
      refine a_goto 15 dX8_mixText_45 (by decide) ?_
      exact ih (k + 1) _ (by omega) (by omega) hp
theorem c_mixT (hT : T.1 ≤ 60) (h : Int64) : Ct g mX8_mixText [.ref (g.1 + 0), .long h] 0 (CA g G T R S K E Q V an) B 0 0 (rP (some (.long (mtF T.2 T.1 0 (mx h (nI T.1))))) (CA g G T R S K E Q V an) B) noX := by
  refine Ct.of [some (.ref (g.1 + 0)), some (.long h), none, none, none, none] (by decide) rfl (Nat.le_of_ble_eq_true rfl) rfl ?_
  refine a_lload_n (q := 1) dX8_mixText_0 rfl rfl rfl ?_
  refine a_aload_n (q := 2) dX8_mixText_1 rfl rfl rfl ?_
  refine a_getA (q := 5) dX8_mixText_2 fX8_19 rfl rfl rfl ?_
  refine a_getA (q := 8) dX8_mixText_5 fX8_128 rfl rfl rfl ?_
  refine a_cSv (q := 11) _ dX8_mixText_8 kX8_266 (c_mix _ _) rfl rfl (Nat.le_of_ble_eq_true rfl) ⟨(Nat.le_of_ble_eq_true rfl), (Nat.le_of_ble_eq_true rfl)⟩ ⟨(Nat.le_of_ble_eq_true rfl), (Nat.le_of_ble_eq_true rfl)⟩ rfl ?_
  refine a_lstore_n (q := 12) dX8_mixText_11 rfl (Nat.le_of_ble_eq_true rfl) rfl rfl ?_
  refine a_iconst (q := 13) (nI 0) dX8_mixText_12 (by decide) rfl ?_
  refine a_istore (q := 15) dX8_mixText_13 (Nat.le_of_ble_eq_true rfl) rfl rfl ?_
  exact l_mixT _ hT h _ 0 _ rfl (Nat.zero_le _) ⟨rfl, rfl, rfl, rfl⟩
/-- the end of the digest: walk, hottest, text -/
def dgE (T : Tx) (V : Wk) (h : Int64) : Int64 := mtF T.2 T.1 0 (mx (mx (mx (mx h V.1) V.2.1) (mcF V.2.2.1 200 0 (-1) 0)) (nI T.1))
theorem c_digest0 (hn : G.1 ≤ 12) (he : G.2.1 ≤ 24) (hT : T.1 ≤ 60) (hf : ∀ i, i < 200 → V.2.2.1 i < big) (ha : an = false) : Ct g mX8_digest [.ref (g.1 + 0)] 0 (CA g G T R S K E Q V an) B 0 0 (rP (some (.long (dgE T V (mx (mg G 1831) (b2 false))))) (CA g G T R S K E Q V an) B) noX := by
  refine Ct.of [some (.ref (g.1 + 0)), none, none] (by decide) rfl (Nat.le_of_ble_eq_true rfl) rfl ?_
  refine a_aload_n (q := 1) dX8_digest_0 rfl rfl rfl ?_
  refine a_ldc2 (q := 4) _ dX8_digest_1 jX8_260 rfl ?_
  refine a_cVAv (q := 7) _ dX8_digest_4 kX8_262 (c_mixGraph he _) rfl rfl rfl (Nat.le_of_ble_eq_true rfl) ⟨(Nat.le_of_ble_eq_true rfl), (Nat.le_of_ble_eq_true rfl)⟩ ⟨(Nat.le_of_ble_eq_true rfl), (Nat.le_of_ble_eq_true rfl)⟩ rfl ?_
  refine a_lstore_n (q := 8) dX8_digest_7 rfl (Nat.le_of_ble_eq_true rfl) rfl rfl ?_
  refine a_lload_n (q := 9) dX8_digest_8 rfl rfl rfl ?_
  refine a_aload_n (q := 10) dX8_digest_9 rfl rfl rfl ?_
  refine a_getA (q := 13) dX8_digest_10 fX8_71 rfl rfl rfl ?_
  refine a_if_eqZ (q := 16) 20 dX8_digest_13 (by decide) rfl (fun c13 => ?_) (fun c13 => ?_)
  · skip
    refine a_iconst (q := 21) (b2 false) dX8_digest_20 (by decide) rfl ?_
    refine a_cSv (q := 24) _ dX8_digest_21 kX8_266 (c_mix _ _) rfl rfl (Nat.le_of_ble_eq_true rfl) ⟨(Nat.le_of_ble_eq_true rfl), (Nat.le_of_ble_eq_true rfl)⟩ ⟨(Nat.le_of_ble_eq_true rfl), (Nat.le_of_ble_eq_true rfl)⟩ rfl ?_
    refine a_lstore_n (q := 25) dX8_digest_24 rfl (Nat.le_of_ble_eq_true rfl) rfl rfl ?_
    refine a_aload_n (q := 26) dX8_digest_25 rfl rfl rfl ?_
    refine a_getA (q := 29) dX8_digest_26 fX8_71 rfl rfl rfl ?_
    refine a_if_eqZ (q := 32) 44 dX8_digest_29 (by decide) rfl (fun c29 => ?_) (fun c29 => ?_)
    · skip
      refine a_lload_n (q := 45) dX8_digest_44 rfl rfl rfl ?_
      refine a_aload_n (q := 46) dX8_digest_45 rfl rfl rfl ?_
      refine a_getA (q := 49) dX8_digest_46 fX8_67 rfl rfl rfl ?_
      refine a_getA (q := 52) dX8_digest_49 fX8_229 rfl rfl rfl ?_
      refine a_cSv (q := 55) _ dX8_digest_52 kX8_266 (c_mix _ _) rfl rfl (Nat.le_of_ble_eq_true rfl) ⟨(Nat.le_of_ble_eq_true rfl), (Nat.le_of_ble_eq_true rfl)⟩ ⟨(Nat.le_of_ble_eq_true rfl), (Nat.le_of_ble_eq_true rfl)⟩ rfl ?_
      refine a_lstore_n (q := 56) dX8_digest_55 rfl (Nat.le_of_ble_eq_true rfl) rfl rfl ?_
      refine a_lload_n (q := 57) dX8_digest_56 rfl rfl rfl ?_
      refine a_aload_n (q := 58) dX8_digest_57 rfl rfl rfl ?_
      refine a_getA (q := 61) dX8_digest_58 fX8_67 rfl rfl rfl ?_
      refine a_getA (q := 64) dX8_digest_61 fX8_245 rfl rfl rfl ?_
      refine a_cSv (q := 67) _ dX8_digest_64 kX8_266 (c_mix _ _) rfl rfl (Nat.le_of_ble_eq_true rfl) ⟨(Nat.le_of_ble_eq_true rfl), (Nat.le_of_ble_eq_true rfl)⟩ ⟨(Nat.le_of_ble_eq_true rfl), (Nat.le_of_ble_eq_true rfl)⟩ rfl ?_
      refine a_lstore_n (q := 68) dX8_digest_67 rfl (Nat.le_of_ble_eq_true rfl) rfl rfl ?_
      refine a_lload_n (q := 69) dX8_digest_68 rfl rfl rfl ?_
      refine a_aload_n (q := 70) dX8_digest_69 rfl rfl rfl ?_
      refine a_getA (q := 73) dX8_digest_70 fX8_67 rfl rfl rfl ?_
      refine a_cVAv (q := 76) _ dX8_digest_73 kX8_254 (c_most hf) rfl rfl rfl (Nat.le_of_ble_eq_true rfl) ⟨(Nat.le_of_ble_eq_true rfl), (Nat.le_of_ble_eq_true rfl)⟩ ⟨(Nat.le_of_ble_eq_true rfl), (Nat.le_of_ble_eq_true rfl)⟩ rfl ?_
      refine a_cSv (q := 79) _ dX8_digest_76 kX8_266 (c_mix _ _) rfl rfl (Nat.le_of_ble_eq_true rfl) ⟨(Nat.le_of_ble_eq_true rfl), (Nat.le_of_ble_eq_true rfl)⟩ ⟨(Nat.le_of_ble_eq_true rfl), (Nat.le_of_ble_eq_true rfl)⟩ rfl ?_
      refine a_lstore_n (q := 80) dX8_digest_79 rfl (Nat.le_of_ble_eq_true rfl) rfl rfl ?_
      refine a_aload_n (q := 81) dX8_digest_80 rfl rfl rfl ?_
      refine a_lload_n (q := 82) dX8_digest_81 rfl rfl rfl ?_
      refine a_cVAv (q := 85) _ dX8_digest_82 kX8_276 (c_mixT hT _) rfl rfl rfl (Nat.le_of_ble_eq_true rfl) ⟨(Nat.le_of_ble_eq_true rfl), (Nat.le_of_ble_eq_true rfl)⟩ ⟨(Nat.le_of_ble_eq_true rfl), (Nat.le_of_ble_eq_true rfl)⟩ rfl ?_
      exact a_lret dX8_digest_85 rfl (Nat.le_of_ble_eq_true rfl) (Nat.le_of_ble_eq_true rfl) (⟨rfl, rfl, rfl, rfl⟩)
    · rw [ha] at c29; cases c29
  · rw [ha] at c13; cases c13
theorem c_digest1 (hn : G.1 ≤ 12) (he : G.2.1 ≤ 24) (hT : T.1 ≤ 60) (hf : ∀ i, i < 200 → V.2.2.1 i < big) (ha : an = true) (hc : cbl an (K.2.2.2 0) = false) : Ct g mX8_digest [.ref (g.1 + 0)] 0 (CA g G T R S K E Q V an) B 0 0 (rP (some (.long (dgE T V (ma G S.1 K.2.2.1 K.2.2.2 E.1 E.2.1 E.2.2.1 (mx (mg G 1831) (b2 true)))))) (CA g G T R S K E Q V an) B) noX := by
  refine Ct.of [some (.ref (g.1 + 0)), none, none] (by decide) rfl (Nat.le_of_ble_eq_true rfl) rfl ?_
  refine a_aload_n (q := 1) dX8_digest_0 rfl rfl rfl ?_
  refine a_ldc2 (q := 4) _ dX8_digest_1 jX8_260 rfl ?_
  refine a_cVAv (q := 7) _ dX8_digest_4 kX8_262 (c_mixGraph he _) rfl rfl rfl (Nat.le_of_ble_eq_true rfl) ⟨(Nat.le_of_ble_eq_true rfl), (Nat.le_of_ble_eq_true rfl)⟩ ⟨(Nat.le_of_ble_eq_true rfl), (Nat.le_of_ble_eq_true rfl)⟩ rfl ?_
  refine a_lstore_n (q := 8) dX8_digest_7 rfl (Nat.le_of_ble_eq_true rfl) rfl rfl ?_
  refine a_lload_n (q := 9) dX8_digest_8 rfl rfl rfl ?_
  refine a_aload_n (q := 10) dX8_digest_9 rfl rfl rfl ?_
  refine a_getA (q := 13) dX8_digest_10 fX8_71 rfl rfl rfl ?_
  refine a_if_eqZ (q := 16) 20 dX8_digest_13 (by decide) rfl (fun c13 => ?_) (fun c13 => ?_)
  · rw [ha] at c13; cases c13
  · skip
    refine a_iconst (q := 17) (b2 true) dX8_digest_16 (by decide) rfl ?_
    refine a_goto 21 dX8_digest_17 (by decide) ?_
    refine a_cSv (q := 24) _ dX8_digest_21 kX8_266 (c_mix _ _) rfl rfl (Nat.le_of_ble_eq_true rfl) ⟨(Nat.le_of_ble_eq_true rfl), (Nat.le_of_ble_eq_true rfl)⟩ ⟨(Nat.le_of_ble_eq_true rfl), (Nat.le_of_ble_eq_true rfl)⟩ rfl ?_
    refine a_lstore_n (q := 25) dX8_digest_24 rfl (Nat.le_of_ble_eq_true rfl) rfl rfl ?_
    refine a_aload_n (q := 26) dX8_digest_25 rfl rfl rfl ?_
    refine a_getA (q := 29) dX8_digest_26 fX8_71 rfl rfl rfl ?_
    refine a_if_eqZ (q := 32) 44 dX8_digest_29 (by decide) rfl (fun c29 => ?_) (fun c29 => ?_)
    · rw [ha] at c29; cases c29
    · skip
      refine a_aload_n (q := 33) dX8_digest_32 rfl rfl rfl ?_
      refine a_lload_n (q := 34) dX8_digest_33 rfl rfl rfl ?_
      refine a_cVAv (q := 37) _ dX8_digest_34 kX8_270 (c_mixA hn he _) rfl rfl rfl (Nat.le_of_ble_eq_true rfl) ⟨(Nat.le_of_ble_eq_true rfl), (Nat.le_of_ble_eq_true rfl)⟩ ⟨(Nat.le_of_ble_eq_true rfl), (Nat.le_of_ble_eq_true rfl)⟩ rfl ?_
      refine a_lstore_n (q := 38) dX8_digest_37 rfl (Nat.le_of_ble_eq_true rfl) rfl rfl ?_
      refine a_aload_n (q := 39) dX8_digest_38 rfl rfl rfl ?_
      refine a_lload_n (q := 40) dX8_digest_39 rfl rfl rfl ?_
      refine a_cVAv (q := 43) _ dX8_digest_40 kX8_273 (c_mixC1 _ hc) rfl rfl rfl (Nat.le_of_ble_eq_true rfl) ⟨(Nat.le_of_ble_eq_true rfl), (Nat.le_of_ble_eq_true rfl)⟩ ⟨(Nat.le_of_ble_eq_true rfl), (Nat.le_of_ble_eq_true rfl)⟩ rfl ?_
      refine a_lstore_n (q := 44) dX8_digest_43 rfl (Nat.le_of_ble_eq_true rfl) rfl rfl ?_
      refine a_lload_n (q := 45) dX8_digest_44 rfl rfl rfl ?_
      refine a_aload_n (q := 46) dX8_digest_45 rfl rfl rfl ?_
      refine a_getA (q := 49) dX8_digest_46 fX8_67 rfl rfl rfl ?_
      refine a_getA (q := 52) dX8_digest_49 fX8_229 rfl rfl rfl ?_
      refine a_cSv (q := 55) _ dX8_digest_52 kX8_266 (c_mix _ _) rfl rfl (Nat.le_of_ble_eq_true rfl) ⟨(Nat.le_of_ble_eq_true rfl), (Nat.le_of_ble_eq_true rfl)⟩ ⟨(Nat.le_of_ble_eq_true rfl), (Nat.le_of_ble_eq_true rfl)⟩ rfl ?_
      refine a_lstore_n (q := 56) dX8_digest_55 rfl (Nat.le_of_ble_eq_true rfl) rfl rfl ?_
      refine a_lload_n (q := 57) dX8_digest_56 rfl rfl rfl ?_
      refine a_aload_n (q := 58) dX8_digest_57 rfl rfl rfl ?_
      refine a_getA (q := 61) dX8_digest_58 fX8_67 rfl rfl rfl ?_
      refine a_getA (q := 64) dX8_digest_61 fX8_245 rfl rfl rfl ?_
      refine a_cSv (q := 67) _ dX8_digest_64 kX8_266 (c_mix _ _) rfl rfl (Nat.le_of_ble_eq_true rfl) ⟨(Nat.le_of_ble_eq_true rfl), (Nat.le_of_ble_eq_true rfl)⟩ ⟨(Nat.le_of_ble_eq_true rfl), (Nat.le_of_ble_eq_true rfl)⟩ rfl ?_
      refine a_lstore_n (q := 68) dX8_digest_67 rfl (Nat.le_of_ble_eq_true rfl) rfl rfl ?_
      refine a_lload_n (q := 69) dX8_digest_68 rfl rfl rfl ?_
      refine a_aload_n (q := 70) dX8_digest_69 rfl rfl rfl ?_
      refine a_getA (q := 73) dX8_digest_70 fX8_67 rfl rfl rfl ?_
      refine a_cVAv (q := 76) _ dX8_digest_73 kX8_254 (c_most hf) rfl rfl rfl (Nat.le_of_ble_eq_true rfl) ⟨(Nat.le_of_ble_eq_true rfl), (Nat.le_of_ble_eq_true rfl)⟩ ⟨(Nat.le_of_ble_eq_true rfl), (Nat.le_of_ble_eq_true rfl)⟩ rfl ?_
      refine a_cSv (q := 79) _ dX8_digest_76 kX8_266 (c_mix _ _) rfl rfl (Nat.le_of_ble_eq_true rfl) ⟨(Nat.le_of_ble_eq_true rfl), (Nat.le_of_ble_eq_true rfl)⟩ ⟨(Nat.le_of_ble_eq_true rfl), (Nat.le_of_ble_eq_true rfl)⟩ rfl ?_
      refine a_lstore_n (q := 80) dX8_digest_79 rfl (Nat.le_of_ble_eq_true rfl) rfl rfl ?_
      refine a_aload_n (q := 81) dX8_digest_80 rfl rfl rfl ?_
      refine a_lload_n (q := 82) dX8_digest_81 rfl rfl rfl ?_
      refine a_cVAv (q := 85) _ dX8_digest_82 kX8_276 (c_mixT hT _) rfl rfl rfl (Nat.le_of_ble_eq_true rfl) ⟨(Nat.le_of_ble_eq_true rfl), (Nat.le_of_ble_eq_true rfl)⟩ ⟨(Nat.le_of_ble_eq_true rfl), (Nat.le_of_ble_eq_true rfl)⟩ rfl ?_
      exact a_lret dX8_digest_85 rfl (Nat.le_of_ble_eq_true rfl) (Nat.le_of_ble_eq_true rfl) (⟨rfl, rfl, rfl, rfl⟩)
theorem c_digest2 (np : Nat) (hnp : np ≤ 200) (hp0 : K.2.2.2 0 = nI np) (hn : G.1 ≤ 12) (he : G.2.1 ≤ 24) (hT : T.1 ≤ 60) (hf : ∀ i, i < 200 → V.2.2.1 i < big) (ha : an = true) (hc : cbl an (K.2.2.2 0) = true) : Ct g mX8_digest [.ref (g.1 + 0)] 0 (CA g G T R S K E Q V an) B 0 0 (rP (some (.long (dgE T V (mtF V.2.2.1 np 0 (ma G S.1 K.2.2.1 K.2.2.2 E.1 E.2.1 E.2.2.1 (mx (mg G 1831) (b2 true))))))) (CA g G T R S K E Q V an) B) noX := by
  refine Ct.of [some (.ref (g.1 + 0)), none, none] (by decide) rfl (Nat.le_of_ble_eq_true rfl) rfl ?_
  refine a_aload_n (q := 1) dX8_digest_0 rfl rfl rfl ?_
  refine a_ldc2 (q := 4) _ dX8_digest_1 jX8_260 rfl ?_
  refine a_cVAv (q := 7) _ dX8_digest_4 kX8_262 (c_mixGraph he _) rfl rfl rfl (Nat.le_of_ble_eq_true rfl) ⟨(Nat.le_of_ble_eq_true rfl), (Nat.le_of_ble_eq_true rfl)⟩ ⟨(Nat.le_of_ble_eq_true rfl), (Nat.le_of_ble_eq_true rfl)⟩ rfl ?_
  refine a_lstore_n (q := 8) dX8_digest_7 rfl (Nat.le_of_ble_eq_true rfl) rfl rfl ?_
  refine a_lload_n (q := 9) dX8_digest_8 rfl rfl rfl ?_
  refine a_aload_n (q := 10) dX8_digest_9 rfl rfl rfl ?_
  refine a_getA (q := 13) dX8_digest_10 fX8_71 rfl rfl rfl ?_
  refine a_if_eqZ (q := 16) 20 dX8_digest_13 (by decide) rfl (fun c13 => ?_) (fun c13 => ?_)
  · rw [ha] at c13; cases c13
  · skip
    refine a_iconst (q := 17) (b2 true) dX8_digest_16 (by decide) rfl ?_
    refine a_goto 21 dX8_digest_17 (by decide) ?_
    refine a_cSv (q := 24) _ dX8_digest_21 kX8_266 (c_mix _ _) rfl rfl (Nat.le_of_ble_eq_true rfl) ⟨(Nat.le_of_ble_eq_true rfl), (Nat.le_of_ble_eq_true rfl)⟩ ⟨(Nat.le_of_ble_eq_true rfl), (Nat.le_of_ble_eq_true rfl)⟩ rfl ?_
    refine a_lstore_n (q := 25) dX8_digest_24 rfl (Nat.le_of_ble_eq_true rfl) rfl rfl ?_
    refine a_aload_n (q := 26) dX8_digest_25 rfl rfl rfl ?_
    refine a_getA (q := 29) dX8_digest_26 fX8_71 rfl rfl rfl ?_
    refine a_if_eqZ (q := 32) 44 dX8_digest_29 (by decide) rfl (fun c29 => ?_) (fun c29 => ?_)
    · rw [ha] at c29; cases c29
    · skip
      refine a_aload_n (q := 33) dX8_digest_32 rfl rfl rfl ?_
      refine a_lload_n (q := 34) dX8_digest_33 rfl rfl rfl ?_
      refine a_cVAv (q := 37) _ dX8_digest_34 kX8_270 (c_mixA hn he _) rfl rfl rfl (Nat.le_of_ble_eq_true rfl) ⟨(Nat.le_of_ble_eq_true rfl), (Nat.le_of_ble_eq_true rfl)⟩ ⟨(Nat.le_of_ble_eq_true rfl), (Nat.le_of_ble_eq_true rfl)⟩ rfl ?_
      refine a_lstore_n (q := 38) dX8_digest_37 rfl (Nat.le_of_ble_eq_true rfl) rfl rfl ?_
      refine a_aload_n (q := 39) dX8_digest_38 rfl rfl rfl ?_
      refine a_lload_n (q := 40) dX8_digest_39 rfl rfl rfl ?_
      refine a_cVAv (q := 43) _ dX8_digest_40 kX8_273 (c_mixC2 _ np hnp hp0 hc) rfl rfl rfl (Nat.le_of_ble_eq_true rfl) ⟨(Nat.le_of_ble_eq_true rfl), (Nat.le_of_ble_eq_true rfl)⟩ ⟨(Nat.le_of_ble_eq_true rfl), (Nat.le_of_ble_eq_true rfl)⟩ rfl ?_
      refine a_lstore_n (q := 44) dX8_digest_43 rfl (Nat.le_of_ble_eq_true rfl) rfl rfl ?_
      refine a_lload_n (q := 45) dX8_digest_44 rfl rfl rfl ?_
      refine a_aload_n (q := 46) dX8_digest_45 rfl rfl rfl ?_
      refine a_getA (q := 49) dX8_digest_46 fX8_67 rfl rfl rfl ?_
      refine a_getA (q := 52) dX8_digest_49 fX8_229 rfl rfl rfl ?_
      refine a_cSv (q := 55) _ dX8_digest_52 kX8_266 (c_mix _ _) rfl rfl (Nat.le_of_ble_eq_true rfl) ⟨(Nat.le_of_ble_eq_true rfl), (Nat.le_of_ble_eq_true rfl)⟩ ⟨(Nat.le_of_ble_eq_true rfl), (Nat.le_of_ble_eq_true rfl)⟩ rfl ?_
      refine a_lstore_n (q := 56) dX8_digest_55 rfl (Nat.le_of_ble_eq_true rfl) rfl rfl ?_
      refine a_lload_n (q := 57) dX8_digest_56 rfl rfl rfl ?_
      refine a_aload_n (q := 58) dX8_digest_57 rfl rfl rfl ?_
      refine a_getA (q := 61) dX8_digest_58 fX8_67 rfl rfl rfl ?_
      refine a_getA (q := 64) dX8_digest_61 fX8_245 rfl rfl rfl ?_
      refine a_cSv (q := 67) _ dX8_digest_64 kX8_266 (c_mix _ _) rfl rfl (Nat.le_of_ble_eq_true rfl) ⟨(Nat.le_of_ble_eq_true rfl), (Nat.le_of_ble_eq_true rfl)⟩ ⟨(Nat.le_of_ble_eq_true rfl), (Nat.le_of_ble_eq_true rfl)⟩ rfl ?_
      refine a_lstore_n (q := 68) dX8_digest_67 rfl (Nat.le_of_ble_eq_true rfl) rfl rfl ?_
      refine a_lload_n (q := 69) dX8_digest_68 rfl rfl rfl ?_
      refine a_aload_n (q := 70) dX8_digest_69 rfl rfl rfl ?_
      refine a_getA (q := 73) dX8_digest_70 fX8_67 rfl rfl rfl ?_
      refine a_cVAv (q := 76) _ dX8_digest_73 kX8_254 (c_most hf) rfl rfl rfl (Nat.le_of_ble_eq_true rfl) ⟨(Nat.le_of_ble_eq_true rfl), (Nat.le_of_ble_eq_true rfl)⟩ ⟨(Nat.le_of_ble_eq_true rfl), (Nat.le_of_ble_eq_true rfl)⟩ rfl ?_
      refine a_cSv (q := 79) _ dX8_digest_76 kX8_266 (c_mix _ _) rfl rfl (Nat.le_of_ble_eq_true rfl) ⟨(Nat.le_of_ble_eq_true rfl), (Nat.le_of_ble_eq_true rfl)⟩ ⟨(Nat.le_of_ble_eq_true rfl), (Nat.le_of_ble_eq_true rfl)⟩ rfl ?_
      refine a_lstore_n (q := 80) dX8_digest_79 rfl (Nat.le_of_ble_eq_true rfl) rfl rfl ?_
      refine a_aload_n (q := 81) dX8_digest_80 rfl rfl rfl ?_
      refine a_lload_n (q := 82) dX8_digest_81 rfl rfl rfl ?_
      refine a_cVAv (q := 85) _ dX8_digest_82 kX8_276 (c_mixT hT _) rfl rfl rfl (Nat.le_of_ble_eq_true rfl) ⟨(Nat.le_of_ble_eq_true rfl), (Nat.le_of_ble_eq_true rfl)⟩ ⟨(Nat.le_of_ble_eq_true rfl), (Nat.le_of_ble_eq_true rfl)⟩ rfl ?_
      exact a_lret dX8_digest_85 rfl (Nat.le_of_ble_eq_true rfl) (Nat.le_of_ble_eq_true rfl) (⟨rfl, rfl, rfl, rfl⟩)
end Digest8

