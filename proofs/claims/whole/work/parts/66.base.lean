/-! ===== rows for the law: weaker posts, the script, helpers, handlers ===== -/
theorem Ct.weak {g : gp_T} {M : md_T} {args : List Value} {z : Nat} {A B : List va_E} {mc ms : Nat} {P P' : ps_T} {X : xs_T} (h : Ct g M args z A B mc ms P X) (hp : ∀ v z A B, P v z A B → P' v z A B) : Ct g M args z A B mc ms P' X := h.mono hp (fun _ _ _ _ q => q)
section Law0
variable {g : gp_T} {M : md_T} {mc ms : Nat} {P : ps_T} {X : xs_T} {kc ns pc q : Nat} {L : List (Option Value)} {S S0 : List Value} {z : Nat} {A B A1 B1 : List va_E} {y : md_T} {index n : Nat}
theorem a_sldN {k : Nat} (d : decode M.2.1 pc = .ok (.iaload, 1)) (hk : k < g.2.2.2.2.2.1) (hL : g.2.2.2.2.2.1 ≤ 1536) (hq : pc + 1 = q) (kk : AW g M mc ms P X kc ns q L (.int (g.2.2.2.2.2.2 k) :: S) z A B) : AW g M mc ms P X kc ns pc L (.int (nI k) :: .ref g.2.2.2.2.1 :: S) z A B := by
  refine a_sld d (vp_in_nI hk (by omega)) hq ?_
  rw [nI_clamp (by omega)]
  exact kk
theorem a_slenN (d : decode M.2.1 pc = .ok (.arraylength, 1)) (hq : pc + 1 = q) (kk : AW g M mc ms P X kc ns q L (.int (nI g.2.2.2.2.2.1) :: S) z A B) : AW g M mc ms P X kc ns pc L (.ref g.2.2.2.2.1 :: S) z A B := a_slen d hq kk
theorem a_cHv {v : Value} (As : List Value) (d : decode M.2.1 pc = .ok (.invokestatic index, 3)) (cv : cHw M.1.cls index y n) (hM : Ct g y As z A B 1 6 (rP (some v) A1 B1) noX) (hn : As.length = n) (hS0 : S0 = As.reverse ++ S) (hcat : (S.map fun v => v.category).sum ≤ 8) (hR : y.2.2.2.2.1 + 1 ≤ M.2.2.2.2.1 ∧ 8 + (y.2.2.1 + 11) + y.2.2.2.2.2.1 ≤ M.2.2.2.2.2.1) (hf : kc + 1 ≤ mc ∧ ns + 6 ≤ ms) (hq : pc + 3 = q) (kk : AW g M mc ms P X (kc + 1) (ns + 6) q L (v :: S) 0 A1 B1) : AW g M mc ms P X kc ns pc L S0 z A B :=
  a_callH As d cv hM hn hS0 hcat hR hf hq (fun v z9 A9 B9 h => by obtain ⟨rfl, rfl, rfl, rfl⟩ := h; exact kk) (fun _ _ _ _ h => h.elim)
/-- the heap's size is forgotten; the reference's cells begin -/
theorem a_z0 (kk : AW g M mc ms P X kc ns pc L S 0 A B) : AW g M mc ms P X kc ns pc L S z A B :=
  fun p l e s m args below meth c H locs ls C hH hS hl => kk p l e s m args below meth c H locs ls C ⟨hH.1, hH.2.1, trivial⟩ hS hl
theorem a_z12 (h : g.2.1 = g.1 + A.length) (kk : AW g M mc ms P X kc ns pc L S 2 A []) : AW g M mc ms P X kc ns pc L S 1 A [] :=
  fun p l e s m args below meth c H locs ls C hH hS hl => kk p l e s m args below meth c H locs ls C ⟨hH.1, hH.2.1, by
    have h1 : H.size = g.1 + A.length ∧ ([] : List va_E) = [] := hH.2.2
    show H.size = g.2.1 + 0
    omega⟩ hS hl
theorem ax_catch4 {E : String} {j : Nat} {t : Nat} (pre : List (Nat × Nat × Nat × Nat)) (x : Nat × Nat × Nat × Nat) (suf : List (Nat × Nat × Nat × Nat)) (hsp : tableOf M.2.2.2.2.2.2 = tableOf pre ++ tableOf [x] ++ tableOf suf) (hpass : ∀ y ∈ tableOf pre, y.catchType ≠ 0 ∧ ∃ nm : String, Cond.classLink M.1.cls y.catchType nm ∈ TG ∧ (E, nm) ∈ gXn) (x1 : ExceptionTableEntry) (hx1 : tableOf [x] = [x1]) (hcov : covers x1 pc = true) (h0 : x1.catchType ≠ 0) (hlk : Cond.classLink M.1.cls x1.catchType E ∈ TG) (hcast : (E, E) ∈ gNc) (ht : x1.handlerPc = t) (d : decode M.2.1 t = .ok (.astore j, 2)) (hj : j < M.2.2.1) (hk : lNk L j = true) (hq : t + 2 = q) (k : AW g M mc ms P X kc ns q (L.set j none) [] z A B) : AX g M mc ms P X kc ns pc L E z A B := by
  subst hq
  intro p l e s m args below meth c H locs ls rest q ce C hH hS hl h1 h2 h3
  have hts := C.2.2.2.2.2.2.1
  obtain ⟨-, -, -, hxn, ⟨-, -, hnc⟩, -⟩ := C.2.2.2.2.2.2.2.2.2.2
  refine vx_catch (ls := ls) C.2.2.2.2.2.1 (tableOf pre) x1 (tableOf suf) ?_ (fun y hy => ?_) hcov h0 (hts _ hlk) ((hnc _ hcast).use rfl) h1 h2 h3 ?_
  · rw [C.2.2.2.2.2.2.2.1, hsp, hx1, List.append_assoc]; rfl
  · obtain ⟨a1, nm, a2, a3⟩ := hpass y hy
    exact Or.inr ⟨a1, nm, hts _ a2, hxn _ a3⟩
  · rw [ht]
    refine lv_astore C.1 C.2.1 d hl.has hj rfl (fun ls2 hl2 => k p l e s m args below meth c H locs ls2 C hH hS ?_)
    have h9 := LR.of1 (v := .ref q) hk hl2
    refine ⟨h9.1, h9.2.1, fun i9 v9 hi9 => ?_⟩
    by_cases e9 : i9 = j
    · subst e9
      have hlt := (List.getElem?_eq_some_iff.mp hi9).1
      rw [List.length_set] at hlt
      rw [List.getElem?_set_self hlt] at hi9
      cases hi9
    · rw [List.getElem?_set_ne (Ne.symm e9)] at hi9
      refine h9.2.2 i9 v9 ?_
      rw [List.getElem?_set_ne (Ne.symm e9)]
      exact hi9
end Law0
/-- an answer laid into the cells for the answers -/
def oJ (O : Oa) (x : Int64) : Oa := (vp_updL O.1 (nI 0).toNatClampNeg x, O.2)
def oD (O : Oa) (x : UInt64) : Oa := (O.1, vf_upd O.2 (nI 0).toNatClampNeg x)
theorem oJ_at (O : Oa) (x : Int64) : (oJ O x).1 (nI 0).toNatClampNeg = x := by simp [oJ, vp_updL]
theorem oD_at (O : Oa) (x : UInt64) : (oD O x).2 (nI 0).toNatClampNeg = x := by simp [oD, vf_upd]
def bL (b : Bool) : Int64 := if b = true then 1 else 0
theorem vp_in01 : vp_in (nI 0) 1 := vp_in_nI (by decide) (by decide)
theorem nI_z {k : Nat} (h : nI k = 0) (hk : k < 3) : k = 0 := by
  have e := congrArg Int32.toInt h
  rw [nI_toInt (by omega)] at e
  have e0 : (0 : Int32).toInt = 0 := by decide
  omega
/-- what the reference's call leaves -/
def rM (g : gp_T) (r : Option Value) (A1 : List va_E) (k : Nat) (O1 : Oa) (N : Gr → Tx → Ya → Wa → Prop) : ps_T := fun v z A' B' => v = r ∧ z = 0 ∧ A' = A1 ∧ ∃ G T Y W R Z U L h, B' = BM g G T k Y W R Z U L h O1 ∧ N G T Y W
/-- what the class's call leaves -/
def rC (r : Option Value) (B1 : List va_E) (N : List va_E → Prop) : ps_T := fun v z A' B' => v = r ∧ z = 0 ∧ B' = B1 ∧ N A'
def lwP : ps_T := fun v _ _ _ => v = some (.int 1)
/-- the law goes on behind a call -/
def lwK (g : gp_T) (j kc ns : Nat) (A B : List va_E) : Prop := ∀ L6 L7 L8 : Option Value, AW g mL_law 1098 10013 lwP noX kc ns 1425 [some (.ref g.2.2.2.2.1), some (.ref (g.1 + 0)), some (.ref (g.2.1 + 0)), some (.ref (g.2.1 + 23)), some (.ref (g.2.1 + 24)), some (.int (nI (3 * j))), L6, L7, L8] [] 0 A B

