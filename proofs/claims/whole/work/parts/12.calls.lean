/-! ===== fields, making, calls, throws, over AW ===== -/
def cF (ci : Nat) (C : String) (T : u_T) (N : Nat) : Prop := vwCl[ci]? = some (C, T, N) ∧ (∀ w ∈ u_ws C T N, w ∈ TG) ∧ (∃ ty0 : Nat → FieldType, ∀ k, k < N → parseFieldDescriptor (T k).2.2.1 = some (ty0 k)) ∧ (∀ a, a < N → ∀ b, b < N → a ≠ b → (T a).2.1 ≠ (T b).2.1)
/-- a field by its link: class and place, final, type -/
def fW (own : String) (index ci k : Nat) (fin : Bool) (ty : FieldType) : Prop := ∃ (C : String) (T : u_T) (N : Nat), cF ci C T N ∧ k < N ∧ Cond.fieldLink own index (T k).1 (T k).2.1 (T k).2.2.1 ∈ TG ∧ (T k).2.2.2 = fin ∧ parseFieldDescriptor (T k).2.2.1 = some ty
/-- a method by its link -/
def cB (own : String) (index : Nat) (y : md_T) (n : Nat) : Prop := gWord y = .code y.1 y.2.1 y.2.2.1 y.2.2.2.1 ∧ (∀ w ∈ ([.methodLink own index y.1, gWord y, .initialized y.1.cls] : List Cond), w ∈ TG) ∧ (y.1.cls ≠ "java/lang/invoke/MethodHandle" ∧ y.1.cls ≠ "java/lang/invoke/VarHandle" ∧ (parseMethodDescriptor y.1.desc).map (fun d => d.parameters.length) = some n)
def cVw (own : String) (index ci : Nat) (y : md_T) (n : Nat) : Prop := cB own index y n ∧ (∀ w ∈ ([.instanceMethod y.1, .selects y.1.cls y.1 y.1] : List Cond), w ∈ TG) ∧ ∃ (C : String) (T : u_T) (N : Nat), vwCl[ci]? = some (C, T, N) ∧ y.1.cls = C
def cSw (own : String) (index : Nat) (y : md_T) (n : Nat) : Prop := cB own index y n ∧ Cond.static y.1 ∈ TG
def cIw (own : String) (index : Nat) (y : md_T) (n : Nat) : Prop := cB own index y n ∧ Cond.instanceMethod y.1 ∈ TG ∧ y.1.name = "<init>" ∧ y.2.2.2.1 = none
def cNw (own : String) (index : Nat) (y : md_T) (n : Nat) (host : String) : Prop := gWord y = .code y.1 y.2.1 y.2.2.1 y.2.2.2.1 ∧ (own, index, y.1, host) ∈ gNm ∧ (∀ w ∈ ([gWord y, .initialized y.1.cls, .instanceMethod y.1] : List Cond), w ∈ TG) ∧ (y.1.cls ≠ "java/lang/invoke/MethodHandle" ∧ y.1.cls ≠ "java/lang/invoke/VarHandle" ∧ (parseMethodDescriptor y.1.desc).map (fun d => d.parameters.length) = some n) ∧ y.1.name = "<init>" ∧ y.2.2.2.1 = none
/-- a static method with handlers, by its link -/
def cHw (own : String) (index : Nat) (y : md_T) (n : Nat) : Prop := gWord y = .codeWith y.1 y.2.1 y.2.2.1 y.2.2.2.1 y.2.2.2.2.2.2 ∧ (∀ w ∈ ([.methodLink own index y.1, .static y.1, .initialized y.1.cls, gWord y] : List Cond), w ∈ TG) ∧ (y.1.cls ≠ "java/lang/invoke/MethodHandle" ∧ y.1.cls ≠ "java/lang/invoke/VarHandle" ∧ (parseMethodDescriptor y.1.desc).map (fun d => d.parameters.length) = some n)
def gNg : List Cond := gNd.map Cond.declares ++ gNc.map (fun q => Cond.castable q.1 q.2)
abbrev xNm : List String := ["java/lang/RuntimeException", "java/lang/Exception"]
def tW (own : String) (ik is ic : Nat) (cls text : String) : Prop := Cond.classLink own ik cls ∈ TG ∧ Cond.initialized cls ∈ TG ∧ (own, is, text) ∈ gSt ∧ Bundle.fit cls = true ∧ (∀ w ∈ (vx_atS own ic cls xNm).filter goodWord, w ∈ TG) ∧ (∀ w ∈ (vx_atS own ic cls xNm).filter (fun w => !goodWord w), w ∈ gNg) ∧ (∀ w ∈ Cond.classLink own ik cls :: Cond.initialized cls :: vx_atS own ic cls xNm, vx_ot w = true)
theorem tg_ws {y : md_T} (h : gWord y ∈ TG) : GoodIn TG (gWord y :: TG) := tg_sub (fun w hw => by
  rcases List.mem_cons.mp hw with e | e
  · rw [e]; exact h
  · exact e)
section Fields
variable {g : gp_T} {M : md_T} {mc ms : Nat} {P : ps_T} {X : xs_T} {kc ns pc q : Nat} {L : List (Option Value)} {S : List Value} {z : Nat} {A B : List va_E}
theorem a_getA {index ci k j : Nat} {fin : Bool} {ty : FieldType} {fs : List Value} {v : Value} (d : decode M.2.1 pc = .ok (.getfield index, 3)) (fw : fW M.1.cls index ci k fin ty) (hA : A[j]? = some (.inr (ci, fs))) (hv : fs[k]? = some v) (hq : pc + 3 = q) (kk : AW g M mc ms P X kc ns q L (v :: S) z A B) : AW g M mc ms P X kc ns pc L (.ref (g.1 + j) :: S) z A B := by
  subst hq
  intro p l e s m args below meth c H locs ls C hH hS hl
  obtain ⟨C0, T, N, hc, hk, hlk, -, -⟩ := fw
  exact va_get C.1 C.2.1 C.2.2.2.2.2.2.1 hc.2.1 C.2.2.2.2.2.1 C.2.2.2.2.2.2.2.2.2.2.1 hH.1 _ (gW_a hA) hc.1 k hk (C.2.2.2.2.2.2.1 _ hlk) (fun _ h => h) hv d (kk p l e s m args below meth c H locs ls C hH hS hl)
theorem a_getB {index ci k j : Nat} {fin : Bool} {ty : FieldType} {fs : List Value} {v : Value} (d : decode M.2.1 pc = .ok (.getfield index, 3)) (fw : fW M.1.cls index ci k fin ty) (hA : B[j]? = some (.inr (ci, fs))) (hv : fs[k]? = some v) (hq : pc + 3 = q) (kk : AW g M mc ms P X kc ns q L (v :: S) z A B) : AW g M mc ms P X kc ns pc L (.ref (g.2.1 + j) :: S) z A B := by
  subst hq
  intro p l e s m args below meth c H locs ls C hH hS hl
  obtain ⟨C0, T, N, hc, hk, hlk, -, -⟩ := fw
  exact va_get C.1 C.2.1 C.2.2.2.2.2.2.1 hc.2.1 C.2.2.2.2.2.1 C.2.2.2.2.2.2.2.2.2.2.1 hH.1 _ (gW_b hA) hc.1 k hk (C.2.2.2.2.2.2.1 _ hlk) (fun _ h => h) hv d (kk p l e s m args below meth c H locs ls C hH hS hl)
/-- a field is written: the heap's size stays -/
theorem a_put0 {index ci k q0 a : Nat} {fin : Bool} {ty : FieldType} {ws : va_W} {fs : List Value} {v : Value} {p : Program} {l : Launch} {e : Env} {s : State} {m : MethodId} {args : Array Value} {below : List Frame} {meth : Method} {c : Code} {H : Heap} {locs : List Loc} {ls : Array Slot} {R : Room} {Q : State → Prop} (C : gCx g M p l s m args meth c) (hP : va_P g.2.2.2.1 vwCl ws H) (hD : va_D (gFr g) ws) (hS0 : va_S (gFr g) s.heap H locs) (d : decode M.2.1 pc = .ok (.putfield index, 3)) (fw : fW M.1.cls index ci k fin ty) (hm : fin = true → M.1.name = "<init>" ∧ (vwCl[ci]?).any (fun q => decide ((q.2.1 k).1 = M.1.cls)) = true) (he : ws[q0]? = some (a, .inr (ci, fs))) (hl : k < fs.length) (hn : narrow ty v = v) (hft : fits ty v = true)
    (kk : ∀ (H1 : Heap) (locs1 : List Loc), va_P g.2.2.2.1 vwCl (ws.set q0 (a, .inr (ci, fs.set k v))) H1 → va_D (gFr g) (ws.set q0 (a, .inr (ci, fs.set k v))) → va_S (gFr g) s.heap H1 locs1 → H1.size = H.size → W p l e R s m args below meth c H1 locs1 kc ns Q (F0 m (pc + 3) ls S)) : W p l e R s m args below meth c H locs kc ns Q (F0 m pc ls (v :: .ref a :: S)) := by
  obtain ⟨C0, T, N, ⟨hc, hin, ⟨ty0, hty⟩, hnm⟩, hk, hlk, hfn, hd⟩ := fw
  have hts := C.2.2.2.2.2.2.1
  have hK := C.2.2.2.2.2.2.2.2.2.2.1
  have hap := va_apart (own := M.1.cls) hts hin ty0 hty hnm hK hc
  obtain ⟨r, h1, cell, q1, q2, q3, q4⟩ := hP q0 _ he
  have hr : r = (C0, T, N) := Option.some.inj (h1.symm.trans hc)
  subst hr
  obtain ⟨hSl, hfc, kC, hkC, hkind⟩ := hK.1 ci _ hc
  obtain ⟨cf, kf, fi, f, hi, hsl⟩ := hSl k hk
  have hlay := hts _ (hin _ (u_in_lay hk))
  unfold u_lay at hlay
  have hst := (u_facts hfc hkC (u_lays hts hin hk) hi).1
  cases fin with
  | false =>
    rw [if_neg (by rw [hfn]; decide)] at hlay
    have h6 := u_store hfc hkC hkind hlay hi hd hn hft
    refine W.putK C.1 C.2.1 (f := f) ⟨C.2.2.2.2.2.1, hts _ hlk, ⟨_, _, _, hi⟩, hst⟩ (by rw [q2]; exact h6) q1 q3 (by rw [hsl]; exact k2_hasslot (q4 k hk)) rfl rfl d fun H' e1 e2 e3 => ?_
    rw [hsl] at e1 ⊢
    exact kk H' _ (hP.set hD he ⟨_, hc, t_OB.to (V := updV (vp_V fs) k v) ⟨_, e1, q2, q3, t_set q4 hap hk v⟩ (fun j _ => vp_updV_set hl v j)⟩ e3) (hD.set he) (hS0.put e2 e3 (hD.2 q0 _ he)) e2
  | true =>
    rw [if_pos hfn] at hlay
    have hdecl : (T k).1 = M.1.cls := by
      have h9 := (hm rfl).2
      rw [hc] at h9
      exact of_decide_eq_true h9
    have hcf : m.cls = cf := by
      obtain ⟨_, _, c', _, _, _, -, -, hf', -, -, -, hown2, -⟩ := Cond.laysFinal_spec hlay
      have e1 : c' = cf := by have := hi.symm.trans hf'; simp at this; exact this.1.symm
      rw [hdecl] at hown2
      rw [← e1]; exact Option.some.inj (C.2.2.2.2.2.1.symm.trans hown2)
    have h6 := u_fits hfc hkC hkind (Or.inr hlay) hi hd hn hft
    refine W.putFinK C.1 C.2.1 C.2.2.2.2.2.1 (hts _ hlk) hi hst hcf (C.2.2.2.2.2.2.2.2.1.trans (hm rfl).1) (by rw [q2]; exact h6) q1 q3 (by rw [hsl]; exact k2_hasslot (q4 k hk)) rfl rfl d fun H' e1 e2 e3 => ?_
    rw [hsl] at e1 ⊢
    exact kk H' _ (hP.set hD he ⟨_, hc, t_OB.to (V := updV (vp_V fs) k v) ⟨_, e1, q2, q3, t_set q4 hap hk v⟩ (fun j _ => vp_updV_set hl v j)⟩ e3) (hD.set he) (hS0.put e2 e3 (hD.2 q0 _ he)) e2
theorem gSz.setA {A' : List va_E} {H H1 : Heap} (h : gSz g z A B H) (hs : H1.size = H.size) (hl : A'.length = A.length) : gSz g z A' B H1 := by
  unfold gSz at *
  split at h
  · trivial
  · rw [hs, hl]; exact h
  · rw [hs]; exact h
theorem gSz.setB {B' : List va_E} {H H1 : Heap} (h : gSz g z A B H) (hs : H1.size = H.size) (hl : B'.length = B.length) : gSz g z A B' H1 := by
  unfold gSz at *
  split at h
  · trivial
  · rw [hs]
    refine ⟨h.1, ?_⟩
    rw [h.2] at hl
    exact List.length_eq_zero_iff.mp hl
  · rw [hs, hl]; exact h
theorem a_putA {index ci k j : Nat} {fin : Bool} {ty : FieldType} {fs : List Value} {v : Value} (d : decode M.2.1 pc = .ok (.putfield index, 3)) (fw : fW M.1.cls index ci k fin ty) (hm : fin = true → M.1.name = "<init>" ∧ (vwCl[ci]?).any (fun q => decide ((q.2.1 k).1 = M.1.cls)) = true) (hA : A[j]? = some (.inr (ci, fs))) (hl : k < fs.length) (hn : narrow ty v = v) (hft : fits ty v = true) (hq : pc + 3 = q) (kk : AW g M mc ms P X kc ns q L S z (A.set j (.inr (ci, fs.set k v))) B) : AW g M mc ms P X kc ns pc L (v :: .ref (g.1 + j) :: S) z A B := by
  subst hq
  intro p l e s m args below meth c H locs ls C hH hS hls
  refine a_put0 C hH.1 hH.2.1 hS d fw hm (gW_a hA) hl hn hft (fun H1 locs1 hP hD hS1 hsz => ?_)
  rw [gW_sa hA] at hP hD
  exact kk p l e s m args below meth c H1 locs1 ls C ⟨hP, hD, hH.2.2.setA hsz (List.length_set ..)⟩ hS1 hls
theorem a_putB {index ci k j : Nat} {fin : Bool} {ty : FieldType} {fs : List Value} {v : Value} (d : decode M.2.1 pc = .ok (.putfield index, 3)) (fw : fW M.1.cls index ci k fin ty) (hm : fin = true → M.1.name = "<init>" ∧ (vwCl[ci]?).any (fun q => decide ((q.2.1 k).1 = M.1.cls)) = true) (hA : B[j]? = some (.inr (ci, fs))) (hl : k < fs.length) (hn : narrow ty v = v) (hft : fits ty v = true) (hq : pc + 3 = q) (kk : AW g M mc ms P X kc ns q L S z A (B.set j (.inr (ci, fs.set k v)))) : AW g M mc ms P X kc ns pc L (v :: .ref (g.2.1 + j) :: S) z A B := by
  subst hq
  intro p l e s m args below meth c H locs ls C hH hS hls
  refine a_put0 C hH.1 hH.2.1 hS d fw hm (gW_b hA) hl hn hft (fun H1 locs1 hP hD hS1 hsz => ?_)
  rw [gW_sb] at hP hD
  exact kk p l e s m args below meth c H1 locs1 ls C ⟨hP, hD, hH.2.2.setB hsz (List.length_set ..)⟩ hS1 hls
end Fields
section Makes
variable {g : gp_T} {M : md_T} {mc ms : Nat} {P : ps_T} {X : xs_T} {kc ns pc q : Nat} {L : List (Option Value)} {S : List Value} {A B : List va_E}
theorem a_newa0 {atype : ArrayType} {ty : FieldType} {t0 N : Nat} {n : Int32} {a0 : vp_A} {ws : va_W} {p : Program} {l : Launch} {e : Env} {s : State} {m : MethodId} {args : Array Value} {below : List Frame} {meth : Method} {c : Code} {H : Heap} {locs : List Loc} {ls : Array Slot} {R : Room} {Q : State → Prop} (C : gCx g M p l s m args meth c) (hP : va_P g.2.2.2.1 vwCl ws H) (hD : va_D (gFr g) ws) (hS : va_S (gFr g) s.heap H locs) (d : decode M.2.1 pc = .ok (.newarray atype, 2)) (hw : Cond.arrayClass ty ∈ TG) (hty : newarray.typeOf atype = ty) (hpl : ∀ C, ty ≠ .object C) (ht : (gTy g)[t0]? = some (g.2.2.1 t0, ty)) (ha : ∀ cA : ClassId, vp_cell cA a0 = arrV cA N (fun _ => defaultValue ty)) (hn : ¬ n < 0) (hN : n.toNatClampNeg = N) (hbytes : N * componentBytes ty ≤ 536870912) (hc : kc + 1 ≤ R.cells) (hs : ns + N ≤ R.slots) {b : Nat} (hb : H.size = b)
    (kk : ∀ H1 : Heap, va_P g.2.2.2.1 vwCl (ws ++ [(b, .inl (g.2.2.1 t0, a0))]) H1 → va_D (gFr g) (ws ++ [(b, .inl (g.2.2.1 t0, a0))]) → va_S (gFr g) s.heap H1 locs → H1.size = b + 1 → W p l e R s m args below meth c H1 locs (kc + 1) (ns + N) Q (F0 m (pc + 2) ls (.ref b :: S))) : W p l e R s m args below meth c H locs kc ns Q (F0 m pc ls (.int n :: S)) := by
  subst hty
  subst hb
  have hA : ∀ q, s.heap.size ≤ q → gFr g q := fun q h => Nat.le_trans C.2.2.2.2.2.2.2.2.2.2.2.2.2.2.2.2.2 h
  refine va_newaK C.1 C.2.1 (C.2.2.2.2.2.2.1 _ hw) rfl d rfl hn hN hbytes hc hs rfl fun H1 cA e1 z1 o1 hAr hNm => ?_
  have hcA : cA = g.2.2.1 t0 := by
    have h2 := (C.2.2.2.2.2.2.2.2.2.2.1.2 t0 _ ht).2
    have h3 : s.vm.findClass ("[" ++ (newarray.typeOf atype).toString) = some (g.2.2.1 t0) := by
      cases atype <;> exact h2
    exact Option.some.inj (hNm.symm.trans h3)
  subst hcA
  have hk : ∀ (k : Nat) (x : Nat × va_E), ws[k]? = some x → H1[x.1]? = H[x.1]? := fun k x hx => o1 x.1 ((hP k x hx).lt)
  refine kk H1 ((hP.kept hk).app (fun k x hx => ?_)) (hD.push hP rfl (hA _ hS.1)) ⟨Nat.le_trans hS.1 (by omega), fun x h1 h2 => (o1 x (Nat.lt_of_lt_of_le h1 hS.1)).trans (hS.2.1 x h1 h2), hS.2.2⟩ z1
  have hz : k < 1 := (List.getElem?_eq_some_iff.mp hx).1
  rw [show k = 0 by omega] at hx
  cases hx
  show H1[H.size]? = some (vp_cell _ _)
  rw [ha]
  exact e1
theorem a_newaA {atype : ArrayType} {ty : FieldType} {t0 N : Nat} {n : Int32} (a0 : vp_A) (d : decode M.2.1 pc = .ok (.newarray atype, 2)) (hw : Cond.arrayClass ty ∈ TG) (hty : newarray.typeOf atype = ty) (hpl : ∀ C, ty ≠ .object C) (ht : (gTy g)[t0]? = some (g.2.2.1 t0, ty)) (ha : ∀ cA : ClassId, vp_cell cA a0 = arrV cA N (fun _ => defaultValue ty)) (hn : ¬ n < 0) (hN : n.toNatClampNeg = N) (hbytes : N * componentBytes ty ≤ 536870912) (hc : kc + 1 ≤ mc) (hs : ns + N ≤ ms) (hq : pc + 2 = q) (k : AW g M mc ms P X (kc + 1) (ns + N) q L (.ref (g.1 + A.length) :: S) 1 (A ++ [.inl (g.2.2.1 t0, a0)]) []) : AW g M mc ms P X kc ns pc L (.int n :: S) 1 A [] := by
  subst hq
  intro p l e s m args below meth c H locs ls C hH hS hl
  have hsz : H.size = g.1 + A.length := hH.2.2.1
  refine a_newa0 C hH.1 hH.2.1 hS d hw hty hpl ht ha hn hN hbytes hc hs hsz (fun H1 hP hD hS1 hz => ?_)
  rw [← gW_pa] at hP hD
  exact k p l e s m args below meth c H1 locs ls C ⟨hP, hD, ⟨by rw [hz, List.length_append]; rfl, rfl⟩⟩ hS1 hl
theorem a_newaB {atype : ArrayType} {ty : FieldType} {t0 N : Nat} {n : Int32} (a0 : vp_A) (d : decode M.2.1 pc = .ok (.newarray atype, 2)) (hw : Cond.arrayClass ty ∈ TG) (hty : newarray.typeOf atype = ty) (hpl : ∀ C, ty ≠ .object C) (ht : (gTy g)[t0]? = some (g.2.2.1 t0, ty)) (ha : ∀ cA : ClassId, vp_cell cA a0 = arrV cA N (fun _ => defaultValue ty)) (hn : ¬ n < 0) (hN : n.toNatClampNeg = N) (hbytes : N * componentBytes ty ≤ 536870912) (hc : kc + 1 ≤ mc) (hs : ns + N ≤ ms) (hq : pc + 2 = q) (k : AW g M mc ms P X (kc + 1) (ns + N) q L (.ref (g.2.1 + B.length) :: S) 2 A (B ++ [.inl (g.2.2.1 t0, a0)])) : AW g M mc ms P X kc ns pc L (.int n :: S) 2 A B := by
  subst hq
  intro p l e s m args below meth c H locs ls C hH hS hl
  have hsz : H.size = g.2.1 + B.length := hH.2.2
  refine a_newa0 C hH.1 hH.2.1 hS d hw hty hpl ht ha hn hN hbytes hc hs hsz (fun H1 hP hD hS1 hz => ?_)
  rw [← gW_pb] at hP hD
  refine k p l e s m args below meth c H1 locs ls C ⟨hP, hD, ?_⟩ hS1 hl
  show H1.size = g.2.1 + (B ++ [_]).length
  rw [hz, List.length_append]; rfl
def nW (own : String) (index ci : Nat) (N : Nat) (fs : List Value) : Prop := ∃ (C : String) (T : u_T) (ty : Nat → FieldType), cF ci C T N ∧ (∀ k, k < N → parseFieldDescriptor (T k).2.2.1 = some (ty k)) ∧ (∀ j, j < N → defaultValue (ty j) = vp_V fs j) ∧ (∀ w ∈ ([.classLink own index C, .instantiable C N, .initialized C] : List Cond), w ∈ TG)
theorem a_new0 {index ci N : Nat} {fs : List Value} {ws : va_W} {p : Program} {l : Launch} {e : Env} {s : State} {m : MethodId} {args : Array Value} {below : List Frame} {meth : Method} {c : Code} {H : Heap} {locs : List Loc} {ls : Array Slot} {R : Room} {Q : State → Prop} (C : gCx g M p l s m args meth c) (hP : va_P g.2.2.2.1 vwCl ws H) (hD : va_D (gFr g) ws) (hS : va_S (gFr g) s.heap H locs) (d : decode M.2.1 pc = .ok (.new index, 3)) (nw : nW M.1.cls index ci N fs) (hcl : kc + 1 ≤ R.cells) (hs : ns + N ≤ R.slots) {b : Nat} (hb : H.size = b)
    (kk : ∀ H1 : Heap, va_P g.2.2.2.1 vwCl (ws ++ [(b, .inr (ci, fs))]) H1 → va_D (gFr g) (ws ++ [(b, .inr (ci, fs))]) → va_S (gFr g) s.heap H1 locs → H1.size = b + 1 → W p l e R s m args below meth c H1 locs (kc + 1) (ns + N) Q (F0 m (pc + 3) ls (.ref b :: S))) : W p l e R s m args below meth c H locs kc ns Q (F0 m pc ls S) := by
  subst hb
  obtain ⟨C0, T, ty, ⟨hc, hin, -, -⟩, hty, hfs, hwd⟩ := nw
  have hts := C.2.2.2.2.2.2.1
  have hA : ∀ q, s.heap.size ≤ q → gFr g q := fun q h => Nat.le_trans C.2.2.2.2.2.2.2.2.2.2.2.2.2.2.2.2.2 h
  have hKn := C.2.2.2.2.2.2.2.2.2.2.1.1 ci _ hc
  refine W.newcK C.1 C.2.1 C.2.2.2.2.2.1 (hts _ (hwd _ (by simp))) (hts _ (hwd _ (by simp))) (hts _ (hwd _ (by simp))) rfl d hcl hs hKn.2.1 rfl fun H1 kC hkC e1 z1 o1 => ?_
  have hk : ∀ (k : Nat) (x : Nat × va_E), ws[k]? = some x → H1[x.1]? = H[x.1]? := fun k x hx => o1 x.1 ((hP k x hx).lt)
  refine kk H1 ((hP.kept hk).app (fun k x hx => ?_)) (hD.push hP rfl (hA _ hS.1)) ⟨Nat.le_trans hS.1 (by omega), fun x h1 h2 => (o1 x (Nat.lt_of_lt_of_le h1 hS.1)).trans (hS.2.1 x h1 h2), hS.2.2⟩ z1
  have hz : k < 1 := (List.getElem?_eq_some_iff.mp hx).1
  rw [show k = 0 by omega] at hx
  cases hx
  exact ⟨_, hc, (u_born ty hts hin hKn hkC e1 hty).to hfs⟩
theorem a_newA {index ci N : Nat} (fs : List Value) (d : decode M.2.1 pc = .ok (.new index, 3)) (nw : nW M.1.cls index ci N fs) (hc : kc + 1 ≤ mc) (hs : ns + N ≤ ms) (hq : pc + 3 = q) (k : AW g M mc ms P X (kc + 1) (ns + N) q L (.ref (g.1 + A.length) :: S) 1 (A ++ [.inr (ci, fs)]) []) : AW g M mc ms P X kc ns pc L S 1 A [] := by
  subst hq
  intro p l e s m args below meth c H locs ls C hH hS hl
  have hsz : H.size = g.1 + A.length := hH.2.2.1
  refine a_new0 C hH.1 hH.2.1 hS d nw hc hs hsz (fun H1 hP hD hS1 hz => ?_)
  rw [← gW_pa] at hP hD
  exact k p l e s m args below meth c H1 locs ls C ⟨hP, hD, ⟨by rw [hz, List.length_append]; rfl, rfl⟩⟩ hS1 hl
theorem a_newB {index ci N : Nat} (fs : List Value) (d : decode M.2.1 pc = .ok (.new index, 3)) (nw : nW M.1.cls index ci N fs) (hc : kc + 1 ≤ mc) (hs : ns + N ≤ ms) (hq : pc + 3 = q) (k : AW g M mc ms P X (kc + 1) (ns + N) q L (.ref (g.2.1 + B.length) :: S) 2 A (B ++ [.inr (ci, fs)])) : AW g M mc ms P X kc ns pc L S 2 A B := by
  subst hq
  intro p l e s m args below meth c H locs ls C hH hS hl
  have hsz : H.size = g.2.1 + B.length := hH.2.2
  refine a_new0 C hH.1 hH.2.1 hS d nw hc hs hsz (fun H1 hP hD hS1 hz => ?_)
  rw [← gW_pb] at hP hD
  refine k p l e s m args below meth c H1 locs ls C ⟨hP, hD, ?_⟩ hS1 hl
  show H1.size = g.2.1 + (B ++ [_]).length
  rw [hz, List.length_append]; rfl
end Makes
