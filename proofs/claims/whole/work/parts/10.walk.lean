/-! ===== the walk's own words: a method's state as lists, the law's world as two rows of cells ===== -/
/-- b0, b1 (where the class's and the reference's cells begin), array classes by kind, the tables' numbers, the script: its cell, length, ints -/
abbrev gp_T : Type := Nat × Nat × (Nat → ClassId) × va_G × Nat × Nat × (Nat → Int32)
/-- a method: name, code, locals, return type, frames and locals' words that it needs below it, handlers -/
abbrev md_T : Type := MethodName × ByteArray × Nat × Option FieldType × Nat × Nat × List (Nat × Nat × Nat × Nat)
abbrev ps_T : Type := Option Value → Nat → List va_E → List va_E → Prop
abbrev xs_T : Type := String → Nat → List va_E → List va_E → Prop
def TG : List Cond := lw_tbl.filter goodWord
theorem tg_mem (i : Nat) {w : Cond} (h : lw_tbl[i]? = some w) (hg : goodWord w = true) : w ∈ TG := List.mem_filter.mpr ⟨List.mem_of_getElem? h, hg⟩
theorem tg_good : GoodIn TG TG := fun w h => ⟨h, good_of_word (List.mem_filter.mp h).2⟩
theorem tg_sub {ws : List Cond} (h : ∀ w ∈ ws, w ∈ TG) : GoodIn TG ws := fun w hw => ⟨h w hw, good_of_word (List.mem_filter.mp (h w hw)).2⟩
def gFr (g : gp_T) : Nat → Prop := fun q => g.1 ≤ q
abbrev gTy (g : gp_T) : List (ClassId × FieldType) := [(g.2.2.1 0, .int), (g.2.2.1 1, .boolean), (g.2.2.1 2, .long), (g.2.2.1 3, .double)]
abbrev aI (g : gp_T) (n : Nat) (f : Nat → Int32) : va_E := .inl (g.2.2.1 0, n, .inl f)
abbrev aZ (g : gp_T) (n : Nat) (f : Nat → Int32) : va_E := .inl (g.2.2.1 1, n, .inl f)
abbrev aJ (g : gp_T) (n : Nat) (f : Nat → Int64) : va_E := .inl (g.2.2.1 2, n, .inr (.inl f))
abbrev aD (g : gp_T) (n : Nat) (f : Nat → UInt64) : va_E := .inl (g.2.2.1 3, n, .inr (.inr (.inr (.inl f))))
abbrev oB (ci : Nat) (fs : List Value) : va_E := .inr (ci, fs)
def gW (g : gp_T) (A B : List va_E) : va_W := A.mapIdx (fun i c => (g.1 + i, c)) ++ B.mapIdx (fun i c => (g.2.1 + i, c))
def gSz (g : gp_T) (z : Nat) (A B : List va_E) (H : Heap) : Prop := match z with
  | 0 => True
  | 1 => H.size = g.1 + A.length ∧ B = []
  | _ => H.size = g.2.1 + B.length
def gHp (g : gp_T) (z : Nat) (A B : List va_E) (H : Heap) : Prop := va_P g.2.2.2.1 vwCl (gW g A B) H ∧ va_D (gFr g) (gW g A B) ∧ gSz g z A B H
theorem gW_a {g : gp_T} {A B : List va_E} {k : Nat} {c : va_E} (h : A[k]? = some c) : (gW g A B)[k]? = some (g.1 + k, c) := by
  have hk := (List.getElem?_eq_some_iff.mp h).1
  unfold gW
  rw [List.getElem?_append_left (by rw [List.length_mapIdx]; exact hk), List.getElem?_mapIdx, h]
  rfl
theorem gW_b {g : gp_T} {A B : List va_E} {k : Nat} {c : va_E} (h : B[k]? = some c) : (gW g A B)[A.length + k]? = some (g.2.1 + k, c) := by
  unfold gW
  rw [List.getElem?_append_right (by rw [List.length_mapIdx]; omega), List.length_mapIdx, Nat.add_sub_cancel_left, List.getElem?_mapIdx, h]
  rfl
theorem gW_sa {g : gp_T} {A B : List va_E} {k : Nat} {c c' : va_E} (h : A[k]? = some c) : (gW g A B).set k (g.1 + k, c') = gW g (A.set k c') B := by
  have hk := (List.getElem?_eq_some_iff.mp h).1
  unfold gW
  rw [List.set_append_left _ _ (by rw [List.length_mapIdx]; exact hk), List.mapIdx_set]
theorem gW_sb {g : gp_T} {A B : List va_E} {k : Nat} {c' : va_E} : (gW g A B).set (A.length + k) (g.2.1 + k, c') = gW g A (B.set k c') := by
  unfold gW
  rw [List.set_append_right _ _ (by rw [List.length_mapIdx]; omega), List.length_mapIdx, Nat.add_sub_cancel_left, List.mapIdx_set]
theorem gW_pa {g : gp_T} {A : List va_E} {c : va_E} : gW g (A ++ [c]) [] = gW g A [] ++ [(g.1 + A.length, c)] := by
  unfold gW
  simp [List.mapIdx_append]
theorem gW_pb {g : gp_T} {A B : List va_E} {c : va_E} : gW g A (B ++ [c]) = gW g A B ++ [(g.2.1 + B.length, c)] := by
  unfold gW
  simp [List.mapIdx_append]
/-- texts, casts that fail, links within the nest, constructors that are declared, casts that hold -/
def gSt : List (String × Nat × String) := [("PathProfiler", 77, "a graph has 2 to 12 nodes"), ("PathProfiler", 93, "the graph allows no such edge"), ("PathProfiler", 101, "there are 24 edges"), ("PathProfiler", 292, "there is no such edge"), ("PathProfiler", 111, "a weight is 0 to 99"), ("PathProfiler", 121, "a character code is 32 to 126"), ("PathProfiler", 124, "the buffer has 60 characters"), ("PathProfiler", 139, "the buffer is not a graph"), ("PathProfiler", 282, "there is no analysis"), ("PathProfiler", 173, "there is no such node"), ("PathProfiler", 294, "there is no such path"), ("PathProfiler", 208, "the path has no such node"), ("PathProfiler", 287, "there is no analysis, or more than 200 paths"), ("PathProfiler", 235, "there is no walk, or it is over"), ("PathProfiler", 240, "the node has no such edge")]
abbrev xIA : String := "java/lang/IllegalArgumentException"
abbrev xIS : String := "java/lang/IllegalStateException"
abbrev xIB : String := "java/lang/IndexOutOfBoundsException"
def gXn : List (String × String) := [(xIA, xIS), (xIA, xIB), (xIS, xIA), (xIS, xIB), (xIB, xIA), (xIB, xIS)]
def gNm : List (String × Nat × MethodName × String) := [("PathProfiler", 11, yX0_init, "PathProfiler"), ("PathProfiler", 18, yX5_init, "PathProfiler"), ("PathProfiler", 25, yX3_init, "PathProfiler"), ("PathProfiler$Reader", 11, yX0_init, "PathProfiler"), ("PathProfiler", 66, yX7_init, "PathProfiler")]
def gNd : List MethodName := [⟨"java/lang/RuntimeException", "<init>", "()V"⟩, ⟨"java/lang/RuntimeException", "<init>", "(Ljava/lang/String;)V"⟩, ⟨"java/lang/Exception", "<init>", "()V"⟩, ⟨"java/lang/Exception", "<init>", "(Ljava/lang/String;)V"⟩, ⟨"java/lang/Throwable", "<init>", "()V"⟩, ⟨"java/lang/Throwable", "<init>", "(Ljava/lang/String;)V"⟩]
def gNc : List (String × String) := [(xIA, xIA), (xIS, xIS), (xIB, xIB)]
def gKt (g : gp_T) (U : State) : Prop :=
  va_K g.2.2.2.1 vwCl (gTy g) U ∧
  (vx_Zq Bundle.tN "UNASSIGNED_STACK" Bundle.steD (gFr g) U U.heap ∧ vx_Zq Bundle.tN "SUPPRESSED_SENTINEL" Bundle.listD (gFr g) U U.heap) ∧
  (∀ q ∈ gSt, ∃ a, vk_R q.1 q.2.1 q.2.2 a U) ∧ (∀ q ∈ gXn, va_Nc q.1 q.2 U) ∧
  ((∀ q ∈ gNm, va_Nw (.methodLinkNest q.1 q.2.1 q.2.2.1 q.2.2.2) U) ∧ (∀ x ∈ gNd, va_Nw (.declares x) U) ∧ (∀ q ∈ gNc, va_Nw (.castable q.1 q.2) U)) ∧
  va_X g.2.2.2.2.1 g.2.2.2.2.2.1 g.2.2.2.2.2.2 U U.heap ∧ g.2.2.2.2.1 < g.1 ∧ g.1 ≤ U.heap.size
theorem gKt.warm {g : gp_T} {s U : State} (h : gKt g s) (hW : s.WarmedH U.vm) (hs : s.heap.size ≤ U.heap.size) (hk : ∀ q : Nat, q < s.heap.size → ¬ gFr g q → U.heap[q]? = s.heap[q]?) : gKt g U := by
  obtain ⟨h1, ⟨h2, h3⟩, h4, h5, ⟨h6, h7, h8⟩, h9, h10, h11⟩ := h
  refine ⟨h1.moved hW.alike, ⟨(h2.moved hW.alike).kept hk, (h3.moved hW.alike).kept hk⟩, fun q hq => ?_, fun q hq => (h5 q hq).moved hW.alike, ⟨fun q hq => (h6 q hq).warmM hW, fun x hx => (h7 x hx).warmD hW, fun q hq => (h8 q hq).warmC hW⟩, (h9.moved hW.alike).kept (hk _ (by omega) (fun h => ?_)), h10, by omega⟩
  · obtain ⟨a, ha⟩ := h4 q hq
    exact ⟨a, ha.warm hW⟩
  · have h12 : g.1 ≤ g.2.2.2.2.1 := h
    omega
def gWd (g : gp_T) (z : Nat) (A B : List va_E) (U : State) : Prop := gHp g z A B U.heap ∧ gKt g U
def gQc (g : gp_T) (P : ps_T) : Array Value → State → Outcome → State → Prop := fun _ st o t => (∃ (v : Option Value) (z : Nat) (A B : List va_E), o = .returned v ∧ P v z A B ∧ gHp g z A B t.heap) ∧ va_F (gFr g) st t
def gXC (g : gp_T) (X : xs_T) : String → State → State → Prop := fun E st t => (∃ (z : Nat) (A B : List va_E), X E z A B ∧ gHp g z A B t.heap) ∧ va_F (gFr g) st t
def gRm (M : md_T) (mc ms : Nat) : Room := { frames := M.2.2.2.2.1, cells := mc, slots := ms, locals := M.2.2.2.2.2.1 }
def gWord (M : md_T) : Cond := match M.2.2.2.2.2.2 with
  | [] => .code M.1 M.2.1 M.2.2.1 M.2.2.2.1
  | _ => .codeWith M.1 M.2.1 M.2.2.1 M.2.2.2.1 M.2.2.2.2.2.2
/-- a method's contract: from these arguments and cells it returns with P, or throws with X -/
def Ct (g : gp_T) (M : md_T) (args : List Value) (z : Nat) (A B : List va_E) (mc ms : Nat) (P : ps_T) (X : xs_T) : Prop :=
  ∀ l : Launch, l.stackTraces = false → vx_Met l M.1 (gWord M :: TG) (gRm M mc ms) (va_Pc args (gWd g z A B)) (gQc g P) (gXC g X) mc ms (gFr g)
def gCx (g : gp_T) (M : md_T) (p : Program) (l : Launch) (s : State) (m : MethodId) (args : Array Value) (meth : Method) (c : Code) : Prop :=
  p.tables.exec = Jvm.exec ∧ c.code = M.2.1 ∧ c.maxLocals = M.2.2.1 ∧ meth.sig.returnType = M.2.2.2.1 ∧ meth.locks = false ∧ s.vm.findClass M.1.cls = some m.cls ∧ (∀ w ∈ TG, w.before args s = true) ∧ c.exceptionTable.toList = tableOf M.2.2.2.2.2.2 ∧ meth.name = M.1.name ∧ l.stackTraces = false ∧ gKt g s
def LR (ls : Array Slot) (n : Nat) (L : List (Option Value)) : Prop := ls.size = n ∧ lv_wf ls ∧ ∀ (i : Nat) (v : Value), L[i]? = some (some v) → ls[i]? = some (.val v)
def lPr (L : List (Option Value)) : List (Nat × Value) := (List.range L.length).filterMap (fun j => match L[j]? with
  | some (some w) => some (j, w)
  | _ => none)
/-- no long stands just below place i -/
def lNk (L : List (Option Value)) (i : Nat) : Bool := match i with
  | 0 => true
  | j + 1 => match L[j]? with
    | some (some w) => !(w.category == 2)
    | _ => true
abbrev lS1 (L : List (Option Value)) (i : Nat) (v : Value) : List (Option Value) := L.set i (some v)
abbrev lS2 (L : List (Option Value)) (i : Nat) (v : Value) : List (Option Value) := (L.set i (some v)).set (i + 1) none
theorem lPr_mem {L : List (Option Value)} {j : Nat} {w : Value} : (j, w) ∈ lPr L ↔ L[j]? = some (some w) := by
  unfold lPr
  rw [List.mem_filterMap]
  constructor
  · rintro ⟨i, -, hi⟩
    split at hi
    next w' h' => cases hi; exact h'
    next => cases hi
  · intro h
    refine ⟨j, List.mem_range.mpr (List.getElem?_eq_some_iff.mp h).1, ?_⟩
    rw [h]
theorem LR.has {ls : Array Slot} {n : Nat} {L : List (Option Value)} (h : LR ls n L) : lv_has ls n (lPr L) := ⟨h.1, h.2.1, fun q hq => h.2.2 q.1 q.2 (lPr_mem.mp hq)⟩
theorem lNk_at {L : List (Option Value)} {i j : Nat} {w : Value} (hk : lNk L i = true) (h : L[j]? = some (some w)) : ¬ (j + 1 = i ∧ w.category = 2) := by
  rintro ⟨rfl, q⟩
  unfold lNk at hk
  dsimp only at hk
  rw [h] at hk
  dsimp only at hk
  rw [q] at hk
  cases hk
theorem LR.of1 {ls : Array Slot} {n i : Nat} {L : List (Option Value)} {v : Value} (hk : lNk L i = true) (h : lv_has ls n ((i, v) :: (lPr L).filter (fun q => !(q.1 == i) && !(q.1 + 1 == i && q.2.category == 2)))) : LR ls n (lS1 L i v) := by
  refine ⟨h.1, h.2.1, fun j w hj => ?_⟩
  by_cases e : j = i
  · subst e
    have hl : j < L.length := by
      have := (List.getElem?_eq_some_iff.mp hj).1
      rwa [List.length_set] at this
    rw [List.getElem?_set_self hl] at hj
    cases hj
    exact h.2.2 (j, _) List.mem_cons_self
  · rw [List.getElem?_set_ne (Ne.symm e)] at hj
    have h1 := hj
    have h2 := lNk_at hk hj
    refine h.2.2 (j, w) (List.mem_cons_of_mem _ (List.mem_filter.mpr ⟨lPr_mem.mpr h1, ?_⟩))
    simp only [Bool.and_eq_true, Bool.not_eq_true', beq_eq_false_iff_ne, ne_eq]
    refine ⟨e, ?_⟩
    cases hb : (j + 1 == i && w.category == 2) with
    | false => rfl
    | true => simp at hb; exact absurd hb h2
theorem LR.of2 {ls : Array Slot} {n i : Nat} {L : List (Option Value)} {v : Value} (hk : lNk L i = true) (h : lv_has ls n ((i, v) :: (lPr L).filter (fun q => !(q.1 == i) && (!(q.1 == i + 1) && !(q.1 + 1 == i && q.2.category == 2))))) : LR ls n (lS2 L i v) := by
  refine ⟨h.1, h.2.1, fun j w hj => ?_⟩
  by_cases e2 : j = i + 1
  · subst e2
    have hl := (List.getElem?_eq_some_iff.mp hj).1
    rw [List.length_set] at hl
    rw [List.getElem?_set_self hl] at hj
    cases hj
  · rw [List.getElem?_set_ne (Ne.symm e2)] at hj
    by_cases e : j = i
    · subst e
      have hl : j < L.length := by
        have := (List.getElem?_eq_some_iff.mp hj).1
        rwa [List.length_set] at this
      rw [List.getElem?_set_self hl] at hj
      cases hj
      exact h.2.2 (j, _) List.mem_cons_self
    · rw [List.getElem?_set_ne (Ne.symm e)] at hj
      have h1 := hj
      have h2 := lNk_at hk hj
      refine h.2.2 (j, w) (List.mem_cons_of_mem _ (List.mem_filter.mpr ⟨lPr_mem.mpr h1, ?_⟩))
      simp only [Bool.and_eq_true, Bool.not_eq_true', beq_eq_false_iff_ne, ne_eq]
      refine ⟨e, e2, ?_⟩
      cases hb : (j + 1 == i && w.category == 2) with
      | false => rfl
      | true => simp at hb; exact absurd hb h2
theorem LR.lt {ls : Array Slot} {n i : Nat} {L : List (Option Value)} {v : Value} (h : LR ls n L) (hL : L[i]? = some (some v)) : i < n := by
  have := lv_lt (h.2.2 i v hL)
  rw [h.1] at this
  exact this
/-- the machine comes from this point of the method to its end, as its contract says -/
def AW (g : gp_T) (M : md_T) (mc ms : Nat) (P : ps_T) (X : xs_T) (kc ns pc : Nat) (L : List (Option Value)) (S : List Value) (z : Nat) (A B : List va_E) : Prop :=
  ∀ (p : Program) (l : Launch) (e : Env) (s : State) (m : MethodId) (args : Array Value) (below : List Frame) (meth : Method) (c : Code) (H : Heap) (locs : List Loc) (ls : Array Slot),
    gCx g M p l s m args meth c → gHp g z A B H → va_S (gFr g) s.heap H locs → LR ls M.2.2.1 L →
    W p l e (gRm M mc ms) s m args below meth c H locs kc ns (vx_MQ below (gQc g P) (gXC g X) args s mc ms (gFr g)) (F0 m pc ls S)
/-- the same, with an exception of class E thrown here -/
def AX (g : gp_T) (M : md_T) (mc ms : Nat) (P : ps_T) (X : xs_T) (kc ns pc : Nat) (L : List (Option Value)) (E : String) (z : Nat) (A B : List va_E) : Prop :=
  ∀ (p : Program) (l : Launch) (e : Env) (s : State) (m : MethodId) (args : Array Value) (below : List Frame) (meth : Method) (c : Code) (H : Heap) (locs : List Loc) (ls : Array Slot) (rest : List Value) (q : Addr) (ce : Cell),
    gCx g M p l s m args meth c → gHp g z A B H → va_S (gFr g) s.heap H locs → LR ls M.2.2.1 L → H[q]? = some ce → ce.vm = .none → s.vm.findClass E = some ce.cls →
    vx_W p l e (gRm M mc ms) s m args below meth c H locs kc ns (vx_MQ below (gQc g P) (gXC g X) args s mc ms (gFr g)) (F0 m pc ls rest) q
theorem gWd_blind {g : gp_T} {z : Nat} {A B : List va_E} {av : List Value} : FrameBlind (va_Pc av (gWd g z A B)) := by
  intro a U gf mk h
  refine ⟨h.1, h.2.1, ?_⟩
  exact h.2.2.warm (U := U.calling gf mk a) (State.WarmedH.refl U) (Nat.le_refl _) (fun _ _ _ => rfl)
theorem gWd_pre {g : gp_T} {z : Nat} {A B : List va_E} {s U : State} {H : Heap} {locs : List Loc} (hk : gKt g s) (hH : gHp g z A B H) (hS : va_S (gFr g) s.heap H locs) (hU : U.heap = H) (hW : s.WarmedH U.vm) : gWd g z A B U := by
  refine ⟨by rw [hU]; exact hH, hk.warm hW (by rw [hU]; exact hS.1) (fun q h1 h2 => by rw [hU]; exact hS.2.1 q h1 h2)⟩
/-- a contract out of a walk of the body -/
theorem Ct.of {g : gp_T} {M : md_T} {args : List Value} {z : Nat} {A B : List va_E} {mc ms : Nat} {P : ps_T} {X : xs_T} (L : List (Option Value)) (hy : plainName M.1.cls = true) (hh : M.2.2.2.2.2.2 = []) (hn : (lg_sl args).length ≤ M.2.2.1) (hL : lPr L = lv_args 0 args)
    (k : AW g M mc ms P X 0 0 0 L [] z A B) : Ct g M args z A B mc ms P X := by
  intro l hl
  refine vx_ofW (cc := M.2.1) (maxL := M.2.2.1) (ret := M.2.2.2.1) hy (by unfold gWord; rw [hh]) ?_
  intro p e s m av below meth c s₁ Bd hml ht hP
  obtain ⟨hav, hH, hK⟩ := hP
  subst hav
  rw [lg_entry_eq]
  have hent := lv_entry args hn
  refine k p l e s m _ below meth c s.heap [] _ ⟨Bd.exec, Bd.bytes, hml, Bd.returns, Bd.notSynchronized, findClass_of_methodNamed Bd.named, fun w hw => atoms_spec (ws := gWord M :: TG) Bd.pre w (List.mem_cons_of_mem _ hw), ?_, (name_of_methodNamed Bd.named Bd.method).1, hl, hK⟩ hH va_S.rf ⟨hent.1, hent.2.1, fun i v hi => hent.2.2 (i, v) (by rw [← hL]; exact lPr_mem.mpr hi)⟩
  rw [hh]
  cases hc : c.exceptionTable.toList with
  | nil => rfl
  | cons x r => exact absurd (ht x (by rw [hc]; exact List.mem_cons_self)) id
/-- a contract of a method with handlers -/
theorem Ct.ofH {g : gp_T} {M : md_T} {args : List Value} {z : Nat} {A B : List va_E} {mc ms : Nat} {P : ps_T} {X : xs_T} (L : List (Option Value)) (hy : plainName M.1.cls = true) (hw : gWord M = .codeWith M.1 M.2.1 M.2.2.1 M.2.2.2.1 M.2.2.2.2.2.2) (hn : (lg_sl args).length ≤ M.2.2.1) (hL : lPr L = lv_args 0 args)
    (k : AW g M mc ms P X 0 0 0 L [] z A B) : Ct g M args z A B mc ms P X := by
  intro l hl
  refine vx_ofWH (cc := M.2.1) (maxL := M.2.2.1) (ret := M.2.2.2.1) (hh := M.2.2.2.2.2.2) hy (by rw [hw]) ?_
  intro p e s m av below meth c s₁ Bd hml hP
  obtain ⟨hav, hH, hK⟩ := hP
  subst hav
  rw [lg_entry_eq]
  have hent := lv_entry args hn
  refine k p l e s m _ below meth c s.heap [] _ ⟨Bd.exec, Bd.bytes, hml, Bd.returns, Bd.notSynchronized, findClass_of_methodNamed Bd.named, fun w hw => atoms_spec (ws := gWord M :: TG) Bd.pre w (List.mem_cons_of_mem _ hw), ?_, (name_of_methodNamed Bd.named Bd.method).1, hl, hK⟩ hH va_S.rf ⟨hent.1, hent.2.1, fun i v hi => hent.2.2 (i, v) (by rw [← hL]; exact lPr_mem.mpr hi)⟩
  exact vx_table (x := M.1) Bd (by rw [← hw]; exact atoms_spec (ws := gWord M :: TG) Bd.pre _ List.mem_cons_self)
