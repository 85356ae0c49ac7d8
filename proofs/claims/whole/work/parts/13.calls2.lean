section Runs2
variable {p : Program} {l : Launch} {e : Env} {R : Room} {s : State} {m : MethodId} {args : Array Value} {below : List Frame} {meth : Method} {c : Code} {H : Heap} {locs : List Loc} {kc ns mc' ms' pc : Nat} {Q : State → Prop} {ls : Array Slot} {st0 rest : List Value} {a : Array Value} {g : gp_T} {P' : ps_T} {X' : xs_T}
/-- behind a call: the callee's end, or what it has thrown -/
theorem a_run (hr : vx_Run p l e R s m args below meth c H locs kc ns mc' ms' (F0 m pc ls st0) rest (gQc g P' a) (gXC g X') (gFr g)) (hS : va_S (gFr g) s.heap H locs)
    (kk : ∀ (v : Option Value) (z : Nat) (A B : List va_E) (H1 : Heap) (locs1 : List Loc), P' v z A B → gHp g z A B H1 → va_S (gFr g) s.heap H1 locs1 → W p l e R s m args below meth c H1 locs1 (kc + mc') (ns + ms') Q (F0 m (pc + 3) ls (v.toList ++ rest)))
    (kx : ∀ (E : String) (ce : Cell) (q : Addr) (z : Nat) (A B : List va_E) (H1 : Heap) (locs1 : List Loc), X' E z A B → gHp g z A B H1 → va_S (gFr g) s.heap H1 locs1 → H1[q]? = some ce → ce.vm = .none → s.vm.findClass E = some ce.cls → vx_W p l e R s m args below meth c H1 locs1 (kc + mc') (ns + ms') Q (F0 m pc ls rest) q) : W p l e R s m args below meth c H locs kc ns Q (F0 m pc ls st0) := by
  intro T hT X
  rcases hr T hT X with ⟨v, st₀, t, T', L, h0, X', hL, e1, e2, hq, st⟩ | ⟨q, st₀, t, T', L, E, ce, h0, X', hL, e1, e2, hx, hce, hcv, hcl, st⟩
  · obtain ⟨⟨r, z, A, B, hv, hp, hb⟩, hF⟩ := hq
    cases hv
    obtain ⟨-, -, k3⟩ := vx_keep h0 e1 hS (fun _ _ h => h) (fun _ h => h) hL hF
    obtain ⟨t2, a1, b1⟩ := kk v z A B T'.heap (locs ++ L) hp (by rw [e1]; exact hb) k3 T' rfl X'
    exact ⟨t2, st t2 a1, b1⟩
  · obtain ⟨⟨z, A, B, hp, hb⟩, hF⟩ := hx
    obtain ⟨-, -, k3⟩ := vx_keep h0 e1 hS (fun _ _ h => h) (fun _ h => h) hL hF
    obtain ⟨t2, a1, b1⟩ := kx E ce q z A B T'.heap (locs ++ L) hp (by rw [e1]; exact hb) k3 (by rw [e1]; exact hce) hcv hcl T' rfl X'
    exact ⟨t2, st.trans a1, b1⟩
end Runs2
section Calls2
variable {g : gp_T} {M : md_T} {mc ms : Nat} {P : ps_T} {X : xs_T} {kc ns pc q : Nat} {L : List (Option Value)} {S S0 : List Value} {z : Nat} {A B : List va_E} {y : md_T} {mc' ms' : Nat} {P' : ps_T} {X' : xs_T} {index ci j n : Nat} {fs : List Value}
theorem a_callVA (As : List Value) (d : decode M.2.1 pc = .ok (.invokevirtual index, 3)) (cv : cVw M.1.cls index ci y n) (hM : Ct g y (.ref (g.1 + j) :: As) z A B mc' ms' P' X') (hA : A[j]? = some (.inr (ci, fs))) (hn : As.length = n) (hS0 : S0 = As.reverse ++ .ref (g.1 + j) :: S) (hcat : (S.map fun v => v.category).sum ≤ 8) (hR : y.2.2.2.2.1 + 1 ≤ M.2.2.2.2.1 ∧ 8 + (y.2.2.1 + 11) + y.2.2.2.2.2.1 ≤ M.2.2.2.2.2.1) (hf : kc + mc' ≤ mc ∧ ns + ms' ≤ ms) (hq : pc + 3 = q)
    (kk : ∀ (v : Option Value) (z' : Nat) (A' B' : List va_E), P' v z' A' B' → AW g M mc ms P X (kc + mc') (ns + ms') q L (v.toList ++ S) z' A' B') (kx : ∀ (E : String) (z' : Nat) (A' B' : List va_E), X' E z' A' B' → AX g M mc ms P X (kc + mc') (ns + ms') pc L E z' A' B') : AW g M mc ms P X kc ns pc L S0 z A B := by
  subst hq; subst hS0
  intro p l e s m args below meth c H locs ls C hH hS hl
  obtain ⟨⟨hgw, hwd, hd⟩, hw2, C0, T0, N0, hci, hcls⟩ := cv
  have hts := C.2.2.2.2.2.2.1
  have hT : GoodIn TG (wsV M.1.cls index y.1.cls y.1 (gWord y :: TG)) := tg_sub (fun w hw => by
    unfold wsV at hw
    simp only [List.cons_append, List.nil_append, List.mem_cons] at hw
    rcases hw with e | e | e | e | e | e
    · rw [e]; exact hwd _ (by simp)
    · rw [e]; exact hw2 _ (by simp)
    · rw [e]; exact hw2 _ (by simp)
    · rw [e]; exact hwd _ (by simp)
    · rw [e]; exact hwd _ (by simp)
    · exact e)
  have cw := cwV (R := gRm M mc ms) (rm := gRm y mc' ms') (mc := mc') (ms := ms') (bytes := y.2.1) (maxL := y.2.2.1) (ret := y.2.2.2.1) (ws' := TG) n hts hT (by rw [hgw]) rfl rfl ⟨rfl, hd⟩ hR
  refine a_run (vx_runV (As := As) (rest := S) ⟨C.1, C.2.1, C.2.2.1, C.2.2.2.2.2.1, hts⟩ (hM l C.2.2.2.2.2.2.2.2.2.1) cw ⟨gWd_blind, ?_, fun U hU hW => ⟨rfl, gWd_pre C.2.2.2.2.2.2.2.2.2.2 hH hS hU hW⟩⟩ rfl hn hl.1 rfl (lv_room hcat) d hf) hS (fun v z' A' B' H1 locs1 hp hH1 hS1 => kk v z' A' B' hp p l e s m args below meth c H1 locs1 ls C hH1 hS1 hl) (fun E ce q9 z' A' B' H1 locs1 hp hH1 hS1 h1 h2 h3 => kx E z' A' B' hp p l e s m args below meth c H1 locs1 ls S q9 ce C hH1 hS1 hl h1 h2 h3)
  have hrc := va_recv C.2.2.2.2.2.2.2.2.2.2.1 hH.1 hci (gW_a hA)
  rw [hcls]
  exact hrc
theorem a_callVB (As : List Value) (d : decode M.2.1 pc = .ok (.invokevirtual index, 3)) (cv : cVw M.1.cls index ci y n) (hM : Ct g y (.ref (g.2.1 + j) :: As) z A B mc' ms' P' X') (hA : B[j]? = some (.inr (ci, fs))) (hn : As.length = n) (hS0 : S0 = As.reverse ++ .ref (g.2.1 + j) :: S) (hcat : (S.map fun v => v.category).sum ≤ 8) (hR : y.2.2.2.2.1 + 1 ≤ M.2.2.2.2.1 ∧ 8 + (y.2.2.1 + 11) + y.2.2.2.2.2.1 ≤ M.2.2.2.2.2.1) (hf : kc + mc' ≤ mc ∧ ns + ms' ≤ ms) (hq : pc + 3 = q)
    (kk : ∀ (v : Option Value) (z' : Nat) (A' B' : List va_E), P' v z' A' B' → AW g M mc ms P X (kc + mc') (ns + ms') q L (v.toList ++ S) z' A' B') (kx : ∀ (E : String) (z' : Nat) (A' B' : List va_E), X' E z' A' B' → AX g M mc ms P X (kc + mc') (ns + ms') pc L E z' A' B') : AW g M mc ms P X kc ns pc L S0 z A B := by
  subst hq; subst hS0
  intro p l e s m args below meth c H locs ls C hH hS hl
  obtain ⟨⟨hgw, hwd, hd⟩, hw2, C0, T0, N0, hci, hcls⟩ := cv
  have hts := C.2.2.2.2.2.2.1
  have hT : GoodIn TG (wsV M.1.cls index y.1.cls y.1 (gWord y :: TG)) := tg_sub (fun w hw => by
    unfold wsV at hw
    simp only [List.cons_append, List.nil_append, List.mem_cons] at hw
    rcases hw with e | e | e | e | e | e
    · rw [e]; exact hwd _ (by simp)
    · rw [e]; exact hw2 _ (by simp)
    · rw [e]; exact hw2 _ (by simp)
    · rw [e]; exact hwd _ (by simp)
    · rw [e]; exact hwd _ (by simp)
    · exact e)
  have cw := cwV (R := gRm M mc ms) (rm := gRm y mc' ms') (mc := mc') (ms := ms') (bytes := y.2.1) (maxL := y.2.2.1) (ret := y.2.2.2.1) (ws' := TG) n hts hT (by rw [hgw]) rfl rfl ⟨rfl, hd⟩ hR
  refine a_run (vx_runV (As := As) (rest := S) ⟨C.1, C.2.1, C.2.2.1, C.2.2.2.2.2.1, hts⟩ (hM l C.2.2.2.2.2.2.2.2.2.1) cw ⟨gWd_blind, ?_, fun U hU hW => ⟨rfl, gWd_pre C.2.2.2.2.2.2.2.2.2.2 hH hS hU hW⟩⟩ rfl hn hl.1 rfl (lv_room hcat) d hf) hS (fun v z' A' B' H1 locs1 hp hH1 hS1 => kk v z' A' B' hp p l e s m args below meth c H1 locs1 ls C hH1 hS1 hl) (fun E ce q9 z' A' B' H1 locs1 hp hH1 hS1 h1 h2 h3 => kx E z' A' B' hp p l e s m args below meth c H1 locs1 ls S q9 ce C hH1 hS1 hl h1 h2 h3)
  have hrc := va_recv C.2.2.2.2.2.2.2.2.2.2.1 hH.1 hci (gW_b hA)
  rw [hcls]
  exact hrc
theorem a_callS (As : List Value) (d : decode M.2.1 pc = .ok (.invokestatic index, 3)) (cv : cSw M.1.cls index y n) (hM : Ct g y As z A B mc' ms' P' X') (hn : As.length = n) (hS0 : S0 = As.reverse ++ S) (hcat : (S.map fun v => v.category).sum ≤ 8) (hR : y.2.2.2.2.1 + 1 ≤ M.2.2.2.2.1 ∧ 8 + (y.2.2.1 + 11) + y.2.2.2.2.2.1 ≤ M.2.2.2.2.2.1) (hf : kc + mc' ≤ mc ∧ ns + ms' ≤ ms) (hq : pc + 3 = q)
    (kk : ∀ (v : Option Value) (z' : Nat) (A' B' : List va_E), P' v z' A' B' → AW g M mc ms P X (kc + mc') (ns + ms') q L (v.toList ++ S) z' A' B') (kx : ∀ (E : String) (z' : Nat) (A' B' : List va_E), X' E z' A' B' → AX g M mc ms P X (kc + mc') (ns + ms') pc L E z' A' B') : AW g M mc ms P X kc ns pc L S0 z A B := by
  subst hq; subst hS0
  intro p l e s m args below meth c H locs ls C hH hS hl
  obtain ⟨⟨hgw, hwd, hd⟩, hst⟩ := cv
  have hts := C.2.2.2.2.2.2.1
  have hcb : CallB (gRm M mc ms) s args M.1.cls index y.1 y.2.1 y.2.2.1 y.2.2.2.1 (gWord y :: TG) (gRm y mc' ms') mc' ms' n := callB_of n hts (tg_ws (hwd _ (by simp))) (by rw [hgw]) rfl rfl (hts _ (hwd _ (by simp))) (hts _ (hwd _ (by simp))) hd hR
  exact a_run (vx_runS (As := As) (rest := S) ⟨C.1, C.2.1, C.2.2.1, C.2.2.2.2.2.1, hts⟩ (hM l C.2.2.2.2.2.2.2.2.2.1) ⟨hcb, hts _ hst⟩ ⟨gWd_blind, fun U hU hW => ⟨rfl, gWd_pre C.2.2.2.2.2.2.2.2.2.2 hH hS hU hW⟩⟩ rfl hn hl.1 rfl (lv_room hcat) d hf) hS (fun v z' A' B' H1 locs1 hp hH1 hS1 => kk v z' A' B' hp p l e s m args below meth c H1 locs1 ls C hH1 hS1 hl) (fun E ce q9 z' A' B' H1 locs1 hp hH1 hS1 h1 h2 h3 => kx E z' A' B' hp p l e s m args below meth c H1 locs1 ls S q9 ce C hH1 hS1 hl h1 h2 h3)
theorem a_callH (As : List Value) (d : decode M.2.1 pc = .ok (.invokestatic index, 3)) (cv : cHw M.1.cls index y n) (hM : Ct g y As z A B mc' ms' P' X') (hn : As.length = n) (hS0 : S0 = As.reverse ++ S) (hcat : (S.map fun v => v.category).sum ≤ 8) (hR : y.2.2.2.2.1 + 1 ≤ M.2.2.2.2.1 ∧ 8 + (y.2.2.1 + 11) + y.2.2.2.2.2.1 ≤ M.2.2.2.2.2.1) (hf : kc + mc' ≤ mc ∧ ns + ms' ≤ ms) (hq : pc + 3 = q)
    (kk : ∀ (v : Option Value) (z' : Nat) (A' B' : List va_E), P' v z' A' B' → AW g M mc ms P X (kc + mc') (ns + ms') q L (v.toList ++ S) z' A' B') (kx : ∀ (E : String) (z' : Nat) (A' B' : List va_E), X' E z' A' B' → AX g M mc ms P X (kc + mc') (ns + ms') pc L E z' A' B') : AW g M mc ms P X kc ns pc L S0 z A B := by
  subst hq; subst hS0
  intro p l e s m args below meth c H locs ls C hH hS hl
  obtain ⟨hgw, hwd, hd⟩ := cv
  have hts := C.2.2.2.2.2.2.1
  have hT : GoodIn TG (va_wsS M.1.cls index y.1 (gWord y :: TG)) := tg_sub (fun w hw => by
    unfold va_wsS at hw
    simp only [List.cons_append, List.nil_append, List.mem_cons] at hw
    rcases hw with e | e | e | e | e
    · rw [e]; exact hwd _ (by simp)
    · rw [e]; exact hwd _ (by simp)
    · rw [e]; exact hwd _ (by simp)
    · rw [e]; exact hwd _ (by simp)
    · exact e)
  have cw := vx_cwSW (R := gRm M mc ms) (rm := gRm y mc' ms') (mc := mc') (ms := ms') (bytes := y.2.1) (maxL := y.2.2.1) (ret := y.2.2.2.1) (hh := y.2.2.2.2.2.2) (ws' := TG) n hts hT (by rw [hgw]) rfl rfl hd hR
  exact a_run (vx_runSX (As := As) (rest := S) ⟨C.1, C.2.1, C.2.2.1, C.2.2.2.2.2.1, hts⟩ (hM l C.2.2.2.2.2.2.2.2.2.1) cw ⟨gWd_blind, fun U hU hW => ⟨rfl, gWd_pre C.2.2.2.2.2.2.2.2.2.2 hH hS hU hW⟩⟩ rfl hn hl.1 rfl (lv_room hcat) d hf) hS (fun v z' A' B' H1 locs1 hp hH1 hS1 => kk v z' A' B' hp p l e s m args below meth c H1 locs1 ls C hH1 hS1 hl) (fun E ce q9 z' A' B' H1 locs1 hp hH1 hS1 h1 h2 h3 => kx E z' A' B' hp p l e s m args below meth c H1 locs1 ls S q9 ce C hH1 hS1 hl h1 h2 h3)
theorem a_callI {b : Nat} (As : List Value) (d : decode M.2.1 pc = .ok (.invokespecial index, 3)) (cv : cIw M.1.cls index y n) (hM : Ct g y (.ref b :: As) z A B mc' ms' P' X') (hn : As.length = n) (hS0 : S0 = As.reverse ++ .ref b :: S) (hcat : (S.map fun v => v.category).sum ≤ 8) (hR : y.2.2.2.2.1 + 1 ≤ M.2.2.2.2.1 ∧ 8 + (y.2.2.1 + 11) + y.2.2.2.2.2.1 ≤ M.2.2.2.2.2.1) (hf : kc + mc' ≤ mc ∧ ns + ms' ≤ ms) (hq : pc + 3 = q)
    (kk : ∀ (v : Option Value) (z' : Nat) (A' B' : List va_E), P' v z' A' B' → AW g M mc ms P X (kc + mc') (ns + ms') q L (v.toList ++ S) z' A' B') (kx : ∀ (E : String) (z' : Nat) (A' B' : List va_E), X' E z' A' B' → AX g M mc ms P X (kc + mc') (ns + ms') pc L E z' A' B') : AW g M mc ms P X kc ns pc L S0 z A B := by
  subst hq; subst hS0
  intro p l e s m args below meth c H locs ls C hH hS hl
  obtain ⟨⟨hgw, hwd, hd⟩, hin, hnm, hret⟩ := cv
  have hts := C.2.2.2.2.2.2.1
  have hgw2 : gWord y = .code y.1 y.2.1 y.2.2.1 none := by rw [hgw, hret]
  have hcb : CallB (gRm M mc ms) s args M.1.cls index y.1 y.2.1 y.2.2.1 none (gWord y :: TG) (gRm y mc' ms') mc' ms' n := callB_of n hts (tg_ws (hwd _ (by simp))) (by rw [hgw2]) rfl rfl (hts _ (hwd _ (by simp))) (hts _ (hwd _ (by simp))) hd hR
  exact a_run (vx_runI (As := As) (rest := S) ⟨C.1, C.2.1, C.2.2.1, C.2.2.2.2.2.1, hts⟩ (hM l C.2.2.2.2.2.2.2.2.2.1) ⟨hcb, hnm, hts _ hin⟩ ⟨gWd_blind, fun U hU hW => ⟨rfl, gWd_pre C.2.2.2.2.2.2.2.2.2.2 hH hS hU hW⟩⟩ rfl hn hl.1 rfl (lv_room hcat) d hf) hS (fun v z' A' B' H1 locs1 hp hH1 hS1 => kk v z' A' B' hp p l e s m args below meth c H1 locs1 ls C hH1 hS1 hl) (fun E ce q9 z' A' B' H1 locs1 hp hH1 hS1 h1 h2 h3 => kx E z' A' B' hp p l e s m args below meth c H1 locs1 ls S q9 ce C hH1 hS1 hl h1 h2 h3)
theorem a_callN {b : Nat} {host : String} (As : List Value) (d : decode M.2.1 pc = .ok (.invokespecial index, 3)) (cv : cNw M.1.cls index y n host) (hM : Ct g y (.ref b :: As) z A B mc' ms' P' X') (hn : As.length = n) (hS0 : S0 = As.reverse ++ .ref b :: S) (hcat : (S.map fun v => v.category).sum ≤ 8) (hR : y.2.2.2.2.1 + 1 ≤ M.2.2.2.2.1 ∧ 8 + (y.2.2.1 + 11) + y.2.2.2.2.2.1 ≤ M.2.2.2.2.2.1) (hf : kc + mc' ≤ mc ∧ ns + ms' ≤ ms) (hq : pc + 3 = q)
    (kk : ∀ (v : Option Value) (z' : Nat) (A' B' : List va_E), P' v z' A' B' → AW g M mc ms P X (kc + mc') (ns + ms') q L (v.toList ++ S) z' A' B') (kx : ∀ (E : String) (z' : Nat) (A' B' : List va_E), X' E z' A' B' → AX g M mc ms P X (kc + mc') (ns + ms') pc L E z' A' B') : AW g M mc ms P X kc ns pc L S0 z A B := by
  subst hq; subst hS0
  intro p l e s m args below meth c H locs ls C hH hS hl
  obtain ⟨hgw, hnest, hwd, hd, hnm, hret⟩ := cv
  have hts := C.2.2.2.2.2.2.1
  have hgw2 : gWord y = .code y.1 y.2.1 y.2.2.1 none := by rw [hgw, hret]
  have hcn : va_CN (gRm M mc ms) s args M.1.cls index y.1 host y.2.1 y.2.2.1 none (gWord y :: TG) (gRm y mc' ms') mc' ms' n := va_cnB n hts (tg_ws (hwd _ (by simp))) (by rw [hgw2]) rfl rfl (C.2.2.2.2.2.2.2.2.2.2.2.2.2.2.1.1 _ hnest) (hts _ (hwd _ (by simp))) hd hR
  exact a_run (vx_runIN (As := As) (rest := S) ⟨C.1, C.2.1, C.2.2.1, C.2.2.2.2.2.1, hts⟩ (hM l C.2.2.2.2.2.2.2.2.2.1) ⟨hcn, hnm, hts _ (hwd _ (by simp))⟩ ⟨gWd_blind, fun U hU hW => ⟨rfl, gWd_pre C.2.2.2.2.2.2.2.2.2.2 hH hS hU hW⟩⟩ rfl hn hl.1 rfl (lv_room hcat) d hf) hS (fun v z' A' B' H1 locs1 hp hH1 hS1 => kk v z' A' B' hp p l e s m args below meth c H1 locs1 ls C hH1 hS1 hl) (fun E ce q9 z' A' B' H1 locs1 hp hH1 hS1 h1 h2 h3 => kx E z' A' B' hp p l e s m args below meth c H1 locs1 ls S q9 ce C hH1 hS1 hl h1 h2 h3)
theorem a_objInit {b : Nat} (d : decode M.2.1 pc = .ok (.invokespecial index, 3)) (hw : ∀ w ∈ ([.methodLink M.1.cls index Lib.objectInit, .instanceMethod Lib.objectInit, .code Lib.objectInit ⟨#[0xb1]⟩ 1 none] : List Cond), w ∈ TG) (hR : 1 ≤ M.2.2.2.2.1 ∧ (S.map fun v => v.category).sum + 12 ≤ M.2.2.2.2.2.1) (hq : pc + 3 = q) (kk : AW g M mc ms P X kc ns q L S z A B) : AW g M mc ms P X kc ns pc L (.ref b :: S) z A B := by
  subst hq
  intro p l e s m args below meth c H locs ls C hH hS hl
  have hts := C.2.2.2.2.2.2.1
  refine W.objInit C.1 C.2.1 C.2.2.2.2.2.1 (hts _ (hw _ (by simp))) (hts _ (hw _ (by simp))) (hts _ (hw _ (by simp))) rfl (hl.1.trans C.2.2.1.symm) rfl d hR.1 ?_ (kk p l e s m args below meth c H locs ls C hH hS hl)
  have h0 : (F0 m pc ls (.ref b :: S)).monitorRoom = 0 := by
    simp [JFrame.monitorRoom]
  rw [h0]
  have := hR.2
  show 2 * 0 + _ + 12 ≤ M.2.2.2.2.2.1
  omega
theorem a_throw {ik is ic : Nat} {cls text : String} (d0 : decode M.2.1 pc = .ok (.new ik, 3)) (d3 : decode M.2.1 (pc + 3) = .ok (.dup, 1)) (d4 : decode M.2.1 (pc + 4) = .ok (.ldc is, 2)) (d6 : decode M.2.1 (pc + 6) = .ok (.invokespecial ic, 3)) (d9 : decode M.2.1 (pc + 9) = .ok (.athrow, 1)) (tw : tW M.1.cls ik is ic cls text) (hh : M.2.2.2.2.2.2 = []) (hR : 5 < M.2.2.2.2.1 ∧ (S.map fun v => v.category).sum + 82 ≤ M.2.2.2.2.2.1) (hf : kc + 1 ≤ mc ∧ ns + 6 ≤ ms) (hx : X cls 0 A B) : AW g M mc ms P X kc ns pc L S z A B := by
  intro p l e s m args below meth c H locs ls C hH hS hl
  obtain ⟨t1, t2, t3, t4, t5, t6, t7⟩ := tw
  have hts := C.2.2.2.2.2.2.1
  obtain ⟨-, ⟨hU, hN⟩, hst, -, ⟨-, hnd, hnc⟩, -⟩ := C.2.2.2.2.2.2.2.2.2.2
  obtain ⟨sa, hsa⟩ := hst _ t3
  refine vx_throwS (names := xNm) C.1 C.2.1 C.2.2.2.2.2.2.2.2.2.1 C.2.2.2.2.2.1 t4 (by decide) (hts _ t1) (hts _ t2) hsa (vx_hat (fun w hw => hts w (t5 w hw)) t6 (fun w hw => ?_)) t7 hU hN hS (hl.1.trans C.2.2.1.symm) d0 d3 d4 d6 d9 ?_ hR.1 hR.2 hf.1 hf.2 C.2.2.2.2.1 (fun t _ h1 h2 => ⟨⟨0, A, B, hx, ?_, hH.2.1, trivial⟩, Nat.le_trans hS.1 h1, fun q9 h3 h4 => (h2 q9 (Nat.lt_of_lt_of_le h3 hS.1)).trans (hS.2.1 q9 h3 h4)⟩) hS.2.2 hf.1 hf.2
  · unfold gNg at hw
    rcases List.mem_append.mp hw with h | h
    · obtain ⟨x9, h1, rfl⟩ := List.mem_map.mp h
      exact (hnd _ h1).use rfl
    · obtain ⟨x9, h1, rfl⟩ := List.mem_map.mp h
      exact (hnc _ h1).use rfl
  · intro x9 hx9
    rw [C.2.2.2.2.2.2.2.1, hh] at hx9
    cases hx9
  · exact hH.1.kept (fun k9 q9 hq9 => h2 _ (hH.1 k9 q9 hq9).lt)
theorem a_throwW {ik is ic : Nat} {cls text : String} (d0 : decode M.2.1 pc = .ok (.new ik, 3)) (d3 : decode M.2.1 (pc + 3) = .ok (.dup, 1)) (d4 : decode M.2.1 (pc + 4) = .ok (.ldc_w is, 3)) (d6 : decode M.2.1 (pc + 7) = .ok (.invokespecial ic, 3)) (d9 : decode M.2.1 (pc + 10) = .ok (.athrow, 1)) (tw : tW M.1.cls ik is ic cls text) (hh : M.2.2.2.2.2.2 = []) (hR : 5 < M.2.2.2.2.1 ∧ (S.map fun v => v.category).sum + 82 ≤ M.2.2.2.2.2.1) (hf : kc + 1 ≤ mc ∧ ns + 6 ≤ ms) (hx : X cls 0 A B) : AW g M mc ms P X kc ns pc L S z A B := by
  intro p l e s m args below meth c H locs ls C hH hS hl
  obtain ⟨t1, t2, t3, t4, t5, t6, t7⟩ := tw
  have hts := C.2.2.2.2.2.2.1
  obtain ⟨-, ⟨hU, hN⟩, hst, -, ⟨-, hnd, hnc⟩, -⟩ := C.2.2.2.2.2.2.2.2.2.2
  obtain ⟨sa, hsa⟩ := hst _ t3
  refine vx_throwSW (names := xNm) C.1 C.2.1 C.2.2.2.2.2.2.2.2.2.1 C.2.2.2.2.2.1 t4 (by decide) (hts _ t1) (hts _ t2) hsa (vx_hat (fun w hw => hts w (t5 w hw)) t6 (fun w hw => ?_)) t7 hU hN hS (hl.1.trans C.2.2.1.symm) d0 d3 d4 d6 d9 ?_ hR.1 hR.2 hf.1 hf.2 C.2.2.2.2.1 (fun t _ h1 h2 => ⟨⟨0, A, B, hx, ?_, hH.2.1, trivial⟩, Nat.le_trans hS.1 h1, fun q9 h3 h4 => (h2 q9 (Nat.lt_of_lt_of_le h3 hS.1)).trans (hS.2.1 q9 h3 h4)⟩) hS.2.2 hf.1 hf.2
  · unfold gNg at hw
    rcases List.mem_append.mp hw with h | h
    · obtain ⟨x9, h1, rfl⟩ := List.mem_map.mp h
      exact (hnd _ h1).use rfl
    · obtain ⟨x9, h1, rfl⟩ := List.mem_map.mp h
      exact (hnc _ h1).use rfl
  · intro x9 hx9
    rw [C.2.2.2.2.2.2.2.1, hh] at hx9
    cases hx9
  · exact hH.1.kept (fun k9 q9 hq9 => h2 _ (hH.1 k9 q9 hq9).lt)
/-- thrown through: no handler -/
theorem ax_out {E : String} (hh : M.2.2.2.2.2.2 = []) (hk : kc ≤ mc) (hs : ns ≤ ms) (hx : X E z A B) : AX g M mc ms P X kc ns pc L E z A B := by
  intro p l e s m args below meth c H locs ls rest q ce C hH hS hl h1 h2 h3
  refine vx_out (fun x9 hx9 => ?_) C.2.2.2.2.1 h1 h2 h3 (fun t ht _ => ⟨⟨z, A, B, hx, by rw [ht]; exact hH⟩, hS.F ht⟩) hS.2.2 hk hs
  rw [C.2.2.2.2.2.2.2.1, hh] at hx9
  cases hx9
/-- caught: the handler begins with a store of the exception, which nobody reads -/
theorem ax_catch {E : String} {i : Fin 4} {j : Nat} {t : Nat} (pre : List (Nat × Nat × Nat × Nat)) (x : Nat × Nat × Nat × Nat) (suf : List (Nat × Nat × Nat × Nat)) (hsp : tableOf M.2.2.2.2.2.2 = tableOf pre ++ tableOf [x] ++ tableOf suf) (hpass : ∀ y ∈ tableOf pre, y.catchType ≠ 0 ∧ ∃ nm : String, Cond.classLink M.1.cls y.catchType nm ∈ TG ∧ (E, nm) ∈ gXn) (x1 : ExceptionTableEntry) (hx1 : tableOf [x] = [x1]) (hcov : covers x1 pc = true) (h0 : x1.catchType ≠ 0) (hlk : Cond.classLink M.1.cls x1.catchType E ∈ TG) (hcast : (E, E) ∈ gNc) (ht : x1.handlerPc = t) (d : decode M.2.1 t = .ok (.astore_n i, 1)) (hi : (i : Nat) = j) (hj : j < M.2.2.1) (hk : lNk L j = true) (hq : t + 1 = q) (k : AW g M mc ms P X kc ns q (L.set j none) [] z A B) : AX g M mc ms P X kc ns pc L E z A B := by
  subst hq
  intro p l e s m args below meth c H locs ls rest q ce C hH hS hl h1 h2 h3
  have hts := C.2.2.2.2.2.2.1
  obtain ⟨-, -, -, hxn, ⟨-, -, hnc⟩, -⟩ := C.2.2.2.2.2.2.2.2.2.2
  refine vx_catch (ls := ls) C.2.2.2.2.2.1 (tableOf pre) x1 (tableOf suf) ?_ (fun y hy => ?_) hcov h0 (hts _ hlk) ((hnc _ hcast).use rfl) h1 h2 h3 ?_
  · rw [C.2.2.2.2.2.2.2.1, hsp, hx1, List.append_assoc]; rfl
  · obtain ⟨a1, nm, a2, a3⟩ := hpass y hy
    exact Or.inr ⟨a1, nm, hts _ a2, hxn _ a3⟩
  · rw [ht]
    refine lv_astore_n C.1 C.2.1 d hi hl.has hj rfl (fun ls2 hl2 => k p l e s m args below meth c H locs ls2 C hH hS ?_)
    have h9 := LR.of1 (v := .ref q) hk hl2
    refine ⟨h9.1, h9.2.1, fun i9 v9 hi9 => ?_⟩
    by_cases e9 : i9 = j
    · subst e9
      have hlt := (List.getElem?_eq_some_iff.mp hi9).1
      rw [List.length_set] at hlt
      rw [List.getElem?_set_self hlt] at hi9
      cases hi9
    · rw [List.getElem?_set_ne (Ne.symm e9)] at hi9
      refine h9.2.2 i9 v9 ?_
      rw [List.getElem?_set_ne (Ne.symm e9)]
      exact hi9
theorem ax_no {E : String} (h : False) : AX g M mc ms P X kc ns pc L E z A B := h.elim
end Calls2
