/-! ===== the law's helpers ===== -/
section Help
variable {g : gp_T} {A A1 B B1 : List va_E} {G : Gr} {T : Tx} {th : Nat} {Y : Ya} {W : Wa} {R : Ra} {Z : Za} {U : Ua} {L : La} {h : Int64} {O : Oa} {fs : List Value}
theorem h_setNodes (x : Int32) (hA : A[0]? = some (.inr (8, fs))) (hM : Ct g mX8_setNodes [.ref (g.1 + 0), .int x] 0 A (BM g G T th Y W R Z U L h O) 0 0 (rP none A1 (BM g G T th Y W R Z U L h O)) noX) : Ct g mL_setNodes [.ref (g.1 + 0), .int x] 0 A (BM g G T th Y W R Z U L h O) 1 6 (rP (some (.int (nI 0))) A1 (BM g G T th Y W R Z U L h O)) noX := by
  refine Ct.ofH [some (.ref (g.1 + 0)), some (.int x), none] (by decide) rfl (Nat.le_of_ble_eq_true rfl) rfl ?_
  refine a_aload_n (q := 1) dL_setNodes_0 rfl rfl rfl ?_
  refine a_iload_n (q := 2) dL_setNodes_1 rfl rfl rfl ?_
  refine a_cVA0 (q := 5) _ dL_setNodes_2 kL_7 (hM) hA rfl rfl (Nat.le_of_ble_eq_true rfl) ⟨(Nat.le_of_ble_eq_true rfl), (Nat.le_of_ble_eq_true rfl)⟩ ⟨(Nat.le_of_ble_eq_true rfl), (Nat.le_of_ble_eq_true rfl)⟩ rfl ?_
  refine a_goto 11 dL_setNodes_5 (by decide) ?_
  refine a_iconst (q := 12) (nI 0) dL_setNodes_11 (by decide) rfl ?_
  exact a_iret dL_setNodes_12 rfl rfl (Nat.le_of_ble_eq_true rfl) (Nat.le_of_ble_eq_true rfl) (⟨rfl, rfl, rfl, rfl⟩)
theorem hx_setNodes1 (x : Int32) (hA : A[0]? = some (.inr (8, fs))) (hM : Ct g mX8_setNodes [.ref (g.1 + 0), .int x] 0 A B 1 6 noP (tX xIA A1 B)) : Ct g mL_setNodes [.ref (g.1 + 0), .int x] 0 A B 1 6 (rP (some (.int (nI 1))) A1 B) noX := by
  refine Ct.ofH [some (.ref (g.1 + 0)), some (.int x), none] (by decide) rfl (Nat.le_of_ble_eq_true rfl) rfl ?_
  refine a_aload_n (q := 1) dL_setNodes_0 rfl rfl rfl ?_
  refine a_iload_n (q := 2) dL_setNodes_1 rfl rfl rfl ?_
  refine a_xVA _ dL_setNodes_2 kL_7 hM hA rfl rfl (Nat.le_of_ble_eq_true rfl) ⟨(Nat.le_of_ble_eq_true rfl), (Nat.le_of_ble_eq_true rfl)⟩ ⟨(Nat.le_of_ble_eq_true rfl), (Nat.le_of_ble_eq_true rfl)⟩ ?_
  refine ax_catch (q := 9) (E := xIA) [] (0, 5, 8, 13) [] rfl (fun _ h => nomatch h) ⟨0, 5, 8, 13⟩ rfl rfl (by decide) qL_13 (by decide) rfl dL_setNodes_8 rfl (Nat.le_of_ble_eq_true rfl) rfl rfl ?_
  refine a_iconst (q := 10) (nI 1) dL_setNodes_9 (by decide) rfl ?_
  exact a_iret dL_setNodes_10 rfl rfl (Nat.le_of_ble_eq_true rfl) (Nat.le_of_ble_eq_true rfl) (⟨rfl, rfl, rfl, rfl⟩)
theorem h_addEdge (x : Int32) (y : Int32) (r : Int32) (hA : A[0]? = some (.inr (8, fs))) (hM : Ct g mX8_addEdge [.ref (g.1 + 0), .int x, .int y] 0 A (BM g G T th Y W R Z U L h O) 0 0 (rP (some (.int r)) A1 (BM g G T th Y W R Z U L h O)) noX) : Ct g mL_addEdge [.ref (g.1 + 0), .int x, .int y, .ref (g.2.1 + 23)] 0 A (BM g G T th Y W R Z U L h O) 1 6 (rP (some (.int (nI 0))) A1 (BM g G T th Y W R Z U L h (oJ O r.toInt64))) noX := by
  refine Ct.ofH [some (.ref (g.1 + 0)), some (.int x), some (.int y), some (.ref (g.2.1 + 23)), none] (by decide) rfl (Nat.le_of_ble_eq_true rfl) rfl ?_
  refine a_aload_n (q := 1) dL_addEdge_0 rfl rfl rfl ?_
  refine a_iconst (q := 2) (nI 0) dL_addEdge_1 (by decide) rfl ?_
  refine a_aload_n (q := 3) dL_addEdge_2 rfl rfl rfl ?_
  refine a_iload_n (q := 4) dL_addEdge_3 rfl rfl rfl ?_
  refine a_iload_n (q := 5) dL_addEdge_4 rfl rfl rfl ?_
  refine a_cVAv (q := 8) _ dL_addEdge_5 kL_15 (hM) hA rfl rfl (Nat.le_of_ble_eq_true rfl) ⟨(Nat.le_of_ble_eq_true rfl), (Nat.le_of_ble_eq_true rfl)⟩ ⟨(Nat.le_of_ble_eq_true rfl), (Nat.le_of_ble_eq_true rfl)⟩ rfl ?_
  refine a_i2l (q := 9) dL_addEdge_8 rfl ?_
  refine a_lastB (q := 10) dL_addEdge_9 rfl vp_in01 rfl ?_
  refine a_goto 21 dL_addEdge_10 (by decide) ?_
  refine a_iconst (q := 22) (nI 0) dL_addEdge_21 (by decide) rfl ?_
  exact a_iret dL_addEdge_22 rfl rfl (Nat.le_of_ble_eq_true rfl) (Nat.le_of_ble_eq_true rfl) (⟨rfl, rfl, rfl, rfl⟩)
theorem hx_addEdge1 (x : Int32) (y : Int32) (hA : A[0]? = some (.inr (8, fs))) (hM : Ct g mX8_addEdge [.ref (g.1 + 0), .int x, .int y] 0 A B 1 6 noP (tX xIA A1 B)) : Ct g mL_addEdge [.ref (g.1 + 0), .int x, .int y, .ref (g.2.1 + 23)] 0 A B 1 6 (rP (some (.int (nI 1))) A1 B) noX := by
  refine Ct.ofH [some (.ref (g.1 + 0)), some (.int x), some (.int y), some (.ref (g.2.1 + 23)), none] (by decide) rfl (Nat.le_of_ble_eq_true rfl) rfl ?_
  refine a_aload_n (q := 1) dL_addEdge_0 rfl rfl rfl ?_
  refine a_iconst (q := 2) (nI 0) dL_addEdge_1 (by decide) rfl ?_
  refine a_aload_n (q := 3) dL_addEdge_2 rfl rfl rfl ?_
  refine a_iload_n (q := 4) dL_addEdge_3 rfl rfl rfl ?_
  refine a_iload_n (q := 5) dL_addEdge_4 rfl rfl rfl ?_
  refine a_xVA _ dL_addEdge_5 kL_15 hM hA rfl rfl (Nat.le_of_ble_eq_true rfl) ⟨(Nat.le_of_ble_eq_true rfl), (Nat.le_of_ble_eq_true rfl)⟩ ⟨(Nat.le_of_ble_eq_true rfl), (Nat.le_of_ble_eq_true rfl)⟩ ?_
  refine ax_catch4 (q := 15) (E := xIA) [] (0, 10, 13, 13) [(0, 10, 17, 19)] rfl (fun _ h => nomatch h) ⟨0, 10, 13, 13⟩ rfl rfl (by decide) qL_13 (by decide) rfl dL_addEdge_13 (Nat.le_of_ble_eq_true rfl) rfl rfl ?_
  refine a_iconst (q := 16) (nI 1) dL_addEdge_15 (by decide) rfl ?_
  exact a_iret dL_addEdge_16 rfl rfl (Nat.le_of_ble_eq_true rfl) (Nat.le_of_ble_eq_true rfl) (⟨rfl, rfl, rfl, rfl⟩)
theorem hx_addEdge2 (x : Int32) (y : Int32) (hA : A[0]? = some (.inr (8, fs))) (hM : Ct g mX8_addEdge [.ref (g.1 + 0), .int x, .int y] 0 A B 1 6 noP (tX xIS A1 B)) : Ct g mL_addEdge [.ref (g.1 + 0), .int x, .int y, .ref (g.2.1 + 23)] 0 A B 1 6 (rP (some (.int (nI 2))) A1 B) noX := by
  refine Ct.ofH [some (.ref (g.1 + 0)), some (.int x), some (.int y), some (.ref (g.2.1 + 23)), none] (by decide) rfl (Nat.le_of_ble_eq_true rfl) rfl ?_
  refine a_aload_n (q := 1) dL_addEdge_0 rfl rfl rfl ?_
  refine a_iconst (q := 2) (nI 0) dL_addEdge_1 (by decide) rfl ?_
  refine a_aload_n (q := 3) dL_addEdge_2 rfl rfl rfl ?_
  refine a_iload_n (q := 4) dL_addEdge_3 rfl rfl rfl ?_
  refine a_iload_n (q := 5) dL_addEdge_4 rfl rfl rfl ?_
  refine a_xVA _ dL_addEdge_5 kL_15 hM hA rfl rfl (Nat.le_of_ble_eq_true rfl) ⟨(Nat.le_of_ble_eq_true rfl), (Nat.le_of_ble_eq_true rfl)⟩ ⟨(Nat.le_of_ble_eq_true rfl), (Nat.le_of_ble_eq_true rfl)⟩ ?_
  refine ax_catch4 (q := 19) (E := xIS) [(0, 10, 13, 13)] (0, 10, 17, 19) [] rfl (fun y hy => by rw [List.mem_singleton.mp hy]; exact ⟨by decide, xIA, qL_13, by decide⟩) ⟨0, 10, 17, 19⟩ rfl rfl (by decide) qL_19 (by decide) rfl dL_addEdge_17 (Nat.le_of_ble_eq_true rfl) rfl rfl ?_
  refine a_iconst (q := 20) (nI 2) dL_addEdge_19 (by decide) rfl ?_
  exact a_iret dL_addEdge_20 rfl rfl (Nat.le_of_ble_eq_true rfl) (Nat.le_of_ble_eq_true rfl) (⟨rfl, rfl, rfl, rfl⟩)
theorem h_setWeight (x : Int32) (y : Int32) (r : Int32) (hA : A[0]? = some (.inr (8, fs))) (hM : Ct g mX8_setWeight [.ref (g.1 + 0), .int x, .int y] 0 A (BM g G T th Y W R Z U L h O) 0 0 (rP (some (.int r)) A1 (BM g G T th Y W R Z U L h O)) noX) : Ct g mL_setWeight [.ref (g.1 + 0), .int x, .int y, .ref (g.2.1 + 23)] 0 A (BM g G T th Y W R Z U L h O) 1 6 (rP (some (.int (nI 0))) A1 (BM g G T th Y W R Z U L h (oJ O r.toInt64))) noX := by
  refine Ct.ofH [some (.ref (g.1 + 0)), some (.int x), some (.int y), some (.ref (g.2.1 + 23)), none] (by decide) rfl (Nat.le_of_ble_eq_true rfl) rfl ?_
  refine a_aload_n (q := 1) dL_setWeight_0 rfl rfl rfl ?_
  refine a_iconst (q := 2) (nI 0) dL_setWeight_1 (by decide) rfl ?_
  refine a_aload_n (q := 3) dL_setWeight_2 rfl rfl rfl ?_
  refine a_iload_n (q := 4) dL_setWeight_3 rfl rfl rfl ?_
  refine a_iload_n (q := 5) dL_setWeight_4 rfl rfl rfl ?_
  refine a_cVAv (q := 8) _ dL_setWeight_5 kL_21 (hM) hA rfl rfl (Nat.le_of_ble_eq_true rfl) ⟨(Nat.le_of_ble_eq_true rfl), (Nat.le_of_ble_eq_true rfl)⟩ ⟨(Nat.le_of_ble_eq_true rfl), (Nat.le_of_ble_eq_true rfl)⟩ rfl ?_
  refine a_i2l (q := 9) dL_setWeight_8 rfl ?_
  refine a_lastB (q := 10) dL_setWeight_9 rfl vp_in01 rfl ?_
  refine a_goto 21 dL_setWeight_10 (by decide) ?_
  refine a_iconst (q := 22) (nI 0) dL_setWeight_21 (by decide) rfl ?_
  exact a_iret dL_setWeight_22 rfl rfl (Nat.le_of_ble_eq_true rfl) (Nat.le_of_ble_eq_true rfl) (⟨rfl, rfl, rfl, rfl⟩)
theorem hx_setWeight1 (x : Int32) (y : Int32) (hA : A[0]? = some (.inr (8, fs))) (hM : Ct g mX8_setWeight [.ref (g.1 + 0), .int x, .int y] 0 A B 1 6 noP (tX xIB A1 B)) : Ct g mL_setWeight [.ref (g.1 + 0), .int x, .int y, .ref (g.2.1 + 23)] 0 A B 1 6 (rP (some (.int (nI 1))) A1 B) noX := by
  refine Ct.ofH [some (.ref (g.1 + 0)), some (.int x), some (.int y), some (.ref (g.2.1 + 23)), none] (by decide) rfl (Nat.le_of_ble_eq_true rfl) rfl ?_
  refine a_aload_n (q := 1) dL_setWeight_0 rfl rfl rfl ?_
  refine a_iconst (q := 2) (nI 0) dL_setWeight_1 (by decide) rfl ?_
  refine a_aload_n (q := 3) dL_setWeight_2 rfl rfl rfl ?_
  refine a_iload_n (q := 4) dL_setWeight_3 rfl rfl rfl ?_
  refine a_iload_n (q := 5) dL_setWeight_4 rfl rfl rfl ?_
  refine a_xVA _ dL_setWeight_5 kL_21 hM hA rfl rfl (Nat.le_of_ble_eq_true rfl) ⟨(Nat.le_of_ble_eq_true rfl), (Nat.le_of_ble_eq_true rfl)⟩ ⟨(Nat.le_of_ble_eq_true rfl), (Nat.le_of_ble_eq_true rfl)⟩ ?_
  refine ax_catch4 (q := 15) (E := xIB) [] (0, 10, 13, 24) [(0, 10, 17, 13)] rfl (fun _ h => nomatch h) ⟨0, 10, 13, 24⟩ rfl rfl (by decide) qL_24 (by decide) rfl dL_setWeight_13 (Nat.le_of_ble_eq_true rfl) rfl rfl ?_
  refine a_iconst (q := 16) (nI 1) dL_setWeight_15 (by decide) rfl ?_
  exact a_iret dL_setWeight_16 rfl rfl (Nat.le_of_ble_eq_true rfl) (Nat.le_of_ble_eq_true rfl) (⟨rfl, rfl, rfl, rfl⟩)
theorem hx_setWeight2 (x : Int32) (y : Int32) (hA : A[0]? = some (.inr (8, fs))) (hM : Ct g mX8_setWeight [.ref (g.1 + 0), .int x, .int y] 0 A B 1 6 noP (tX xIA A1 B)) : Ct g mL_setWeight [.ref (g.1 + 0), .int x, .int y, .ref (g.2.1 + 23)] 0 A B 1 6 (rP (some (.int (nI 2))) A1 B) noX := by
  refine Ct.ofH [some (.ref (g.1 + 0)), some (.int x), some (.int y), some (.ref (g.2.1 + 23)), none] (by decide) rfl (Nat.le_of_ble_eq_true rfl) rfl ?_
  refine a_aload_n (q := 1) dL_setWeight_0 rfl rfl rfl ?_
  refine a_iconst (q := 2) (nI 0) dL_setWeight_1 (by decide) rfl ?_
  refine a_aload_n (q := 3) dL_setWeight_2 rfl rfl rfl ?_
  refine a_iload_n (q := 4) dL_setWeight_3 rfl rfl rfl ?_
  refine a_iload_n (q := 5) dL_setWeight_4 rfl rfl rfl ?_
  refine a_xVA _ dL_setWeight_5 kL_21 hM hA rfl rfl (Nat.le_of_ble_eq_true rfl) ⟨(Nat.le_of_ble_eq_true rfl), (Nat.le_of_ble_eq_true rfl)⟩ ⟨(Nat.le_of_ble_eq_true rfl), (Nat.le_of_ble_eq_true rfl)⟩ ?_
  refine ax_catch4 (q := 19) (E := xIA) [(0, 10, 13, 24)] (0, 10, 17, 13) [] rfl (fun y hy => by rw [List.mem_singleton.mp hy]; exact ⟨by decide, xIB, qL_24, by decide⟩) ⟨0, 10, 17, 13⟩ rfl rfl (by decide) qL_13 (by decide) rfl dL_setWeight_17 (Nat.le_of_ble_eq_true rfl) rfl rfl ?_
  refine a_iconst (q := 20) (nI 2) dL_setWeight_19 (by decide) rfl ?_
  exact a_iret dL_setWeight_20 rfl rfl (Nat.le_of_ble_eq_true rfl) (Nat.le_of_ble_eq_true rfl) (⟨rfl, rfl, rfl, rfl⟩)
theorem h_append (x : Int32) (r : Int32) (hA : A[0]? = some (.inr (8, fs))) (hM : Ct g mX8_append [.ref (g.1 + 0), .int x] 0 A (BM g G T th Y W R Z U L h O) 0 0 (rP (some (.int r)) A1 (BM g G T th Y W R Z U L h O)) noX) : Ct g mL_append [.ref (g.1 + 0), .int x, .ref (g.2.1 + 23)] 0 A (BM g G T th Y W R Z U L h O) 1 6 (rP (some (.int (nI 0))) A1 (BM g G T th Y W R Z U L h (oJ O r.toInt64))) noX := by
  refine Ct.ofH [some (.ref (g.1 + 0)), some (.int x), some (.ref (g.2.1 + 23)), none] (by decide) rfl (Nat.le_of_ble_eq_true rfl) rfl ?_
  refine a_aload_n (q := 1) dL_append_0 rfl rfl rfl ?_
  refine a_iconst (q := 2) (nI 0) dL_append_1 (by decide) rfl ?_
  refine a_aload_n (q := 3) dL_append_2 rfl rfl rfl ?_
  refine a_iload_n (q := 4) dL_append_3 rfl rfl rfl ?_
  refine a_cVAv (q := 7) _ dL_append_4 kL_26 (hM) hA rfl rfl (Nat.le_of_ble_eq_true rfl) ⟨(Nat.le_of_ble_eq_true rfl), (Nat.le_of_ble_eq_true rfl)⟩ ⟨(Nat.le_of_ble_eq_true rfl), (Nat.le_of_ble_eq_true rfl)⟩ rfl ?_
  refine a_i2l (q := 8) dL_append_7 rfl ?_
  refine a_lastB (q := 9) dL_append_8 rfl vp_in01 rfl ?_
  refine a_goto 18 dL_append_9 (by decide) ?_
  refine a_iconst (q := 19) (nI 0) dL_append_18 (by decide) rfl ?_
  exact a_iret dL_append_19 rfl rfl (Nat.le_of_ble_eq_true rfl) (Nat.le_of_ble_eq_true rfl) (⟨rfl, rfl, rfl, rfl⟩)
theorem hx_append1 (x : Int32) (hA : A[0]? = some (.inr (8, fs))) (hM : Ct g mX8_append [.ref (g.1 + 0), .int x] 0 A B 1 6 noP (tX xIA A1 B)) : Ct g mL_append [.ref (g.1 + 0), .int x, .ref (g.2.1 + 23)] 0 A B 1 6 (rP (some (.int (nI 1))) A1 B) noX := by
  refine Ct.ofH [some (.ref (g.1 + 0)), some (.int x), some (.ref (g.2.1 + 23)), none] (by decide) rfl (Nat.le_of_ble_eq_true rfl) rfl ?_
  refine a_aload_n (q := 1) dL_append_0 rfl rfl rfl ?_
  refine a_iconst (q := 2) (nI 0) dL_append_1 (by decide) rfl ?_
  refine a_aload_n (q := 3) dL_append_2 rfl rfl rfl ?_
  refine a_iload_n (q := 4) dL_append_3 rfl rfl rfl ?_
  refine a_xVA _ dL_append_4 kL_26 hM hA rfl rfl (Nat.le_of_ble_eq_true rfl) ⟨(Nat.le_of_ble_eq_true rfl), (Nat.le_of_ble_eq_true rfl)⟩ ⟨(Nat.le_of_ble_eq_true rfl), (Nat.le_of_ble_eq_true rfl)⟩ ?_
  refine ax_catch (q := 13) (E := xIA) [] (0, 9, 12, 13) [(0, 9, 15, 19)] rfl (fun _ h => nomatch h) ⟨0, 9, 12, 13⟩ rfl rfl (by decide) qL_13 (by decide) rfl dL_append_12 rfl (Nat.le_of_ble_eq_true rfl) rfl rfl ?_
  refine a_iconst (q := 14) (nI 1) dL_append_13 (by decide) rfl ?_
  exact a_iret dL_append_14 rfl rfl (Nat.le_of_ble_eq_true rfl) (Nat.le_of_ble_eq_true rfl) (⟨rfl, rfl, rfl, rfl⟩)
theorem hx_append2 (x : Int32) (hA : A[0]? = some (.inr (8, fs))) (hM : Ct g mX8_append [.ref (g.1 + 0), .int x] 0 A B 1 6 noP (tX xIS A1 B)) : Ct g mL_append [.ref (g.1 + 0), .int x, .ref (g.2.1 + 23)] 0 A B 1 6 (rP (some (.int (nI 2))) A1 B) noX := by
  refine Ct.ofH [some (.ref (g.1 + 0)), some (.int x), some (.ref (g.2.1 + 23)), none] (by decide) rfl (Nat.le_of_ble_eq_true rfl) rfl ?_
  refine a_aload_n (q := 1) dL_append_0 rfl rfl rfl ?_
  refine a_iconst (q := 2) (nI 0) dL_append_1 (by decide) rfl ?_
  refine a_aload_n (q := 3) dL_append_2 rfl rfl rfl ?_
  refine a_iload_n (q := 4) dL_append_3 rfl rfl rfl ?_
  refine a_xVA _ dL_append_4 kL_26 hM hA rfl rfl (Nat.le_of_ble_eq_true rfl) ⟨(Nat.le_of_ble_eq_true rfl), (Nat.le_of_ble_eq_true rfl)⟩ ⟨(Nat.le_of_ble_eq_true rfl), (Nat.le_of_ble_eq_true rfl)⟩ ?_
  refine ax_catch (q := 16) (E := xIS) [(0, 9, 12, 13)] (0, 9, 15, 19) [] rfl (fun y hy => by rw [List.mem_singleton.mp hy]; exact ⟨by decide, xIA, qL_13, by decide⟩) ⟨0, 9, 15, 19⟩ rfl rfl (by decide) qL_19 (by decide) rfl dL_append_15 rfl (Nat.le_of_ble_eq_true rfl) rfl rfl ?_
  refine a_iconst (q := 17) (nI 2) dL_append_16 (by decide) rfl ?_
  exact a_iret dL_append_17 rfl rfl (Nat.le_of_ble_eq_true rfl) (Nat.le_of_ble_eq_true rfl) (⟨rfl, rfl, rfl, rfl⟩)
theorem h_load (r : Int32) (hA : A[0]? = some (.inr (8, fs))) (hM : Ct g mX8_load [.ref (g.1 + 0)] 0 A (BM g G T th Y W R Z U L h O) 0 0 (rP (some (.int r)) A1 (BM g G T th Y W R Z U L h O)) noX) : Ct g mL_load [.ref (g.1 + 0), .ref (g.2.1 + 23)] 0 A (BM g G T th Y W R Z U L h O) 1 6 (rP (some (.int (nI 0))) A1 (BM g G T th Y W R Z U L h (oJ O r.toInt64))) noX := by
  refine Ct.ofH [some (.ref (g.1 + 0)), some (.ref (g.2.1 + 23)), none] (by decide) rfl (Nat.le_of_ble_eq_true rfl) rfl ?_
  refine a_aload_n (q := 1) dL_load_0 rfl rfl rfl ?_
  refine a_iconst (q := 2) (nI 0) dL_load_1 (by decide) rfl ?_
  refine a_aload_n (q := 3) dL_load_2 rfl rfl rfl ?_
  refine a_cVAv (q := 6) _ dL_load_3 kL_30 (hM) hA rfl rfl (Nat.le_of_ble_eq_true rfl) ⟨(Nat.le_of_ble_eq_true rfl), (Nat.le_of_ble_eq_true rfl)⟩ ⟨(Nat.le_of_ble_eq_true rfl), (Nat.le_of_ble_eq_true rfl)⟩ rfl ?_
  refine a_i2l (q := 7) dL_load_6 rfl ?_
  refine a_lastB (q := 8) dL_load_7 rfl vp_in01 rfl ?_
  refine a_goto 14 dL_load_8 (by decide) ?_
  refine a_iconst (q := 15) (nI 0) dL_load_14 (by decide) rfl ?_
  exact a_iret dL_load_15 rfl rfl (Nat.le_of_ble_eq_true rfl) (Nat.le_of_ble_eq_true rfl) (⟨rfl, rfl, rfl, rfl⟩)
theorem hx_load1 (hA : A[0]? = some (.inr (8, fs))) (hM : Ct g mX8_load [.ref (g.1 + 0)] 0 A B 1 6 noP (tX xIS A1 B)) : Ct g mL_load [.ref (g.1 + 0), .ref (g.2.1 + 23)] 0 A B 1 6 (rP (some (.int (nI 1))) A1 B) noX := by
  refine Ct.ofH [some (.ref (g.1 + 0)), some (.ref (g.2.1 + 23)), none] (by decide) rfl (Nat.le_of_ble_eq_true rfl) rfl ?_
  refine a_aload_n (q := 1) dL_load_0 rfl rfl rfl ?_
  refine a_iconst (q := 2) (nI 0) dL_load_1 (by decide) rfl ?_
  refine a_aload_n (q := 3) dL_load_2 rfl rfl rfl ?_
  refine a_xVA _ dL_load_3 kL_30 hM hA rfl rfl (Nat.le_of_ble_eq_true rfl) ⟨(Nat.le_of_ble_eq_true rfl), (Nat.le_of_ble_eq_true rfl)⟩ ⟨(Nat.le_of_ble_eq_true rfl), (Nat.le_of_ble_eq_true rfl)⟩ ?_
  refine ax_catch (q := 12) (E := xIS) [] (0, 8, 11, 19) [] rfl (fun _ h => nomatch h) ⟨0, 8, 11, 19⟩ rfl rfl (by decide) qL_19 (by decide) rfl dL_load_11 rfl (Nat.le_of_ble_eq_true rfl) rfl rfl ?_
  refine a_iconst (q := 13) (nI 1) dL_load_12 (by decide) rfl ?_
  exact a_iret dL_load_13 rfl rfl (Nat.le_of_ble_eq_true rfl) (Nat.le_of_ble_eq_true rfl) (⟨rfl, rfl, rfl, rfl⟩)
theorem h_pathsFrom (x : Int32) (r : Int32) (hA : A[0]? = some (.inr (8, fs))) (hM : Ct g mX8_pathsFrom [.ref (g.1 + 0), .int x] 0 A (BM g G T th Y W R Z U L h O) 0 0 (rP (some (.int r)) A1 (BM g G T th Y W R Z U L h O)) noX) : Ct g mL_pathsFrom [.ref (g.1 + 0), .int x, .ref (g.2.1 + 23)] 0 A (BM g G T th Y W R Z U L h O) 1 6 (rP (some (.int (nI 0))) A1 (BM g G T th Y W R Z U L h (oJ O r.toInt64))) noX := by
  refine Ct.ofH [some (.ref (g.1 + 0)), some (.int x), some (.ref (g.2.1 + 23)), none] (by decide) rfl (Nat.le_of_ble_eq_true rfl) rfl ?_
  refine a_aload_n (q := 1) dL_pathsFrom_0 rfl rfl rfl ?_
  refine a_iconst (q := 2) (nI 0) dL_pathsFrom_1 (by decide) rfl ?_
  refine a_aload_n (q := 3) dL_pathsFrom_2 rfl rfl rfl ?_
  refine a_iload_n (q := 4) dL_pathsFrom_3 rfl rfl rfl ?_
  refine a_cVAv (q := 7) _ dL_pathsFrom_4 kL_34 (hM) hA rfl rfl (Nat.le_of_ble_eq_true rfl) ⟨(Nat.le_of_ble_eq_true rfl), (Nat.le_of_ble_eq_true rfl)⟩ ⟨(Nat.le_of_ble_eq_true rfl), (Nat.le_of_ble_eq_true rfl)⟩ rfl ?_
  refine a_i2l (q := 8) dL_pathsFrom_7 rfl ?_
  refine a_lastB (q := 9) dL_pathsFrom_8 rfl vp_in01 rfl ?_
  refine a_goto 18 dL_pathsFrom_9 (by decide) ?_
  refine a_iconst (q := 19) (nI 0) dL_pathsFrom_18 (by decide) rfl ?_
  exact a_iret dL_pathsFrom_19 rfl rfl (Nat.le_of_ble_eq_true rfl) (Nat.le_of_ble_eq_true rfl) (⟨rfl, rfl, rfl, rfl⟩)
theorem hx_pathsFrom1 (x : Int32) (hA : A[0]? = some (.inr (8, fs))) (hM : Ct g mX8_pathsFrom [.ref (g.1 + 0), .int x] 0 A B 1 6 noP (tX xIS A1 B)) : Ct g mL_pathsFrom [.ref (g.1 + 0), .int x, .ref (g.2.1 + 23)] 0 A B 1 6 (rP (some (.int (nI 1))) A1 B) noX := by
  refine Ct.ofH [some (.ref (g.1 + 0)), some (.int x), some (.ref (g.2.1 + 23)), none] (by decide) rfl (Nat.le_of_ble_eq_true rfl) rfl ?_
  refine a_aload_n (q := 1) dL_pathsFrom_0 rfl rfl rfl ?_
  refine a_iconst (q := 2) (nI 0) dL_pathsFrom_1 (by decide) rfl ?_
  refine a_aload_n (q := 3) dL_pathsFrom_2 rfl rfl rfl ?_
  refine a_iload_n (q := 4) dL_pathsFrom_3 rfl rfl rfl ?_
  refine a_xVA _ dL_pathsFrom_4 kL_34 hM hA rfl rfl (Nat.le_of_ble_eq_true rfl) ⟨(Nat.le_of_ble_eq_true rfl), (Nat.le_of_ble_eq_true rfl)⟩ ⟨(Nat.le_of_ble_eq_true rfl), (Nat.le_of_ble_eq_true rfl)⟩ ?_
  refine ax_catch (q := 13) (E := xIS) [] (0, 9, 12, 19) [(0, 9, 15, 24)] rfl (fun _ h => nomatch h) ⟨0, 9, 12, 19⟩ rfl rfl (by decide) qL_19 (by decide) rfl dL_pathsFrom_12 rfl (Nat.le_of_ble_eq_true rfl) rfl rfl ?_
  refine a_iconst (q := 14) (nI 1) dL_pathsFrom_13 (by decide) rfl ?_
  exact a_iret dL_pathsFrom_14 rfl rfl (Nat.le_of_ble_eq_true rfl) (Nat.le_of_ble_eq_true rfl) (⟨rfl, rfl, rfl, rfl⟩)
theorem hx_pathsFrom2 (x : Int32) (hA : A[0]? = some (.inr (8, fs))) (hM : Ct g mX8_pathsFrom [.ref (g.1 + 0), .int x] 0 A B 1 6 noP (tX xIB A1 B)) : Ct g mL_pathsFrom [.ref (g.1 + 0), .int x, .ref (g.2.1 + 23)] 0 A B 1 6 (rP (some (.int (nI 2))) A1 B) noX := by
  refine Ct.ofH [some (.ref (g.1 + 0)), some (.int x), some (.ref (g.2.1 + 23)), none] (by decide) rfl (Nat.le_of_ble_eq_true rfl) rfl ?_
  refine a_aload_n (q := 1) dL_pathsFrom_0 rfl rfl rfl ?_
  refine a_iconst (q := 2) (nI 0) dL_pathsFrom_1 (by decide) rfl ?_
  refine a_aload_n (q := 3) dL_pathsFrom_2 rfl rfl rfl ?_
  refine a_iload_n (q := 4) dL_pathsFrom_3 rfl rfl rfl ?_
  refine a_xVA _ dL_pathsFrom_4 kL_34 hM hA rfl rfl (Nat.le_of_ble_eq_true rfl) ⟨(Nat.le_of_ble_eq_true rfl), (Nat.le_of_ble_eq_true rfl)⟩ ⟨(Nat.le_of_ble_eq_true rfl), (Nat.le_of_ble_eq_true rfl)⟩ ?_
  refine ax_catch (q := 16) (E := xIB) [(0, 9, 12, 19)] (0, 9, 15, 24) [] rfl (fun y hy => by rw [List.mem_singleton.mp hy]; exact ⟨by decide, xIS, qL_19, by decide⟩) ⟨0, 9, 15, 24⟩ rfl rfl (by decide) qL_24 (by decide) rfl dL_pathsFrom_15 rfl (Nat.le_of_ble_eq_true rfl) rfl rfl ?_
  refine a_iconst (q := 17) (nI 2) dL_pathsFrom_16 (by decide) rfl ?_
  exact a_iret dL_pathsFrom_17 rfl rfl (Nat.le_of_ble_eq_true rfl) (Nat.le_of_ble_eq_true rfl) (⟨rfl, rfl, rfl, rfl⟩)
theorem h_isBack (x : Int32) (r : Bool) (hA : A[0]? = some (.inr (8, fs))) (hM : Ct g mX8_isBack [.ref (g.1 + 0), .int x] 0 A (BM g G T th Y W R Z U L h O) 0 0 (rP (some (.int (b2 r))) A1 (BM g G T th Y W R Z U L h O)) noX) : Ct g mL_isBack [.ref (g.1 + 0), .int x, .ref (g.2.1 + 23)] 0 A (BM g G T th Y W R Z U L h O) 1 6 (rP (some (.int (nI 0))) A1 (BM g G T th Y W R Z U L h (oJ O (bL r)))) noX := by
  refine Ct.ofH [some (.ref (g.1 + 0)), some (.int x), some (.ref (g.2.1 + 23)), none] (by decide) rfl (Nat.le_of_ble_eq_true rfl) rfl ?_
  refine a_aload_n (q := 1) dL_isBack_0 rfl rfl rfl ?_
  refine a_iconst (q := 2) (nI 0) dL_isBack_1 (by decide) rfl ?_
  refine a_aload_n (q := 3) dL_isBack_2 rfl rfl rfl ?_
  refine a_iload_n (q := 4) dL_isBack_3 rfl rfl rfl ?_
  refine a_cVAv (q := 7) _ dL_isBack_4 kL_37 (hM) hA rfl rfl (Nat.le_of_ble_eq_true rfl) ⟨(Nat.le_of_ble_eq_true rfl), (Nat.le_of_ble_eq_true rfl)⟩ ⟨(Nat.le_of_ble_eq_true rfl), (Nat.le_of_ble_eq_true rfl)⟩ rfl ?_
  refine a_if_eqZ (q := 10) 14 dL_isBack_7 (by decide) rfl (fun c7 => ?_) (fun c7 => ?_)
  · skip
    refine a_lconst (q := 15) 0 dL_isBack_14 (by decide) rfl ?_
    refine a_lastB (q := 16) dL_isBack_15 rfl vp_in01 rfl ?_
    refine a_goto 25 dL_isBack_16 (by decide) ?_
    refine a_iconst (q := 26) (nI 0) dL_isBack_25 (by decide) rfl ?_
    exact a_iret dL_isBack_26 rfl rfl (Nat.le_of_ble_eq_true rfl) (Nat.le_of_ble_eq_true rfl) (⟨rfl, rfl, rfl, by first | (rw [show r = true from c7]; rfl) | (rw [show r = false from c7]; rfl)⟩)
  · skip
    refine a_lconst (q := 11) 1 dL_isBack_10 (by decide) rfl ?_
    refine a_goto 15 dL_isBack_11 (by decide) ?_
    refine a_lastB (q := 16) dL_isBack_15 rfl vp_in01 rfl ?_
    refine a_goto 25 dL_isBack_16 (by decide) ?_
    refine a_iconst (q := 26) (nI 0) dL_isBack_25 (by decide) rfl ?_
    exact a_iret dL_isBack_26 rfl rfl (Nat.le_of_ble_eq_true rfl) (Nat.le_of_ble_eq_true rfl) (⟨rfl, rfl, rfl, by first | (rw [show r = true from c7]; rfl) | (rw [show r = false from c7]; rfl)⟩)
theorem hx_isBack1 (x : Int32) (hA : A[0]? = some (.inr (8, fs))) (hM : Ct g mX8_isBack [.ref (g.1 + 0), .int x] 0 A B 1 6 noP (tX xIS A1 B)) : Ct g mL_isBack [.ref (g.1 + 0), .int x, .ref (g.2.1 + 23)] 0 A B 1 6 (rP (some (.int (nI 1))) A1 B) noX := by
  refine Ct.ofH [some (.ref (g.1 + 0)), some (.int x), some (.ref (g.2.1 + 23)), none] (by decide) rfl (Nat.le_of_ble_eq_true rfl) rfl ?_
  refine a_aload_n (q := 1) dL_isBack_0 rfl rfl rfl ?_
  refine a_iconst (q := 2) (nI 0) dL_isBack_1 (by decide) rfl ?_
  refine a_aload_n (q := 3) dL_isBack_2 rfl rfl rfl ?_
  refine a_iload_n (q := 4) dL_isBack_3 rfl rfl rfl ?_
  refine a_xVA _ dL_isBack_4 kL_37 hM hA rfl rfl (Nat.le_of_ble_eq_true rfl) ⟨(Nat.le_of_ble_eq_true rfl), (Nat.le_of_ble_eq_true rfl)⟩ ⟨(Nat.le_of_ble_eq_true rfl), (Nat.le_of_ble_eq_true rfl)⟩ ?_
  refine ax_catch (q := 20) (E := xIS) [] (0, 16, 19, 19) [(0, 16, 22, 24)] rfl (fun _ h => nomatch h) ⟨0, 16, 19, 19⟩ rfl rfl (by decide) qL_19 (by decide) rfl dL_isBack_19 rfl (Nat.le_of_ble_eq_true rfl) rfl rfl ?_
  refine a_iconst (q := 21) (nI 1) dL_isBack_20 (by decide) rfl ?_
  exact a_iret dL_isBack_21 rfl rfl (Nat.le_of_ble_eq_true rfl) (Nat.le_of_ble_eq_true rfl) (⟨rfl, rfl, rfl, rfl⟩)
theorem hx_isBack2 (x : Int32) (hA : A[0]? = some (.inr (8, fs))) (hM : Ct g mX8_isBack [.ref (g.1 + 0), .int x] 0 A B 1 6 noP (tX xIB A1 B)) : Ct g mL_isBack [.ref (g.1 + 0), .int x, .ref (g.2.1 + 23)] 0 A B 1 6 (rP (some (.int (nI 2))) A1 B) noX := by
  refine Ct.ofH [some (.ref (g.1 + 0)), some (.int x), some (.ref (g.2.1 + 23)), none] (by decide) rfl (Nat.le_of_ble_eq_true rfl) rfl ?_
  refine a_aload_n (q := 1) dL_isBack_0 rfl rfl rfl ?_
  refine a_iconst (q := 2) (nI 0) dL_isBack_1 (by decide) rfl ?_
  refine a_aload_n (q := 3) dL_isBack_2 rfl rfl rfl ?_
  refine a_iload_n (q := 4) dL_isBack_3 rfl rfl rfl ?_
  refine a_xVA _ dL_isBack_4 kL_37 hM hA rfl rfl (Nat.le_of_ble_eq_true rfl) ⟨(Nat.le_of_ble_eq_true rfl), (Nat.le_of_ble_eq_true rfl)⟩ ⟨(Nat.le_of_ble_eq_true rfl), (Nat.le_of_ble_eq_true rfl)⟩ ?_
  refine ax_catch (q := 23) (E := xIB) [(0, 16, 19, 19)] (0, 16, 22, 24) [] rfl (fun y hy => by rw [List.mem_singleton.mp hy]; exact ⟨by decide, xIS, qL_19, by decide⟩) ⟨0, 16, 22, 24⟩ rfl rfl (by decide) qL_24 (by decide) rfl dL_isBack_22 rfl (Nat.le_of_ble_eq_true rfl) rfl rfl ?_
  refine a_iconst (q := 24) (nI 2) dL_isBack_23 (by decide) rfl ?_
  exact a_iret dL_isBack_24 rfl rfl (Nat.le_of_ble_eq_true rfl) (Nat.le_of_ble_eq_true rfl) (⟨rfl, rfl, rfl, rfl⟩)
theorem h_value (x : Int32) (y : Bool) (r : Int32) (hA : A[0]? = some (.inr (8, fs))) (hM : Ct g mX8_value [.ref (g.1 + 0), .int x, .int (b2 y)] 0 A (BM g G T th Y W R Z U L h O) 0 0 (rP (some (.int r)) A1 (BM g G T th Y W R Z U L h O)) noX) : Ct g mL_value [.ref (g.1 + 0), .int x, .int (b2 y), .ref (g.2.1 + 23)] 0 A (BM g G T th Y W R Z U L h O) 1 6 (rP (some (.int (nI 0))) A1 (BM g G T th Y W R Z U L h (oJ O r.toInt64))) noX := by
  refine Ct.ofH [some (.ref (g.1 + 0)), some (.int x), some (.int (b2 y)), some (.ref (g.2.1 + 23)), none] (by decide) rfl (Nat.le_of_ble_eq_true rfl) rfl ?_
  refine a_aload_n (q := 1) dL_value_0 rfl rfl rfl ?_
  refine a_iconst (q := 2) (nI 0) dL_value_1 (by decide) rfl ?_
  refine a_aload_n (q := 3) dL_value_2 rfl rfl rfl ?_
  refine a_iload_n (q := 4) dL_value_3 rfl rfl rfl ?_
  refine a_iload_n (q := 5) dL_value_4 rfl rfl rfl ?_
  refine a_cVAv (q := 8) _ dL_value_5 kL_41 (hM) hA rfl rfl (Nat.le_of_ble_eq_true rfl) ⟨(Nat.le_of_ble_eq_true rfl), (Nat.le_of_ble_eq_true rfl)⟩ ⟨(Nat.le_of_ble_eq_true rfl), (Nat.le_of_ble_eq_true rfl)⟩ rfl ?_
  refine a_i2l (q := 9) dL_value_8 rfl ?_
  refine a_lastB (q := 10) dL_value_9 rfl vp_in01 rfl ?_
  refine a_goto 21 dL_value_10 (by decide) ?_
  refine a_iconst (q := 22) (nI 0) dL_value_21 (by decide) rfl ?_
  exact a_iret dL_value_22 rfl rfl (Nat.le_of_ble_eq_true rfl) (Nat.le_of_ble_eq_true rfl) (⟨rfl, rfl, rfl, rfl⟩)
theorem hx_value1 (x : Int32) (y : Bool) (hA : A[0]? = some (.inr (8, fs))) (hM : Ct g mX8_value [.ref (g.1 + 0), .int x, .int (b2 y)] 0 A B 1 6 noP (tX xIS A1 B)) : Ct g mL_value [.ref (g.1 + 0), .int x, .int (b2 y), .ref (g.2.1 + 23)] 0 A B 1 6 (rP (some (.int (nI 1))) A1 B) noX := by
  refine Ct.ofH [some (.ref (g.1 + 0)), some (.int x), some (.int (b2 y)), some (.ref (g.2.1 + 23)), none] (by decide) rfl (Nat.le_of_ble_eq_true rfl) rfl ?_
  refine a_aload_n (q := 1) dL_value_0 rfl rfl rfl ?_
  refine a_iconst (q := 2) (nI 0) dL_value_1 (by decide) rfl ?_
  refine a_aload_n (q := 3) dL_value_2 rfl rfl rfl ?_
  refine a_iload_n (q := 4) dL_value_3 rfl rfl rfl ?_
  refine a_iload_n (q := 5) dL_value_4 rfl rfl rfl ?_
  refine a_xVA _ dL_value_5 kL_41 hM hA rfl rfl (Nat.le_of_ble_eq_true rfl) ⟨(Nat.le_of_ble_eq_true rfl), (Nat.le_of_ble_eq_true rfl)⟩ ⟨(Nat.le_of_ble_eq_true rfl), (Nat.le_of_ble_eq_true rfl)⟩ ?_
  refine ax_catch4 (q := 15) (E := xIS) [] (0, 10, 13, 19) [(0, 10, 17, 24)] rfl (fun _ h => nomatch h) ⟨0, 10, 13, 19⟩ rfl rfl (by decide) qL_19 (by decide) rfl dL_value_13 (Nat.le_of_ble_eq_true rfl) rfl rfl ?_
  refine a_iconst (q := 16) (nI 1) dL_value_15 (by decide) rfl ?_
  exact a_iret dL_value_16 rfl rfl (Nat.le_of_ble_eq_true rfl) (Nat.le_of_ble_eq_true rfl) (⟨rfl, rfl, rfl, rfl⟩)
theorem hx_value2 (x : Int32) (y : Bool) (hA : A[0]? = some (.inr (8, fs))) (hM : Ct g mX8_value [.ref (g.1 + 0), .int x, .int (b2 y)] 0 A B 1 6 noP (tX xIB A1 B)) : Ct g mL_value [.ref (g.1 + 0), .int x, .int (b2 y), .ref (g.2.1 + 23)] 0 A B 1 6 (rP (some (.int (nI 2))) A1 B) noX := by
  refine Ct.ofH [some (.ref (g.1 + 0)), some (.int x), some (.int (b2 y)), some (.ref (g.2.1 + 23)), none] (by decide) rfl (Nat.le_of_ble_eq_true rfl) rfl ?_
  refine a_aload_n (q := 1) dL_value_0 rfl rfl rfl ?_
  refine a_iconst (q := 2) (nI 0) dL_value_1 (by decide) rfl ?_
  refine a_aload_n (q := 3) dL_value_2 rfl rfl rfl ?_
  refine a_iload_n (q := 4) dL_value_3 rfl rfl rfl ?_
  refine a_iload_n (q := 5) dL_value_4 rfl rfl rfl ?_
  refine a_xVA _ dL_value_5 kL_41 hM hA rfl rfl (Nat.le_of_ble_eq_true rfl) ⟨(Nat.le_of_ble_eq_true rfl), (Nat.le_of_ble_eq_true rfl)⟩ ⟨(Nat.le_of_ble_eq_true rfl), (Nat.le_of_ble_eq_true rfl)⟩ ?_
  refine ax_catch4 (q := 19) (E := xIB) [(0, 10, 13, 19)] (0, 10, 17, 24) [] rfl (fun y hy => by rw [List.mem_singleton.mp hy]; exact ⟨by decide, xIS, qL_19, by decide⟩) ⟨0, 10, 17, 24⟩ rfl rfl (by decide) qL_24 (by decide) rfl dL_value_17 (Nat.le_of_ble_eq_true rfl) rfl rfl ?_
  refine a_iconst (q := 20) (nI 2) dL_value_19 (by decide) rfl ?_
  exact a_iret dL_value_20 rfl rfl (Nat.le_of_ble_eq_true rfl) (Nat.le_of_ble_eq_true rfl) (⟨rfl, rfl, rfl, rfl⟩)
theorem h_increment (x : Int32) (y : Bool) (r : Int32) (hA : A[0]? = some (.inr (8, fs))) (hM : Ct g mX8_increment [.ref (g.1 + 0), .int x, .int (b2 y)] 0 A (BM g G T th Y W R Z U L h O) 0 0 (rP (some (.int r)) A1 (BM g G T th Y W R Z U L h O)) noX) : Ct g mL_increment [.ref (g.1 + 0), .int x, .int (b2 y), .ref (g.2.1 + 23)] 0 A (BM g G T th Y W R Z U L h O) 1 6 (rP (some (.int (nI 0))) A1 (BM g G T th Y W R Z U L h (oJ O r.toInt64))) noX := by
  refine Ct.ofH [some (.ref (g.1 + 0)), some (.int x), some (.int (b2 y)), some (.ref (g.2.1 + 23)), none] (by decide) rfl (Nat.le_of_ble_eq_true rfl) rfl ?_
  refine a_aload_n (q := 1) dL_increment_0 rfl rfl rfl ?_
  refine a_iconst (q := 2) (nI 0) dL_increment_1 (by decide) rfl ?_
  refine a_aload_n (q := 3) dL_increment_2 rfl rfl rfl ?_
  refine a_iload_n (q := 4) dL_increment_3 rfl rfl rfl ?_
  refine a_iload_n (q := 5) dL_increment_4 rfl rfl rfl ?_
  refine a_cVAv (q := 8) _ dL_increment_5 kL_45 (hM) hA rfl rfl (Nat.le_of_ble_eq_true rfl) ⟨(Nat.le_of_ble_eq_true rfl), (Nat.le_of_ble_eq_true rfl)⟩ ⟨(Nat.le_of_ble_eq_true rfl), (Nat.le_of_ble_eq_true rfl)⟩ rfl ?_
  refine a_i2l (q := 9) dL_increment_8 rfl ?_
  refine a_lastB (q := 10) dL_increment_9 rfl vp_in01 rfl ?_
  refine a_goto 21 dL_increment_10 (by decide) ?_
  refine a_iconst (q := 22) (nI 0) dL_increment_21 (by decide) rfl ?_
  exact a_iret dL_increment_22 rfl rfl (Nat.le_of_ble_eq_true rfl) (Nat.le_of_ble_eq_true rfl) (⟨rfl, rfl, rfl, rfl⟩)
theorem hx_increment1 (x : Int32) (y : Bool) (hA : A[0]? = some (.inr (8, fs))) (hM : Ct g mX8_increment [.ref (g.1 + 0), .int x, .int (b2 y)] 0 A B 1 6 noP (tX xIS A1 B)) : Ct g mL_increment [.ref (g.1 + 0), .int x, .int (b2 y), .ref (g.2.1 + 23)] 0 A B 1 6 (rP (some (.int (nI 1))) A1 B) noX := by
  refine Ct.ofH [some (.ref (g.1 + 0)), some (.int x), some (.int (b2 y)), some (.ref (g.2.1 + 23)), none] (by decide) rfl (Nat.le_of_ble_eq_true rfl) rfl ?_
  refine a_aload_n (q := 1) dL_increment_0 rfl rfl rfl ?_
  refine a_iconst (q := 2) (nI 0) dL_increment_1 (by decide) rfl ?_
  refine a_aload_n (q := 3) dL_increment_2 rfl rfl rfl ?_
  refine a_iload_n (q := 4) dL_increment_3 rfl rfl rfl ?_
  refine a_iload_n (q := 5) dL_increment_4 rfl rfl rfl ?_
  refine a_xVA _ dL_increment_5 kL_45 hM hA rfl rfl (Nat.le_of_ble_eq_true rfl) ⟨(Nat.le_of_ble_eq_true rfl), (Nat.le_of_ble_eq_true rfl)⟩ ⟨(Nat.le_of_ble_eq_true rfl), (Nat.le_of_ble_eq_true rfl)⟩ ?_
  refine ax_catch4 (q := 15) (E := xIS) [] (0, 10, 13, 19) [(0, 10, 17, 24)] rfl (fun _ h => nomatch h) ⟨0, 10, 13, 19⟩ rfl rfl (by decide) qL_19 (by decide) rfl dL_increment_13 (Nat.le_of_ble_eq_true rfl) rfl rfl ?_
  refine a_iconst (q := 16) (nI 1) dL_increment_15 (by decide) rfl ?_
  exact a_iret dL_increment_16 rfl rfl (Nat.le_of_ble_eq_true rfl) (Nat.le_of_ble_eq_true rfl) (⟨rfl, rfl, rfl, rfl⟩)
theorem hx_increment2 (x : Int32) (y : Bool) (hA : A[0]? = some (.inr (8, fs))) (hM : Ct g mX8_increment [.ref (g.1 + 0), .int x, .int (b2 y)] 0 A B 1 6 noP (tX xIB A1 B)) : Ct g mL_increment [.ref (g.1 + 0), .int x, .int (b2 y), .ref (g.2.1 + 23)] 0 A B 1 6 (rP (some (.int (nI 2))) A1 B) noX := by
  refine Ct.ofH [some (.ref (g.1 + 0)), some (.int x), some (.int (b2 y)), some (.ref (g.2.1 + 23)), none] (by decide) rfl (Nat.le_of_ble_eq_true rfl) rfl ?_
  refine a_aload_n (q := 1) dL_increment_0 rfl rfl rfl ?_
  refine a_iconst (q := 2) (nI 0) dL_increment_1 (by decide) rfl ?_
  refine a_aload_n (q := 3) dL_increment_2 rfl rfl rfl ?_
  refine a_iload_n (q := 4) dL_increment_3 rfl rfl rfl ?_
  refine a_iload_n (q := 5) dL_increment_4 rfl rfl rfl ?_
  refine a_xVA _ dL_increment_5 kL_45 hM hA rfl rfl (Nat.le_of_ble_eq_true rfl) ⟨(Nat.le_of_ble_eq_true rfl), (Nat.le_of_ble_eq_true rfl)⟩ ⟨(Nat.le_of_ble_eq_true rfl), (Nat.le_of_ble_eq_true rfl)⟩ ?_
  refine ax_catch4 (q := 19) (E := xIB) [(0, 10, 13, 19)] (0, 10, 17, 24) [] rfl (fun y hy => by rw [List.mem_singleton.mp hy]; exact ⟨by decide, xIS, qL_19, by decide⟩) ⟨0, 10, 17, 24⟩ rfl rfl (by decide) qL_24 (by decide) rfl dL_increment_17 (Nat.le_of_ble_eq_true rfl) rfl rfl ?_
  refine a_iconst (q := 20) (nI 2) dL_increment_19 (by decide) rfl ?_
  exact a_iret dL_increment_20 rfl rfl (Nat.le_of_ble_eq_true rfl) (Nat.le_of_ble_eq_true rfl) (⟨rfl, rfl, rfl, rfl⟩)
theorem h_chords (x : Bool) (r : Int32) (hA : A[0]? = some (.inr (8, fs))) (hM : Ct g mX8_chords [.ref (g.1 + 0), .int (b2 x)] 0 A (BM g G T th Y W R Z U L h O) 0 0 (rP (some (.int r)) A1 (BM g G T th Y W R Z U L h O)) noX) : Ct g mL_chords [.ref (g.1 + 0), .int (b2 x), .ref (g.2.1 + 23)] 0 A (BM g G T th Y W R Z U L h O) 1 6 (rP (some (.int (nI 0))) A1 (BM g G T th Y W R Z U L h (oJ O r.toInt64))) noX := by
  refine Ct.ofH [some (.ref (g.1 + 0)), some (.int (b2 x)), some (.ref (g.2.1 + 23)), none] (by decide) rfl (Nat.le_of_ble_eq_true rfl) rfl ?_
  refine a_aload_n (q := 1) dL_chords_0 rfl rfl rfl ?_
  refine a_iconst (q := 2) (nI 0) dL_chords_1 (by decide) rfl ?_
  refine a_aload_n (q := 3) dL_chords_2 rfl rfl rfl ?_
  refine a_iload_n (q := 4) dL_chords_3 rfl rfl rfl ?_
  refine a_cVAv (q := 7) _ dL_chords_4 kL_48 (hM) hA rfl rfl (Nat.le_of_ble_eq_true rfl) ⟨(Nat.le_of_ble_eq_true rfl), (Nat.le_of_ble_eq_true rfl)⟩ ⟨(Nat.le_of_ble_eq_true rfl), (Nat.le_of_ble_eq_true rfl)⟩ rfl ?_
  refine a_i2l (q := 8) dL_chords_7 rfl ?_
  refine a_lastB (q := 9) dL_chords_8 rfl vp_in01 rfl ?_
  refine a_goto 15 dL_chords_9 (by decide) ?_
  refine a_iconst (q := 16) (nI 0) dL_chords_15 (by decide) rfl ?_
  exact a_iret dL_chords_16 rfl rfl (Nat.le_of_ble_eq_true rfl) (Nat.le_of_ble_eq_true rfl) (⟨rfl, rfl, rfl, rfl⟩)
theorem hx_chords1 (x : Bool) (hA : A[0]? = some (.inr (8, fs))) (hM : Ct g mX8_chords [.ref (g.1 + 0), .int (b2 x)] 0 A B 1 6 noP (tX xIS A1 B)) : Ct g mL_chords [.ref (g.1 + 0), .int (b2 x), .ref (g.2.1 + 23)] 0 A B 1 6 (rP (some (.int (nI 1))) A1 B) noX := by
  refine Ct.ofH [some (.ref (g.1 + 0)), some (.int (b2 x)), some (.ref (g.2.1 + 23)), none] (by decide) rfl (Nat.le_of_ble_eq_true rfl) rfl ?_
  refine a_aload_n (q := 1) dL_chords_0 rfl rfl rfl ?_
  refine a_iconst (q := 2) (nI 0) dL_chords_1 (by decide) rfl ?_
  refine a_aload_n (q := 3) dL_chords_2 rfl rfl rfl ?_
  refine a_iload_n (q := 4) dL_chords_3 rfl rfl rfl ?_
  refine a_xVA _ dL_chords_4 kL_48 hM hA rfl rfl (Nat.le_of_ble_eq_true rfl) ⟨(Nat.le_of_ble_eq_true rfl), (Nat.le_of_ble_eq_true rfl)⟩ ⟨(Nat.le_of_ble_eq_true rfl), (Nat.le_of_ble_eq_true rfl)⟩ ?_
  refine ax_catch (q := 13) (E := xIS) [] (0, 9, 12, 19) [] rfl (fun _ h => nomatch h) ⟨0, 9, 12, 19⟩ rfl rfl (by decide) qL_19 (by decide) rfl dL_chords_12 rfl (Nat.le_of_ble_eq_true rfl) rfl rfl ?_
  refine a_iconst (q := 14) (nI 1) dL_chords_13 (by decide) rfl ?_
  exact a_iret dL_chords_14 rfl rfl (Nat.le_of_ble_eq_true rfl) (Nat.le_of_ble_eq_true rfl) (⟨rfl, rfl, rfl, rfl⟩)
theorem h_pathLength (x : Int32) (r : Int32) (hA : A[0]? = some (.inr (8, fs))) (hM : Ct g mX8_pathLength [.ref (g.1 + 0), .int x] 0 A (BM g G T th Y W R Z U L h O) 0 0 (rP (some (.int r)) A1 (BM g G T th Y W R Z U L h O)) noX) : Ct g mL_pathLength [.ref (g.1 + 0), .int x, .ref (g.2.1 + 23)] 0 A (BM g G T th Y W R Z U L h O) 1 6 (rP (some (.int (nI 0))) A1 (BM g G T th Y W R Z U L h (oJ O r.toInt64))) noX := by
  refine Ct.ofH [some (.ref (g.1 + 0)), some (.int x), some (.ref (g.2.1 + 23)), none] (by decide) rfl (Nat.le_of_ble_eq_true rfl) rfl ?_
  refine a_aload_n (q := 1) dL_pathLength_0 rfl rfl rfl ?_
  refine a_iconst (q := 2) (nI 0) dL_pathLength_1 (by decide) rfl ?_
  refine a_aload_n (q := 3) dL_pathLength_2 rfl rfl rfl ?_
  refine a_iload_n (q := 4) dL_pathLength_3 rfl rfl rfl ?_
  refine a_cVAv (q := 7) _ dL_pathLength_4 kL_52 (hM) hA rfl rfl (Nat.le_of_ble_eq_true rfl) ⟨(Nat.le_of_ble_eq_true rfl), (Nat.le_of_ble_eq_true rfl)⟩ ⟨(Nat.le_of_ble_eq_true rfl), (Nat.le_of_ble_eq_true rfl)⟩ rfl ?_
  refine a_i2l (q := 8) dL_pathLength_7 rfl ?_
  refine a_lastB (q := 9) dL_pathLength_8 rfl vp_in01 rfl ?_
  refine a_goto 18 dL_pathLength_9 (by decide) ?_
  refine a_iconst (q := 19) (nI 0) dL_pathLength_18 (by decide) rfl ?_
  exact a_iret dL_pathLength_19 rfl rfl (Nat.le_of_ble_eq_true rfl) (Nat.le_of_ble_eq_true rfl) (⟨rfl, rfl, rfl, rfl⟩)
theorem hx_pathLength1 (x : Int32) (hA : A[0]? = some (.inr (8, fs))) (hM : Ct g mX8_pathLength [.ref (g.1 + 0), .int x] 0 A B 1 6 noP (tX xIS A1 B)) : Ct g mL_pathLength [.ref (g.1 + 0), .int x, .ref (g.2.1 + 23)] 0 A B 1 6 (rP (some (.int (nI 1))) A1 B) noX := by
  refine Ct.ofH [some (.ref (g.1 + 0)), some (.int x), some (.ref (g.2.1 + 23)), none] (by decide) rfl (Nat.le_of_ble_eq_true rfl) rfl ?_
  refine a_aload_n (q := 1) dL_pathLength_0 rfl rfl rfl ?_
  refine a_iconst (q := 2) (nI 0) dL_pathLength_1 (by decide) rfl ?_
  refine a_aload_n (q := 3) dL_pathLength_2 rfl rfl rfl ?_
  refine a_iload_n (q := 4) dL_pathLength_3 rfl rfl rfl ?_
  refine a_xVA _ dL_pathLength_4 kL_52 hM hA rfl rfl (Nat.le_of_ble_eq_true rfl) ⟨(Nat.le_of_ble_eq_true rfl), (Nat.le_of_ble_eq_true rfl)⟩ ⟨(Nat.le_of_ble_eq_true rfl), (Nat.le_of_ble_eq_true rfl)⟩ ?_
  refine ax_catch (q := 13) (E := xIS) [] (0, 9, 12, 19) [(0, 9, 15, 24)] rfl (fun _ h => nomatch h) ⟨0, 9, 12, 19⟩ rfl rfl (by decide) qL_19 (by decide) rfl dL_pathLength_12 rfl (Nat.le_of_ble_eq_true rfl) rfl rfl ?_
  refine a_iconst (q := 14) (nI 1) dL_pathLength_13 (by decide) rfl ?_
  exact a_iret dL_pathLength_14 rfl rfl (Nat.le_of_ble_eq_true rfl) (Nat.le_of_ble_eq_true rfl) (⟨rfl, rfl, rfl, rfl⟩)
theorem hx_pathLength2 (x : Int32) (hA : A[0]? = some (.inr (8, fs))) (hM : Ct g mX8_pathLength [.ref (g.1 + 0), .int x] 0 A B 1 6 noP (tX xIB A1 B)) : Ct g mL_pathLength [.ref (g.1 + 0), .int x, .ref (g.2.1 + 23)] 0 A B 1 6 (rP (some (.int (nI 2))) A1 B) noX := by
  refine Ct.ofH [some (.ref (g.1 + 0)), some (.int x), some (.ref (g.2.1 + 23)), none] (by decide) rfl (Nat.le_of_ble_eq_true rfl) rfl ?_
  refine a_aload_n (q := 1) dL_pathLength_0 rfl rfl rfl ?_
  refine a_iconst (q := 2) (nI 0) dL_pathLength_1 (by decide) rfl ?_
  refine a_aload_n (q := 3) dL_pathLength_2 rfl rfl rfl ?_
  refine a_iload_n (q := 4) dL_pathLength_3 rfl rfl rfl ?_
  refine a_xVA _ dL_pathLength_4 kL_52 hM hA rfl rfl (Nat.le_of_ble_eq_true rfl) ⟨(Nat.le_of_ble_eq_true rfl), (Nat.le_of_ble_eq_true rfl)⟩ ⟨(Nat.le_of_ble_eq_true rfl), (Nat.le_of_ble_eq_true rfl)⟩ ?_
  refine ax_catch (q := 16) (E := xIB) [(0, 9, 12, 19)] (0, 9, 15, 24) [] rfl (fun y hy => by rw [List.mem_singleton.mp hy]; exact ⟨by decide, xIS, qL_19, by decide⟩) ⟨0, 9, 15, 24⟩ rfl rfl (by decide) qL_24 (by decide) rfl dL_pathLength_15 rfl (Nat.le_of_ble_eq_true rfl) rfl rfl ?_
  refine a_iconst (q := 17) (nI 2) dL_pathLength_16 (by decide) rfl ?_
  exact a_iret dL_pathLength_17 rfl rfl (Nat.le_of_ble_eq_true rfl) (Nat.le_of_ble_eq_true rfl) (⟨rfl, rfl, rfl, rfl⟩)
theorem h_pathNode (x : Int32) (y : Int32) (r : Int32) (hA : A[0]? = some (.inr (8, fs))) (hM : Ct g mX8_pathNode [.ref (g.1 + 0), .int x, .int y] 0 A (BM g G T th Y W R Z U L h O) 0 0 (rP (some (.int r)) A1 (BM g G T th Y W R Z U L h O)) noX) : Ct g mL_pathNode [.ref (g.1 + 0), .int x, .int y, .ref (g.2.1 + 23)] 0 A (BM g G T th Y W R Z U L h O) 1 6 (rP (some (.int (nI 0))) A1 (BM g G T th Y W R Z U L h (oJ O r.toInt64))) noX := by
  refine Ct.ofH [some (.ref (g.1 + 0)), some (.int x), some (.int y), some (.ref (g.2.1 + 23)), none] (by decide) rfl (Nat.le_of_ble_eq_true rfl) rfl ?_
  refine a_aload_n (q := 1) dL_pathNode_0 rfl rfl rfl ?_
  refine a_iconst (q := 2) (nI 0) dL_pathNode_1 (by decide) rfl ?_
  refine a_aload_n (q := 3) dL_pathNode_2 rfl rfl rfl ?_
  refine a_iload_n (q := 4) dL_pathNode_3 rfl rfl rfl ?_
  refine a_iload_n (q := 5) dL_pathNode_4 rfl rfl rfl ?_
  refine a_cVAv (q := 8) _ dL_pathNode_5 kL_55 (hM) hA rfl rfl (Nat.le_of_ble_eq_true rfl) ⟨(Nat.le_of_ble_eq_true rfl), (Nat.le_of_ble_eq_true rfl)⟩ ⟨(Nat.le_of_ble_eq_true rfl), (Nat.le_of_ble_eq_true rfl)⟩ rfl ?_
  refine a_i2l (q := 9) dL_pathNode_8 rfl ?_
  refine a_lastB (q := 10) dL_pathNode_9 rfl vp_in01 rfl ?_
  refine a_goto 21 dL_pathNode_10 (by decide) ?_
  refine a_iconst (q := 22) (nI 0) dL_pathNode_21 (by decide) rfl ?_
  exact a_iret dL_pathNode_22 rfl rfl (Nat.le_of_ble_eq_true rfl) (Nat.le_of_ble_eq_true rfl) (⟨rfl, rfl, rfl, rfl⟩)
theorem hx_pathNode1 (x : Int32) (y : Int32) (hA : A[0]? = some (.inr (8, fs))) (hM : Ct g mX8_pathNode [.ref (g.1 + 0), .int x, .int y] 0 A B 1 6 noP (tX xIS A1 B)) : Ct g mL_pathNode [.ref (g.1 + 0), .int x, .int y, .ref (g.2.1 + 23)] 0 A B 1 6 (rP (some (.int (nI 1))) A1 B) noX := by
  refine Ct.ofH [some (.ref (g.1 + 0)), some (.int x), some (.int y), some (.ref (g.2.1 + 23)), none] (by decide) rfl (Nat.le_of_ble_eq_true rfl) rfl ?_
  refine a_aload_n (q := 1) dL_pathNode_0 rfl rfl rfl ?_
  refine a_iconst (q := 2) (nI 0) dL_pathNode_1 (by decide) rfl ?_
  refine a_aload_n (q := 3) dL_pathNode_2 rfl rfl rfl ?_
  refine a_iload_n (q := 4) dL_pathNode_3 rfl rfl rfl ?_
  refine a_iload_n (q := 5) dL_pathNode_4 rfl rfl rfl ?_
  refine a_xVA _ dL_pathNode_5 kL_55 hM hA rfl rfl (Nat.le_of_ble_eq_true rfl) ⟨(Nat.le_of_ble_eq_true rfl), (Nat.le_of_ble_eq_true rfl)⟩ ⟨(Nat.le_of_ble_eq_true rfl), (Nat.le_of_ble_eq_true rfl)⟩ ?_
  refine ax_catch4 (q := 15) (E := xIS) [] (0, 10, 13, 19) [(0, 10, 17, 24)] rfl (fun _ h => nomatch h) ⟨0, 10, 13, 19⟩ rfl rfl (by decide) qL_19 (by decide) rfl dL_pathNode_13 (Nat.le_of_ble_eq_true rfl) rfl rfl ?_
  refine a_iconst (q := 16) (nI 1) dL_pathNode_15 (by decide) rfl ?_
  exact a_iret dL_pathNode_16 rfl rfl (Nat.le_of_ble_eq_true rfl) (Nat.le_of_ble_eq_true rfl) (⟨rfl, rfl, rfl, rfl⟩)
theorem hx_pathNode2 (x : Int32) (y : Int32) (hA : A[0]? = some (.inr (8, fs))) (hM : Ct g mX8_pathNode [.ref (g.1 + 0), .int x, .int y] 0 A B 1 6 noP (tX xIB A1 B)) : Ct g mL_pathNode [.ref (g.1 + 0), .int x, .int y, .ref (g.2.1 + 23)] 0 A B 1 6 (rP (some (.int (nI 2))) A1 B) noX := by
  refine Ct.ofH [some (.ref (g.1 + 0)), some (.int x), some (.int y), some (.ref (g.2.1 + 23)), none] (by decide) rfl (Nat.le_of_ble_eq_true rfl) rfl ?_
  refine a_aload_n (q := 1) dL_pathNode_0 rfl rfl rfl ?_
  refine a_iconst (q := 2) (nI 0) dL_pathNode_1 (by decide) rfl ?_
  refine a_aload_n (q := 3) dL_pathNode_2 rfl rfl rfl ?_
  refine a_iload_n (q := 4) dL_pathNode_3 rfl rfl rfl ?_
  refine a_iload_n (q := 5) dL_pathNode_4 rfl rfl rfl ?_
  refine a_xVA _ dL_pathNode_5 kL_55 hM hA rfl rfl (Nat.le_of_ble_eq_true rfl) ⟨(Nat.le_of_ble_eq_true rfl), (Nat.le_of_ble_eq_true rfl)⟩ ⟨(Nat.le_of_ble_eq_true rfl), (Nat.le_of_ble_eq_true rfl)⟩ ?_
  refine ax_catch4 (q := 19) (E := xIB) [(0, 10, 13, 19)] (0, 10, 17, 24) [] rfl (fun y hy => by rw [List.mem_singleton.mp hy]; exact ⟨by decide, xIS, qL_19, by decide⟩) ⟨0, 10, 17, 24⟩ rfl rfl (by decide) qL_24 (by decide) rfl dL_pathNode_17 (Nat.le_of_ble_eq_true rfl) rfl rfl ?_
  refine a_iconst (q := 20) (nI 2) dL_pathNode_19 (by decide) rfl ?_
  exact a_iret dL_pathNode_20 rfl rfl (Nat.le_of_ble_eq_true rfl) (Nat.le_of_ble_eq_true rfl) (⟨rfl, rfl, rfl, rfl⟩)
theorem h_pathEdge (x : Int32) (y : Bool) (r : Int32) (hA : A[0]? = some (.inr (8, fs))) (hM : Ct g mX8_pathEdge [.ref (g.1 + 0), .int x, .int (b2 y)] 0 A (BM g G T th Y W R Z U L h O) 0 0 (rP (some (.int r)) A1 (BM g G T th Y W R Z U L h O)) noX) : Ct g mL_pathEdge [.ref (g.1 + 0), .int x, .int (b2 y), .ref (g.2.1 + 23)] 0 A (BM g G T th Y W R Z U L h O) 1 6 (rP (some (.int (nI 0))) A1 (BM g G T th Y W R Z U L h (oJ O r.toInt64))) noX := by
  refine Ct.ofH [some (.ref (g.1 + 0)), some (.int x), some (.int (b2 y)), some (.ref (g.2.1 + 23)), none] (by decide) rfl (Nat.le_of_ble_eq_true rfl) rfl ?_
  refine a_aload_n (q := 1) dL_pathEdge_0 rfl rfl rfl ?_
  refine a_iconst (q := 2) (nI 0) dL_pathEdge_1 (by decide) rfl ?_
  refine a_aload_n (q := 3) dL_pathEdge_2 rfl rfl rfl ?_
  refine a_iload_n (q := 4) dL_pathEdge_3 rfl rfl rfl ?_
  refine a_iload_n (q := 5) dL_pathEdge_4 rfl rfl rfl ?_
  refine a_cVAv (q := 8) _ dL_pathEdge_5 kL_58 (hM) hA rfl rfl (Nat.le_of_ble_eq_true rfl) ⟨(Nat.le_of_ble_eq_true rfl), (Nat.le_of_ble_eq_true rfl)⟩ ⟨(Nat.le_of_ble_eq_true rfl), (Nat.le_of_ble_eq_true rfl)⟩ rfl ?_
  refine a_i2l (q := 9) dL_pathEdge_8 rfl ?_
  refine a_lastB (q := 10) dL_pathEdge_9 rfl vp_in01 rfl ?_
  refine a_goto 21 dL_pathEdge_10 (by decide) ?_
  refine a_iconst (q := 22) (nI 0) dL_pathEdge_21 (by decide) rfl ?_
  exact a_iret dL_pathEdge_22 rfl rfl (Nat.le_of_ble_eq_true rfl) (Nat.le_of_ble_eq_true rfl) (⟨rfl, rfl, rfl, rfl⟩)
theorem hx_pathEdge1 (x : Int32) (y : Bool) (hA : A[0]? = some (.inr (8, fs))) (hM : Ct g mX8_pathEdge [.ref (g.1 + 0), .int x, .int (b2 y)] 0 A B 1 6 noP (tX xIS A1 B)) : Ct g mL_pathEdge [.ref (g.1 + 0), .int x, .int (b2 y), .ref (g.2.1 + 23)] 0 A B 1 6 (rP (some (.int (nI 1))) A1 B) noX := by
  refine Ct.ofH [some (.ref (g.1 + 0)), some (.int x), some (.int (b2 y)), some (.ref (g.2.1 + 23)), none] (by decide) rfl (Nat.le_of_ble_eq_true rfl) rfl ?_
  refine a_aload_n (q := 1) dL_pathEdge_0 rfl rfl rfl ?_
  refine a_iconst (q := 2) (nI 0) dL_pathEdge_1 (by decide) rfl ?_
  refine a_aload_n (q := 3) dL_pathEdge_2 rfl rfl rfl ?_
  refine a_iload_n (q := 4) dL_pathEdge_3 rfl rfl rfl ?_
  refine a_iload_n (q := 5) dL_pathEdge_4 rfl rfl rfl ?_
  refine a_xVA _ dL_pathEdge_5 kL_58 hM hA rfl rfl (Nat.le_of_ble_eq_true rfl) ⟨(Nat.le_of_ble_eq_true rfl), (Nat.le_of_ble_eq_true rfl)⟩ ⟨(Nat.le_of_ble_eq_true rfl), (Nat.le_of_ble_eq_true rfl)⟩ ?_
  refine ax_catch4 (q := 15) (E := xIS) [] (0, 10, 13, 19) [(0, 10, 17, 24)] rfl (fun _ h => nomatch h) ⟨0, 10, 13, 19⟩ rfl rfl (by decide) qL_19 (by decide) rfl dL_pathEdge_13 (Nat.le_of_ble_eq_true rfl) rfl rfl ?_
  refine a_iconst (q := 16) (nI 1) dL_pathEdge_15 (by decide) rfl ?_
  exact a_iret dL_pathEdge_16 rfl rfl (Nat.le_of_ble_eq_true rfl) (Nat.le_of_ble_eq_true rfl) (⟨rfl, rfl, rfl, rfl⟩)
theorem hx_pathEdge2 (x : Int32) (y : Bool) (hA : A[0]? = some (.inr (8, fs))) (hM : Ct g mX8_pathEdge [.ref (g.1 + 0), .int x, .int (b2 y)] 0 A B 1 6 noP (tX xIB A1 B)) : Ct g mL_pathEdge [.ref (g.1 + 0), .int x, .int (b2 y), .ref (g.2.1 + 23)] 0 A B 1 6 (rP (some (.int (nI 2))) A1 B) noX := by
  refine Ct.ofH [some (.ref (g.1 + 0)), some (.int x), some (.int (b2 y)), some (.ref (g.2.1 + 23)), none] (by decide) rfl (Nat.le_of_ble_eq_true rfl) rfl ?_
  refine a_aload_n (q := 1) dL_pathEdge_0 rfl rfl rfl ?_
  refine a_iconst (q := 2) (nI 0) dL_pathEdge_1 (by decide) rfl ?_
  refine a_aload_n (q := 3) dL_pathEdge_2 rfl rfl rfl ?_
  refine a_iload_n (q := 4) dL_pathEdge_3 rfl rfl rfl ?_
  refine a_iload_n (q := 5) dL_pathEdge_4 rfl rfl rfl ?_
  refine a_xVA _ dL_pathEdge_5 kL_58 hM hA rfl rfl (Nat.le_of_ble_eq_true rfl) ⟨(Nat.le_of_ble_eq_true rfl), (Nat.le_of_ble_eq_true rfl)⟩ ⟨(Nat.le_of_ble_eq_true rfl), (Nat.le_of_ble_eq_true rfl)⟩ ?_
  refine ax_catch4 (q := 19) (E := xIB) [(0, 10, 13, 19)] (0, 10, 17, 24) [] rfl (fun y hy => by rw [List.mem_singleton.mp hy]; exact ⟨by decide, xIS, qL_19, by decide⟩) ⟨0, 10, 17, 24⟩ rfl rfl (by decide) qL_24 (by decide) rfl dL_pathEdge_17 (Nat.le_of_ble_eq_true rfl) rfl rfl ?_
  refine a_iconst (q := 20) (nI 2) dL_pathEdge_19 (by decide) rfl ?_
  exact a_iret dL_pathEdge_20 rfl rfl (Nat.le_of_ble_eq_true rfl) (Nat.le_of_ble_eq_true rfl) (⟨rfl, rfl, rfl, rfl⟩)
theorem h_findPath (r : Int32) (hA : A[0]? = some (.inr (8, fs))) (hM : Ct g mX8_findPath [.ref (g.1 + 0)] 0 A (BM g G T th Y W R Z U L h O) 0 0 (rP (some (.int r)) A1 (BM g G T th Y W R Z U L h O)) noX) : Ct g mL_findPath [.ref (g.1 + 0), .ref (g.2.1 + 23)] 0 A (BM g G T th Y W R Z U L h O) 1 6 (rP (some (.int (nI 0))) A1 (BM g G T th Y W R Z U L h (oJ O r.toInt64))) noX := by
  refine Ct.ofH [some (.ref (g.1 + 0)), some (.ref (g.2.1 + 23)), none] (by decide) rfl (Nat.le_of_ble_eq_true rfl) rfl ?_
  refine a_aload_n (q := 1) dL_findPath_0 rfl rfl rfl ?_
  refine a_iconst (q := 2) (nI 0) dL_findPath_1 (by decide) rfl ?_
  refine a_aload_n (q := 3) dL_findPath_2 rfl rfl rfl ?_
  refine a_cVAv (q := 6) _ dL_findPath_3 kL_61 (hM) hA rfl rfl (Nat.le_of_ble_eq_true rfl) ⟨(Nat.le_of_ble_eq_true rfl), (Nat.le_of_ble_eq_true rfl)⟩ ⟨(Nat.le_of_ble_eq_true rfl), (Nat.le_of_ble_eq_true rfl)⟩ rfl ?_
  refine a_i2l (q := 7) dL_findPath_6 rfl ?_
  refine a_lastB (q := 8) dL_findPath_7 rfl vp_in01 rfl ?_
  refine a_goto 14 dL_findPath_8 (by decide) ?_
  refine a_iconst (q := 15) (nI 0) dL_findPath_14 (by decide) rfl ?_
  exact a_iret dL_findPath_15 rfl rfl (Nat.le_of_ble_eq_true rfl) (Nat.le_of_ble_eq_true rfl) (⟨rfl, rfl, rfl, rfl⟩)
theorem hx_findPath1 (hA : A[0]? = some (.inr (8, fs))) (hM : Ct g mX8_findPath [.ref (g.1 + 0)] 0 A B 1 6 noP (tX xIS A1 B)) : Ct g mL_findPath [.ref (g.1 + 0), .ref (g.2.1 + 23)] 0 A B 1 6 (rP (some (.int (nI 1))) A1 B) noX := by
  refine Ct.ofH [some (.ref (g.1 + 0)), some (.ref (g.2.1 + 23)), none] (by decide) rfl (Nat.le_of_ble_eq_true rfl) rfl ?_
  refine a_aload_n (q := 1) dL_findPath_0 rfl rfl rfl ?_
  refine a_iconst (q := 2) (nI 0) dL_findPath_1 (by decide) rfl ?_
  refine a_aload_n (q := 3) dL_findPath_2 rfl rfl rfl ?_
  refine a_xVA _ dL_findPath_3 kL_61 hM hA rfl rfl (Nat.le_of_ble_eq_true rfl) ⟨(Nat.le_of_ble_eq_true rfl), (Nat.le_of_ble_eq_true rfl)⟩ ⟨(Nat.le_of_ble_eq_true rfl), (Nat.le_of_ble_eq_true rfl)⟩ ?_
  refine ax_catch (q := 12) (E := xIS) [] (0, 8, 11, 19) [] rfl (fun _ h => nomatch h) ⟨0, 8, 11, 19⟩ rfl rfl (by decide) qL_19 (by decide) rfl dL_findPath_11 rfl (Nat.le_of_ble_eq_true rfl) rfl rfl ?_
  refine a_iconst (q := 13) (nI 1) dL_findPath_12 (by decide) rfl ?_
  exact a_iret dL_findPath_13 rfl rfl (Nat.le_of_ble_eq_true rfl) (Nat.le_of_ble_eq_true rfl) (⟨rfl, rfl, rfl, rfl⟩)
theorem h_start (hA : A[0]? = some (.inr (8, fs))) (hM : Ct g mX8_start [.ref (g.1 + 0)] 0 A (BM g G T th Y W R Z U L h O) 0 0 (rP none A1 (BM g G T th Y W R Z U L h O)) noX) : Ct g mL_start [.ref (g.1 + 0)] 0 A (BM g G T th Y W R Z U L h O) 1 6 (rP (some (.int (nI 0))) A1 (BM g G T th Y W R Z U L h O)) noX := by
  refine Ct.ofH [some (.ref (g.1 + 0)), none] (by decide) rfl (Nat.le_of_ble_eq_true rfl) rfl ?_
  refine a_aload_n (q := 1) dL_start_0 rfl rfl rfl ?_
  refine a_cVA0 (q := 4) _ dL_start_1 kL_64 (hM) hA rfl rfl (Nat.le_of_ble_eq_true rfl) ⟨(Nat.le_of_ble_eq_true rfl), (Nat.le_of_ble_eq_true rfl)⟩ ⟨(Nat.le_of_ble_eq_true rfl), (Nat.le_of_ble_eq_true rfl)⟩ rfl ?_
  refine a_goto 10 dL_start_4 (by decide) ?_
  refine a_iconst (q := 11) (nI 0) dL_start_10 (by decide) rfl ?_
  exact a_iret dL_start_11 rfl rfl (Nat.le_of_ble_eq_true rfl) (Nat.le_of_ble_eq_true rfl) (⟨rfl, rfl, rfl, rfl⟩)
theorem hx_start1 (hA : A[0]? = some (.inr (8, fs))) (hM : Ct g mX8_start [.ref (g.1 + 0)] 0 A B 1 6 noP (tX xIS A1 B)) : Ct g mL_start [.ref (g.1 + 0)] 0 A B 1 6 (rP (some (.int (nI 1))) A1 B) noX := by
  refine Ct.ofH [some (.ref (g.1 + 0)), none] (by decide) rfl (Nat.le_of_ble_eq_true rfl) rfl ?_
  refine a_aload_n (q := 1) dL_start_0 rfl rfl rfl ?_
  refine a_xVA _ dL_start_1 kL_64 hM hA rfl rfl (Nat.le_of_ble_eq_true rfl) ⟨(Nat.le_of_ble_eq_true rfl), (Nat.le_of_ble_eq_true rfl)⟩ ⟨(Nat.le_of_ble_eq_true rfl), (Nat.le_of_ble_eq_true rfl)⟩ ?_
  refine ax_catch (q := 8) (E := xIS) [] (0, 4, 7, 19) [] rfl (fun _ h => nomatch h) ⟨0, 4, 7, 19⟩ rfl rfl (by decide) qL_19 (by decide) rfl dL_start_7 rfl (Nat.le_of_ble_eq_true rfl) rfl rfl ?_
  refine a_iconst (q := 9) (nI 1) dL_start_8 (by decide) rfl ?_
  exact a_iret dL_start_9 rfl rfl (Nat.le_of_ble_eq_true rfl) (Nat.le_of_ble_eq_true rfl) (⟨rfl, rfl, rfl, rfl⟩)
theorem h_step (x : Int32) (r : Int32) (hA : A[0]? = some (.inr (8, fs))) (hM : Ct g mX8_step [.ref (g.1 + 0), .int x] 0 A (BM g G T th Y W R Z U L h O) 0 0 (rP (some (.int r)) A1 (BM g G T th Y W R Z U L h O)) noX) : Ct g mL_step [.ref (g.1 + 0), .int x, .ref (g.2.1 + 23)] 0 A (BM g G T th Y W R Z U L h O) 1 6 (rP (some (.int (nI 0))) A1 (BM g G T th Y W R Z U L h (oJ O r.toInt64))) noX := by
  refine Ct.ofH [some (.ref (g.1 + 0)), some (.int x), some (.ref (g.2.1 + 23)), none] (by decide) rfl (Nat.le_of_ble_eq_true rfl) rfl ?_
  refine a_aload_n (q := 1) dL_step_0 rfl rfl rfl ?_
  refine a_iconst (q := 2) (nI 0) dL_step_1 (by decide) rfl ?_
  refine a_aload_n (q := 3) dL_step_2 rfl rfl rfl ?_
  refine a_iload_n (q := 4) dL_step_3 rfl rfl rfl ?_
  refine a_cVAv (q := 7) _ dL_step_4 kL_67 (hM) hA rfl rfl (Nat.le_of_ble_eq_true rfl) ⟨(Nat.le_of_ble_eq_true rfl), (Nat.le_of_ble_eq_true rfl)⟩ ⟨(Nat.le_of_ble_eq_true rfl), (Nat.le_of_ble_eq_true rfl)⟩ rfl ?_
  refine a_i2l (q := 8) dL_step_7 rfl ?_
  refine a_lastB (q := 9) dL_step_8 rfl vp_in01 rfl ?_
  refine a_goto 18 dL_step_9 (by decide) ?_
  refine a_iconst (q := 19) (nI 0) dL_step_18 (by decide) rfl ?_
  exact a_iret dL_step_19 rfl rfl (Nat.le_of_ble_eq_true rfl) (Nat.le_of_ble_eq_true rfl) (⟨rfl, rfl, rfl, rfl⟩)
theorem hx_step1 (x : Int32) (hA : A[0]? = some (.inr (8, fs))) (hM : Ct g mX8_step [.ref (g.1 + 0), .int x] 0 A B 1 6 noP (tX xIS A1 B)) : Ct g mL_step [.ref (g.1 + 0), .int x, .ref (g.2.1 + 23)] 0 A B 1 6 (rP (some (.int (nI 1))) A1 B) noX := by
  refine Ct.ofH [some (.ref (g.1 + 0)), some (.int x), some (.ref (g.2.1 + 23)), none] (by decide) rfl (Nat.le_of_ble_eq_true rfl) rfl ?_
  refine a_aload_n (q := 1) dL_step_0 rfl rfl rfl ?_
  refine a_iconst (q := 2) (nI 0) dL_step_1 (by decide) rfl ?_
  refine a_aload_n (q := 3) dL_step_2 rfl rfl rfl ?_
  refine a_iload_n (q := 4) dL_step_3 rfl rfl rfl ?_
  refine a_xVA _ dL_step_4 kL_67 hM hA rfl rfl (Nat.le_of_ble_eq_true rfl) ⟨(Nat.le_of_ble_eq_true rfl), (Nat.le_of_ble_eq_true rfl)⟩ ⟨(Nat.le_of_ble_eq_true rfl), (Nat.le_of_ble_eq_true rfl)⟩ ?_
  refine ax_catch (q := 13) (E := xIS) [] (0, 9, 12, 19) [(0, 9, 15, 24)] rfl (fun _ h => nomatch h) ⟨0, 9, 12, 19⟩ rfl rfl (by decide) qL_19 (by decide) rfl dL_step_12 rfl (Nat.le_of_ble_eq_true rfl) rfl rfl ?_
  refine a_iconst (q := 14) (nI 1) dL_step_13 (by decide) rfl ?_
  exact a_iret dL_step_14 rfl rfl (Nat.le_of_ble_eq_true rfl) (Nat.le_of_ble_eq_true rfl) (⟨rfl, rfl, rfl, rfl⟩)
theorem hx_step2 (x : Int32) (hA : A[0]? = some (.inr (8, fs))) (hM : Ct g mX8_step [.ref (g.1 + 0), .int x] 0 A B 1 6 noP (tX xIB A1 B)) : Ct g mL_step [.ref (g.1 + 0), .int x, .ref (g.2.1 + 23)] 0 A B 1 6 (rP (some (.int (nI 2))) A1 B) noX := by
  refine Ct.ofH [some (.ref (g.1 + 0)), some (.int x), some (.ref (g.2.1 + 23)), none] (by decide) rfl (Nat.le_of_ble_eq_true rfl) rfl ?_
  refine a_aload_n (q := 1) dL_step_0 rfl rfl rfl ?_
  refine a_iconst (q := 2) (nI 0) dL_step_1 (by decide) rfl ?_
  refine a_aload_n (q := 3) dL_step_2 rfl rfl rfl ?_
  refine a_iload_n (q := 4) dL_step_3 rfl rfl rfl ?_
  refine a_xVA _ dL_step_4 kL_67 hM hA rfl rfl (Nat.le_of_ble_eq_true rfl) ⟨(Nat.le_of_ble_eq_true rfl), (Nat.le_of_ble_eq_true rfl)⟩ ⟨(Nat.le_of_ble_eq_true rfl), (Nat.le_of_ble_eq_true rfl)⟩ ?_
  refine ax_catch (q := 16) (E := xIB) [(0, 9, 12, 19)] (0, 9, 15, 24) [] rfl (fun y hy => by rw [List.mem_singleton.mp hy]; exact ⟨by decide, xIS, qL_19, by decide⟩) ⟨0, 9, 15, 24⟩ rfl rfl (by decide) qL_24 (by decide) rfl dL_step_15 rfl (Nat.le_of_ble_eq_true rfl) rfl rfl ?_
  refine a_iconst (q := 17) (nI 2) dL_step_16 (by decide) rfl ?_
  exact a_iret dL_step_17 rfl rfl (Nat.le_of_ble_eq_true rfl) (Nat.le_of_ble_eq_true rfl) (⟨rfl, rfl, rfl, rfl⟩)
theorem h_count (x : Int32) (r : Int32) (hA : A[0]? = some (.inr (8, fs))) (hM : Ct g mX8_count [.ref (g.1 + 0), .int x] 0 A (BM g G T th Y W R Z U L h O) 0 0 (rP (some (.int r)) A1 (BM g G T th Y W R Z U L h O)) noX) : Ct g mL_count [.ref (g.1 + 0), .int x, .ref (g.2.1 + 23)] 0 A (BM g G T th Y W R Z U L h O) 1 6 (rP (some (.int (nI 0))) A1 (BM g G T th Y W R Z U L h (oJ O r.toInt64))) noX := by
  refine Ct.ofH [some (.ref (g.1 + 0)), some (.int x), some (.ref (g.2.1 + 23)), none] (by decide) rfl (Nat.le_of_ble_eq_true rfl) rfl ?_
  refine a_aload_n (q := 1) dL_count_0 rfl rfl rfl ?_
  refine a_iconst (q := 2) (nI 0) dL_count_1 (by decide) rfl ?_
  refine a_aload_n (q := 3) dL_count_2 rfl rfl rfl ?_
  refine a_iload_n (q := 4) dL_count_3 rfl rfl rfl ?_
  refine a_cVAv (q := 7) _ dL_count_4 kL_70 (hM) hA rfl rfl (Nat.le_of_ble_eq_true rfl) ⟨(Nat.le_of_ble_eq_true rfl), (Nat.le_of_ble_eq_true rfl)⟩ ⟨(Nat.le_of_ble_eq_true rfl), (Nat.le_of_ble_eq_true rfl)⟩ rfl ?_
  refine a_i2l (q := 8) dL_count_7 rfl ?_
  refine a_lastB (q := 9) dL_count_8 rfl vp_in01 rfl ?_
  refine a_goto 18 dL_count_9 (by decide) ?_
  refine a_iconst (q := 19) (nI 0) dL_count_18 (by decide) rfl ?_
  exact a_iret dL_count_19 rfl rfl (Nat.le_of_ble_eq_true rfl) (Nat.le_of_ble_eq_true rfl) (⟨rfl, rfl, rfl, rfl⟩)
theorem hx_count1 (x : Int32) (hA : A[0]? = some (.inr (8, fs))) (hM : Ct g mX8_count [.ref (g.1 + 0), .int x] 0 A B 1 6 noP (tX xIS A1 B)) : Ct g mL_count [.ref (g.1 + 0), .int x, .ref (g.2.1 + 23)] 0 A B 1 6 (rP (some (.int (nI 1))) A1 B) noX := by
  refine Ct.ofH [some (.ref (g.1 + 0)), some (.int x), some (.ref (g.2.1 + 23)), none] (by decide) rfl (Nat.le_of_ble_eq_true rfl) rfl ?_
  refine a_aload_n (q := 1) dL_count_0 rfl rfl rfl ?_
  refine a_iconst (q := 2) (nI 0) dL_count_1 (by decide) rfl ?_
  refine a_aload_n (q := 3) dL_count_2 rfl rfl rfl ?_
  refine a_iload_n (q := 4) dL_count_3 rfl rfl rfl ?_
  refine a_xVA _ dL_count_4 kL_70 hM hA rfl rfl (Nat.le_of_ble_eq_true rfl) ⟨(Nat.le_of_ble_eq_true rfl), (Nat.le_of_ble_eq_true rfl)⟩ ⟨(Nat.le_of_ble_eq_true rfl), (Nat.le_of_ble_eq_true rfl)⟩ ?_
  refine ax_catch (q := 13) (E := xIS) [] (0, 9, 12, 19) [(0, 9, 15, 24)] rfl (fun _ h => nomatch h) ⟨0, 9, 12, 19⟩ rfl rfl (by decide) qL_19 (by decide) rfl dL_count_12 rfl (Nat.le_of_ble_eq_true rfl) rfl rfl ?_
  refine a_iconst (q := 14) (nI 1) dL_count_13 (by decide) rfl ?_
  exact a_iret dL_count_14 rfl rfl (Nat.le_of_ble_eq_true rfl) (Nat.le_of_ble_eq_true rfl) (⟨rfl, rfl, rfl, rfl⟩)
theorem hx_count2 (x : Int32) (hA : A[0]? = some (.inr (8, fs))) (hM : Ct g mX8_count [.ref (g.1 + 0), .int x] 0 A B 1 6 noP (tX xIB A1 B)) : Ct g mL_count [.ref (g.1 + 0), .int x, .ref (g.2.1 + 23)] 0 A B 1 6 (rP (some (.int (nI 2))) A1 B) noX := by
  refine Ct.ofH [some (.ref (g.1 + 0)), some (.int x), some (.ref (g.2.1 + 23)), none] (by decide) rfl (Nat.le_of_ble_eq_true rfl) rfl ?_
  refine a_aload_n (q := 1) dL_count_0 rfl rfl rfl ?_
  refine a_iconst (q := 2) (nI 0) dL_count_1 (by decide) rfl ?_
  refine a_aload_n (q := 3) dL_count_2 rfl rfl rfl ?_
  refine a_iload_n (q := 4) dL_count_3 rfl rfl rfl ?_
  refine a_xVA _ dL_count_4 kL_70 hM hA rfl rfl (Nat.le_of_ble_eq_true rfl) ⟨(Nat.le_of_ble_eq_true rfl), (Nat.le_of_ble_eq_true rfl)⟩ ⟨(Nat.le_of_ble_eq_true rfl), (Nat.le_of_ble_eq_true rfl)⟩ ?_
  refine ax_catch (q := 16) (E := xIB) [(0, 9, 12, 19)] (0, 9, 15, 24) [] rfl (fun y hy => by rw [List.mem_singleton.mp hy]; exact ⟨by decide, xIS, qL_19, by decide⟩) ⟨0, 9, 15, 24⟩ rfl rfl (by decide) qL_24 (by decide) rfl dL_count_15 rfl (Nat.le_of_ble_eq_true rfl) rfl rfl ?_
  refine a_iconst (q := 17) (nI 2) dL_count_16 (by decide) rfl ?_
  exact a_iret dL_count_17 rfl rfl (Nat.le_of_ble_eq_true rfl) (Nat.le_of_ble_eq_true rfl) (⟨rfl, rfl, rfl, rfl⟩)
theorem h_share (x : Int32) (r : UInt64) (hA : A[0]? = some (.inr (8, fs))) (hM : Ct g mX8_share [.ref (g.1 + 0), .int x] 0 A (BM g G T th Y W R Z U L h O) 0 0 (rP (some (.double r)) A1 (BM g G T th Y W R Z U L h O)) noX) : Ct g mL_share [.ref (g.1 + 0), .int x, .ref (g.2.1 + 24)] 0 A (BM g G T th Y W R Z U L h O) 1 6 (rP (some (.int (nI 0))) A1 (BM g G T th Y W R Z U L h (oD O r))) noX := by
  refine Ct.ofH [some (.ref (g.1 + 0)), some (.int x), some (.ref (g.2.1 + 24)), none] (by decide) rfl (Nat.le_of_ble_eq_true rfl) rfl ?_
  refine a_aload_n (q := 1) dL_share_0 rfl rfl rfl ?_
  refine a_iconst (q := 2) (nI 0) dL_share_1 (by decide) rfl ?_
  refine a_aload_n (q := 3) dL_share_2 rfl rfl rfl ?_
  refine a_iload_n (q := 4) dL_share_3 rfl rfl rfl ?_
  refine a_cVAv (q := 7) _ dL_share_4 kL_73 (hM) hA rfl rfl (Nat.le_of_ble_eq_true rfl) ⟨(Nat.le_of_ble_eq_true rfl), (Nat.le_of_ble_eq_true rfl)⟩ ⟨(Nat.le_of_ble_eq_true rfl), (Nat.le_of_ble_eq_true rfl)⟩ rfl ?_
  refine a_dastB (q := 8) dL_share_7 rfl vp_in01 rfl ?_
  refine a_goto 17 dL_share_8 (by decide) ?_
  refine a_iconst (q := 18) (nI 0) dL_share_17 (by decide) rfl ?_
  exact a_iret dL_share_18 rfl rfl (Nat.le_of_ble_eq_true rfl) (Nat.le_of_ble_eq_true rfl) (⟨rfl, rfl, rfl, rfl⟩)
theorem hx_share1 (x : Int32) (hA : A[0]? = some (.inr (8, fs))) (hM : Ct g mX8_share [.ref (g.1 + 0), .int x] 0 A B 1 6 noP (tX xIS A1 B)) : Ct g mL_share [.ref (g.1 + 0), .int x, .ref (g.2.1 + 24)] 0 A B 1 6 (rP (some (.int (nI 1))) A1 B) noX := by
  refine Ct.ofH [some (.ref (g.1 + 0)), some (.int x), some (.ref (g.2.1 + 24)), none] (by decide) rfl (Nat.le_of_ble_eq_true rfl) rfl ?_
  refine a_aload_n (q := 1) dL_share_0 rfl rfl rfl ?_
  refine a_iconst (q := 2) (nI 0) dL_share_1 (by decide) rfl ?_
  refine a_aload_n (q := 3) dL_share_2 rfl rfl rfl ?_
  refine a_iload_n (q := 4) dL_share_3 rfl rfl rfl ?_
  refine a_xVA _ dL_share_4 kL_73 hM hA rfl rfl (Nat.le_of_ble_eq_true rfl) ⟨(Nat.le_of_ble_eq_true rfl), (Nat.le_of_ble_eq_true rfl)⟩ ⟨(Nat.le_of_ble_eq_true rfl), (Nat.le_of_ble_eq_true rfl)⟩ ?_
  refine ax_catch (q := 12) (E := xIS) [] (0, 8, 11, 19) [(0, 8, 14, 24)] rfl (fun _ h => nomatch h) ⟨0, 8, 11, 19⟩ rfl rfl (by decide) qL_19 (by decide) rfl dL_share_11 rfl (Nat.le_of_ble_eq_true rfl) rfl rfl ?_
  refine a_iconst (q := 13) (nI 1) dL_share_12 (by decide) rfl ?_
  exact a_iret dL_share_13 rfl rfl (Nat.le_of_ble_eq_true rfl) (Nat.le_of_ble_eq_true rfl) (⟨rfl, rfl, rfl, rfl⟩)
theorem hx_share2 (x : Int32) (hA : A[0]? = some (.inr (8, fs))) (hM : Ct g mX8_share [.ref (g.1 + 0), .int x] 0 A B 1 6 noP (tX xIB A1 B)) : Ct g mL_share [.ref (g.1 + 0), .int x, .ref (g.2.1 + 24)] 0 A B 1 6 (rP (some (.int (nI 2))) A1 B) noX := by
  refine Ct.ofH [some (.ref (g.1 + 0)), some (.int x), some (.ref (g.2.1 + 24)), none] (by decide) rfl (Nat.le_of_ble_eq_true rfl) rfl ?_
  refine a_aload_n (q := 1) dL_share_0 rfl rfl rfl ?_
  refine a_iconst (q := 2) (nI 0) dL_share_1 (by decide) rfl ?_
  refine a_aload_n (q := 3) dL_share_2 rfl rfl rfl ?_
  refine a_iload_n (q := 4) dL_share_3 rfl rfl rfl ?_
  refine a_xVA _ dL_share_4 kL_73 hM hA rfl rfl (Nat.le_of_ble_eq_true rfl) ⟨(Nat.le_of_ble_eq_true rfl), (Nat.le_of_ble_eq_true rfl)⟩ ⟨(Nat.le_of_ble_eq_true rfl), (Nat.le_of_ble_eq_true rfl)⟩ ?_
  refine ax_catch (q := 15) (E := xIB) [(0, 8, 11, 19)] (0, 8, 14, 24) [] rfl (fun y hy => by rw [List.mem_singleton.mp hy]; exact ⟨by decide, xIS, qL_19, by decide⟩) ⟨0, 8, 14, 24⟩ rfl rfl (by decide) qL_24 (by decide) rfl dL_share_14 rfl (Nat.le_of_ble_eq_true rfl) rfl rfl ?_
  refine a_iconst (q := 16) (nI 2) dL_share_15 (by decide) rfl ?_
  exact a_iret dL_share_16 rfl rfl (Nat.le_of_ble_eq_true rfl) (Nat.le_of_ble_eq_true rfl) (⟨rfl, rfl, rfl, rfl⟩)
theorem h_edgeFrequency (x : Int32) (r : Int32) (hA : A[0]? = some (.inr (8, fs))) (hM : Ct g mX8_edgeFrequency [.ref (g.1 + 0), .int x] 0 A (BM g G T th Y W R Z U L h O) 0 0 (rP (some (.int r)) A1 (BM g G T th Y W R Z U L h O)) noX) : Ct g mL_edgeFrequency [.ref (g.1 + 0), .int x, .ref (g.2.1 + 23)] 0 A (BM g G T th Y W R Z U L h O) 1 6 (rP (some (.int (nI 0))) A1 (BM g G T th Y W R Z U L h (oJ O r.toInt64))) noX := by
  refine Ct.ofH [some (.ref (g.1 + 0)), some (.int x), some (.ref (g.2.1 + 23)), none] (by decide) rfl (Nat.le_of_ble_eq_true rfl) rfl ?_
  refine a_aload_n (q := 1) dL_edgeFrequency_0 rfl rfl rfl ?_
  refine a_iconst (q := 2) (nI 0) dL_edgeFrequency_1 (by decide) rfl ?_
  refine a_aload_n (q := 3) dL_edgeFrequency_2 rfl rfl rfl ?_
  refine a_iload_n (q := 4) dL_edgeFrequency_3 rfl rfl rfl ?_
  refine a_cVAv (q := 7) _ dL_edgeFrequency_4 kL_77 (hM) hA rfl rfl (Nat.le_of_ble_eq_true rfl) ⟨(Nat.le_of_ble_eq_true rfl), (Nat.le_of_ble_eq_true rfl)⟩ ⟨(Nat.le_of_ble_eq_true rfl), (Nat.le_of_ble_eq_true rfl)⟩ rfl ?_
  refine a_i2l (q := 8) dL_edgeFrequency_7 rfl ?_
  refine a_lastB (q := 9) dL_edgeFrequency_8 rfl vp_in01 rfl ?_
  refine a_goto 18 dL_edgeFrequency_9 (by decide) ?_
  refine a_iconst (q := 19) (nI 0) dL_edgeFrequency_18 (by decide) rfl ?_
  exact a_iret dL_edgeFrequency_19 rfl rfl (Nat.le_of_ble_eq_true rfl) (Nat.le_of_ble_eq_true rfl) (⟨rfl, rfl, rfl, rfl⟩)
theorem hx_edgeFrequency1 (x : Int32) (hA : A[0]? = some (.inr (8, fs))) (hM : Ct g mX8_edgeFrequency [.ref (g.1 + 0), .int x] 0 A B 1 6 noP (tX xIS A1 B)) : Ct g mL_edgeFrequency [.ref (g.1 + 0), .int x, .ref (g.2.1 + 23)] 0 A B 1 6 (rP (some (.int (nI 1))) A1 B) noX := by
  refine Ct.ofH [some (.ref (g.1 + 0)), some (.int x), some (.ref (g.2.1 + 23)), none] (by decide) rfl (Nat.le_of_ble_eq_true rfl) rfl ?_
  refine a_aload_n (q := 1) dL_edgeFrequency_0 rfl rfl rfl ?_
  refine a_iconst (q := 2) (nI 0) dL_edgeFrequency_1 (by decide) rfl ?_
  refine a_aload_n (q := 3) dL_edgeFrequency_2 rfl rfl rfl ?_
  refine a_iload_n (q := 4) dL_edgeFrequency_3 rfl rfl rfl ?_
  refine a_xVA _ dL_edgeFrequency_4 kL_77 hM hA rfl rfl (Nat.le_of_ble_eq_true rfl) ⟨(Nat.le_of_ble_eq_true rfl), (Nat.le_of_ble_eq_true rfl)⟩ ⟨(Nat.le_of_ble_eq_true rfl), (Nat.le_of_ble_eq_true rfl)⟩ ?_
  refine ax_catch (q := 13) (E := xIS) [] (0, 9, 12, 19) [(0, 9, 15, 24)] rfl (fun _ h => nomatch h) ⟨0, 9, 12, 19⟩ rfl rfl (by decide) qL_19 (by decide) rfl dL_edgeFrequency_12 rfl (Nat.le_of_ble_eq_true rfl) rfl rfl ?_
  refine a_iconst (q := 14) (nI 1) dL_edgeFrequency_13 (by decide) rfl ?_
  exact a_iret dL_edgeFrequency_14 rfl rfl (Nat.le_of_ble_eq_true rfl) (Nat.le_of_ble_eq_true rfl) (⟨rfl, rfl, rfl, rfl⟩)
theorem hx_edgeFrequency2 (x : Int32) (hA : A[0]? = some (.inr (8, fs))) (hM : Ct g mX8_edgeFrequency [.ref (g.1 + 0), .int x] 0 A B 1 6 noP (tX xIB A1 B)) : Ct g mL_edgeFrequency [.ref (g.1 + 0), .int x, .ref (g.2.1 + 23)] 0 A B 1 6 (rP (some (.int (nI 2))) A1 B) noX := by
  refine Ct.ofH [some (.ref (g.1 + 0)), some (.int x), some (.ref (g.2.1 + 23)), none] (by decide) rfl (Nat.le_of_ble_eq_true rfl) rfl ?_
  refine a_aload_n (q := 1) dL_edgeFrequency_0 rfl rfl rfl ?_
  refine a_iconst (q := 2) (nI 0) dL_edgeFrequency_1 (by decide) rfl ?_
  refine a_aload_n (q := 3) dL_edgeFrequency_2 rfl rfl rfl ?_
  refine a_iload_n (q := 4) dL_edgeFrequency_3 rfl rfl rfl ?_
  refine a_xVA _ dL_edgeFrequency_4 kL_77 hM hA rfl rfl (Nat.le_of_ble_eq_true rfl) ⟨(Nat.le_of_ble_eq_true rfl), (Nat.le_of_ble_eq_true rfl)⟩ ⟨(Nat.le_of_ble_eq_true rfl), (Nat.le_of_ble_eq_true rfl)⟩ ?_
  refine ax_catch (q := 16) (E := xIB) [(0, 9, 12, 19)] (0, 9, 15, 24) [] rfl (fun y hy => by rw [List.mem_singleton.mp hy]; exact ⟨by decide, xIS, qL_19, by decide⟩) ⟨0, 9, 15, 24⟩ rfl rfl (by decide) qL_24 (by decide) rfl dL_edgeFrequency_15 rfl (Nat.le_of_ble_eq_true rfl) rfl rfl ?_
  refine a_iconst (q := 17) (nI 2) dL_edgeFrequency_16 (by decide) rfl ?_
  exact a_iret dL_edgeFrequency_17 rfl rfl (Nat.le_of_ble_eq_true rfl) (Nat.le_of_ble_eq_true rfl) (⟨rfl, rfl, rfl, rfl⟩)
end Help

