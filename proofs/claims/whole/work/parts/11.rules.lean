section Rules
variable {g : gp_T} {M : md_T} {mc ms : Nat} {P : ps_T} {X : xs_T} {kc ns pc q : Nat} {L : List (Option Value)} {S : List Value} {z : Nat} {A B : List va_E}
theorem a_iconst {n : Int} (v : Int32) (d : decode M.2.1 pc = .ok (.iconst n, 1)) (hv : Int32.ofInt n = v) (hq : pc + 1 = q) (k : AW g M mc ms P X kc ns q L (.int v :: S) z A B) : AW g M mc ms P X kc ns pc L S z A B := by
  subst hq
  intro p l e s m args below meth c H locs ls C hH hS hl
  exact lv_iconst C.1 C.2.1 d hv (k p l e s m args below meth c H locs ls C hH hS hl)
theorem a_bipush {n : Int} (v : Int32) (d : decode M.2.1 pc = .ok (.bipush n, 2)) (hv : (Int8.ofInt n).toInt32 = v) (hq : pc + 2 = q) (k : AW g M mc ms P X kc ns q L (.int v :: S) z A B) : AW g M mc ms P X kc ns pc L S z A B := by
  subst hq
  intro p l e s m args below meth c H locs ls C hH hS hl
  exact lv_bipush C.1 C.2.1 d hv (k p l e s m args below meth c H locs ls C hH hS hl)
theorem a_sipush {n : Int} (v : Int32) (d : decode M.2.1 pc = .ok (.sipush n, 3)) (hv : (Int16.ofInt n).toInt32 = v) (hq : pc + 3 = q) (k : AW g M mc ms P X kc ns q L (.int v :: S) z A B) : AW g M mc ms P X kc ns pc L S z A B := by
  subst hq
  intro p l e s m args below meth c H locs ls C hH hS hl
  exact lv_sipush C.1 C.2.1 d hv (k p l e s m args below meth c H locs ls C hH hS hl)
theorem a_lconst {n : Fin 2} (v : Int64) (d : decode M.2.1 pc = .ok (.lconst n, 1)) (hv : Int64.ofNat (n : Nat) = v) (hq : pc + 1 = q) (k : AW g M mc ms P X kc ns q L (.long v :: S) z A B) : AW g M mc ms P X kc ns pc L S z A B := by
  subst hq
  intro p l e s m args below meth c H locs ls C hH hS hl
  exact lv_lconst C.1 C.2.1 d hv (k p l e s m args below meth c H locs ls C hH hS hl)
theorem a_dconst0  (d : decode M.2.1 pc = .ok (.dconst 0, 1))  (hq : pc + 1 = q) (k : AW g M mc ms P X kc ns q L (.double FP.dconst0 :: S) z A B) : AW g M mc ms P X kc ns pc L S z A B := by
  subst hq
  intro p l e s m args below meth c H locs ls C hH hS hl
  exact lv_dconst0 C.1 C.2.1 d  (k p l e s m args below meth c H locs ls C hH hS hl)
theorem a_iadd {x y : Int32} (d : decode M.2.1 pc = .ok (.iadd, 1))  (hq : pc + 1 = q) (k : AW g M mc ms P X kc ns q L (.int (x + y) :: S) z A B) : AW g M mc ms P X kc ns pc L (.int y :: .int x :: S) z A B := by
  subst hq
  intro p l e s m args below meth c H locs ls C hH hS hl
  exact lv_iadd C.1 C.2.1 d  (k p l e s m args below meth c H locs ls C hH hS hl)
theorem a_isub {x y : Int32} (d : decode M.2.1 pc = .ok (.isub, 1))  (hq : pc + 1 = q) (k : AW g M mc ms P X kc ns q L (.int (x - y) :: S) z A B) : AW g M mc ms P X kc ns pc L (.int y :: .int x :: S) z A B := by
  subst hq
  intro p l e s m args below meth c H locs ls C hH hS hl
  exact lv_isub C.1 C.2.1 d  (k p l e s m args below meth c H locs ls C hH hS hl)
theorem a_imul {x y : Int32} (d : decode M.2.1 pc = .ok (.imul, 1))  (hq : pc + 1 = q) (k : AW g M mc ms P X kc ns q L (.int (x * y) :: S) z A B) : AW g M mc ms P X kc ns pc L (.int y :: .int x :: S) z A B := by
  subst hq
  intro p l e s m args below meth c H locs ls C hH hS hl
  exact lv_imul C.1 C.2.1 d  (k p l e s m args below meth c H locs ls C hH hS hl)
theorem a_iand {x y : Int32} (d : decode M.2.1 pc = .ok (.iand, 1))  (hq : pc + 1 = q) (k : AW g M mc ms P X kc ns q L (.int (x &&& y) :: S) z A B) : AW g M mc ms P X kc ns pc L (.int y :: .int x :: S) z A B := by
  subst hq
  intro p l e s m args below meth c H locs ls C hH hS hl
  exact lv_iand C.1 C.2.1 d  (k p l e s m args below meth c H locs ls C hH hS hl)
theorem a_ior {x y : Int32} (d : decode M.2.1 pc = .ok (.ior, 1))  (hq : pc + 1 = q) (k : AW g M mc ms P X kc ns q L (.int (x ||| y) :: S) z A B) : AW g M mc ms P X kc ns pc L (.int y :: .int x :: S) z A B := by
  subst hq
  intro p l e s m args below meth c H locs ls C hH hS hl
  exact lv_ior C.1 C.2.1 d  (k p l e s m args below meth c H locs ls C hH hS hl)
theorem a_ishl {x y : Int32} (d : decode M.2.1 pc = .ok (.ishl, 1))  (hq : pc + 1 = q) (k : AW g M mc ms P X kc ns q L (.int (x <<< (y &&& 31)) :: S) z A B) : AW g M mc ms P X kc ns pc L (.int y :: .int x :: S) z A B := by
  subst hq
  intro p l e s m args below meth c H locs ls C hH hS hl
  exact lv_ishl C.1 C.2.1 d  (k p l e s m args below meth c H locs ls C hH hS hl)
theorem a_ishr {x y : Int32} (d : decode M.2.1 pc = .ok (.ishr, 1))  (hq : pc + 1 = q) (k : AW g M mc ms P X kc ns q L (.int (x >>> (y &&& 31)) :: S) z A B) : AW g M mc ms P X kc ns pc L (.int y :: .int x :: S) z A B := by
  subst hq
  intro p l e s m args below meth c H locs ls C hH hS hl
  exact lv_ishr C.1 C.2.1 d  (k p l e s m args below meth c H locs ls C hH hS hl)
theorem a_idiv {x y : Int32} (d : decode M.2.1 pc = .ok (.idiv, 1)) (hne : ¬ y = 0) (hq : pc + 1 = q) (k : AW g M mc ms P X kc ns q L (.int (x / y) :: S) z A B) : AW g M mc ms P X kc ns pc L (.int y :: .int x :: S) z A B := by
  subst hq
  intro p l e s m args below meth c H locs ls C hH hS hl
  exact lv_idiv C.1 C.2.1 d hne (k p l e s m args below meth c H locs ls C hH hS hl)
theorem a_irem {x y : Int32} (d : decode M.2.1 pc = .ok (.irem, 1)) (hne : ¬ y = 0) (hq : pc + 1 = q) (k : AW g M mc ms P X kc ns q L (.int (x - x / y * y) :: S) z A B) : AW g M mc ms P X kc ns pc L (.int y :: .int x :: S) z A B := by
  subst hq
  intro p l e s m args below meth c H locs ls C hH hS hl
  exact lv_irem C.1 C.2.1 d hne (k p l e s m args below meth c H locs ls C hH hS hl)
theorem a_i2l {x : Int32} (d : decode M.2.1 pc = .ok (.i2l, 1))  (hq : pc + 1 = q) (k : AW g M mc ms P X kc ns q L (.long x.toInt64 :: S) z A B) : AW g M mc ms P X kc ns pc L (.int x :: S) z A B := by
  subst hq
  intro p l e s m args below meth c H locs ls C hH hS hl
  exact lv_i2l C.1 C.2.1 d rfl (k p l e s m args below meth c H locs ls C hH hS hl)
theorem a_i2d {x : Int32} (d : decode M.2.1 pc = .ok (.i2d, 1))  (hq : pc + 1 = q) (k : AW g M mc ms P X kc ns q L (.double (FP.i2d x) :: S) z A B) : AW g M mc ms P X kc ns pc L (.int x :: S) z A B := by
  subst hq
  intro p l e s m args below meth c H locs ls C hH hS hl
  exact lv_i2d C.1 C.2.1 d  (k p l e s m args below meth c H locs ls C hH hS hl)
theorem a_ladd {x y : Int64} (d : decode M.2.1 pc = .ok (.ladd, 1))  (hq : pc + 1 = q) (k : AW g M mc ms P X kc ns q L (.long (x + y) :: S) z A B) : AW g M mc ms P X kc ns pc L (.long y :: .long x :: S) z A B := by
  subst hq
  intro p l e s m args below meth c H locs ls C hH hS hl
  exact lv_ladd C.1 C.2.1 d  (k p l e s m args below meth c H locs ls C hH hS hl)
theorem a_lmul {x y : Int64} (d : decode M.2.1 pc = .ok (.lmul, 1))  (hq : pc + 1 = q) (k : AW g M mc ms P X kc ns q L (.long (x * y) :: S) z A B) : AW g M mc ms P X kc ns pc L (.long y :: .long x :: S) z A B := by
  subst hq
  intro p l e s m args below meth c H locs ls C hH hS hl
  exact lv_lmul C.1 C.2.1 d  (k p l e s m args below meth c H locs ls C hH hS hl)
theorem a_lcmp {x y : Int64} (d : decode M.2.1 pc = .ok (.lcmp, 1))  (hq : pc + 1 = q) (k : AW g M mc ms P X kc ns q L (.int (lg_cmp x y) :: S) z A B) : AW g M mc ms P X kc ns pc L (.long y :: .long x :: S) z A B := by
  subst hq
  intro p l e s m args below meth c H locs ls C hH hS hl
  exact W.lcmp C.1 C.2.1 d  (k p l e s m args below meth c H locs ls C hH hS hl)
theorem a_ddiv {x y : UInt64} (d : decode M.2.1 pc = .ok (.ddiv, 1)) (hne : vf_n64 (FP.ddiv x y)) (hq : pc + 1 = q) (k : AW g M mc ms P X kc ns q L (.double (FP.ddiv x y) :: S) z A B) : AW g M mc ms P X kc ns pc L (.double y :: .double x :: S) z A B := by
  subst hq
  intro p l e s m args below meth c H locs ls C hH hS hl
  exact lv_ddiv C.1 C.2.1 d hne (k p l e s m args below meth c H locs ls C hH hS hl)
theorem a_dcmp {x y : UInt64} {op : CmpOp} (d : decode M.2.1 pc = .ok (.dcmp op, 1))  (hq : pc + 1 = q) (k : AW g M mc ms P X kc ns q L (.int (Op.cmpValue (FP.dcmp x y) op) :: S) z A B) : AW g M mc ms P X kc ns pc L (.double y :: .double x :: S) z A B := by
  subst hq
  intro p l e s m args below meth c H locs ls C hH hS hl
  exact lv_dcmp C.1 C.2.1 d  (k p l e s m args below meth c H locs ls C hH hS hl)
theorem a_dup {va : Value} (d : decode M.2.1 pc = .ok (.dup, 1)) (hva : va.category = 1) (hq : pc + 1 = q) (k : AW g M mc ms P X kc ns q L (va :: va :: S) z A B) : AW g M mc ms P X kc ns pc L (va :: S) z A B := by
  subst hq
  intro p l e s m args below meth c H locs ls C hH hS hl
  exact lv_dup C.1 C.2.1 d hva (k p l e s m args below meth c H locs ls C hH hS hl)
theorem a_pop {va : Value} (d : decode M.2.1 pc = .ok (.pop, 1)) (hva : va.category = 1) (hq : pc + 1 = q) (k : AW g M mc ms P X kc ns q L S z A B) : AW g M mc ms P X kc ns pc L (va :: S) z A B := by
  subst hq
  intro p l e s m args below meth c H locs ls C hH hS hl
  exact lv_pop C.1 C.2.1 d hva (k p l e s m args below meth c H locs ls C hH hS hl)
theorem a_dup2 {va vb : Value} (d : decode M.2.1 pc = .ok (.dup2, 1)) (hva : va.category = 1) (hvb : vb.category = 1) (hq : pc + 1 = q) (k : AW g M mc ms P X kc ns q L (va :: vb :: va :: vb :: S) z A B) : AW g M mc ms P X kc ns pc L (va :: vb :: S) z A B := by
  subst hq
  intro p l e s m args below meth c H locs ls C hH hS hl
  exact lv_dup2_11 C.1 C.2.1 d hva hvb (k p l e s m args below meth c H locs ls C hH hS hl)
theorem a_ldc2 {idx : Nat} (v : Int64) (d : decode M.2.1 pc = .ok (.ldc2_w idx, 3)) (hc : Cond.constantLong M.1.cls idx v ∈ TG) (hq : pc + 3 = q) (k : AW g M mc ms P X kc ns q L (.long v :: S) z A B) : AW g M mc ms P X kc ns pc L S z A B := by
  subst hq
  intro p l e s m args below meth c H locs ls C hH hS hl
  exact lv_ldc2 C.1 C.2.1 C.2.2.2.2.2.1 (C.2.2.2.2.2.2.1 _ hc) d (k p l e s m args below meth c H locs ls C hH hS hl)
theorem a_iload_n {i : Fin 4} {j : Nat} {x : Int32} (d : decode M.2.1 pc = .ok (.iload_n i, 1)) (hi : (i : Nat) = j) (hL : L[j]? = some (some (.int x))) (hq : pc + 1 = q) (k : AW g M mc ms P X kc ns q L (.int x :: S) z A B) : AW g M mc ms P X kc ns pc L S z A B := by
  subst hq
  intro p l e s m args below meth c H locs ls C hH hS hl
  exact lv_iload_n C.1 C.2.1 d hi (hl.2.2 _ _ hL) (k p l e s m args below meth c H locs ls C hH hS hl)
theorem a_lload_n {i : Fin 4} {j : Nat} {x : Int64} (d : decode M.2.1 pc = .ok (.lload_n i, 1)) (hi : (i : Nat) = j) (hL : L[j]? = some (some (.long x))) (hq : pc + 1 = q) (k : AW g M mc ms P X kc ns q L (.long x :: S) z A B) : AW g M mc ms P X kc ns pc L S z A B := by
  subst hq
  intro p l e s m args below meth c H locs ls C hH hS hl
  exact lv_lload_n C.1 C.2.1 d hi (hl.2.2 _ _ hL) (k p l e s m args below meth c H locs ls C hH hS hl)
theorem a_aload_n {i : Fin 4} {j : Nat} {x : Nat} (d : decode M.2.1 pc = .ok (.aload_n i, 1)) (hi : (i : Nat) = j) (hL : L[j]? = some (some (.ref x))) (hq : pc + 1 = q) (k : AW g M mc ms P X kc ns q L (.ref x :: S) z A B) : AW g M mc ms P X kc ns pc L S z A B := by
  subst hq
  intro p l e s m args below meth c H locs ls C hH hS hl
  exact lv_aload_n C.1 C.2.1 d hi (hl.2.2 _ _ hL) (k p l e s m args below meth c H locs ls C hH hS hl)
theorem a_iload {j : Nat} {x : Int32} (d : decode M.2.1 pc = .ok (.iload j, 2)) (hL : L[j]? = some (some (.int x))) (hq : pc + 2 = q) (k : AW g M mc ms P X kc ns q L (.int x :: S) z A B) : AW g M mc ms P X kc ns pc L S z A B := by
  subst hq
  intro p l e s m args below meth c H locs ls C hH hS hl
  exact lv_iload C.1 C.2.1 d (hl.2.2 _ _ hL) (k p l e s m args below meth c H locs ls C hH hS hl)
theorem a_lload {j : Nat} {x : Int64} (d : decode M.2.1 pc = .ok (.lload j, 2)) (hL : L[j]? = some (some (.long x))) (hq : pc + 2 = q) (k : AW g M mc ms P X kc ns q L (.long x :: S) z A B) : AW g M mc ms P X kc ns pc L S z A B := by
  subst hq
  intro p l e s m args below meth c H locs ls C hH hS hl
  exact lv_lload C.1 C.2.1 d (hl.2.2 _ _ hL) (k p l e s m args below meth c H locs ls C hH hS hl)
theorem a_aload {j : Nat} {x : Nat} (d : decode M.2.1 pc = .ok (.aload j, 2)) (hL : L[j]? = some (some (.ref x))) (hq : pc + 2 = q) (k : AW g M mc ms P X kc ns q L (.ref x :: S) z A B) : AW g M mc ms P X kc ns pc L S z A B := by
  subst hq
  intro p l e s m args below meth c H locs ls C hH hS hl
  exact lv_aload C.1 C.2.1 d (hl.2.2 _ _ hL) (k p l e s m args below meth c H locs ls C hH hS hl)
theorem a_dload {j : Nat} {x : UInt64} (d : decode M.2.1 pc = .ok (.dload j, 2)) (hL : L[j]? = some (some (.double x))) (hq : pc + 2 = q) (k : AW g M mc ms P X kc ns q L (.double x :: S) z A B) : AW g M mc ms P X kc ns pc L S z A B := by
  subst hq
  intro p l e s m args below meth c H locs ls C hH hS hl
  exact lv_dload C.1 C.2.1 d (hl.2.2 _ _ hL) (k p l e s m args below meth c H locs ls C hH hS hl)
theorem a_istore_n {i : Fin 4} {j : Nat} {x : Int32} (d : decode M.2.1 pc = .ok (.istore_n i, 1)) (hi : (i : Nat) = j) (hj : j < M.2.2.1) (hk : lNk L j = true) (hq : pc + 1 = q) (k : AW g M mc ms P X kc ns q (lS1 L j (.int x)) S z A B) : AW g M mc ms P X kc ns pc L (.int x :: S) z A B := by
  subst hq
  intro p l e s m args below meth c H locs ls C hH hS hl
  exact lv_istore_n C.1 C.2.1 d hi hl.has hj rfl (fun ls2 h2 => k p l e s m args below meth c H locs ls2 C hH hS (LR.of1 hk h2))
theorem a_astore_n {i : Fin 4} {j : Nat} {x : Nat} (d : decode M.2.1 pc = .ok (.astore_n i, 1)) (hi : (i : Nat) = j) (hj : j < M.2.2.1) (hk : lNk L j = true) (hq : pc + 1 = q) (k : AW g M mc ms P X kc ns q (lS1 L j (.ref x)) S z A B) : AW g M mc ms P X kc ns pc L (.ref x :: S) z A B := by
  subst hq
  intro p l e s m args below meth c H locs ls C hH hS hl
  exact lv_astore_n C.1 C.2.1 d hi hl.has hj rfl (fun ls2 h2 => k p l e s m args below meth c H locs ls2 C hH hS (LR.of1 hk h2))
theorem a_lstore_n {i : Fin 4} {j : Nat} {x : Int64} (d : decode M.2.1 pc = .ok (.lstore_n i, 1)) (hi : (i : Nat) = j) (hj : j + 1 < M.2.2.1) (hk : lNk L j = true) (hq : pc + 1 = q) (k : AW g M mc ms P X kc ns q (lS2 L j (.long x)) S z A B) : AW g M mc ms P X kc ns pc L (.long x :: S) z A B := by
  subst hq
  intro p l e s m args below meth c H locs ls C hH hS hl
  exact lv_lstore_n C.1 C.2.1 d hi hl.has hj rfl (fun ls2 h2 => k p l e s m args below meth c H locs ls2 C hH hS (LR.of2 hk h2))
theorem a_istore {j : Nat} {x : Int32} (d : decode M.2.1 pc = .ok (.istore j, 2)) (hj : j < M.2.2.1) (hk : lNk L j = true) (hq : pc + 2 = q) (k : AW g M mc ms P X kc ns q (lS1 L j (.int x)) S z A B) : AW g M mc ms P X kc ns pc L (.int x :: S) z A B := by
  subst hq
  intro p l e s m args below meth c H locs ls C hH hS hl
  exact lv_istore C.1 C.2.1 d hl.has hj rfl (fun ls2 h2 => k p l e s m args below meth c H locs ls2 C hH hS (LR.of1 hk h2))
theorem a_astore {j : Nat} {x : Nat} (d : decode M.2.1 pc = .ok (.astore j, 2)) (hj : j < M.2.2.1) (hk : lNk L j = true) (hq : pc + 2 = q) (k : AW g M mc ms P X kc ns q (lS1 L j (.ref x)) S z A B) : AW g M mc ms P X kc ns pc L (.ref x :: S) z A B := by
  subst hq
  intro p l e s m args below meth c H locs ls C hH hS hl
  exact lv_astore C.1 C.2.1 d hl.has hj rfl (fun ls2 h2 => k p l e s m args below meth c H locs ls2 C hH hS (LR.of1 hk h2))
theorem a_lstore {j : Nat} {x : Int64} (d : decode M.2.1 pc = .ok (.lstore j, 2)) (hj : j + 1 < M.2.2.1) (hk : lNk L j = true) (hq : pc + 2 = q) (k : AW g M mc ms P X kc ns q (lS2 L j (.long x)) S z A B) : AW g M mc ms P X kc ns pc L (.long x :: S) z A B := by
  subst hq
  intro p l e s m args below meth c H locs ls C hH hS hl
  exact lv_lstore C.1 C.2.1 d hl.has hj rfl (fun ls2 h2 => k p l e s m args below meth c H locs ls2 C hH hS (LR.of2 hk h2))
theorem a_dstore {j : Nat} {x : UInt64} (d : decode M.2.1 pc = .ok (.dstore j, 2)) (hj : j + 1 < M.2.2.1) (hk : lNk L j = true) (hq : pc + 2 = q) (k : AW g M mc ms P X kc ns q (lS2 L j (.double x)) S z A B) : AW g M mc ms P X kc ns pc L (.double x :: S) z A B := by
  subst hq
  intro p l e s m args below meth c H locs ls C hH hS hl
  exact lv_dstore C.1 C.2.1 d hl.has hj rfl (fun ls2 h2 => k p l e s m args below meth c H locs ls2 C hH hS (LR.of2 hk h2))
theorem a_iinc {j : Nat} {n : Int} {x v : Int32} (d : decode M.2.1 pc = .ok (.iinc j n, 3)) (hL : L[j]? = some (some (.int x))) (hv : x + Int32.ofInt n = v) (hk : lNk L j = true) (hq : pc + 3 = q) (k : AW g M mc ms P X kc ns q (lS1 L j (.int v)) S z A B) : AW g M mc ms P X kc ns pc L S z A B := by
  subst hq
  intro p l e s m args below meth c H locs ls C hH hS hl
  obtain ⟨k9, hk9⟩ := List.getElem?_of_mem (lPr_mem.mpr hL)
  exact lv_iinc C.1 C.2.1 d hl.has hk9 hv (hl.lt hL) rfl (fun ls2 h2 => k p l e s m args below meth c H locs ls2 C hH hS (LR.of1 hk h2))
theorem a_if_eq {x : Int32} {off : Int} (t : Nat) (d : decode M.2.1 pc = .ok (.ifCond .eq off, 3)) (ht : (pc : Int) + off = (t : Int)) (hq : pc + 3 = q) (kt : x = 0 → AW g M mc ms P X kc ns t L S z A B) (kf : ¬ x = 0 → AW g M mc ms P X kc ns q L S z A B) : AW g M mc ms P X kc ns pc L (.int x :: S) z A B := by
  subst hq
  intro p l e s m args below meth c H locs ls C hH hS hl
  exact lv_if_eq C.1 C.2.1 d ht (fun h => kt h p l e s m args below meth c H locs ls C hH hS hl) (fun h => kf h p l e s m args below meth c H locs ls C hH hS hl)
theorem a_if_ne {x : Int32} {off : Int} (t : Nat) (d : decode M.2.1 pc = .ok (.ifCond .ne off, 3)) (ht : (pc : Int) + off = (t : Int)) (hq : pc + 3 = q) (kt : ¬ x = 0 → AW g M mc ms P X kc ns t L S z A B) (kf : x = 0 → AW g M mc ms P X kc ns q L S z A B) : AW g M mc ms P X kc ns pc L (.int x :: S) z A B := by
  subst hq
  intro p l e s m args below meth c H locs ls C hH hS hl
  exact lv_if_ne C.1 C.2.1 d ht (fun h => kt h p l e s m args below meth c H locs ls C hH hS hl) (fun h => kf h p l e s m args below meth c H locs ls C hH hS hl)
theorem a_if_lt {x : Int32} {off : Int} (t : Nat) (d : decode M.2.1 pc = .ok (.ifCond .lt off, 3)) (ht : (pc : Int) + off = (t : Int)) (hq : pc + 3 = q) (kt : x < 0 → AW g M mc ms P X kc ns t L S z A B) (kf : ¬ x < 0 → AW g M mc ms P X kc ns q L S z A B) : AW g M mc ms P X kc ns pc L (.int x :: S) z A B := by
  subst hq
  intro p l e s m args below meth c H locs ls C hH hS hl
  exact lv_if_lt C.1 C.2.1 d ht (fun h => kt h p l e s m args below meth c H locs ls C hH hS hl) (fun h => kf h p l e s m args below meth c H locs ls C hH hS hl)
theorem a_if_ge {x : Int32} {off : Int} (t : Nat) (d : decode M.2.1 pc = .ok (.ifCond .ge off, 3)) (ht : (pc : Int) + off = (t : Int)) (hq : pc + 3 = q) (kt : 0 ≤ x → AW g M mc ms P X kc ns t L S z A B) (kf : ¬ 0 ≤ x → AW g M mc ms P X kc ns q L S z A B) : AW g M mc ms P X kc ns pc L (.int x :: S) z A B := by
  subst hq
  intro p l e s m args below meth c H locs ls C hH hS hl
  exact lv_if_ge C.1 C.2.1 d ht (fun h => kt h p l e s m args below meth c H locs ls C hH hS hl) (fun h => kf h p l e s m args below meth c H locs ls C hH hS hl)
theorem a_if_gt {x : Int32} {off : Int} (t : Nat) (d : decode M.2.1 pc = .ok (.ifCond .gt off, 3)) (ht : (pc : Int) + off = (t : Int)) (hq : pc + 3 = q) (kt : 0 < x → AW g M mc ms P X kc ns t L S z A B) (kf : ¬ 0 < x → AW g M mc ms P X kc ns q L S z A B) : AW g M mc ms P X kc ns pc L (.int x :: S) z A B := by
  subst hq
  intro p l e s m args below meth c H locs ls C hH hS hl
  exact lv_if_gt C.1 C.2.1 d ht (fun h => kt h p l e s m args below meth c H locs ls C hH hS hl) (fun h => kf h p l e s m args below meth c H locs ls C hH hS hl)
theorem a_if_le {x : Int32} {off : Int} (t : Nat) (d : decode M.2.1 pc = .ok (.ifCond .le off, 3)) (ht : (pc : Int) + off = (t : Int)) (hq : pc + 3 = q) (kt : x ≤ 0 → AW g M mc ms P X kc ns t L S z A B) (kf : ¬ x ≤ 0 → AW g M mc ms P X kc ns q L S z A B) : AW g M mc ms P X kc ns pc L (.int x :: S) z A B := by
  subst hq
  intro p l e s m args below meth c H locs ls C hH hS hl
  exact lv_if_le C.1 C.2.1 d ht (fun h => kt h p l e s m args below meth c H locs ls C hH hS hl) (fun h => kf h p l e s m args below meth c H locs ls C hH hS hl)
theorem a_icmp_eq {x y : Int32} {off : Int} (t : Nat) (d : decode M.2.1 pc = .ok (.if_icmp .eq off, 3)) (ht : (pc : Int) + off = (t : Int)) (hq : pc + 3 = q) (kt : x = y → AW g M mc ms P X kc ns t L S z A B) (kf : ¬ x = y → AW g M mc ms P X kc ns q L S z A B) : AW g M mc ms P X kc ns pc L (.int y :: .int x :: S) z A B := by
  subst hq
  intro p l e s m args below meth c H locs ls C hH hS hl
  exact lv_icmp_eq C.1 C.2.1 d ht (fun h => kt h p l e s m args below meth c H locs ls C hH hS hl) (fun h => kf h p l e s m args below meth c H locs ls C hH hS hl)
theorem a_icmp_ne {x y : Int32} {off : Int} (t : Nat) (d : decode M.2.1 pc = .ok (.if_icmp .ne off, 3)) (ht : (pc : Int) + off = (t : Int)) (hq : pc + 3 = q) (kt : ¬ x = y → AW g M mc ms P X kc ns t L S z A B) (kf : x = y → AW g M mc ms P X kc ns q L S z A B) : AW g M mc ms P X kc ns pc L (.int y :: .int x :: S) z A B := by
  subst hq
  intro p l e s m args below meth c H locs ls C hH hS hl
  exact lv_icmp_ne C.1 C.2.1 d ht (fun h => kt h p l e s m args below meth c H locs ls C hH hS hl) (fun h => kf h p l e s m args below meth c H locs ls C hH hS hl)
theorem a_icmp_lt {x y : Int32} {off : Int} (t : Nat) (d : decode M.2.1 pc = .ok (.if_icmp .lt off, 3)) (ht : (pc : Int) + off = (t : Int)) (hq : pc + 3 = q) (kt : x < y → AW g M mc ms P X kc ns t L S z A B) (kf : ¬ x < y → AW g M mc ms P X kc ns q L S z A B) : AW g M mc ms P X kc ns pc L (.int y :: .int x :: S) z A B := by
  subst hq
  intro p l e s m args below meth c H locs ls C hH hS hl
  exact lv_icmp_lt C.1 C.2.1 d ht (fun h => kt h p l e s m args below meth c H locs ls C hH hS hl) (fun h => kf h p l e s m args below meth c H locs ls C hH hS hl)
theorem a_icmp_ge {x y : Int32} {off : Int} (t : Nat) (d : decode M.2.1 pc = .ok (.if_icmp .ge off, 3)) (ht : (pc : Int) + off = (t : Int)) (hq : pc + 3 = q) (kt : y ≤ x → AW g M mc ms P X kc ns t L S z A B) (kf : ¬ y ≤ x → AW g M mc ms P X kc ns q L S z A B) : AW g M mc ms P X kc ns pc L (.int y :: .int x :: S) z A B := by
  subst hq
  intro p l e s m args below meth c H locs ls C hH hS hl
  exact lv_icmp_ge C.1 C.2.1 d ht (fun h => kt h p l e s m args below meth c H locs ls C hH hS hl) (fun h => kf h p l e s m args below meth c H locs ls C hH hS hl)
theorem a_icmp_gt {x y : Int32} {off : Int} (t : Nat) (d : decode M.2.1 pc = .ok (.if_icmp .gt off, 3)) (ht : (pc : Int) + off = (t : Int)) (hq : pc + 3 = q) (kt : y < x → AW g M mc ms P X kc ns t L S z A B) (kf : ¬ y < x → AW g M mc ms P X kc ns q L S z A B) : AW g M mc ms P X kc ns pc L (.int y :: .int x :: S) z A B := by
  subst hq
  intro p l e s m args below meth c H locs ls C hH hS hl
  exact lv_icmp_gt C.1 C.2.1 d ht (fun h => kt h p l e s m args below meth c H locs ls C hH hS hl) (fun h => kf h p l e s m args below meth c H locs ls C hH hS hl)
theorem a_icmp_le {x y : Int32} {off : Int} (t : Nat) (d : decode M.2.1 pc = .ok (.if_icmp .le off, 3)) (ht : (pc : Int) + off = (t : Int)) (hq : pc + 3 = q) (kt : x ≤ y → AW g M mc ms P X kc ns t L S z A B) (kf : ¬ x ≤ y → AW g M mc ms P X kc ns q L S z A B) : AW g M mc ms P X kc ns pc L (.int y :: .int x :: S) z A B := by
  subst hq
  intro p l e s m args below meth c H locs ls C hH hS hl
  exact lv_icmp_le C.1 C.2.1 d ht (fun h => kt h p l e s m args below meth c H locs ls C hH hS hl) (fun h => kf h p l e s m args below meth c H locs ls C hH hS hl)
theorem a_goto {off : Int} (t : Nat) (d : decode M.2.1 pc = .ok (.goto off, 3)) (ht : (pc : Int) + off = (t : Int)) (k : AW g M mc ms P X kc ns t L S z A B) : AW g M mc ms P X kc ns pc L S z A B := by
  intro p l e s m args below meth c H locs ls C hH hS hl
  exact lv_goto C.1 C.2.1 d ht (k p l e s m args below meth c H locs ls C hH hS hl)
theorem a_tin {dflt lo hi off : Int} {offs : Array Int} {len : Nat} {x : Int32} (t : Nat) (d : decode M.2.1 pc = .ok (.tableswitch dflt lo hi offs, len)) (h1 : ¬ x.toInt < lo) (h2 : ¬ hi < x.toInt) (ho : offs[(x.toInt - lo).toNat]? = some off) (ht : (pc : Int) + off = (t : Int)) (k : AW g M mc ms P X kc ns t L S z A B) : AW g M mc ms P X kc ns pc L (.int x :: S) z A B := by
  intro p l e s m args below meth c H locs ls C hH hS hl
  exact lv_tableIn C.1 C.2.1 d h1 h2 ho ht (k p l e s m args below meth c H locs ls C hH hS hl)
theorem a_tout {dflt lo hi : Int} {offs : Array Int} {len : Nat} {x : Int32} (t : Nat) (d : decode M.2.1 pc = .ok (.tableswitch dflt lo hi offs, len)) (h : x.toInt < lo ∨ hi < x.toInt) (ht : (pc : Int) + dflt = (t : Int)) (k : AW g M mc ms P X kc ns t L S z A B) : AW g M mc ms P X kc ns pc L (.int x :: S) z A B := by
  intro p l e s m args below meth c H locs ls C hH hS hl
  exact lv_tableOut C.1 C.2.1 d h ht (k p l e s m args below meth c H locs ls C hH hS hl)
theorem a_lookup {dflt off : Int} {ps : Array (Int × Int)} {len : Nat} {x : Int32} (t : Nat) (d : decode M.2.1 pc = .ok (.lookupswitch dflt ps, len)) (hp : (ps.toList.zip (ps.toList.drop 1)).all (fun (a, next) => a.1 < next.1) = true) (ho : Op.lookupswitch.offset ps.toList dflt x.toInt = off) (ht : (pc : Int) + off = (t : Int)) (k : AW g M mc ms P X kc ns t L S z A B) : AW g M mc ms P X kc ns pc L (.int x :: S) z A B := by
  intro p l e s m args below meth c H locs ls C hH hS hl
  exact lv_lookup C.1 C.2.1 d hp ho ht (k p l e s m args below meth c H locs ls C hH hS hl)
theorem a_ialdA {j n : Nat} {f : Nat → Int32} {i : Int32} (d : decode M.2.1 pc = .ok (.iaload, 1)) (hA : A[j]? = some (aI g n f)) (hin : vp_in i n) (hq : pc + 1 = q) (k : AW g M mc ms P X kc ns q L (.int (f i.toNatClampNeg) :: S) z A B) : AW g M mc ms P X kc ns pc L (.int i :: .ref (g.1 + j) :: S) z A B := by
  subst hq
  intro p l e s m args below meth c H locs ls C hH hS hl
  exact va_iald C.1 C.2.1 C.2.2.2.2.2.2.2.2.2.2.1 hH.1 _ 0 (gW_a hA) rfl hin d (k p l e s m args below meth c H locs ls C hH hS hl)
theorem a_ialdB {j n : Nat} {f : Nat → Int32} {i : Int32} (d : decode M.2.1 pc = .ok (.iaload, 1)) (hA : B[j]? = some (aI g n f)) (hin : vp_in i n) (hq : pc + 1 = q) (k : AW g M mc ms P X kc ns q L (.int (f i.toNatClampNeg) :: S) z A B) : AW g M mc ms P X kc ns pc L (.int i :: .ref (g.2.1 + j) :: S) z A B := by
  subst hq
  intro p l e s m args below meth c H locs ls C hH hS hl
  exact va_iald C.1 C.2.1 C.2.2.2.2.2.2.2.2.2.2.1 hH.1 _ 0 (gW_b hA) rfl hin d (k p l e s m args below meth c H locs ls C hH hS hl)
theorem a_zaldA {j n : Nat} {f : Nat → Int32} {i : Int32} (d : decode M.2.1 pc = .ok (.baload, 1)) (hA : A[j]? = some (aZ g n f)) (hin : vp_in i n) (hq : pc + 1 = q) (k : AW g M mc ms P X kc ns q L (.int (f i.toNatClampNeg) :: S) z A B) : AW g M mc ms P X kc ns pc L (.int i :: .ref (g.1 + j) :: S) z A B := by
  subst hq
  intro p l e s m args below meth c H locs ls C hH hS hl
  exact va_zald C.1 C.2.1 C.2.2.2.2.2.2.2.2.2.2.1 hH.1 _ 1 (gW_a hA) rfl hin d (k p l e s m args below meth c H locs ls C hH hS hl)
theorem a_zaldB {j n : Nat} {f : Nat → Int32} {i : Int32} (d : decode M.2.1 pc = .ok (.baload, 1)) (hA : B[j]? = some (aZ g n f)) (hin : vp_in i n) (hq : pc + 1 = q) (k : AW g M mc ms P X kc ns q L (.int (f i.toNatClampNeg) :: S) z A B) : AW g M mc ms P X kc ns pc L (.int i :: .ref (g.2.1 + j) :: S) z A B := by
  subst hq
  intro p l e s m args below meth c H locs ls C hH hS hl
  exact va_zald C.1 C.2.1 C.2.2.2.2.2.2.2.2.2.2.1 hH.1 _ 1 (gW_b hA) rfl hin d (k p l e s m args below meth c H locs ls C hH hS hl)
theorem a_laldA {j n : Nat} {f : Nat → Int64} {i : Int32} (d : decode M.2.1 pc = .ok (.laload, 1)) (hA : A[j]? = some (aJ g n f)) (hin : vp_in i n) (hq : pc + 1 = q) (k : AW g M mc ms P X kc ns q L (.long (f i.toNatClampNeg) :: S) z A B) : AW g M mc ms P X kc ns pc L (.int i :: .ref (g.1 + j) :: S) z A B := by
  subst hq
  intro p l e s m args below meth c H locs ls C hH hS hl
  exact va_lald C.1 C.2.1 C.2.2.2.2.2.2.2.2.2.2.1 hH.1 _ 2 (gW_a hA) rfl hin d (k p l e s m args below meth c H locs ls C hH hS hl)
theorem a_laldB {j n : Nat} {f : Nat → Int64} {i : Int32} (d : decode M.2.1 pc = .ok (.laload, 1)) (hA : B[j]? = some (aJ g n f)) (hin : vp_in i n) (hq : pc + 1 = q) (k : AW g M mc ms P X kc ns q L (.long (f i.toNatClampNeg) :: S) z A B) : AW g M mc ms P X kc ns pc L (.int i :: .ref (g.2.1 + j) :: S) z A B := by
  subst hq
  intro p l e s m args below meth c H locs ls C hH hS hl
  exact va_lald C.1 C.2.1 C.2.2.2.2.2.2.2.2.2.2.1 hH.1 _ 2 (gW_b hA) rfl hin d (k p l e s m args below meth c H locs ls C hH hS hl)
theorem a_daldA {j n : Nat} {f : Nat → UInt64} {i : Int32} (d : decode M.2.1 pc = .ok (.daload, 1)) (hA : A[j]? = some (aD g n f)) (hin : vp_in i n) (hq : pc + 1 = q) (k : AW g M mc ms P X kc ns q L (.double (f i.toNatClampNeg) :: S) z A B) : AW g M mc ms P X kc ns pc L (.int i :: .ref (g.1 + j) :: S) z A B := by
  subst hq
  intro p l e s m args below meth c H locs ls C hH hS hl
  exact va_dald C.1 C.2.1 C.2.2.2.2.2.2.2.2.2.2.1 hH.1 _ 3 (gW_a hA) rfl hin d (k p l e s m args below meth c H locs ls C hH hS hl)
theorem a_daldB {j n : Nat} {f : Nat → UInt64} {i : Int32} (d : decode M.2.1 pc = .ok (.daload, 1)) (hA : B[j]? = some (aD g n f)) (hin : vp_in i n) (hq : pc + 1 = q) (k : AW g M mc ms P X kc ns q L (.double (f i.toNatClampNeg) :: S) z A B) : AW g M mc ms P X kc ns pc L (.int i :: .ref (g.2.1 + j) :: S) z A B := by
  subst hq
  intro p l e s m args below meth c H locs ls C hH hS hl
  exact va_dald C.1 C.2.1 C.2.2.2.2.2.2.2.2.2.2.1 hH.1 _ 3 (gW_b hA) rfl hin d (k p l e s m args below meth c H locs ls C hH hS hl)
theorem a_iastA {j n : Nat} {f : Nat → Int32} {i : Int32} {x : Int32} (d : decode M.2.1 pc = .ok (.iastore, 1)) (hA : A[j]? = some (aI g n f)) (hin : vp_in i n) (hq : pc + 1 = q) (k : AW g M mc ms P X kc ns q L S 0 (A.set j (aI g n (upd f i.toNatClampNeg x))) B) : AW g M mc ms P X kc ns pc L (.int x :: .int i :: .ref (g.1 + j) :: S) z A B := by
  subst hq
  intro p l e s m args below meth c H locs ls C hH hS hl
  refine va_iast C.1 C.2.1 C.2.2.2.2.2.2.2.2.2.2.1 hH.1 hH.2.1 hS _ 0 (gW_a hA) rfl hin d (fun H1 locs1 hP hD hS1 => ?_)
  rw [gW_sa hA] at hP hD
  exact k p l e s m args below meth c H1 locs1 ls C ⟨hP, hD, trivial⟩ hS1 hl
theorem a_iastB {j n : Nat} {f : Nat → Int32} {i : Int32} {x : Int32} (d : decode M.2.1 pc = .ok (.iastore, 1)) (hA : B[j]? = some (aI g n f)) (hin : vp_in i n) (hq : pc + 1 = q) (k : AW g M mc ms P X kc ns q L S 0 A (B.set j (aI g n (upd f i.toNatClampNeg x)))) : AW g M mc ms P X kc ns pc L (.int x :: .int i :: .ref (g.2.1 + j) :: S) z A B := by
  subst hq
  intro p l e s m args below meth c H locs ls C hH hS hl
  refine va_iast C.1 C.2.1 C.2.2.2.2.2.2.2.2.2.2.1 hH.1 hH.2.1 hS _ 0 (gW_b hA) rfl hin d (fun H1 locs1 hP hD hS1 => ?_)
  rw [gW_sb] at hP hD
  exact k p l e s m args below meth c H1 locs1 ls C ⟨hP, hD, trivial⟩ hS1 hl
theorem a_zastA {j n : Nat} {f : Nat → Int32} {i : Int32} {x : Int32} (d : decode M.2.1 pc = .ok (.bastore, 1)) (hA : A[j]? = some (aZ g n f)) (hin : vp_in i n) (hq : pc + 1 = q) (k : AW g M mc ms P X kc ns q L S 0 (A.set j (aZ g n (upd f i.toNatClampNeg (vp_nar .boolean x)))) B) : AW g M mc ms P X kc ns pc L (.int x :: .int i :: .ref (g.1 + j) :: S) z A B := by
  subst hq
  intro p l e s m args below meth c H locs ls C hH hS hl
  refine va_zast C.1 C.2.1 C.2.2.2.2.2.2.2.2.2.2.1 hH.1 hH.2.1 hS _ 1 (gW_a hA) rfl hin d (fun H1 locs1 hP hD hS1 => ?_)
  rw [gW_sa hA] at hP hD
  exact k p l e s m args below meth c H1 locs1 ls C ⟨hP, hD, trivial⟩ hS1 hl
theorem a_zastB {j n : Nat} {f : Nat → Int32} {i : Int32} {x : Int32} (d : decode M.2.1 pc = .ok (.bastore, 1)) (hA : B[j]? = some (aZ g n f)) (hin : vp_in i n) (hq : pc + 1 = q) (k : AW g M mc ms P X kc ns q L S 0 A (B.set j (aZ g n (upd f i.toNatClampNeg (vp_nar .boolean x))))) : AW g M mc ms P X kc ns pc L (.int x :: .int i :: .ref (g.2.1 + j) :: S) z A B := by
  subst hq
  intro p l e s m args below meth c H locs ls C hH hS hl
  refine va_zast C.1 C.2.1 C.2.2.2.2.2.2.2.2.2.2.1 hH.1 hH.2.1 hS _ 1 (gW_b hA) rfl hin d (fun H1 locs1 hP hD hS1 => ?_)
  rw [gW_sb] at hP hD
  exact k p l e s m args below meth c H1 locs1 ls C ⟨hP, hD, trivial⟩ hS1 hl
theorem a_lastA {j n : Nat} {f : Nat → Int64} {i : Int32} {x : Int64} (d : decode M.2.1 pc = .ok (.lastore, 1)) (hA : A[j]? = some (aJ g n f)) (hin : vp_in i n) (hq : pc + 1 = q) (k : AW g M mc ms P X kc ns q L S 0 (A.set j (aJ g n (vp_updL f i.toNatClampNeg x))) B) : AW g M mc ms P X kc ns pc L (.long x :: .int i :: .ref (g.1 + j) :: S) z A B := by
  subst hq
  intro p l e s m args below meth c H locs ls C hH hS hl
  refine va_last C.1 C.2.1 C.2.2.2.2.2.2.2.2.2.2.1 hH.1 hH.2.1 hS _ 2 (gW_a hA) rfl hin d (fun H1 locs1 hP hD hS1 => ?_)
  rw [gW_sa hA] at hP hD
  exact k p l e s m args below meth c H1 locs1 ls C ⟨hP, hD, trivial⟩ hS1 hl
theorem a_lastB {j n : Nat} {f : Nat → Int64} {i : Int32} {x : Int64} (d : decode M.2.1 pc = .ok (.lastore, 1)) (hA : B[j]? = some (aJ g n f)) (hin : vp_in i n) (hq : pc + 1 = q) (k : AW g M mc ms P X kc ns q L S 0 A (B.set j (aJ g n (vp_updL f i.toNatClampNeg x)))) : AW g M mc ms P X kc ns pc L (.long x :: .int i :: .ref (g.2.1 + j) :: S) z A B := by
  subst hq
  intro p l e s m args below meth c H locs ls C hH hS hl
  refine va_last C.1 C.2.1 C.2.2.2.2.2.2.2.2.2.2.1 hH.1 hH.2.1 hS _ 2 (gW_b hA) rfl hin d (fun H1 locs1 hP hD hS1 => ?_)
  rw [gW_sb] at hP hD
  exact k p l e s m args below meth c H1 locs1 ls C ⟨hP, hD, trivial⟩ hS1 hl
theorem a_dastA {j n : Nat} {f : Nat → UInt64} {i : Int32} {x : UInt64} (d : decode M.2.1 pc = .ok (.dastore, 1)) (hA : A[j]? = some (aD g n f)) (hin : vp_in i n) (hq : pc + 1 = q) (k : AW g M mc ms P X kc ns q L S 0 (A.set j (aD g n (vf_upd f i.toNatClampNeg x))) B) : AW g M mc ms P X kc ns pc L (.double x :: .int i :: .ref (g.1 + j) :: S) z A B := by
  subst hq
  intro p l e s m args below meth c H locs ls C hH hS hl
  refine va_dast C.1 C.2.1 C.2.2.2.2.2.2.2.2.2.2.1 hH.1 hH.2.1 hS _ 3 (gW_a hA) rfl hin d (fun H1 locs1 hP hD hS1 => ?_)
  rw [gW_sa hA] at hP hD
  exact k p l e s m args below meth c H1 locs1 ls C ⟨hP, hD, trivial⟩ hS1 hl
theorem a_dastB {j n : Nat} {f : Nat → UInt64} {i : Int32} {x : UInt64} (d : decode M.2.1 pc = .ok (.dastore, 1)) (hA : B[j]? = some (aD g n f)) (hin : vp_in i n) (hq : pc + 1 = q) (k : AW g M mc ms P X kc ns q L S 0 A (B.set j (aD g n (vf_upd f i.toNatClampNeg x)))) : AW g M mc ms P X kc ns pc L (.double x :: .int i :: .ref (g.2.1 + j) :: S) z A B := by
  subst hq
  intro p l e s m args below meth c H locs ls C hH hS hl
  refine va_dast C.1 C.2.1 C.2.2.2.2.2.2.2.2.2.2.1 hH.1 hH.2.1 hS _ 3 (gW_b hA) rfl hin d (fun H1 locs1 hP hD hS1 => ?_)
  rw [gW_sb] at hP hD
  exact k p l e s m args below meth c H1 locs1 ls C ⟨hP, hD, trivial⟩ hS1 hl
theorem a_sld {i : Int32} (d : decode M.2.1 pc = .ok (.iaload, 1)) (hin : vp_in i g.2.2.2.2.2.1) (hq : pc + 1 = q) (k : AW g M mc ms P X kc ns q L (.int (g.2.2.2.2.2.2 i.toNatClampNeg) :: S) z A B) : AW g M mc ms P X kc ns pc L (.int i :: .ref g.2.2.2.2.1 :: S) z A B := by
  subst hq
  intro p l e s m args below meth c H locs ls C hH hS hl
  obtain ⟨-, -, -, -, -, h9, h10, h11⟩ := C.2.2.2.2.2.2.2.2.2.2
  exact va_sld C.1 C.2.1 h9 (by omega) (fun h => by have h12 : g.1 ≤ g.2.2.2.2.1 := h; omega) hS hin d (k p l e s m args below meth c H locs ls C hH hS hl)
theorem a_slen (d : decode M.2.1 pc = .ok (.arraylength, 1)) (hq : pc + 1 = q) (k : AW g M mc ms P X kc ns q L (.int (Int32.ofNat g.2.2.2.2.2.1) :: S) z A B) : AW g M mc ms P X kc ns pc L (.ref g.2.2.2.2.1 :: S) z A B := by
  subst hq
  intro p l e s m args below meth c H locs ls C hH hS hl
  obtain ⟨-, -, -, -, -, h9, h10, h11⟩ := C.2.2.2.2.2.2.2.2.2.2
  exact va_slen C.1 C.2.1 h9 (by omega) (fun h => by have h12 : g.1 ≤ g.2.2.2.2.1 := h; omega) hS d (k p l e s m args below meth c H locs ls C hH hS hl)
theorem a_iret {x : Int32} {ty : FieldType} (d : decode M.2.1 pc = .ok (.ireturn, 1)) (hr : M.2.2.2.1 = some ty) (hn : narrow ty (.int x) = .int x) (hk : kc ≤ mc) (hs : ns ≤ ms) (hp : P (some (.int x)) z A B) : AW g M mc ms P X kc ns pc L [.int x] z A B := by
  intro p l e s m args below meth c H locs ls C hH hS hl
  refine W.widen (k := mc) (n := ms) hk hs (vx_ret ?_)
  exact W.zret C.1 C.2.1 (C.2.2.2.1.trans hr) hn (fun t ht _ => ⟨⟨_, z, A, B, rfl, hp, by rw [ht]; exact hH⟩, hS.F ht⟩) hS.2.2 d (hlocks := C.2.2.2.2.1)
theorem a_lret {x : Int64} (d : decode M.2.1 pc = .ok (.lreturn, 1)) (hr : M.2.2.2.1 = some .long) (hk : kc ≤ mc) (hs : ns ≤ ms) (hp : P (some (.long x)) z A B) : AW g M mc ms P X kc ns pc L [.long x] z A B := by
  intro p l e s m args below meth c H locs ls C hH hS hl
  refine W.widen (k := mc) (n := ms) hk hs (vx_ret ?_)
  exact W.lret C.1 C.2.1 (C.2.2.2.1.trans hr) (fun t ht _ => ⟨⟨_, z, A, B, rfl, hp, by rw [ht]; exact hH⟩, hS.F ht⟩) hS.2.2 d (hlocks := C.2.2.2.2.1)
theorem a_dret {x : UInt64} (d : decode M.2.1 pc = .ok (.dreturn, 1)) (hr : M.2.2.2.1 = some .double) (hk : kc ≤ mc) (hs : ns ≤ ms) (hp : P (some (.double x)) z A B) : AW g M mc ms P X kc ns pc L [.double x] z A B := by
  intro p l e s m args below meth c H locs ls C hH hS hl
  refine W.widen (k := mc) (n := ms) hk hs (vx_ret ?_)
  exact W.dret C.1 C.2.1 (C.2.2.2.1.trans hr) (fun t ht _ => ⟨⟨_, z, A, B, rfl, hp, by rw [ht]; exact hH⟩, hS.F ht⟩) hS.2.2 d (hlocks := C.2.2.2.2.1)
theorem a_ret (d : decode M.2.1 pc = .ok (.return_, 1)) (hr : M.2.2.2.1 = none) (hk : kc ≤ mc) (hs : ns ≤ ms) (hp : P none z A B) : AW g M mc ms P X kc ns pc L [] z A B := by
  intro p l e s m args below meth c H locs ls C hH hS hl
  refine W.widen (k := mc) (n := ms) hk hs (vx_ret ?_)
  exact W.vret C.1 C.2.1 (C.2.2.2.1.trans hr) (fun t ht _ => ⟨⟨_, z, A, B, rfl, hp, by rw [ht]; exact hH⟩, hS.F ht⟩) hS.2.2 d (hlocks := C.2.2.2.2.1)
end Rules
