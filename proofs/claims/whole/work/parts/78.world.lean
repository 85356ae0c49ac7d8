/-! ===== the world at the law's entry ===== -/
section Start
variable {p : Program} {s : State} {m : MethodId} {meth : Method} {c : Code} {b L : Nat} {xs : Nat → Int32} {args : Array Value}
theorem st_str {k : Nat} {tx : String} {cur : Nat} (hcur : s.vm.findClass "PathProfiler" = some cur) (h : (Cond.stringRef "PathProfiler" k tx).before args s = true) : ∃ a, vk_R "PathProfiler" k tx a s := by
  obtain ⟨_, _, _, a, -, -, -, -, -, ha⟩ := Cond.stringRef_spec hcur h
  exact ⟨a, vk_R.of h ha⟩
theorem st_arr {ty : FieldType} (h : (Cond.arrayClass ty).before args s = true) (hp : ∀ C, ty ≠ .object C) : ∃ cA, ArrOfT s cA ty ∧ va_RA s cA ty := by
  obtain ⟨cA, kA, comp, h1, h2, h3⟩ := Cond.arrayClass_spec h
  refine ⟨cA, fun n z => ⟨fun k h => (by cases h), kA, h2, comp, h3⟩, ?_⟩
  cases ty with
  | object C => exact absurd rfl (hp C)
  | _ => exact h1
theorem st_cls (htg : ∀ w ∈ TG, w.before args s = true) : ∀ k : Nat, ∃ (cC : ClassId) (iS : Nat → Nat), ∀ q, vwCl[k]? = some q → u_Kn s q.1 q.2.1 q.2.2 cC iS := by
  intro k
  match k with
  | 0 =>
    obtain ⟨cC, iS, hK⟩ := u_known (ws := TG) (n := 5) htg cf0.2.1 (htg _ tw105)
    exact ⟨cC, iS, fun q hq => by rw [cf0.1] at hq; cases hq; exact hK⟩
  | 1 =>
    obtain ⟨cC, iS, hK⟩ := u_known (ws := TG) (n := 6) htg cf1.2.1 (htg _ tw218)
    exact ⟨cC, iS, fun q hq => by rw [cf1.1] at hq; cases hq; exact hK⟩
  | 2 =>
    obtain ⟨cC, iS, hK⟩ := u_known (ws := TG) (n := 4) htg cf2.2.1 (htg _ tw287)
    exact ⟨cC, iS, fun q hq => by rw [cf2.1] at hq; cases hq; exact hK⟩
  | 3 =>
    obtain ⟨cC, iS, hK⟩ := u_known (ws := TG) (n := 2) htg cf3.2.1 (htg _ tw160)
    exact ⟨cC, iS, fun q hq => by rw [cf3.1] at hq; cases hq; exact hK⟩
  | 4 =>
    obtain ⟨cC, iS, hK⟩ := u_known (ws := TG) (n := 10) htg cf4.2.1 (htg _ tw176)
    exact ⟨cC, iS, fun q hq => by rw [cf4.1] at hq; cases hq; exact hK⟩
  | 5 =>
    obtain ⟨cC, iS, hK⟩ := u_known (ws := TG) (n := 2) htg cf5.2.1 (htg _ tw142)
    exact ⟨cC, iS, fun q hq => by rw [cf5.1] at hq; cases hq; exact hK⟩
  | 6 =>
    obtain ⟨cC, iS, hK⟩ := u_known (ws := TG) (n := 9) htg cf6.2.1 (htg _ tw250)
    exact ⟨cC, iS, fun q hq => by rw [cf6.1] at hq; cases hq; exact hK⟩
  | 7 =>
    obtain ⟨cC, iS, hK⟩ := u_known (ws := TG) (n := 4) htg cf7.2.1 (htg _ tw306)
    exact ⟨cC, iS, fun q hq => by rw [cf7.1] at hq; cases hq; exact hK⟩
  | 8 =>
    obtain ⟨cC, iS, hK⟩ := u_known (ws := TG) (n := 9) htg cf8.2.1 (htg _ tw97)
    exact ⟨cC, iS, fun q hq => by rw [cf8.1] at hq; cases hq; exact hK⟩
  | 9 =>
    obtain ⟨cC, iS, hK⟩ := u_known (ws := TG) (n := 37) htg cf9.2.1 (htg _ tw936)
    exact ⟨cC, iS, fun q hq => by rw [cf9.1] at hq; cases hq; exact hK⟩
  | k + 10 => exact ⟨0, fun _ => 0, fun q hq => by cases hq⟩
theorem lwm (i : Nat) {w : Cond} (h : lw_tbl[i]? = some w) : w ∈ lw_tbl := List.mem_of_getElem? h
theorem st_gSt (hts : ∀ w ∈ lw_tbl, w.before args s = true) {cur : Nat} (hcur : s.vm.findClass "PathProfiler" = some cur) : ∀ q ∈ gSt, ∃ a, vk_R q.1 q.2.1 q.2.2 a s :=
  List.forall_mem_cons.mpr ⟨st_str hcur (hts _ (lwm 623 (by decide +kernel))), List.forall_mem_cons.mpr ⟨st_str hcur (hts _ (lwm 660 (by decide +kernel))), List.forall_mem_cons.mpr ⟨st_str hcur (hts _ (lwm 671 (by decide +kernel))), List.forall_mem_cons.mpr ⟨st_str hcur (hts _ (lwm 704 (by decide +kernel))), List.forall_mem_cons.mpr ⟨st_str hcur (hts _ (lwm 711 (by decide +kernel))), List.forall_mem_cons.mpr ⟨st_str hcur (hts _ (lwm 719 (by decide +kernel))), List.forall_mem_cons.mpr ⟨st_str hcur (hts _ (lwm 724 (by decide +kernel))), List.forall_mem_cons.mpr ⟨st_str hcur (hts _ (lwm 745 (by decide +kernel))), List.forall_mem_cons.mpr ⟨st_str hcur (hts _ (lwm 763 (by decide +kernel))), List.forall_mem_cons.mpr ⟨st_str hcur (hts _ (lwm 765 (by decide +kernel))), List.forall_mem_cons.mpr ⟨st_str hcur (hts _ (lwm 805 (by decide +kernel))), List.forall_mem_cons.mpr ⟨st_str hcur (hts _ (lwm 834 (by decide +kernel))), List.forall_mem_cons.mpr ⟨st_str hcur (hts _ (lwm 883 (by decide +kernel))), List.forall_mem_cons.mpr ⟨st_str hcur (hts _ (lwm 896 (by decide +kernel))), List.forall_mem_cons.mpr ⟨st_str hcur (hts _ (lwm 901 (by decide +kernel))), fun _ h => nomatch h⟩⟩⟩⟩⟩⟩⟩⟩⟩⟩⟩⟩⟩⟩⟩
theorem st_gNm (hts : ∀ w ∈ lw_tbl, w.before args s = true) : ∀ q ∈ gNm, va_Nw (.methodLinkNest q.1 q.2.1 q.2.2.1 q.2.2.2) s :=
  List.forall_mem_cons.mpr ⟨va_Nw.of rfl (hts _ (lwm 106 (by decide +kernel))), List.forall_mem_cons.mpr ⟨va_Nw.of rfl (hts _ (lwm 143 (by decide +kernel))), List.forall_mem_cons.mpr ⟨va_Nw.of rfl (hts _ (lwm 161 (by decide +kernel))), List.forall_mem_cons.mpr ⟨va_Nw.of rfl (hts _ (lwm 166 (by decide +kernel))), List.forall_mem_cons.mpr ⟨va_Nw.of rfl (hts _ (lwm 307 (by decide +kernel))), fun _ h => nomatch h⟩⟩⟩⟩⟩
theorem st_gNd (hts : ∀ w ∈ lw_tbl, w.before args s = true) : ∀ x ∈ gNd, va_Nw (.declares x) s :=
  List.forall_mem_cons.mpr ⟨va_Nw.of rfl (hts _ (lwm 585 (by decide +kernel))), List.forall_mem_cons.mpr ⟨va_Nw.of rfl (hts _ (lwm 586 (by decide +kernel))), List.forall_mem_cons.mpr ⟨va_Nw.of rfl (hts _ (lwm 587 (by decide +kernel))), List.forall_mem_cons.mpr ⟨va_Nw.of rfl (hts _ (lwm 588 (by decide +kernel))), List.forall_mem_cons.mpr ⟨va_Nw.of rfl (hts _ (lwm 589 (by decide +kernel))), List.forall_mem_cons.mpr ⟨va_Nw.of rfl (hts _ (lwm 590 (by decide +kernel))), fun _ h => nomatch h⟩⟩⟩⟩⟩⟩
theorem st_gNc (hts : ∀ w ∈ lw_tbl, w.before args s = true) : ∀ q ∈ gNc, va_Nw (.castable q.1 q.2) s :=
  List.forall_mem_cons.mpr ⟨va_Nw.of rfl (hts _ (lwm 584 (by decide +kernel))), List.forall_mem_cons.mpr ⟨va_Nw.of rfl (hts _ (lwm 664 (by decide +kernel))), List.forall_mem_cons.mpr ⟨va_Nw.of rfl (hts _ (lwm 697 (by decide +kernel))), fun _ h => nomatch h⟩⟩⟩
theorem st_gXn (hgv : (Jvm.Cond.and given_1 narrow_1).before args s = true) : ∀ q ∈ gXn, va_Nc q.1 q.2 s := by
  have hs := flat_of_before _ hgv
  exact List.forall_mem_cons.mpr ⟨va_Nc.of (hs _ (by decide +kernel)), List.forall_mem_cons.mpr ⟨va_Nc.of (hs _ (by decide +kernel)), List.forall_mem_cons.mpr ⟨va_Nc.of (hs _ (by decide +kernel)), List.forall_mem_cons.mpr ⟨va_Nc.of (hs _ (by decide +kernel)), List.forall_mem_cons.mpr ⟨va_Nc.of (hs _ (by decide +kernel)), List.forall_mem_cons.mpr ⟨va_Nc.of (hs _ (by decide +kernel)), fun _ h => nomatch h⟩⟩⟩⟩⟩⟩
theorem st_gKt (C0 : lw_At p s m meth c b L xs) : ∃ (tyc : Nat → ClassId) (D : va_G), gKt (s.heap.size, s.heap.size + 34, tyc, D, b, L, xs) s := by
  obtain ⟨hx, hb, hr, hml, hown, hts, hX, hbl, hlocks, hgv, -, -⟩ := C0
  have htg : ∀ w ∈ TG, w.before #[Value.ref b] s = true := fun w hw => hts w (List.mem_filter.mp hw).1
  obtain ⟨dC, hdC⟩ := Classical.axiomOfChoice (st_cls htg)
  obtain ⟨dI, hdI⟩ := Classical.axiomOfChoice hdC
  obtain ⟨c_int, a_int⟩ := st_arr (htg _ tw140) (fun _ h => nomatch h)
  obtain ⟨c_boolean, a_boolean⟩ := st_arr (htg _ tw216) (fun _ h => nomatch h)
  obtain ⟨c_long, a_long⟩ := st_arr (htg _ tw1346) (fun _ h => nomatch h)
  obtain ⟨c_double, a_double⟩ := st_arr (htg _ tw1347) (fun _ h => nomatch h)
  have hcur : s.vm.findClass "PathProfiler" = some (dC 8) := (hdI 8 _ cf8.1).2.1
  refine ⟨fun k => if k = 0 then c_int else if k = 1 then c_boolean else if k = 2 then c_long else c_double, (dC, dI), ⟨hdI, ?_⟩, ⟨?_, ?_⟩, st_gSt hts hcur, st_gXn hgv, ⟨st_gNm hts, st_gNd hts, st_gNc hts⟩, hX, hbl, Nat.le_refl _⟩
  · intro k q hk
    match k, hk with
    | 0, hk => cases hk; exact a_int
    | 1, hk => cases hk; exact a_boolean
    | 2, hk => cases hk; exact a_long
    | 3, hk => cases hk; exact a_double
    | k + 4, hk => cases hk
  · exact vx_Zqof (hts _ (lwm 609 (by decide +kernel))) (hts _ (lwm 90 (by decide +kernel))) (flat_of_before _ hgv _ (by decide +kernel)) (fun a ha z => Nat.not_le.mpr ha z)
  · exact vx_Zqof (hts _ (lwm 611 (by decide +kernel))) (hts _ (lwm 90 (by decide +kernel))) (flat_of_before _ hgv _ (by decide +kernel)) (fun a ha z => Nat.not_le.mpr ha z)
end Start

