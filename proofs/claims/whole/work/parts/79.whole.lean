/-! ===== the law from its entry ===== -/
section Whole
variable {p : Program} {l : Launch} {e : Env} {R : Room} {s : State} {m : MethodId} {args : Array Value} {below : List Frame} {meth : Method} {c : Code} {H : Heap} {locs : List Loc} {kc ns : Nat}
theorem W_mono {Q Q' : State → Prop} {f : JFrame} (k : W p l e R s m args below meth c H locs kc ns Q f) (h : ∀ t, Q t → Q' t) : W p l e R s m args below meth c H locs kc ns Q' f := by
  intro T hT X
  obtain ⟨t, a, b⟩ := k T hT X
  exact ⟨t, a, h t b⟩
/-- what was written lies among the new cells: nothing old was -/
theorem same_new {t : State} {L : List Loc} {k n : Nat} (h : s.sameButNew t L k n) (hL : ∀ q ∈ L, s.heap.size ≤ q.base) : s.sameButNew t [] k n := by
  obtain ⟨a1, a2, a3, a4, a5, a6⟩ := h
  refine ⟨a1, a2, a3, a4, a5, fun a c hc => ?_⟩
  obtain ⟨c', d1, d2, d3, d4⟩ := a6 a c hc
  refine ⟨c', d1, d2, d3, fun i _ => d4 i (fun hi => ?_)⟩
  have h1 := hL _ hi
  have h2 := (Array.getElem?_eq_some_iff.mp hc).1
  have h3 : s.heap.size ≤ a := h1
  omega
end Whole
theorem whole_start {p : Program} {e : Env} {s : State} {m : MethodId} {below : List Frame} {meth : Method} {c : Code} (l : Launch) (hflags : l.flags = flags0) {b L : Nat} {xs : Nat → Int32} (hL : L ≤ 1536) (C0 : lw_At p s m meth c b L xs) : W p l e room_1 s m #[Value.ref b] below meth c s.heap [] 0 0 (lw_Z below #[Value.ref b] s) (entryFrame m ([Value.ref b] : List Value).toArray 9) := by
  obtain ⟨tyc, D, hK⟩ := st_gKt C0
  obtain ⟨hx, hb, hr, hml, hown, hts, hX, hbl, hlocks, hgv, hexc, hname⟩ := C0
  have htg : ∀ w ∈ TG, w.before #[Value.ref b] s = true := fun w hw => hts w (List.mem_filter.mp hw).1
  have hst : l.stackTraces = false := by unfold Launch.stackTraces; rw [hflags]; decide +kernel
  have hent := lv_entry ([.ref b]) (n := 9) (Nat.le_of_ble_eq_true rfl)
  rw [lg_entry_eq]
  have hA := law_head (g := (s.heap.size, s.heap.size + 34, tyc, D, b, L, xs)) hL rfl
  have hH : gHp (s.heap.size, s.heap.size + 34, tyc, D, b, L, xs) 1 [] [] s.heap := by
    refine ⟨fun k q h => ?_, ⟨fun i j p q h => ?_, fun k q h => ?_⟩, ⟨rfl, rfl⟩⟩
    · have h : ([] : va_W)[k]? = some q := h
      cases h
    · have h : ([] : va_W)[i]? = some p := h
      cases h
    · have h : ([] : va_W)[k]? = some q := h
      cases h
  refine W_mono (hA p l e s m #[Value.ref b] below meth c s.heap [] _ ⟨hx, hb, hml, hr, hlocks, hown, htg, hexc, hname, hst, hK⟩ hH va_S.rf ⟨hent.1, hent.2.1, fun i v hi => ?_⟩) (fun t ht => ?_)
  · refine hent.2.2 (i, v) ?_
    match i, hi with
    | 0, hi => cases hi; exact List.mem_cons_self
    | 1, hi => cases hi
    | 2, hi => cases hi
    | 3, hi => cases hi
    | 4, hi => cases hi
    | 5, hi => cases hi
    | 6, hi => cases hi
    | 7, hi => cases hi
    | 8, hi => cases hi
    | k + 9, hi => cases hi
  · obtain ⟨o, h1, h2, h3⟩ := ht
    rcases h3 with ⟨⟨⟨v, z, A, B, e1, e2, -⟩, -⟩, L9, ⟨f1, f2, f3⟩, hL9⟩ | ⟨q, -, E, ce, L9, ⟨⟨z, A, B, hx9, -⟩, -⟩, -⟩
    · have e2 : v = some (.int 1) := e2
      subst e2
      exact ⟨o, h1, h2, e1, lw_closed (d0 := s.drawn) (Drawn.sameBut.refl s.drawn lw_cs) f1 f2 (same_new f3 hL9)⟩
    · exact hx9.elim

