/-! ===== the digests of the two ===== -/
section Digest2
variable {G : Gr} {bc : Nat → Bool} {vc pt inc : Nat → Int32} {cn cw : Nat} {Y : Ya}
theorem mpF_congr {p q : Nat → Int32} : ∀ (m k : Nat) (h : Int64), (∀ i, k ≤ i → i < k + m → p i = q i) → mpF p m k h = mpF q m k h
  | 0, _, _, _ => rfl
  | m + 1, k, h, e => by
    unfold mpF
    rw [e k (Nat.le_refl _) (by omega)]
    exact mpF_congr m (k + 1) _ (fun i h1 h2 => e i (by omega) (by omega))
theorem me_meM (h : anQ G bc vc pt inc cn cw Y) : ∀ (m k : Nat) (x : Int64), k + m ≤ G.2.1 → meF bc vc inc m k x = meM Y.2.1 Y.2.2.2.1 Y.2.2.2.2.1 m k x := by
  obtain ⟨hb, -, hV, -⟩ := h
  intro m
  induction m with
  | zero => intro k x _; rfl
  | succ m ih =>
    intro k x hk
    unfold meF meM
    obtain ⟨a1, a2⟩ := c2_mLo hb (show k < G.2.1 by omega) true
    obtain ⟨b1, b2⟩ := c2_mLo hb (show k < G.2.1 by omega) false
    unfold mlk mlm
    rw [(hV _ a1).1, (hV _ a1).2, (hV _ b1).1, (hV _ b1).2, a2, b2, hb k (by omega)]
    exact ih (k + 1) _ (by omega)
theorem ma_maM (h : anQ G bc vc pt inc cn cw Y) (x : Int64) : ma G bc vc pt inc cn cw x = maM G Y x := by
  have hm := fun y => me_meM h G.2.1 0 y (by omega)
  obtain ⟨-, hP, -, ⟨h1, h2⟩, -⟩ := h
  unfold ma maM
  rw [hm, h1, h2, mpF_congr G.1 0 x (fun i _ hi => (hP i (by omega)).symm)]
theorem dg_dgM {T : Tx} {W : Wa} {V : Wk} (h1 : V.1 = cuN W) (h2 : V.2.1 = W.2.2.2.1) (h3 : V.2.2.1 = W.2.2.2.2) (x : Int64) : dgE T V x = dgM T W x := by
  unfold dgE dgM
  rw [h1, h2, h3, mc_hot]
end Digest2

