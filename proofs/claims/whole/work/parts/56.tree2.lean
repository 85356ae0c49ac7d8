/-! ===== the tree of the two is the same ===== -/
def sumN (f : Nat → Nat) : Nat → Nat
  | 0 => 0
  | n + 1 => sumN f n + f n
theorem sumN_congr {f h : Nat → Nat} : ∀ n : Nat, (∀ i, i < n → f i = h i) → sumN f n = sumN h n
  | 0, _ => rfl
  | n + 1, e => by unfold sumN; rw [sumN_congr n (fun i hi => e i (by omega)), e n (by omega)]
theorem sumN_up {f h : Nat → Nat} {t : Nat} (h0 : f t = 0) (ho : ∀ i, i ≠ t → h i = f i) : ∀ n : Nat, t < n → sumN h n = sumN f n + h t
  | 0, q => absurd q (Nat.not_lt_zero _)
  | n + 1, q => by
    unfold sumN
    rcases Nat.lt_or_ge t n with z | z
    · rw [sumN_up h0 ho n z, ho n (by omega)]; omega
    · have : t = n := by omega
      subst this
      rw [sumN_congr t (fun i hi => ho i (by omega)), h0]; omega
/-- chords among what was looked at -/
def cs1 (G : Gr) (bm it sn : Nat → Bool) (b : Bool) (k : Nat) : Nat := if sn k = true then chS G bm it b k else 0
theorem chF_sum {G : Gr} {bm it : Nat → Bool} {b : Bool} : ∀ (m k s : Nat), chF G bm it b m k s + sumN (chS G bm it b) k = s + sumN (chS G bm it b) (k + m)
  | 0, k, s => rfl
  | m + 1, k, s => by
    unfold chF
    have := chF_sum (G := G) (bm := bm) (it := it) (b := b) m (k + 1) (s + chS G bm it b k)
    rw [show sumN (chS G bm it b) (k + 1) = sumN (chS G bm it b) k + chS G bm it b k from rfl, show k + 1 + m = k + (m + 1) by omega] at this
    omega
section Tree2
variable {G : Gr} {bc bm : Nat → Bool} {vc : Nat → Int32}
/-- what holds of both trees when the first j links were looked at -/
def gI (G : Gr) (bm : Nat → Bool) (vc : Nat → Int32) (o : Nat → Nat) (j : Nat) (x : Gt) (t : Ts) : Prop :=
  (∀ i, i < G.1 → x.1 i = t.2.2.1 i) ∧ seenJ G bm o j x.2.2 ∧
  (t.1 = sumN (cs1 G bm x.2.1 x.2.2 false) (2 * G.2.1) ∧ t.2.1 = sumN (cs1 G bm x.2.1 x.2.2 true) (2 * G.2.1)) ∧
  (∀ k, mIs G bm k = true → x.2.1 k = true → x.2.2 k = true) ∧
  (∀ k, mIs G bm k = true → x.2.1 k = true → t.2.2.2 (mTo G bm k) = t.2.2.2 (mFr G k) + vc (c2 bm k) ∧ t.2.2.1 (mTo G bm k) = t.2.2.1 (mFr G k)) ∧
  (t.2.2.2 0 = t.2.2.2 (G.1 - 1) ∧ t.2.2.1 0 = t.2.2.1 (G.1 - 1)) ∧
  (∀ k, mIs G bm k = true → x.2.2 k = true → t.2.2.1 (mFr G k) = t.2.2.1 (mTo G bm k)) ∧
  ∀ K : Nat → Prop, (K 0 ↔ K (G.1 - 1)) → (∀ k, mIs G bm k = true → x.2.1 k = true → (K (mFr G k) ↔ K (mTo G bm k))) → ∀ a b, a < G.1 → b < G.1 → t.2.2.1 a = t.2.2.1 b → (K a ↔ K b)
theorem gI_step (hg : gok G) (hb : bE G bc bm) {y : Or} (hs : srt G bc 72 y) {j : Nat} (hj : j < y.2) {x : Gt} {t : Ts} (h : gI G bm vc y.1 j x t) : gI G bm vc y.1 (j + 1) (gtS G bm (m2 (y.1 j)) x) (csd G vc (y.1 j) t) := by
  have he := hg.2.2.1
  have g1 := hg.1
  obtain ⟨i1, i2, ⟨i3, i4⟩, i5, i6, i7, i8, i9⟩ := h
  obtain ⟨q1, q2⟩ := m2_v hb (hs.1 j hj).1 (hs.1 j hj).2
  have hc := c2_v he hb q1
  rw [q2] at hc
  obtain ⟨-, -, c3, c4, c5⟩ := hc
  have hw : wgt G (y.1 j) = G.2.2.2.2 (m2 (y.1 j) / 2) := by unfold wgt; rw [c5]
  have hns : x.2.2 (m2 (y.1 j)) = false := by
    cases hh : x.2.2 (m2 (y.1 j)) with
    | false => rfl
    | true =>
      obtain ⟨i, z1, z2⟩ := (i2 _ q1).mp hh
      rw [q2] at z2
      have := hs.2.2 i j z1 hj
      rw [z2] at this
      exact (bef_irr this).elim
  have hnt : x.2.1 (m2 (y.1 j)) = false := by
    cases hh : x.2.1 (m2 (y.1 j)) with
    | false => rfl
    | true => rw [i5 _ q1 hh] at hns; cases hns
  have hk2 := mIs_lt he q1
  have hf := mFr_lt hg q1
  have hto := mTo_lt hg q1
  have hsu := seen_up he hb hs hj i2
  generalize hk0 : m2 (y.1 j) = k0 at *
  generalize hl0 : y.1 j = l0 at *
  have hsum : ∀ (b : Bool) (it : Nat → Bool), (∀ i, i ≠ k0 → it i = x.2.1 i) → sumN (cs1 G bm it (va_up x.2.2 k0 true) b) (2 * G.2.1) = sumN (cs1 G bm x.2.1 x.2.2 b) (2 * G.2.1) + chS G bm it b k0 := fun b it hit => by
    have := sumN_up (f := cs1 G bm x.2.1 x.2.2 b) (h := cs1 G bm it (va_up x.2.2 k0 true) b) (t := k0) (by unfold cs1; rw [hns, if_neg (by decide)]) (fun i hi => by
      unfold cs1 chS
      rw [va_other hi, hit i hi]) (2 * G.2.1) hk2
    rw [this]
    congr 1
    unfold cs1
    rw [va_same, if_pos rfl]
  unfold gtS csd
  rw [c3, c4, i1 _ (by omega), i1 _ hto]
  by_cases e : t.2.2.1 (mFr G k0) = t.2.2.1 (mTo G bm k0)
  · rw [if_pos e, if_pos e]
    refine ⟨i1, hsu, ⟨?_, ?_⟩, fun k hk z => ?_, i6, i7, fun k hk z => ?_, i9⟩
    · show t.1 + 1 = _
      rw [hsum false x.2.1 (fun _ _ => rfl), i3]
      congr 1
      unfold chS
      rw [if_pos ⟨q1, hnt⟩, if_neg (by decide)]
    · show t.2.1 + wgt G l0 = _
      rw [hsum true x.2.1 (fun _ _ => rfl), i4, hw]
      congr 1
      unfold chS
      rw [if_pos ⟨q1, hnt⟩, if_pos rfl]
    · show va_up x.2.2 k0 true k = true
      by_cases w : k = k0
      · rw [w, va_same]
      · rw [va_other w]; exact i5 k hk z
    · have z : va_up x.2.2 k0 true k = true := z
      by_cases w : k = k0
      · rw [w]; exact e
      · rw [va_other w] at z; exact i8 k hk z
  · rw [if_neg e, if_neg e]
    unfold jon
    rw [c3, c4]
    -- the parts and the potentials after the joining
    have hpa : ∀ i, i < G.1 → jpa G.1 t.2.2.1 (t.2.2.1 (mTo G bm k0)) (t.2.2.1 (mFr G k0)) i = if t.2.2.1 i = t.2.2.1 (mTo G bm k0) then t.2.2.1 (mFr G k0) else t.2.2.1 i := fun i hi => by
      unfold jpa
      by_cases w : t.2.2.1 i = t.2.2.1 (mTo G bm k0)
      · rw [if_pos ⟨hi, w⟩, if_pos w]
      · rw [if_neg (fun z => w z.2), if_neg w]
    have hpo : ∀ i, i < G.1 → jpo G.1 t.2.2.1 t.2.2.2 (t.2.2.1 (mTo G bm k0)) (t.2.2.2 (mFr G k0) + vc l0 - t.2.2.2 (mTo G bm k0)) i = if t.2.2.1 i = t.2.2.1 (mTo G bm k0) then t.2.2.2 i + (t.2.2.2 (mFr G k0) + vc l0 - t.2.2.2 (mTo G bm k0)) else t.2.2.2 i := fun i hi => by
      unfold jpo
      by_cases w : t.2.2.1 i = t.2.2.1 (mTo G bm k0)
      · rw [if_pos ⟨hi, w⟩, if_pos w]
      · rw [if_neg (fun z => w z.2), if_neg w]
    have hsame : ∀ a b, a < G.1 → b < G.1 → t.2.2.1 a = t.2.2.1 b → jpa G.1 t.2.2.1 (t.2.2.1 (mTo G bm k0)) (t.2.2.1 (mFr G k0)) a = jpa G.1 t.2.2.1 (t.2.2.1 (mTo G bm k0)) (t.2.2.1 (mFr G k0)) b := fun a b ha hb' q => by
      rw [hpa a ha, hpa b hb', q]
    refine ⟨fun i hi => ?_, hsu, ⟨?_, ?_⟩, fun k hk z => ?_, fun k hk z => ?_, ⟨?_, hsame 0 (G.1 - 1) (by omega) (by omega) i7.2⟩, fun k hk z => ?_, fun K hK0 hK a b ha hb' q => ?_⟩
    · show mjn G.1 x.1 _ _ i = jpa G.1 t.2.2.1 _ _ i
      rw [hpa i hi]
      unfold mjn
      rw [i1 i hi]
      by_cases w : t.2.2.1 i = t.2.2.1 (mTo G bm k0)
      · rw [if_pos ⟨hi, w⟩, if_pos w]
      · rw [if_neg (fun z => w z.2), if_neg w]
    · show t.1 = _
      rw [hsum false (va_up x.2.1 k0 true) (fun i hi => va_other hi), i3]
      unfold chS
      rw [if_neg (fun z => by have := z.2; rw [va_same] at this; cases this)]
      rfl
    · show t.2.1 = _
      rw [hsum true (va_up x.2.1 k0 true) (fun i hi => va_other hi), i4]
      unfold chS
      rw [if_neg (fun z => by have := z.2; rw [va_same] at this; cases this)]
      rfl
    · have z : va_up x.2.1 k0 true k = true := z
      show va_up x.2.2 k0 true k = true
      by_cases w : k = k0
      · rw [w, va_same]
      · rw [va_other w] at z ⊢; exact i5 k hk z
    · have z : va_up x.2.1 k0 true k = true := z
      show jpo _ _ _ _ _ _ = jpo _ _ _ _ _ _ + _ ∧ jpa _ _ _ _ _ = jpa _ _ _ _ _
      have hkf := mFr_lt hg hk
      have hkt := mTo_lt hg hk
      by_cases w : k = k0
      · subst w
        rw [hpo _ hto, hpo _ (by omega), hpa _ hto, hpa _ (by omega), if_pos rfl, if_neg e, if_pos rfl, if_neg e, q2]
        refine ⟨?_, rfl⟩
        generalize t.2.2.2 (mTo G bm k) = u1
        generalize t.2.2.2 (mFr G k) + vc l0 = u2
        rw [Int32.add_comm, Int32.sub_add_cancel]
      · rw [va_other w] at z
        obtain ⟨y1, y2⟩ := i6 k hk z
        refine ⟨?_, hsame _ _ hkt (by omega) y2⟩
        rw [hpo _ hkt, hpo _ (by omega), y2]
        by_cases v : t.2.2.1 (mFr G k) = t.2.2.1 (mTo G bm k0)
        · rw [if_pos v, if_pos v, y1]
          rw [Int32.add_assoc, Int32.add_comm (vc (c2 bm k)), ← Int32.add_assoc]
        · rw [if_neg v, if_neg v, y1]
    · show jpo _ _ _ _ _ 0 = jpo _ _ _ _ _ (G.1 - 1)
      rw [hpo 0 (by omega), hpo (G.1 - 1) (by omega), i7.1, i7.2]
    · have z : va_up x.2.2 k0 true k = true := z
      show jpa _ _ _ _ (mFr G k) = jpa _ _ _ _ (mTo G bm k)
      have hkf := mFr_lt hg hk
      have hkt := mTo_lt hg hk
      by_cases w : k = k0
      · subst w
        rw [hpa _ (by omega), hpa _ hto, if_pos rfl, if_neg e]
      · rw [va_other w] at z
        exact hsame _ _ (by omega) hkt (i8 k hk z)
    · have hK : ∀ k, mIs G bm k = true → va_up x.2.1 k0 true k = true → (K (mFr G k) ↔ K (mTo G bm k)) := hK
      have hold := i9 K hK0 (fun k hk z => hK k hk (by
        by_cases w : k = k0
        · rw [w, va_same]
        · rw [va_other w]; exact z))
      have hnew := hK k0 q1 (va_same _ _ _)
      have q : jpa G.1 t.2.2.1 (t.2.2.1 (mTo G bm k0)) (t.2.2.1 (mFr G k0)) a = jpa G.1 t.2.2.1 (t.2.2.1 (mTo G bm k0)) (t.2.2.1 (mFr G k0)) b := q
      rw [hpa a ha, hpa b hb'] at q
      have toF : ∀ c, c < G.1 → t.2.2.1 c = t.2.2.1 (mTo G bm k0) → (K c ↔ K (mFr G k0)) := fun c hc' z => (hold c _ hc' hto z).trans hnew.symm
      by_cases w1 : t.2.2.1 a = t.2.2.1 (mTo G bm k0)
      · rw [if_pos w1] at q
        by_cases w2 : t.2.2.1 b = t.2.2.1 (mTo G bm k0)
        · exact hold a b ha hb' (by rw [w1, w2])
        · rw [if_neg w2] at q
          exact (toF a ha w1).trans (hold _ b (by omega) hb' q)
      · rw [if_neg w1] at q
        by_cases w2 : t.2.2.1 b = t.2.2.1 (mTo G bm k0)
        · rw [if_pos w2] at q
          exact (hold a _ ha (by omega) q).trans (toF b hb' w2).symm
        · rw [if_neg w2] at q
          exact hold a b ha hb' q
end Tree2

