/-! ===== the walk and the counts of the two ===== -/
theorem nI_neg {x : Int32} {p : Nat} (hx : x < 0) (hp : p < 2 ^ 31) : nI p ≠ x := fun e => by
  rw [← e, i32_lt, nI_toInt hp] at hx
  have h0 : (0 : Int32).toInt = 0 := by decide
  rw [h0] at hx
  omega
theorem ea_neg {src : Nat → Nat} {v : Nat} {x : Int32} (hx : x < 0) : ∀ (m k p : Nat), p + m < 2 ^ 31 → eaF src v x m k p = -1 := by
  intro m
  induction m with
  | zero => intro k p _; rfl
  | succ m ih =>
    intro k p hp
    unfold eaF
    by_cases e : src k = v
    · rw [if_pos e, if_neg (nI_neg hx (by omega))]; exact ih _ _ (by omega)
    · rw [if_neg e]; exact ih _ _ (by omega)
theorem ea_em {G : Gr} {v r : Nat} (hr : r < 2 ^ 31) : ∀ (m k p : Nat), p ≤ r → p + m < 2 ^ 31 → eaF G.2.2.1 v (nI r) m k p = oI (emF G v m k (r - p)) := by
  intro m
  induction m with
  | zero => intro k p _ _; rfl
  | succ m ih =>
    intro k p h1 h2
    unfold eaF emF
    by_cases e : G.2.2.1 k = v
    · rw [if_pos e, if_pos e]
      by_cases w : p = r
      · rw [w, if_pos rfl, if_pos (by omega)]; rfl
      · rw [if_neg (fun q => w ((nI_eq (by omega) hr).mp q)), if_neg (by omega), ih (k + 1) (p + 1) (by omega) (by omega), show r - (p + 1) = r - p - 1 by omega]
    · rw [if_neg e, if_neg e]; exact ih (k + 1) p h1 (by omega)
/-- how often the one counted most so far was -/
def xo (f : Nat → Nat) : Option Nat → Nat
  | none => 0
  | some i => f i
theorem mc_ht {f : Nat → Nat} : ∀ (m k : Nat) (o : Option Nat), mcF f m k (oI o) (xo f o) = oI (htF f m k o) := by
  intro m
  induction m with
  | zero => intro k o; rfl
  | succ m ih =>
    intro k o
    unfold mcF htF
    have hq : (decide (0 < f k) && htB f k o) = true ↔ ¬ f k ≤ xo f o := by
      cases o with
      | none =>
        show (decide (0 < f k) && true) = true ↔ ¬ f k ≤ 0
        rw [Bool.and_true, decide_eq_true_eq]; omega
      | some i =>
        show (decide (0 < f k) && decide (f i < f k)) = true ↔ ¬ f k ≤ f i
        rw [Bool.and_eq_true, decide_eq_true_eq, decide_eq_true_eq]; omega
    by_cases e : f k ≤ xo f o
    · rw [if_pos e, if_neg (fun z => hq.mp z e)]; exact ih (k + 1) o
    · rw [if_neg e, if_pos (hq.mpr e)]; exact ih (k + 1) (some k)
theorem mc_hot (f : Nat → Nat) : mcF f 200 0 (-1) 0 = oI (hot f) := mc_ht 200 0 none
theorem smF_sum {f : Nat → Nat} : ∀ (m k s : Nat), smF f m k s + sumN f k = s + sumN f (k + m)
  | 0, k, s => rfl
  | m + 1, k, s => by
    unfold smF
    have := smF_sum (f := f) m (k + 1) (s + f k)
    rw [show sumN f (k + 1) = sumN f k + f k from rfl, show k + 1 + m = k + (m + 1) by omega] at this
    omega
theorem sm_sum (f : Nat → Nat) : sm f = sumN f 200 := by
  have := smF_sum (f := f) 200 0 0
  rw [show sumN f 0 = 0 from rfl, Nat.zero_add, Nat.zero_add] at this
  unfold sm
  omega
theorem sumN_inc {f : Nat → Nat} {c : Nat} : ∀ n : Nat, c < n → sumN (va_up f c (f c + 1)) n = sumN f n + 1
  | 0, h => absurd h (Nat.not_lt_zero _)
  | n + 1, h => by
    unfold sumN
    rcases Nat.lt_or_ge c n with z | z
    · rw [sumN_inc n z, va_other (by omega)]; omega
    · have e : c = n := by omega
      subst e
      rw [va_same, sumN_congr (h := f) c (fun i hi => va_other (by omega))]; omega
theorem sm_inc {f : Nat → Nat} {c : Nat} (h : c < 200) : sm (va_up f c (f c + 1)) = sm f + 1 := by
  rw [sm_sum, sm_sum, sumN_inc 200 h]
theorem sm_zero : sm (fun _ => 0) = 0 := by rw [sm_sum, sumN_zero _ (fun _ _ => rfl)]
theorem sumN_le {f : Nat → Nat} {i : Nat} : ∀ n : Nat, i < n → f i ≤ sumN f n
  | 0, h => absurd h (Nat.not_lt_zero _)
  | n + 1, h => by
    unfold sumN
    rcases Nat.lt_or_ge i n with z | z
    · have := sumN_le (f := f) n z; omega
    · rw [show i = n by omega]; omega
theorem le_sm {f : Nat → Nat} {i : Nat} (h : i < 200) : f i ≤ sm f := by rw [sm_sum]; exact sumN_le 200 h
theorem ptk_inR {x : Int32} {n : Nat} (hn : n < 2 ^ 30) : ptk x (nI n) = inR x n := by
  unfold ptk inR
  congr 1
  apply propext
  rw [i32_lt (a := x) (b := nI n), i32_le, nI_toInt (show n < 2 ^ 31 by omega)]
  exact and_congr Iff.rfl (by omega)
theorem mPt_ptk {x : Int32} {n : Nat} (hn : n < 2 ^ 30) : mPt true x (nI n) = ptk x (nI n) := by
  rw [ptk_inR hn]
  unfold mPt
  rw [wi_inR hn, Bool.true_and]
section Walk2
variable {G : Gr} {bc : Nat → Bool} {vc pt inc : Nat → Int32} {cn cw : Nat} {Y : Ya}
/-- the frequencies are the same -/
theorem ef_fq (hg : gok G) (h : anQ G bc vc pt inc cn cw Y) {np : Nat} (hnp : pt 0 = nI np) (hnp2 : np < 2 ^ 30) {f : Nat → Nat} {k : Nat} (hk : k < G.2.1) : ∀ (m p s : Nat) (q : Pa) (q' : La), p + m ≤ np → (efF G (lsr G bc, ltg G bc, vc, pt) f (lko bc k true) m p s q).1 = (fqF G Y f (2 * k) m p s q').1 := by
  obtain ⟨hb, hP, hV, -, ⟨lf, ln, ht, hln⟩, np', nv, po, hL, -, -⟩ := h
  have g1 := hg.1
  have hn0 : np' 0 = np := by
    have := (hL.1 0 (by omega))
    rw [hnp] at this
    exact ((nI_eq (by omega) (by omega)).mp this.1).symm
  intro m
  induction m with
  | zero => intro p s q q' _; rfl
  | succ m ih =>
    intro p s q q' hp
    unfold efF fqF
    by_cases e : f p = 0
    · rw [if_pos e, if_pos e]; exact ih (p + 1) s q q' (by omega)
    · rw [if_neg e, if_neg e]
      obtain ⟨q'', h1, h2⟩ := fol_trc hg hb ht hln hL hP (fun k hk => (hV k hk).1) (show p < np' 0 by omega) q q'
      have h3 : folD G Y (nI p) q' = q'' := by unfold folD; rw [h1]; rfl
      rw [h3, pr_has hg.2.2.1 hb h2 hk]
      exact ih (p + 1) _ _ _ (by omega)
theorem anQ_np (hg : gok G) (h : anQ G bc vc pt inc cn cw Y) : ∃ np, np < 2 ^ 30 ∧ pt 0 = nI np ∧ Y.2.2.1 0 = nI np ∧ ∀ r, r < np → ∀ (q : Pa) (q' : La), ∃ q'', fol G Y.2.1 Y.2.2.1 Y.2.2.2.1 (nI r) q' = some q'' ∧ pRel G Y.2.1 (trc G (lsr G bc, ltg G bc, vc, pt) (nI r) q) q'' := by
  obtain ⟨hb, hP, hV, -, ⟨lf, ln, ht, hln⟩, np', nv, po, hL, -, -⟩ := h
  have g1 := hg.1
  obtain ⟨a1, a2⟩ := hL.1 0 (by omega)
  exact ⟨np' 0, a2, a1, by rw [hP 0 (by omega), a1], fun r hr q q' => fol_trc hg hb ht hln hL hP (fun k hk => (hV k hk).1) hr q q'⟩
/-- where the walk stands: register and the number of its way so far -/
def wkI (G : Gr) (np : Nat → Nat) (po : Nat → Int32) (cur : Nat) (reg : Int32) : Prop := ∃ s, reg = nI s + po 0 - po cur ∧ s + np cur ≤ np 0
theorem wk_0 {np : Nat → Nat} {po : Nat → Int32} : wkI G np po 0 (nI 0) := ⟨0, by rw [show nI 0 + po 0 - po 0 = nI 0 by grind], by omega⟩
theorem i32_4 (a z c v t : Int32) : a + z - c + (v + c - t) = a + v + z - t := by grind
theorem i32_5 (a z : Int32) : a + z - z = a := by grind
/-- a step along edge k -/
theorem wk_step (hg : gok G) {np nv : Nat → Nat} {po : Nat → Int32} (hL : lad G bc pt vc np nv) (h0 : po 0 = po (G.1 - 1)) (hi : ∀ l, l < 72 → lvd G bc l = true → inc l = icv G vc po l) {cur : Nat} {reg : Int32} (hw : wkI G np po cur reg) {k : Nat} (hk : k < G.2.1) (hc : G.2.2.1 k = cur) :
    (bc k = true → ∃ c, c < np 0 ∧ reg + inc (lko bc k true) = nI c ∧ wkI G np po (G.2.2.2.1 k) (inc (lko bc k false))) ∧
    (bc k = false → wkI G np po (G.2.2.2.1 k) (reg + inc (lko bc k true)) ∧ (G.2.2.2.1 k = G.1 - 1 → ∃ c, c < np 0 ∧ reg + inc (lko bc k true) = nI c)) := by
  obtain ⟨g1, g2, g3, g4, g5⟩ := id hg
  obtain ⟨s, w1, w2⟩ := hw
  have hcur : cur + 1 < G.1 := by rw [← hc]; exact (g4 k hk).1
  have hld := hL.2.2.2 cur hcur
  refine ⟨fun hb => ?_, fun hb => ?_⟩
  · have e1 : lko bc k true = 24 + k := by unfold lko; rw [if_pos hb, if_pos rfl]
    have e2 : lko bc k false = 48 + k := by unfold lko; rw [if_pos hb, if_neg (by decide)]
    have v1 : lvd G bc (24 + k) = true := by unfold lvd; rw [if_neg (by omega), if_pos (by omega), show 24 + k - 24 = k by omega, hb, decide_eq_true hk]; rfl
    have v2 : lvd G bc (48 + k) = true := by unfold lvd; rw [if_neg (by omega), if_neg (by omega), show 48 + k - 48 = k by omega, hb, decide_eq_true hk]; rfl
    have s1 : lsN G (24 + k) = cur := by unfold lsN; rw [if_neg (by omega), if_pos (by omega), show 24 + k - 24 = k by omega]; exact hc
    have t1 : ltN G (24 + k) = G.1 - 1 := by unfold ltN; rw [if_neg (by omega), if_pos (by omega)]
    have s2 : lsN G (48 + k) = 0 := by unfold lsN; rw [if_neg (by omega), if_neg (by omega)]
    have t2 : ltN G (48 + k) = G.2.2.2.1 k := by unfold ltN; rw [if_neg (by omega), if_neg (by omega), show 48 + k - 48 = k by omega]
    have l1 := hld.1 (24 + k) ⟨by omega, v1, s1⟩
    rw [t1, hL.2.2.1] at l1
    have l2 := (hL.2.2.2 0 (by omega)).1 (48 + k) ⟨by omega, v2, s2⟩
    rw [t2] at l2
    rw [e1, e2]
    refine ⟨s + nv (24 + k), by omega, ?_, nv (48 + k), ?_, l2⟩
    · rw [hi _ (by omega) v1, w1]
      unfold icv
      rw [s1, t1, hL.2.1 _ (by omega) v1, i32_4, nI_add, h0]
      exact i32_5 _ _
    · rw [hi _ (by omega) v2]
      unfold icv
      rw [s2, t2, hL.2.1 _ (by omega) v2]
  · have hbf : ¬ bc k = true := by rw [hb]; decide
    have e1 : lko bc k true = k := by unfold lko; rw [if_neg hbf]; omega
    have v1 : lvd G bc k = true := by unfold lvd; rw [if_pos (by omega), hb, decide_eq_true hk]; rfl
    have s1 : lsN G k = cur := by unfold lsN; rw [if_pos (by omega)]; exact hc
    have t1 : ltN G k = G.2.2.2.1 k := by unfold ltN; rw [if_pos (by omega)]
    have l1 := hld.1 k ⟨by omega, v1, s1⟩
    rw [t1] at l1
    rw [e1]
    have key : reg + inc k = nI (s + nv k) + po 0 - po (G.2.2.2.1 k) := by
      rw [hi _ (by omega) v1, w1]
      unfold icv
      rw [s1, t1, hL.2.1 _ (by omega) v1, i32_4, nI_add]
    refine ⟨⟨s + nv k, key, by omega⟩, fun hx => ⟨s + nv k, ?_, ?_⟩⟩
    · rw [hx, hL.2.2.1] at l1; omega
    · rw [key, hx, h0]; exact i32_5 _ _
end Walk2

