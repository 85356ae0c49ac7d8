section
/-! ===== the share is a number ===== -/
theorem n64_of {r : UInt64} (h : Jvm.FP.Core.val64 r ≠ .nan) : vf_n64 r := by
  unfold vf_n64
  rw [UInt64.le_iff_toNat_le, UInt64.toNat_and]
  have e : (0x7fffffffffffffff : UInt64).toNat = 2 ^ 63 - 1 := by decide
  rw [e, Nat.and_two_pow_sub_one_eq_mod]
  have e2 : (0x7ff0000000000000 : UInt64).toNat = 2047 * 2 ^ 52 := by decide
  rw [e2]
  have hE : Jvm.FP.Core.b64.tails = 2 ^ 52 := by decide
  have hX : Jvm.FP.Core.b64.exps = 2048 := by decide
  unfold Jvm.FP.Core.val64 Jvm.FP.Core.decode Jvm.FP.Core.fieldE Jvm.FP.Core.fieldT at h
  rw [hE, hX] at h
  by_cases q : r.toNat / 2 ^ 52 % 2048 = 2048 - 1
  · rw [if_pos q] at h
    by_cases w : r.toNat % 2 ^ 52 = 0
    · omega
    · rw [if_neg w] at h; exact absurd rfl h
  · omega
theorem rr_nan {s : Bool} {c d : Nat} {e : Int} : Jvm.FP.Core.roundRatio Jvm.FP.Core.b64 s c d e ≠ .nan := by
  unfold Jvm.FP.Core.roundRatio
  split
  · intro h; cases h
  · unfold Jvm.FP.Core.roundAt Jvm.FP.Core.settle Jvm.FP.Core.bound
    split
    · split
      · intro h; cases h
      · intro h; cases h
    · split
      · intro h; cases h
      · intro h; cases h
theorem sh_n64 (a b : Int32) (hb : b.toInt ≠ 0) : vf_n64 (FP.ddiv (FP.i2d a) (FP.i2d b)) := by
  refine n64_of ?_
  show Jvm.FP.Core.val64 (Jvm.FP.Core.ddiv (Jvm.FP.Core.i2d a) (Jvm.FP.Core.i2d b)) ≠ .nan
  rw [Jvm.FP.Core.val64_ddiv]
  have h1 := Jvm.FP.Core.i2d_int a
  have h2 := Jvm.FP.Core.i2d_int b
  unfold Jvm.FP.Core.DInt at h1 h2
  generalize Jvm.FP.Core.val64 (Jvm.FP.Core.i2d a) = x at *
  generalize Jvm.FP.Core.val64 (Jvm.FP.Core.i2d b) = y at *
  cases x with
  | nan => exact h1.elim
  | inf s => exact h1.elim
  | fin s c q =>
    cases y with
    | nan => exact h2.elim
    | inf t => exact h2.elim
    | fin t d r =>
      have hd : d ≠ 0 := by
        intro e
        subst e
        have h2 : Jvm.FP.Core.signed t (0 * 2 ^ r.toNat) = b.toInt * ((2 ^ (-r).toNat : Nat) : Int) := h2
        have h3 : Jvm.FP.Core.signed t (0 * 2 ^ r.toNat) = 0 := by
          rw [Nat.zero_mul]
          unfold Jvm.FP.Core.signed
          cases t <;> rfl
        rw [h3] at h2
        rcases Int.mul_eq_zero.mp h2.symm with z | z
        · exact hb z
        · have : 0 < 2 ^ (-r).toNat := Nat.pow_pos (by decide)
          omega
      show (if d = 0 then (if c = 0 then Jvm.FP.Core.Datum.nan else .inf (s != t)) else Jvm.FP.Core.roundRatio Jvm.FP.Core.b64 (s != t) c d (q - r)) ≠ .nan
      rw [if_neg hd]
      exact rr_nan
end

