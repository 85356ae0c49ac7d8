/-! ===== the share is a number ===== -/
theorem sh_test (a b : UInt64) : Jvm.FP.Core.val64 (Jvm.FP.Core.ddiv a b) = Jvm.FP.Core.quotient Jvm.FP.Core.b64 (Jvm.FP.Core.val64 a) (Jvm.FP.Core.val64 b) := Jvm.FP.Core.val64_ddiv a b
theorem sh_eq : FP.ddiv = Jvm.FP.Core.ddiv := rfl
theorem sh_eq2 : FP.i2d = Jvm.FP.Core.i2d := rfl
theorem n64_of {r : UInt64} (h : Jvm.FP.Core.val64 r ≠ .nan) : vf_n64 r := by
  unfold vf_n64
  rw [UInt64.le_iff_toNat_le, UInt64.toNat_and]
  have e : (0x7fffffffffffffff : UInt64).toNat = 2 ^ 63 - 1 := by decide
  rw [e, Nat.and_two_pow_sub_one_eq_mod]
  have e2 : (0x7ff0000000000000 : UInt64).toNat = 2047 * 2 ^ 52 := by decide
  rw [e2]
  have hE : Jvm.FP.Core.b64.tails = 2 ^ 52 := by decide
  have hX : Jvm.FP.Core.b64.exps = 2048 := by decide
  unfold Jvm.FP.Core.val64 Jvm.FP.Core.decode Jvm.FP.Core.fieldE Jvm.FP.Core.fieldT at h
  rw [hE, hX] at h
  by_cases q : r.toNat / 2 ^ 52 % 2048 = 2048 - 1
  · rw [if_pos q] at h
    by_cases w : r.toNat % 2 ^ 52 = 0
    · omega
    · rw [if_neg w] at h; exact absurd rfl h
  · omega

