/-! no NaN in a quotient of ints (this part stands first: its names want the library whole, so a round reads it so from the start) -/
theorem n64_of {x : UInt64} (h : FP.Core.dIsNaN x = false) : vf_n64 x := by
  unfold vf_n64
  rw [UInt64.le_iff_toNat_le, UInt64.toNat_and]
  have h1 : (0x7fffffffffffffff : UInt64).toNat = 2 ^ 63 - 1 := by decide
  have h2 : (0x7ff0000000000000 : UInt64).toNat = 9218868437227405312 := by decide
  rw [h1, h2, Nat.and_two_pow_sub_one_eq_mod]
  rw [← Bool.not_eq_true, FP.Core.isNaN_bits] at h
  omega
theorem n32_of {x : UInt32} (h : FP.Core.fIsNaN x = false) : vf_n32 x := by
  unfold vf_n32
  rw [UInt32.le_iff_toNat_le, UInt32.toNat_and]
  have h1 : (0x7fffffff : UInt32).toNat = 2 ^ 31 - 1 := by decide
  have h2 : (0x7f800000 : UInt32).toNat = 2139095040 := by decide
  rw [h1, h2, Nat.and_two_pow_sub_one_eq_mod]
  rw [← Bool.not_eq_true, FP.Core.isNaN_bits32] at h
  omega
theorem ddiv_no {a b : Int32} (hb : b ≠ 0) : FP.Core.dIsNaN (FP.ddiv (FP.i2d a) (FP.i2d b)) = false := by
  refine FP.Core.ddiv_out (a := FP.i2d a) (b := FP.i2d b) ?_ (FP.Core.i2d_fin b) (fun h => FP.Core.i2d_ne_zero hb ((FP.Core.zero_bits2 _).mp h))
  have h1 := (FP.Core.fin_bits _).mp (FP.Core.i2d_fin a)
  rw [← Bool.not_eq_true]
  intro h2
  have h3 := (FP.Core.isNaN_bits _).mp h2
  have h4 : (FP.i2d a).toNat % 2 ^ 63 < 9218868437227405312 := h1
  omega
theorem fdiv_no {a b : Int32} (hb : b ≠ 0) : FP.Core.fIsNaN (FP.fdiv (FP.i2f a) (FP.i2f b)) = false := by
  refine FP.Core.fdiv_out (a := FP.i2f a) (b := FP.i2f b) ?_ (FP.Core.i2f_fin b) (fun h => FP.Core.i2f_ne_zero hb ((FP.Core.zero_bits232 _).mp h))
  have h1 := (FP.Core.fin_bits32 _).mp (FP.Core.i2f_fin a)
  rw [← Bool.not_eq_true]
  intro h2
  have h3 := (FP.Core.isNaN_bits32 _).mp h2
  have h4 : (FP.i2f a).toNat % 2 ^ 31 < 2139095040 := h1
  omega
