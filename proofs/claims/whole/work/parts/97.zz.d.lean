/-! Quotients of whole numbers are numbers. -/
theorem n64_of {r : UInt64} (h : Jvm.FP.Core.dIsNaN r = false) : vf_n64 r := by
  unfold vf_n64
  rw [UInt64.le_iff_toNat_le, UInt64.toNat_and]
  have e : (0x7fffffffffffffff : UInt64).toNat = 2 ^ 63 - 1 := by decide
  have e2 : (0x7ff0000000000000 : UInt64).toNat = 9218868437227405312 := by decide
  rw [e, Nat.and_two_pow_sub_one_eq_mod, e2]
  have h2 := mt (Jvm.FP.Core.isNaN_bits r).2 (by rw [h]; decide)
  omega
theorem i32_ne {y : Int} (y0 : 0 < y) (y1 : y ≤ 2147483647) : Int32.ofInt y ≠ 0 := fun h => by
  have h2 := congrArg Int32.toInt h
  rw [Int32.toInt_ofInt_of_le (by omega) (by omega)] at h2
  have h3 : (0 : Int32).toInt = 0 := by decide
  omega
theorem n64_div {x : Int32} {y : Int} (y0 : 0 < y) (y1 : y ≤ 2147483647) : vf_n64 (Jvm.FP.ddiv (Jvm.FP.i2d x) (Jvm.FP.i2d (Int32.ofInt y))) := by
  have hx := Jvm.FP.Core.i2d_fin x
  have hy := Jvm.FP.Core.i2d_fin (Int32.ofInt y)
  have hz := Jvm.FP.Core.i2d_ne_zero (i32_ne y0 y1)
  refine n64_of (Jvm.FP.Core.ddiv_out ((Jvm.FP.Core.notNaN_iff _).2 hx.ne_nan) hy (fun h => ?_))
  exact hz ((Jvm.FP.Core.zero_bits2 _).1 h)
theorem n32_of {r : UInt32} (h : Jvm.FP.Core.fIsNaN r = false) : vf_n32 r := by
  unfold vf_n32
  rw [UInt32.le_iff_toNat_le, UInt32.toNat_and]
  have e : (0x7fffffff : UInt32).toNat = 2 ^ 31 - 1 := by decide
  have e2 : (0x7f800000 : UInt32).toNat = 2139095040 := by decide
  rw [e, Nat.and_two_pow_sub_one_eq_mod, e2]
  have h2 := mt (Jvm.FP.Core.isNaN_bits32 r).2 (by rw [h]; decide)
  omega
theorem n32_div {x : Int32} {y : Int} (y0 : 0 < y) (y1 : y ≤ 2147483647) : vf_n32 (Jvm.FP.fdiv (Jvm.FP.i2f x) (Jvm.FP.i2f (Int32.ofInt y))) := by
  have hx := Jvm.FP.Core.i2f_fin x
  have hy := Jvm.FP.Core.i2f_fin (Int32.ofInt y)
  have hz := Jvm.FP.Core.i2f_ne_zero (i32_ne y0 y1)
  refine n32_of (Jvm.FP.Core.fdiv_out ((Jvm.FP.Core.notNaN_iff32 _).2 hx.ne_nan) hy (fun h => ?_))
  exact hz ((Jvm.FP.Core.zero_bits232 _).1 h)
