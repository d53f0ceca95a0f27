/-! quotients of whole numbers are no NaNs (the library's float laws: this part wants the whole of it, so it stands first) -/
theorem flt_32 {x : UInt32} (h : FP.Core.fIsNaN x = false) : vf_n32 x := by
  unfold vf_n32
  rw [UInt32.le_iff_toNat_le, UInt32.toNat_and]
  have h1 : (0x7fffffff : UInt32).toNat = 2 ^ 31 - 1 := by decide
  have h2 : (0x7f800000 : UInt32).toNat = 2139095040 := by decide
  rw [h1, h2, Nat.and_two_pow_sub_one_eq_mod]
  have h3 := FP.Core.isNaN_bits32 x
  rw [h] at h3
  have h4 : ¬ (2139095040 < x.toNat % 2 ^ 31) := fun q => by cases h3.mpr q
  omega
theorem flt_64 {x : UInt64} (h : FP.Core.dIsNaN x = false) : vf_n64 x := by
  unfold vf_n64
  rw [UInt64.le_iff_toNat_le, UInt64.toNat_and]
  have h1 : (0x7fffffffffffffff : UInt64).toNat = 2 ^ 63 - 1 := by decide
  have h2 : (0x7ff0000000000000 : UInt64).toNat = 9218868437227405312 := by decide
  rw [h1, h2, Nat.and_two_pow_sub_one_eq_mod]
  have h3 := FP.Core.isNaN_bits x
  rw [h] at h3
  have h4 : ¬ (9218868437227405312 < x.toNat % 2 ^ 63) := fun q => by cases h3.mpr q
  omega
theorem fdivN {x y : Int32} (h : y ≠ 0) : FP.Core.fIsNaN (FP.fdiv (FP.i2f x) (FP.i2f y)) = false := FP.Core.fdiv_out (FP.Core.i2f_fin x).notNaN (FP.Core.i2f_fin y) (fun hz => FP.Core.i2f_ne_zero h ((FP.Core.zero_bits232 _).mp hz))
theorem ddivN {x y : Int32} (h : y ≠ 0) : FP.Core.dIsNaN (FP.ddiv (FP.i2d x) (FP.i2d y)) = false := FP.Core.ddiv_out (FP.Core.i2d_fin x).notNaN (FP.Core.i2d_fin y) (fun hz => FP.Core.i2d_ne_zero h ((FP.Core.zero_bits2 _).mp hz))
theorem fdivI {x y : Int32} (h : y ≠ 0) : vf_n32 (FP.fdiv (FP.i2f x) (FP.i2f y)) := flt_32 (fdivN h)
theorem ddivI {x y : Int32} (h : y ≠ 0) : vf_n64 (FP.ddiv (FP.i2d x) (FP.i2d y)) := flt_64 (ddivN h)
theorem f2dN {x : UInt32} (h : FP.Core.fIsNaN x = false) : FP.Core.dIsNaN (FP.f2d x) = false := by
  rw [FP.f2d_core h]
  exact FP.Core.f2d_out h
theorem f2dI {x : UInt32} (h : FP.Core.fIsNaN x = false) : vf_n64 (FP.f2d x) := flt_64 (f2dN h)
theorem dcmpI {x : UInt64} (h : FP.Core.dIsNaN x = false) : FP.dcmp x x = some .eq := FP.Core.dcmp_self ((FP.Core.notNaN_iff x).mp h)
theorem i2fN (x : Int32) : FP.Core.fIsNaN (FP.i2f x) = false := (FP.Core.i2f_fin x).notNaN
theorem i2dN (x : Int32) : FP.Core.dIsNaN (FP.i2d x) = false := (FP.Core.i2d_fin x).notNaN
