-- PURE: the mean is a number
theorem mask_is (a : UInt64) : (a &&& 0x7fffffffffffffff).toNat = a.toNat % 2 ^ 63 := by
  rw [UInt64.toNat_and, show (0x7fffffffffffffff : UInt64).toNat = 2 ^ 63 - 1 from rfl, Nat.and_two_pow_sub_one_eq_mod]
theorem mean_num (x : Int32) {v : Int32} (h : v ≠ 0) : vf_n64 (FP.ddiv (FP.i2d x) (FP.i2d v)) := by
  have h1 : FP.Core.dIsNaN (FP.Core.ddiv (FP.Core.i2d x) (FP.Core.i2d v)) = false :=
    FP.Core.ddiv_out (FP.Core.DFin.notNaN (FP.Core.i2d_fin x)) (FP.Core.i2d_fin v) (fun z => FP.Core.i2d_ne_zero h ((FP.Core.zero_bits2 _).mp z))
  have h2 : ¬ 9218868437227405312 < (FP.Core.ddiv (FP.Core.i2d x) (FP.Core.i2d v)).toNat % 2 ^ 63 := fun z => by
    have := (FP.Core.isNaN_bits _).mpr z
    rw [h1] at this
    exact absurd this (by decide)
  unfold vf_n64
  show FP.Core.ddiv (FP.Core.i2d x) (FP.Core.i2d v) &&& 0x7fffffffffffffff ≤ 0x7ff0000000000000
  rw [UInt64.le_iff_toNat_le, mask_is]
  have h3 : (0x7ff0000000000000 : UInt64).toNat = 9218868437227405312 := rfl
  rw [h3]
  omega
