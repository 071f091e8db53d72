/-! means and shares are no NaN -/
theorem fl_n64 {x : UInt64} : vf_n64 x ↔ FP.Core.dIsNaN x = false := by
  have e : vf_n64 x ↔ x.toNat % 9223372036854775808 ≤ 9218868437227405312 := by
    unfold vf_n64
    rw [UInt64.le_iff_toNat_le, UInt64.toNat_and]
    have h1 : (0x7fffffffffffffff : UInt64).toNat = 2 ^ 63 - 1 := by decide
    have h2 : (0x7ff0000000000000 : UInt64).toNat = 9218868437227405312 := by decide
    rw [h1, h2, Nat.and_two_pow_sub_one_eq_mod]
  rw [e, ← Bool.not_eq_true, FP.Core.isNaN_bits]
  omega
theorem fl_n32 {x : UInt32} : vf_n32 x ↔ FP.Core.fIsNaN x = false := by
  have e : vf_n32 x ↔ x.toNat % 2147483648 ≤ 2139095040 := by
    unfold vf_n32
    rw [UInt32.le_iff_toNat_le, UInt32.toNat_and]
    have h1 : (0x7fffffff : UInt32).toNat = 2 ^ 31 - 1 := by decide
    have h2 : (0x7f800000 : UInt32).toNat = 2139095040 := by decide
    rw [h1, h2, Nat.and_two_pow_sub_one_eq_mod]
  rw [e, ← Bool.not_eq_true, FP.Core.isNaN_bits32]
  omega
theorem fl_mean {a b : Int32} (h : ¬ b = 0) : vf_n64 (FP.ddiv (FP.i2d a) (FP.i2d b)) :=
  fl_n64.mpr (FP.Core.ddiv_out (FP.Core.DFin.notNaN (FP.Core.i2d_fin a)) (FP.Core.i2d_fin b) (fun z => FP.Core.i2d_ne_zero h ((FP.Core.zero_bits2 _).mp z)))
theorem fl_share {a b : Int32} (h : ¬ b = 0) : vf_n32 (FP.fdiv (FP.i2f a) (FP.i2f b)) :=
  fl_n32.mpr (FP.Core.fdiv_out (FP.Core.FFin.notNaN (FP.Core.i2f_fin a)) (FP.Core.i2f_fin b) (fun z => FP.Core.i2f_ne_zero h ((FP.Core.zero_bits232 _).mp z)))
theorem fl_wide {x : UInt32} (h : vf_n32 x) : vf_n64 (FP.f2d x) := fl_n64.mpr ((FP.f2d_nan x).trans (fl_n32.mp h))
theorem fl_self {x : UInt64} (h : vf_n64 x) : Op.cmpValue (FP.dcmp x x) .l = 0 := by
  have e : FP.dcmp x x = some .eq := FP.Core.dcmp_self ((FP.Core.notNaN_iff x).mp (fl_n64.mp h))
  rw [e]
  rfl

