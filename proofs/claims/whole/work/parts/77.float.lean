/-! means and shares are no NaN -/
theorem fl_mean {a b : Int32} (h : ¬ b = 0) : vf_n64 (FP.ddiv (FP.i2d a) (FP.i2d b)) := sorry
theorem fl_share {a b : Int32} (h : ¬ b = 0) : vf_n32 (FP.fdiv (FP.i2f a) (FP.i2f b)) := sorry
theorem fl_wide {x : UInt32} (h : vf_n32 x) : vf_n64 (FP.f2d x) := sorry
theorem fl_self {x : UInt64} (h : vf_n64 x) : Op.cmpValue (FP.dcmp x x) .l = 0 := sorry
