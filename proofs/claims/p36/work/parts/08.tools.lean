theorem ce_X {ky : Nat → ClassId} {ad : Nat → Nat} (r : Nat → Int32) : celr ky ad 110 r = .inr (4, fsX ad r) := rfl
theorem ce_I {ky : Nat → ClassId} {ad : Nat → Nat} (r : Nat → Int32) : celr ky ad 111 r = .inr (1, fsI ad r) := rfl
theorem ce_Q {ky : Nat → ClassId} {ad : Nat → Nat} (r : Nat → Int32) : celr ky ad 113 r = .inr (2, fsQ ad r) := rfl
/-- a switch's default: every number between the ends is excluded -/
theorem sw_out (x : Int32) (lo hi : Int) (h1 : -2147483648 ≤ lo) (h2 : hi < 2147483648) (h : ∀ z : Int, lo ≤ z → z ≤ hi → x ≠ Int32.ofInt z) : x.toInt < lo ∨ hi < x.toInt := by
  by_cases a : x.toInt < lo
  · exact Or.inl a
  · by_cases b : hi < x.toInt
    · exact Or.inr b
    · exact absurd (Int32.ofInt_toInt x).symm (h x.toInt (by omega) (by omega))
