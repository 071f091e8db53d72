/-! crossedIn of the reference -/
theorem tgN_ne {far : Bool} {q : Nat} (q1 : far = true → q ≤ 10) (q0 : far = false → 1 ≤ q) : q ≠ tgN far := by
  unfold tgN
  cases far
  · have := q0 rfl
    rw [if_neg (by decide)]
    omega
  · have := q1 rfl
    rw [if_pos rfl]
    omega
