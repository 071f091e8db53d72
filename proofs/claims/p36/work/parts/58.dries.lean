/-! the stoves of the reference -/
theorem wtF_congr {R R' : Row} {bank but : Int32} : ∀ (m t : Nat) (b mo : Int32), (∀ i, t ≤ i → i < t + m → ¬ nI i = but → trv R' i 1 = trv R i 1 ∧ trv R' i 2 = trv R i 2 ∧ trv R' i 3 = trv R i 3) → wtF R' bank but m t b mo = wtF R bank but m t b mo := by
  intro m
  induction m with
  | zero => intro t b mo _; rfl
  | succ m ih =>
    intro t b mo h
    unfold wtF
    by_cases g : nI t = but
    · rw [if_pos g, if_pos g]
      exact ih _ _ _ (fun i h1 h2 => h i (by omega) (by omega))
    · obtain ⟨e1, e2, e3⟩ := h t (Nat.le_refl _) (by omega) g
      rw [if_neg g, if_neg g, e1, e2, e3, ih _ _ _ (fun i h1 h2 => h i (by omega) (by omega)), ih _ _ _ (fun i h1 h2 => h i (by omega) (by omega))]
theorem nI_ge0 {k : Nat} (h : k < 2 ^ 31) : (0 : Int32) ≤ nI k := nI_pos' h
