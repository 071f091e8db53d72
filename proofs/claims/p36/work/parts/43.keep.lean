/-! the history of both sides -/
theorem RepX.row {S : Mem} {j : Nat} {R R' : Row} (h : ∀ k, k < 84 → R' k = R k) (hR : RepX S j R) : RepX S j R' := by
  obtain ⟨n, ⟨w1, w2, w3, w4, w5, w6⟩, b2, b3, b4, b5, b6, b7, b8, b9, b10, b11, b12, b13⟩ := hR
  have hT : ∀ t, t < n → ∀ f, f < 8 → trv R' t f = trv R t f := fun t ht f hf => h _ (by omega)
  have hW : ∀ t, t < n → WFT (trv R' t) := by
    intro t ht
    have h2 := w6 t ht
    unfold WFT at h2 ⊢
    rw [hT t ht 0 (by decide), hT t ht 1 (by decide), hT t ht 2 (by decide), hT t ht 3 (by decide), hT t ht 4 (by decide), hT t ht 5 (by decide), hT t ht 7 (by decide)]
    exact h2
  refine ⟨n, ⟨w1, by rw [h 3 (by decide)]; exact w2, by rw [h 1 (by decide)]; exact w3, by rw [h 2 (by decide)]; exact w4, fun s hs => by rw [h _ (by omega)]; exact w5 s hs, hW⟩, ?_⟩
  refine ⟨by rw [h 3 (by decide)]; exact b2, by rw [h 0 (by decide)]; exact b3, by rw [h 1 (by decide)]; exact b4, by rw [h 2 (by decide)]; exact b5, by rw [h 4 (by decide)]; exact b6, by rw [h 5 (by decide)]; exact b7, by rw [h 6 (by decide)]; exact b8, by rw [h 7 (by decide)]; exact b9, by rw [h 8 (by decide)]; exact b10, by rw [h 9 (by decide)]; exact b11, fun s hs => by rw [h _ (by omega)]; exact b12 s hs, fun t ht f hf => ?_⟩
  rw [b13 t ht f hf]
  unfold ctF
  split
  · unfold wayF
    rw [hT t ht 3 (by decide), hT t ht 4 (by decide), hT t ht 2 (by decide)]
  · exact (hT t ht f hf).symm
