/-! travellers: traveller, setOut, stop, go, leave -/
theorem WFT.congr {r r' : Row} (h : ∀ f, f < 8 → r' f = r f) (w : WFT r) : WFT r' := by
  unfold WFT at w ⊢
  rw [h 0 (by decide), h 1 (by decide), h 2 (by decide), h 3 (by decide), h 4 (by decide), h 5 (by decide), h 7 (by decide)]
  exact w
theorem ctF.congr {r r' : Row} (h : ∀ f, f < 8 → r' f = r f) {f : Nat} (hf : f < 8) : ctF r' f = ctF r f := by
  unfold ctF wayF
  rw [h 3 (by decide), h 4 (by decide), h 2 (by decide), h f hf]
theorem RepC.setT {S S' : Mem} {R R' : Row} {n t : Nat} (h : RepC S 0 R n) (ht : t < n) (hS : ∀ c, c ≠ 2 → S' c = S c) (hS2 : ∀ i, i ≠ t → S' 2 i = S 2 i) (hR : ∀ k, ¬ (20 + 8 * t ≤ k ∧ k < 28 + 8 * t) → R' k = R k) (hw : WFT (trv R' t)) (hc : ∀ f, f < 8 → S' 2 t f = ctF (trv R' t) f) : RepC S' 0 R' n := by
  obtain ⟨⟨w1, w2, w3, w4, w5, w6⟩, b1, b2, b3, b4, b5, b6, b7, b8, b9, b10, b11, b12⟩ := h
  have hT : ∀ i, i ≠ t → ∀ f, f < 8 → trv R' i f = trv R i f := fun i hi f hf => hR _ (by omega)
  refine ⟨⟨w1, by rw [hR 3 (by omega)]; exact w2, by rw [hR 1 (by omega)]; exact w3, by rw [hR 2 (by omega)]; exact w4, fun s hs => by rw [hR _ (by omega)]; exact w5 s hs, fun i hi => ?_⟩, ?_⟩
  · by_cases hit : i = t
    · subst hit; exact hw
    · exact (w6 i hi).congr (hT i hit)
  · rw [hS 0 (by decide), hS 1 (by decide)]
    refine ⟨by rw [hR 3 (by omega)]; exact b1, by rw [hR 0 (by omega)]; exact b2, by rw [hR 1 (by omega)]; exact b3, by rw [hR 2 (by omega)]; exact b4, by rw [hR 4 (by omega)]; exact b5, by rw [hR 5 (by omega)]; exact b6, by rw [hR 6 (by omega)]; exact b7, by rw [hR 7 (by omega)]; exact b8, by rw [hR 8 (by omega)]; exact b9, by rw [hR 9 (by omega)]; exact b10, fun s hs => by rw [hR _ (by omega)]; exact b11 s hs, fun i hi f hf => ?_⟩
    by_cases hit : i = t
    · subst hit
      rw [Nat.mul_zero, Nat.zero_add]
      exact hc f hf
    · have := b12 i hi f hf
      rw [Nat.mul_zero, Nat.zero_add] at this ⊢
      rw [hS2 i hit, this]
      exact (ctF.congr (hT i hit) hf).symm
theorem wr2_now {S : Mem} {i k : Nat} {v : Int32} (hi : i < 8) : SameBut 0 S (wr S 2 i k v) := ⟨fun c _ _ c2 => wr_c c2, fun j hj => ⟨by rw [wr_c (by decide)], by rw [wr_c (by decide)]⟩, fun j t hj ht => wr_i (by omega)⟩
theorem RepC.trv0 {S : Mem} {n t : Nat} {R : Row} (h : RepC S 0 R n) (ht : t < n) : ∀ f, f < 8 → S 2 t f = ctF (trv R t) f := fun f hf => by
  have := h.trav ht f hf
  rw [Nat.mul_zero, Nat.zero_add] at this
  exact this
theorem not_in {t n : Nat} (ht : t < n) (hn : n ≤ 8) : ¬ (nI t < 0 ∨ ¬ nI t < nI n) := by
  rintro (g | g)
  · exact nI_pos (by omega) g
  · exact g (nI_lt ht (by omega))
theorem X3_arrive_s {post : Mem → Prop} {S : Mem} {i : Nat} {v : Int32} (h : ∀ S' : Mem, (∀ c j, ¬ (c = 2 ∧ j = i) → S' c j = S c j) → (S' 2 i 0 = v ∧ S' 2 i 1 = 0 ∧ S' 2 i 2 = -1 ∧ S' 2 i 3 = 0 ∧ S' 2 i 4 = 1 ∧ S' 2 i 5 = 0 ∧ S' 2 i 6 = 0 ∧ S' 2 i 7 = 0) → post S') : mX3_arrive post S i v := by
  unfold mX3_arrive
  intro S1 e1 S2 e2 S3 e3 S4 e4 S5 e5 S6 e6 S7 e7 S8 e8
  refine h S8 (fun c j hcj => ?_) ?_
  · subst e8 e7 e6 e5 e4 e3 e2 e1
    by_cases hc : c = 2
    · subst hc
      have hj : j ≠ i := fun e => hcj ⟨rfl, e⟩
      simp only [wr_i hj]
    · simp only [wr_c hc]
  · subst e8 e7 e6 e5 e4 e3 e2 e1
    simp [wr_k, wr_same]
