/-! leave -/
theorem takeAway_b2_s {post : Mem → Prop} {S : Mem} {k t : Nat} (hk : k < 8) (hB : ∀ i, i < k + 1 → isB (S 2 i 3) ∧ isB (S 2 i 4) ∧ isB (S 2 i 5)) (h : ∀ S' : Mem, (∀ c, c ≠ 0 → c ≠ 2 → S' c = S c) → (∀ j, j ≠ 0 → S' 0 j = S 0 j) → (∀ q, q ≠ 2 → S' 0 0 q = S 0 0 q) → S' 0 0 2 = nI k → (∀ i f, t ≤ i → i < k → f < 8 → S' 2 i f = S 2 (i + 1) f) → (∀ i, ¬ (t ≤ i ∧ i < k) → S' 2 i = S 2 i) → post S') :
    ∀ (m i : Nat) (T : Mem), i + m = k → t ≤ i → T 0 0 2 = nI (k + 1) → (∀ c, c ≠ 2 → T c = S c) → (∀ q f, t ≤ q → q < i → f < 8 → T 2 q f = S 2 (q + 1) f) → (∀ q, ¬ (t ≤ q ∧ q < i) → T 2 q = S 2 q) → mX0_takeAway_b2 post (m + 1) T 0 (nI i) := by
  intro m
  induction m with
  | zero =>
    intro i T hi ht h2 hc hs ho
    have hik : i = k := by omega
    subst hik
    unfold mX0_takeAway_b2
    rw [h2, nI_pred]
    refine ⟨fun _ S2 e2 => h S2 (fun c c0 c2 => ?_) (fun j hj => ?_) (fun q hq => ?_) ?_ (fun q f q1 q2 q3 => ?_) (fun q hq => ?_), fun g => absurd (nI_le (Nat.le_refl _) (by omega)) g⟩
    · rw [e2, wr_c c0, hc c c2]
    · rw [e2, wr_i hj, hc 0 (by decide)]
    · rw [e2, wr_k hq, hc 0 (by decide)]
    · rw [e2, wr_same]
    · rw [e2, wr_c (by decide)]; exact hs q f q1 q2 q3
    · rw [e2, wr_c (by decide)]; exact ho q hq
  | succ m ih =>
    intro i T hi ht h2 hc hs ho
    unfold mX0_takeAway_b2
    rw [h2, nI_pred, inc]
    refine ⟨fun g => absurd g (nI_ge (by omega) (by omega)), fun _ => ⟨vpN (by omega) (by decide), fun k4 e4 => ⟨vpN (by omega) (by decide), fun k6 e6 => ?_⟩⟩⟩
    rw [nI_clamp (by omega)] at e4 e6
    have e4 : k4 = i := by omega
    have e6 : k6 = i + 1 := by omega
    subst e4 e6
    have o1 : T 2 (k4 + 1) = S 2 (k4 + 1) := ho _ (by omega)
    have b := hB (k4 + 1) (by omega)
    refine X3_copyFrom_s (by omega) (by rw [o1]; exact b.1) (by rw [o1]; exact b.2.1) (by rw [o1]; exact b.2.2) (fun S' hS hf x9 e9 => ?_)
    subst e9
    refine ih (k4 + 1) S' (by omega) (by omega) (by rw [hS 0 0 (by omega)]; exact h2) (fun c hc' => ?_) (fun q f q1 q2 q3 => ?_) (fun q hq => ?_)
    · rw [← hc c hc']
      exact funext fun i => hS c i (fun z => hc' z.1)
    · by_cases hq : q = k4
      · subst hq
        rw [hf f q3, o1]
      · rw [hS 2 q (by omega)]
        exact hs q f q1 (by omega) q3
    · rw [hS 2 q (by omega)]
      exact ho q (by omega)
theorem RepC.less {S S' : Mem} {R R' : Row} {k t : Nat} (h : RepC S 0 R (k + 1)) (hS1 : S' 1 0 = S 1 0) (hS0 : ∀ q, q ≠ 2 → S' 0 0 q = S 0 0 q) (hS2 : S' 0 0 2 = nI k) (hs : ∀ i f, t ≤ i → i < k → f < 8 → S' 2 i f = S 2 (i + 1) f) (ho : ∀ i, i < t → S' 2 i = S 2 i) (r3 : R' 3 = nI k) (rs : ∀ p, 20 + 8 * t ≤ p → p < 20 + 8 * k → R' p = R (p + 8)) (ro : ∀ p, ¬ (20 + 8 * t ≤ p ∧ p < 20 + 8 * k) → p ≠ 3 → R' p = R p) : RepC S' 0 R' k := by
  obtain ⟨⟨w1, w2, w3, w4, w5, w6⟩, b1, b2, b3, b4, b5, b6, b7, b8, b9, b10, b11, b12⟩ := h
  have hlo : ∀ i, i < t → i < k → ∀ f, f < 8 → trv R' i f = trv R i f := fun i hi hk f hf => ro _ (by omega) (by omega)
  have hhi : ∀ i, t ≤ i → i < k → ∀ f, f < 8 → trv R' i f = trv R (i + 1) f := fun i hi hk f hf => by
    show R' (20 + 8 * i + f) = R (20 + 8 * (i + 1) + f)
    rw [rs _ (by omega) (by omega)]
    exact congrArg R (by omega)
  refine ⟨⟨by omega, r3, by rw [ro 1 (by omega) (by decide)]; exact w3, by rw [ro 2 (by omega) (by decide)]; exact w4, fun s hs => by rw [ro _ (by omega) (by omega)]; exact w5 s hs, fun i hi => ?_⟩, ?_⟩
  · by_cases hit : i < t
    · exact (w6 i (by omega)).congr (hlo i hit hi)
    · exact (w6 (i + 1) (by omega)).congr (hhi i (by omega) hi)
  · refine ⟨hS2.trans r3.symm, by rw [hS0 3 (by decide), ro 0 (by omega) (by decide)]; exact b2, by rw [hS0 4 (by decide), ro 1 (by omega) (by decide)]; exact b3, by rw [hS0 5 (by decide), ro 2 (by omega) (by decide)]; exact b4, by rw [hS0 6 (by decide), ro 4 (by omega) (by decide)]; exact b5, by rw [hS0 7 (by decide), ro 5 (by omega) (by decide)]; exact b6, by rw [hS0 8 (by decide), ro 6 (by omega) (by decide)]; exact b7, by rw [hS0 9 (by decide), ro 7 (by omega) (by decide)]; exact b8, by rw [hS0 10 (by decide), ro 8 (by omega) (by decide)]; exact b9, by rw [hS0 11 (by decide), ro 9 (by omega) (by decide)]; exact b10, fun s hs' => by rw [hS1, ro _ (by omega) (by omega)]; exact b11 s hs', fun i hi f hf => ?_⟩
    rw [Nat.mul_zero, Nat.zero_add]
    by_cases hit : i < t
    · have := b12 i (by omega) f hf
      rw [Nat.mul_zero, Nat.zero_add] at this
      rw [ho i hit, this]
      exact (ctF.congr (hlo i hit hi) hf).symm
    · have := b12 (i + 1) (by omega) f hf
      rw [Nat.mul_zero, Nat.zero_add] at this
      rw [hs i f (by omega) hi hf, this]
      exact (ctF.congr (hhi i (by omega) hi) hf).symm
