/-! letters, height, fee, travellerOf, stoneOf, account .. -/
theorem RepC.scal {S : Mem} {j n c k : Nat} {R : Row} {v : Int32} (hk : (c = 3 ∧ k = 0) ∨ (c = 6 ∧ k = 4) ∨ (c = 7 ∧ k = 5) ∨ (c = 8 ∧ k = 6) ∨ (c = 9 ∧ k = 7) ∨ (c = 10 ∧ k = 8) ∨ (c = 11 ∧ k = 9)) (h : RepC S j R n) : RepC (wr S 0 j c v) j (upd R k v) n := by
  obtain ⟨⟨w1, w2, w3, w4, w5, w6⟩, b1, b2, b3, b4, b5, b6, b7, b8, b9, b10, b11, b12⟩ := h
  have hk' : k < 10 ∧ k ≠ 1 ∧ k ≠ 2 ∧ k ≠ 3 := by omega
  have hT : ∀ t, trv (upd R k v) t = trv R t := fun t => by funext q; exact upd_ne (by omega)
  refine ⟨⟨w1, by rw [upd_ne (by omega)]; exact w2, by rw [upd_ne (by omega)]; exact w3, by rw [upd_ne (by omega)]; exact w4, fun s hs => by rw [upd_ne (by omega)]; exact w5 s hs, fun t ht => by rw [hT]; exact w6 t ht⟩, ?_⟩
  refine ⟨by rw [wr_k (by omega), upd_ne (by omega)]; exact b1, ?_, by rw [wr_k (by omega), upd_ne (by omega)]; exact b3, by rw [wr_k (by omega), upd_ne (by omega)]; exact b4, ?_, ?_, ?_, ?_, ?_, ?_, fun s hs => by rw [wr_c (by decide), upd_ne (by omega)]; exact b11 s hs, fun t ht f hf => by rw [wr_c (by decide), hT]; exact b12 t ht f hf⟩
  all_goals
    rcases hk with ⟨rfl, rfl⟩ | ⟨rfl, rfl⟩ | ⟨rfl, rfl⟩ | ⟨rfl, rfl⟩ | ⟨rfl, rfl⟩ | ⟨rfl, rfl⟩ | ⟨rfl, rfl⟩ <;> first | rw [wr_same, upd_same] | (rw [wr_k (by decide), upd_ne (by decide)]; assumption)
theorem s_checkStone {post : Mem → Prop} {px : String → Mem → Prop} {S : Mem} {v : Int32} (h1 : ∀ s, s < 10 → v = nI s → post S) (h0 : (v < 0 ∨ ¬ v < 10) → px "java/lang/IndexOutOfBoundsException" S) : mX5_checkStone post px S v := by
  unfold mX5_checkStone
  refine ⟨fun g => h0 (Or.inl g), fun g => ⟨fun g2 => ?_, fun g2 => h0 (Or.inr g2)⟩⟩
  obtain ⟨k, hk, e⟩ := nI_lt_of (n := 10) (by decide) g g2
  exact h1 k hk e
theorem lowF_neg {pl : Nat → Int32} {v : Int32} : ∀ (m t : Nat), t + m ≤ 8 → (lowF pl v m t = -1 ∨ ∃ i, t ≤ i ∧ i < t + m ∧ lowF pl v m t = nI i) := by
  intro m
  induction m with
  | zero => intro t _; exact Or.inl rfl
  | succ m ih =>
    intro t ht
    unfold lowF
    split
    · exact Or.inr ⟨t, Nat.le_refl _, by omega, rfl⟩
    · rcases ih (t + 1) (by omega) with h | ⟨i, h1, h2, h3⟩
      · exact Or.inl h
      · exact Or.inr ⟨i, by omega, by omega, h3⟩
theorem lowF_sign {pl : Nat → Int32} {v : Int32} {n : Nat} (hn : n ≤ 8) : (lowF pl v n 0 = -1 ∧ lowF pl v n 0 < 0) ∨ (¬ lowF pl v n 0 = -1 ∧ ¬ lowF pl v n 0 < 0) := by
  rcases lowF_neg (pl := pl) (v := v) n 0 (by omega) with h | ⟨i, h1, h2, h3⟩
  · rw [h]; exact Or.inl (by decide)
  · rw [h3]
    refine Or.inr ⟨fun g => absurd (nI_pos' (n := i) (by omega)) (by rw [g]; decide), nI_pos (by omega)⟩
