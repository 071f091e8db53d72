/-! the cases without loops: answer, errorPosition, refusal, written, type -/
theorem k_answer {S : Mem} {f : Nat → Int64} {g : Nat → UInt64} {x1 x2 : Int32} (h : Inv S) : lawC21 (fun S1 _ _ => Inv S1) S f g x1 x2 := by
  obtain ⟨k, hk, a1, a2, a3⟩ := h.2.2.2.2.1
  have ref : ∀ (kk : Int32) (f3 : Nat → Int64), ((¬ x1 < 0 ∧ x1 < nI k) → kk = 0 ∧ f3 0 = (S 8 0 x1.toNatClampNeg).toInt64) → (¬ (¬ x1 < 0 ∧ x1 < nI k) → kk = 1) → mX6_answer (fun (r4 : Int32) (S5 : Mem) => mX6_thrown (fun (r6 : Int32) (S7 : Mem) => r6 = kk ∧ (kk = 0 → f3 0 = r4.toInt64) ∧ Inv S7) S5) S x1 := by
    intro kk f3 h1 h2
    unfold mX6_answer
    intro S1 e
    subst e
    rw [thr_k (by decide), a2]
    refine s_in (fun g1 g2 => ⟨fun h => absurd h (by decide), fun _ => ?_⟩) (fun g1 => ⟨fun _ => s_raises ?_, fun h => absurd rfl h⟩)
    · rw [nI_pred_lt (by omega) g1, Classical.not_not] at g2
      obtain ⟨j, hj, rfl⟩ := nI_lt_of (by omega) g1 g2
      refine ⟨vpN (by omega) (by decide), ?_⟩
      obtain ⟨e1, e2⟩ := h1 ⟨g1, g2⟩
      rw [nI_clamp (by omega)] at e2 ⊢
      rw [thr_c (by decide)]
      exact fin h e1.symm (fun _ => by rw [e2, a3 j hj])
    · have e1 := h2 (fun h' => g1.elim h'.1 (fun h'' => (nI_pred_lt (by omega) h'.1).mp h'' h'.2))
      rw [e1]
      exact fin (h.thr 0) rfl ne10
  unfold lawC21 mL_answer mX5_answer
  rw [a1]
  refine ⟨fun h0 => ⟨rfl, ref 1 _ (fun h' => absurd h0 h'.1) (fun _ => rfl)⟩, fun h0 => ⟨fun h1 => ?_, fun h1 => ⟨rfl, ref 1 _ (fun h' => absurd h'.2 h1) (fun _ => rfl)⟩⟩⟩
  obtain ⟨j, hj, rfl⟩ := nI_lt_of (by omega) h0 h1
  exact ⟨vpN (by omega) (by decide), ref 0 _ (fun _ => ⟨rfl, by simp [vp_updL]⟩) (fun h' => absurd ⟨h0, h1⟩ h')⟩
theorem k_errorPosition {S : Mem} {f : Nat → Int64} {g : Nat → UInt64} {x1 x2 : Int32} (h : Inv S) : lawC22 (fun S1 _ _ => Inv S1) S f g x1 x2 := by
  obtain ⟨a1, a2⟩ := h.2.2.2.2.2.1
  have a3 : S 10 0 18 = -1 ↔ ¬ 0 ≤ S 10 0 18 := by
    rcases a2 with e | ⟨k, hk, e⟩
    · rw [e]; decide
    · rw [e]
      exact ⟨fun h' => by rw [h']; decide, fun h' => absurd (nI_pos' (by omega)) h'⟩
  unfold lawC22 mL_errorPosition mX5_errorPosition mX6_errorPosition mX6_thrown
  rw [a1]
  refine ⟨fun h0 => fun S1 e => ?_, fun h0 => ⟨rfl, fun S1 e => ?_⟩⟩
  · subst e
    rw [thr_k (by decide)]
    refine ⟨fun h1 => ⟨thr_get, fun _ => by simp [vp_updL], h.thr 0⟩, fun h1 => absurd (a3.mpr h1) h0⟩
  · subst e
    rw [thr_k (by decide)]
    refine ⟨fun h1 => absurd h1 (a3.mp h0), fun h1 => s_raises ⟨thr_get, fun h => absurd h (by decide), (h.thr 0).thr 1⟩⟩
theorem k_refusal1 {S : Mem} {f : Nat → Int64} {v : Int32} (h : Inv S) : mL_refusal (fun (k1 : Int32) (S2 : Mem) (f3 : Nat → Int64) => mX6_refusal (fun (r4 : Int32) (S5 : Mem) => mX6_thrown (fun (r6 : Int32) (S7 : Mem) => r6 = k1 ∧ (k1 = 0 → f3 0 = r4.toInt64) ∧ Inv S7) S5) S2 v) S f v := by
  obtain ⟨a1, a2⟩ := h.2.2.2.2.2.2.1
  unfold mL_refusal mX5_refusal mX6_refusal mX6_thrown
  rw [a1, a2]
  refine ⟨fun h0 => ⟨fun h1 => fun S1 e => ?_, fun h1 => fun S1 e => ?_⟩, fun h0 => ⟨rfl, fun S1 e => ?_⟩⟩
  · subst e
    rw [thr_k (by decide), thr_k (by decide)]
    exact ⟨fun _ => ⟨fun _ => ⟨thr_get, fun _ => by simp [vp_updL], h.thr 0⟩, fun h2 => absurd h1 h2⟩, fun h2 => absurd h2 h0⟩
  · subst e
    rw [thr_k (by decide), thr_k (by decide)]
    exact ⟨fun _ => ⟨fun h2 => absurd h2 h1, fun _ => ⟨thr_get, fun _ => by simp [vp_updL], h.thr 0⟩⟩, fun h2 => absurd h2 h0⟩
  · subst e
    rw [thr_k (by decide), thr_k (by decide)]
    exact ⟨fun h2 => absurd h0 h2, fun _ => s_raises ⟨thr_get, fun h => absurd h (by decide), (h.thr 0).thr 1⟩⟩
theorem k_refusal {S : Mem} {f : Nat → Int64} {g : Nat → UInt64} {x1 x2 : Int32} (h : Inv S) : lawC23 (fun S1 _ _ => Inv S1) S f g x1 x2 := by
  unfold lawC23
  exact ⟨fun _ => k_refusal1 h, fun _ => k_refusal1 h⟩
theorem k_written {S : Mem} {f : Nat → Int64} {g : Nat → UInt64} {x1 x2 : Int32} (h : Inv S) : lawC25 (fun S1 _ _ => Inv S1) S f g x1 x2 := by
  obtain ⟨k, hk, a1, a2, a3⟩ := h.2.2.2.2.2.2.2
  have ref : ∀ (kk : Int32) (f3 : Nat → Int64), ((¬ x1 < 0 ∧ x1 < nI k) → kk = 0 ∧ f3 0 = (S 9 0 x1.toNatClampNeg).toInt64) → (¬ (¬ x1 < 0 ∧ x1 < nI k) → kk = 1) → mX6_written (fun (r4 : Int32) (S5 : Mem) => mX6_thrown (fun (r6 : Int32) (S7 : Mem) => r6 = kk ∧ (kk = 0 → f3 0 = r4.toInt64) ∧ Inv S7) S5) S x1 := by
    intro kk f3 h1 h2
    unfold mX6_written
    intro S1 e
    subst e
    rw [thr_k (by decide), a2]
    refine s_in (fun g1 g2 => ⟨fun h => absurd h (by decide), fun _ => ?_⟩) (fun g1 => ⟨fun _ => s_raises ?_, fun h => absurd rfl h⟩)
    · rw [nI_pred_lt (by omega) g1, Classical.not_not] at g2
      obtain ⟨j, hj, rfl⟩ := nI_lt_of (by omega) g1 g2
      obtain ⟨e1, e2⟩ := h1 ⟨g1, g2⟩
      rw [nI_clamp (by omega)] at e2 ⊢
      rw [thr_c (by decide)]
      exact ⟨vpN (by omega) (by decide), (a3 j hj).2, fin h e1.symm (fun _ => by rw [e2, (a3 j hj).1])⟩
    · have e1 := h2 (fun h' => g1.elim h'.1 (fun h'' => (nI_pred_lt (by omega) h'.1).mp h'' h'.2))
      rw [e1]
      exact ⟨by unfold isC; decide, fin (h.thr 0) rfl ne10⟩
  unfold lawC25 mL_written mX5_written
  rw [a1]
  refine ⟨fun h0 => ⟨rfl, ref 1 _ (fun h' => absurd h0 h'.1) (fun _ => rfl)⟩, fun h0 => ⟨fun h1 => ?_, fun h1 => ⟨rfl, ref 1 _ (fun h' => absurd h'.2 h1) (fun _ => rfl)⟩⟩⟩
  obtain ⟨j, hj, rfl⟩ := nI_lt_of (by omega) h0 h1
  have e5 := nI_clamp (n := j) (by omega)
  exact ⟨vpN (by omega) (by decide), by rw [e5, (a3 j hj).1]; exact (a3 j hj).2, ref 0 _ (fun _ => ⟨rfl, by simp [vp_updL]⟩) (fun h' => absurd ⟨h0, h1⟩ h')⟩
