theorem refuse_s {post : Mem → Prop} {px : String → Mem → Prop} {S : Mem} {a b : Int32} (h : px "java/lang/UnsupportedOperationException" (wr (wr S 3 0 8 a) 3 0 9 b)) : mX5_refuse post px S a b := by
  unfold mX5_refuse
  intro S1 e1 S2 e2
  subst e2 e1
  exact h
/-- the present ford behind the class's keep -/
theorem Rep_now {S S1 : Mem} {R : Row} {n : Nat} (h0 : S1 0 0 = S 0 0) (h1 : S1 1 0 = S 1 0) (h2 : ∀ t, t < 8 → S1 2 t = S 2 t) (h : RepC S 0 R n) : RepC S1 0 R n := by
  obtain ⟨a, b1, b2, b3, b4, b5, b6, b7, b8, b9, b10, b11, b12⟩ := h
  refine ⟨a, ?_⟩
  rw [h0, h1]
  exact ⟨b1, b2, b3, b4, b5, b6, b7, b8, b9, b10, b11, fun t ht f hf => by rw [Nat.mul_zero, Nat.zero_add, h2 t (Nat.lt_of_lt_of_le ht a.1)]; have := b12 t ht f hf; rw [Nat.mul_zero, Nat.zero_add] at this; exact this⟩
theorem wr0_now {S : Mem} {k : Nat} {v : Int32} : SameBut 0 S (wr S 0 0 k v) := ⟨fun c c0 _ _ => wr_c c0, fun j hj => ⟨wr_i hj, by rw [wr_c (by decide)]⟩, fun j t hj ht => by rw [wr_c (by decide)]⟩
theorem wr1_now {S : Mem} {k : Nat} {v : Int32} : SameBut 0 S (wr S 1 0 k v) := ⟨fun c _ c1 _ => wr_c c1, fun j hj => ⟨by rw [wr_c (by decide)], wr_i hj⟩, fun j t hj ht => by rw [wr_c (by decide)]⟩
theorem SameBut.trans {j : Nat} {S S1 S2 : Mem} (h : SameBut j S S1) (h2 : SameBut j S1 S2) : SameBut j S S2 := ⟨fun c c0 c1 c2 => (h2.1 c c0 c1 c2).trans (h.1 c c0 c1 c2), fun i hi => ⟨(h2.2.1 i hi).1.trans (h.2.1 i hi).1, (h2.2.1 i hi).2.trans (h.2.1 i hi).2⟩, fun i t hi ht => (h2.2.2 i t hi ht).trans (h.2.2 i t hi ht)⟩
theorem upd_same {R : Row} {k : Nat} {v : Int32} : upd R k v k = v := by simp [upd]
theorem upd_ne {R : Row} {k i : Nat} {v : Int32} (h : i ≠ k) : upd R k v i = R i := by simp [upd, h]
theorem range9 {v : Int32} {n : Nat} (hn : n < 2 ^ 31) (h0 : ¬ v < 0) (h1 : ¬ nI n < v) : ∃ a, a ≤ n ∧ v = nI a := by
  obtain ⟨j, hj, rfl⟩ := nI_of h0
  rw [nI_ltI hn hj] at h1
  exact ⟨j, by omega, rfl⟩
