/-! pass -/
def hoursR (n : Nat) : Nat → Row → Row
  | 0, R => R
  | m + 1, R => hoursR n m (hourR R n)
theorem X5_b28_s {post : Int32 → Mem → Prop} {px : String → Mem → Prop} {S0 : Mem} {n H : Nat} {d : Int32} (hH : H ≤ 24) : ∀ (m k : Nat) (S : Mem) (R : Row), k + m = H → RepC S 0 R n → SameBut 0 S0 S → (∀ S' : Mem, SameBut 0 S0 S' → RepC S' 0 (hoursR n m R) n → post (hoursR n m R 8 - d) S') → mX5_pass_b28 post px (m + 1) S (nI H) d (nI k) := by
  intro m
  induction m with
  | zero =>
    intro k S R hk hR hS h
    unfold mX5_pass_b28
    rw [hR.sc.2.2.2.2.2.2.2.2.1]
    exact ⟨fun _ => h S hS hR, fun g => absurd (nI_le (by omega) (by omega)) g⟩
  | succ m ih =>
    intro k S R hk hR hS h
    unfold mX5_pass_b28
    refine ⟨fun g => absurd g (nI_ge (by omega) (by omega)), fun _ => X0_hour_s hR (fun S1 n1 r1 x ex => ?_)⟩
    rw [ex, inc]
    exact ih (k + 1) S1 _ (by omega) r1 (hS.trans n1) h
