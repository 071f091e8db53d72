/-! PHASE 2: what the class and the reference have in common -/
abbrev Row : Type := Nat → Int32
theorem vpN {k n : Nat} (h : k < n) (hn : n < 2 ^ 31) : vp_in (nI k) n := nI_in h hn
theorem vpL {i : Int32} {n : Nat} (h : decide (¬ (i < 0 ∨ n ≤ i.toNatClampNeg)) = true) : vp_in i n := by
  unfold vp_in
  exact of_decide_eq_true h
theorem c0 : (0 : Int32).toNatClampNeg = 0 := rfl
theorem c1 : (1 : Int32).toNatClampNeg = 1 := rfl
theorem c2 : (2 : Int32).toNatClampNeg = 2 := rfl
theorem c3 : (3 : Int32).toNatClampNeg = 3 := rfl
theorem c4 : (4 : Int32).toNatClampNeg = 4 := rfl
theorem c5 : (5 : Int32).toNatClampNeg = 5 := rfl
theorem c6 : (6 : Int32).toNatClampNeg = 6 := rfl
theorem c7 : (7 : Int32).toNatClampNeg = 7 := rfl
theorem c8 : (8 : Int32).toNatClampNeg = 8 := rfl
theorem c9 : (9 : Int32).toNatClampNeg = 9 := rfl
theorem c10 : (10 : Int32).toNatClampNeg = 10 := rfl
theorem inc (k : Nat) : nI k + 1 = nI (k + 1) := nI_add k 1
/-- a traveller of the reference -/
def WFT (r : Row) : Prop :=
  (∃ a, a ≤ 20 ∧ r 0 = nI a) ∧ (∃ a, a ≤ 20 ∧ r 1 = nI a) ∧ (r 2 = -1 ∨ r 2 = 10 ∨ ∃ a, a < 10 ∧ r 2 = nI a) ∧ (r 3 = 0 ∨ r 3 = 1) ∧ (r 4 = 0 ∨ r 4 = 1) ∧ (r 5 = 0 ∨ r 5 = 1) ∧
  (r 3 = 0 → r 5 = 0 ∧ r 7 = 0 ∧ (r 2 = -1 ∨ r 2 = 10)) ∧ (r 3 = 1 → (r 2 = -1 → r 4 = 1) ∧ (r 2 = 10 → r 4 = 0) ∧ (r 4 = 0 → r 7 = 0))
/-- the way of a traveller of the class -/
def wayF (r : Row) : Int32 := if r 3 = 1 then r 4 else if r 2 = -1 then 1 else 0
/-- a traveller of the class, from the reference's -/
def ctF (r : Row) : Row := fun f => if f = 4 then wayF r else r f
def trv (R : Row) (t : Nat) : Row := fun f => R (20 + 8 * t + f)
def WFR (R : Row) (n : Nat) : Prop :=
  n ≤ 8 ∧ R 3 = nI n ∧ (∃ a, 4 ≤ a ∧ a ≤ 38 ∧ R 1 = nI a) ∧ (∃ a, a ≤ 9 ∧ R 2 = nI a) ∧ (∀ s, s < 10 → ∃ a, 1 ≤ a ∧ a ≤ 30 ∧ R (10 + s) = nI a) ∧ (∀ t, t < n → WFT (trv R t))
/-- ford j of the class is the row R, with n travellers -/
def RepC (S : Mem) (j : Nat) (R : Row) (n : Nat) : Prop :=
  WFR R n ∧ S 0 j 2 = R 3 ∧ S 0 j 3 = R 0 ∧ S 0 j 4 = R 1 ∧ S 0 j 5 = R 2 ∧ S 0 j 6 = R 4 ∧ S 0 j 7 = R 5 ∧ S 0 j 8 = R 6 ∧ S 0 j 9 = R 7 ∧ S 0 j 10 = R 8 ∧ S 0 j 11 = R 9 ∧
  (∀ s, s < 10 → S 1 j s = R (10 + s)) ∧ (∀ t, t < n → ∀ f, f < 8 → S 2 (8 * j + t) f = ctF (trv R t) f)
def RepX (S : Mem) (j : Nat) (R : Row) : Prop := ∃ n, RepC S j R n
def ringJ (nx u i : Nat) : Nat := 1 + (nx + 8 - u + i) % 8
theorem RepX.congr {S S' : Mem} {j : Nat} {R : Row} (h0 : S' 0 j = S 0 j) (h1 : S' 1 j = S 1 j) (h2 : ∀ t, t < 8 → S' 2 (8 * j + t) = S 2 (8 * j + t)) (h : RepX S j R) : RepX S' j R := by
  obtain ⟨n, a, b⟩ := h
  refine ⟨n, a, ?_⟩
  rw [h0, h1]
  obtain ⟨b1, b2, b3, b4, b5, b6, b7, b8, b9, b10, b11, b12⟩ := b
  exact ⟨b1, b2, b3, b4, b5, b6, b7, b8, b9, b10, b11, fun t ht f hf => by rw [h2 t (Nat.lt_of_lt_of_le ht a.1)]; exact b12 t ht f hf⟩
theorem s_checkRange {post : Mem → Prop} {px : String → Mem → Prop} {S : Mem} {v a b : Int32} (h1 : ¬ v < a → ¬ b < v → post S) (h0 : (v < a ∨ b < v) → px "java/lang/IllegalArgumentException" S) : mX5_checkRange post px S v a b := by
  unfold mX5_checkRange
  exact ⟨fun h => h0 (Or.inl h), fun h => ⟨fun h' => h1 h (Int32.not_lt.mpr h'), fun h' => h0 (Or.inr (Int32.not_le.mp h'))⟩⟩
theorem nI_lt_of {v : Int32} {n : Nat} (hn : n < 2 ^ 31) (h0 : ¬ v < 0) (h : v < nI n) : ∃ k, k < n ∧ v = nI k := by
  obtain ⟨j, hj, rfl⟩ := nI_of h0
  exact ⟨j, (nI_ltI hj hn).mp h, rfl⟩
theorem nI_pred_lt {v : Int32} {n : Nat} (hn : n < 2 ^ 31) (h0 : ¬ v < 0) : (nI n - 1 < v) ↔ ¬ v < nI n := by
  obtain ⟨j, hj, rfl⟩ := nI_of h0
  rw [nI_ltI hj hn]
  cases n with
  | zero =>
    have h1 : nI 0 - 1 < nI j := by
      rw [Int32.lt_iff_toInt_lt, nI_toInt hj]
      have : (nI 0 - 1).toInt = -1 := by decide
      omega
    exact ⟨fun _ => by omega, fun _ => h1⟩
  | succ m =>
    rw [nI_pred, nI_ltI (by omega) hj]
    omega
theorem ne10 {P : Prop} (h : (1 : Int32) = 0) : P := absurd h (by decide)
theorem ne20 {P : Prop} (h : (2 : Int32) = 0) : P := absurd h (by decide)
theorem ne30 {P : Prop} (h : (3 : Int32) = 0) : P := absurd h (by decide)

