/-! PHASE 2: what the class and the reference have in common -/
abbrev Row : Type := Nat → Int32
theorem vpN {k n : Nat} (h : k < n) (hn : n < 2 ^ 31) : vp_in (nI k) n := nI_in h hn
theorem vpL {i : Int32} {n : Nat} (h : decide (¬ (i < 0 ∨ n ≤ i.toNatClampNeg)) = true) : vp_in i n := by
  unfold vp_in
  exact of_decide_eq_true h
theorem c0 : (0 : Int32).toNatClampNeg = 0 := rfl
theorem c1 : (1 : Int32).toNatClampNeg = 1 := rfl
theorem c2 : (2 : Int32).toNatClampNeg = 2 := rfl
theorem c3 : (3 : Int32).toNatClampNeg = 3 := rfl
theorem c4 : (4 : Int32).toNatClampNeg = 4 := rfl
theorem c5 : (5 : Int32).toNatClampNeg = 5 := rfl
theorem c6 : (6 : Int32).toNatClampNeg = 6 := rfl
theorem c7 : (7 : Int32).toNatClampNeg = 7 := rfl
theorem c8 : (8 : Int32).toNatClampNeg = 8 := rfl
theorem c9 : (9 : Int32).toNatClampNeg = 9 := rfl
theorem c10 : (10 : Int32).toNatClampNeg = 10 := rfl
theorem inc (k : Nat) : nI k + 1 = nI (k + 1) := nI_add k 1
/-- a traveller of the reference -/
def WFT (r : Row) : Prop :=
  (∃ a, a ≤ 20 ∧ r 0 = nI a) ∧ (∃ a, a ≤ 20 ∧ r 1 = nI a) ∧ (r 2 = -1 ∨ r 2 = 10 ∨ ∃ a, a < 10 ∧ r 2 = nI a) ∧ (r 3 = 0 ∨ r 3 = 1) ∧ (r 4 = 0 ∨ r 4 = 1) ∧ (r 5 = 0 ∨ r 5 = 1) ∧
  (r 3 = 0 → r 5 = 0 ∧ r 7 = 0 ∧ (r 2 = -1 ∨ r 2 = 10)) ∧ (r 3 = 1 → (r 2 = -1 → r 4 = 1) ∧ (r 2 = 10 → r 4 = 0) ∧ (r 4 = 0 → r 7 = 0))
/-- the way of a traveller of the class -/
def wayF (r : Row) : Int32 := if r 3 = 1 then r 4 else if r 2 = -1 then 1 else 0
/-- a traveller of the class, from the reference's -/
def ctF (r : Row) : Row := fun f => if f = 4 then wayF r else r f
def trv (R : Row) (t : Nat) : Row := fun f => R (20 + 8 * t + f)
def WFR (R : Row) (n : Nat) : Prop :=
  n ≤ 8 ∧ R 3 = nI n ∧ (∃ a, 4 ≤ a ∧ a ≤ 38 ∧ R 1 = nI a) ∧ (∃ a, a ≤ 9 ∧ R 2 = nI a) ∧ (∀ s, s < 10 → ∃ a, 1 ≤ a ∧ a ≤ 30 ∧ R (10 + s) = nI a) ∧ (∀ t, t < n → WFT (trv R t))
/-- ford j of the class is the row R, with n travellers -/
def RepC (S : Mem) (j : Nat) (R : Row) (n : Nat) : Prop :=
  WFR R n ∧ S 0 j 2 = R 3 ∧ S 0 j 3 = R 0 ∧ S 0 j 4 = R 1 ∧ S 0 j 5 = R 2 ∧ S 0 j 6 = R 4 ∧ S 0 j 7 = R 5 ∧ S 0 j 8 = R 6 ∧ S 0 j 9 = R 7 ∧ S 0 j 10 = R 8 ∧ S 0 j 11 = R 9 ∧
  (∀ s, s < 10 → S 1 j s = R (10 + s)) ∧ (∀ t, t < n → ∀ f, f < 8 → S 2 (8 * j + t) f = ctF (trv R t) f)
def RepX (S : Mem) (j : Nat) (R : Row) : Prop := ∃ n, RepC S j R n
/-- the row i of what is kept -/
def keptR (S : Mem) (i : Nat) : Row := fun k => S 14 0 (84 * i + k)
def ringJ (nx u i : Nat) : Nat := 1 + (nx + 8 - u + i) % 8
def Hist (S : Mem) : Prop := ∃ u nx : Nat, u ≤ 8 ∧ nx < 8 ∧ S 10 0 4 = nI u ∧ S 4 0 2 = nI u ∧ S 4 0 1 = nI nx ∧ ∀ i, i < u → RepX S (ringJ nx u i) (keptR S i)
def Snap (S : Mem) : Prop := S 3 0 3 = S 10 0 6 ∧ (S 10 0 6 = 0 ∨ (S 10 0 6 = 1 ∧ RepX S 9 (S 15 0)))
def Text (S : Mem) : Prop := ∃ k, k ≤ 60 ∧ S 6 0 1 = nI k ∧ S 10 0 10 = nI k ∧ ∀ i, i < k → S 7 0 i = S 17 0 i
def Answ (S : Mem) : Prop := ∃ k, k ≤ 8 ∧ S 3 0 7 = nI k ∧ S 10 0 17 = nI k ∧ ∀ i, i < k → S 8 0 i = S 20 0 i
def Fault (S : Mem) : Prop := S 3 0 5 = S 10 0 18 ∧ (S 10 0 18 = -1 ∨ ∃ k, k ≤ 60 ∧ S 10 0 18 = nI k)
def Refu (S : Mem) : Prop := S 3 0 8 = S 10 0 19 ∧ S 3 0 9 = S 10 0 20
def Line (S : Mem) : Prop := ∃ k, k ≤ 13 ∧ S 3 0 11 = nI k ∧ S 10 0 8 = nI k ∧ ∀ i, i < k → S 9 0 i = S 16 0 i ∧ isC (S 16 0 i)
def Inv (S : Mem) : Prop := RepX S 0 (S 11 0) ∧ Hist S ∧ Snap S ∧ Text S ∧ Answ S ∧ Fault S ∧ Refu S ∧ Line S
theorem RepX.congr {S S' : Mem} {j : Nat} {R : Row} (h0 : S' 0 j = S 0 j) (h1 : S' 1 j = S 1 j) (h2 : ∀ t, t < 8 → S' 2 (8 * j + t) = S 2 (8 * j + t)) (h : RepX S j R) : RepX S' j R := by
  obtain ⟨n, a, b⟩ := h
  refine ⟨n, a, ?_⟩
  rw [h0, h1]
  obtain ⟨b1, b2, b3, b4, b5, b6, b7, b8, b9, b10, b11, b12⟩ := b
  exact ⟨b1, b2, b3, b4, b5, b6, b7, b8, b9, b10, b11, fun t ht f hf => by rw [h2 t (Nat.lt_of_lt_of_le ht a.1)]; exact b12 t ht f hf⟩
/-- Inv looks at nothing but this -/
theorem Inv.congr {S S' : Mem} (hc : ∀ c, c ≠ 10 → c ≠ 12 → c ≠ 13 → c ≠ 18 → c ≠ 19 → S' c = S c) (hk : ∀ k, k = 4 ∨ k = 6 ∨ k = 8 ∨ k = 10 ∨ k = 17 ∨ k = 18 ∨ k = 19 ∨ k = 20 → S' 10 0 k = S 10 0 k) (h : Inv S) : Inv S' := by
  have e0 := hc 0 (by decide) (by decide) (by decide) (by decide) (by decide)
  have e1 := hc 1 (by decide) (by decide) (by decide) (by decide) (by decide)
  have e2 := hc 2 (by decide) (by decide) (by decide) (by decide) (by decide)
  have e3 := hc 3 (by decide) (by decide) (by decide) (by decide) (by decide)
  have e4 := hc 4 (by decide) (by decide) (by decide) (by decide) (by decide)
  have e6 := hc 6 (by decide) (by decide) (by decide) (by decide) (by decide)
  have e7 := hc 7 (by decide) (by decide) (by decide) (by decide) (by decide)
  have e8 := hc 8 (by decide) (by decide) (by decide) (by decide) (by decide)
  have e9 := hc 9 (by decide) (by decide) (by decide) (by decide) (by decide)
  have e11 := hc 11 (by decide) (by decide) (by decide) (by decide) (by decide)
  have e14 := hc 14 (by decide) (by decide) (by decide) (by decide) (by decide)
  have e15 := hc 15 (by decide) (by decide) (by decide) (by decide) (by decide)
  have e16 := hc 16 (by decide) (by decide) (by decide) (by decide) (by decide)
  have e17 := hc 17 (by decide) (by decide) (by decide) (by decide) (by decide)
  have e20 := hc 20 (by decide) (by decide) (by decide) (by decide) (by decide)
  have f4 := hk 4 (by decide)
  have f6 := hk 6 (by decide)
  have f8 := hk 8 (by decide)
  have f10 := hk 10 (by decide)
  have f17 := hk 17 (by decide)
  have f18 := hk 18 (by decide)
  have f19 := hk 19 (by decide)
  have f20 := hk 20 (by decide)
  have hR : ∀ j R, RepX S j R → RepX S' j R := fun j R h => RepX.congr (by rw [e0]) (by rw [e1]) (fun t _ => by rw [e2]) h
  obtain ⟨i1, i2, i3, i4, i5, i6, i7, i8⟩ := h
  refine ⟨by rw [e11]; exact hR _ _ i1, ?_, ?_, ?_, ?_, ?_, ?_, ?_⟩
  · obtain ⟨u, nx, a1, a2, a3, a4, a5, a6⟩ := i2
    refine ⟨u, nx, a1, a2, by rw [f4]; exact a3, by rw [e4]; exact a4, by rw [e4]; exact a5, fun i hi => ?_⟩
    have := hR _ _ (a6 i hi)
    unfold keptR at this ⊢
    rw [e14]
    exact this
  · refine ⟨by rw [e3, f6]; exact i3.1, ?_⟩
    rw [f6, e15]
    exact i3.2.imp id (fun h => ⟨h.1, hR _ _ h.2⟩)
  · unfold Text
    rw [e6, f10, e7, e17]
    exact i4
  · unfold Answ
    rw [e3, f17, e8, e20]
    exact i5
  · unfold Fault
    rw [e3, f18]
    exact i6
  · unfold Refu
    rw [e3, f19, f20]
    exact i7
  · unfold Line
    rw [e3, f8, e9, e16]
    exact i8
theorem Inv.thr {S : Mem} (h : Inv S) (v : Int32) : Inv (wr S 10 0 21 v) := by
  refine Inv.congr (fun c h1 _ _ _ _ => wr_c h1) (fun k hk => wr_k ?_) h
  rcases hk with h | h | h | h | h | h | h | h <;> rw [h] <;> decide
theorem thr_get {S : Mem} {v : Int32} : (wr S 10 0 21 v) 10 0 21 = v := wr_same
theorem thr_c {S : Mem} {v : Int32} {c : Nat} (h : c ≠ 10) : wr S 10 0 21 v c = S c := wr_c h
theorem thr_k {S : Mem} {v : Int32} {k : Nat} (h : k ≠ 21) : wr S 10 0 21 v 10 0 k = S 10 0 k := wr_k h
/-- reference: in a range -/
theorem s_in {post : Int32 → Mem → Prop} {S : Mem} {v a b : Int32} (h1 : ¬ v < a → ¬ b < v → post 1 S) (h0 : (v < a ∨ b < v) → post 0 S) : mX6_in post S v a b := by
  unfold mX6_in
  exact ⟨fun h => h0 (Or.inl h), fun h => ⟨fun h' => h0 (Or.inr h'), fun h' => h1 h h'⟩⟩
theorem s_raises {post : Int32 → Mem → Prop} {S : Mem} {v : Int32} (h : post 0 (wr S 10 0 21 v)) : mX6_raises post S v := by
  unfold mX6_raises
  intro S1 e
  rw [e]
  exact h
theorem s_checkRange {post : Mem → Prop} {px : String → Mem → Prop} {S : Mem} {v a b : Int32} (h1 : ¬ v < a → ¬ b < v → post S) (h0 : (v < a ∨ b < v) → px "java/lang/IllegalArgumentException" S) : mX5_checkRange post px S v a b := by
  unfold mX5_checkRange
  exact ⟨fun h => h0 (Or.inl h), fun h => ⟨fun h' => h1 h (Int32.not_lt.mpr h'), fun h' => h0 (Or.inr (Int32.not_le.mp h'))⟩⟩
theorem nI_lt_of {v : Int32} {n : Nat} (hn : n < 2 ^ 31) (h0 : ¬ v < 0) (h : v < nI n) : ∃ k, k < n ∧ v = nI k := by
  obtain ⟨j, hj, rfl⟩ := nI_of h0
  exact ⟨j, (nI_ltI hj hn).mp h, rfl⟩
theorem nI_pred_lt {v : Int32} {n : Nat} (hn : n < 2 ^ 31) (h0 : ¬ v < 0) : (nI n - 1 < v) ↔ ¬ v < nI n := by
  obtain ⟨j, hj, rfl⟩ := nI_of h0
  rw [nI_ltI hj hn]
  cases n with
  | zero =>
    have h1 : nI 0 - 1 < nI j := by
      rw [Int32.lt_iff_toInt_lt, nI_toInt hj]
      have : (nI 0 - 1).toInt = -1 := by decide
      omega
    exact ⟨fun _ => by omega, fun _ => h1⟩
  | succ m =>
    rw [nI_pred, nI_ltI (by omega) hj]
    omega
/-- a query's end: what was thrown, the answer, the state -/
theorem fin {S : Mem} {E : Prop} {kk v : Int32} (h : Inv S) (hv : v = kk) (he : kk = 0 → E) : mX6_thrown (fun (r6 : Int32) (S7 : Mem) => r6 = kk ∧ (kk = 0 → E) ∧ Inv S7) (wr S 10 0 21 v) := by
  unfold mX6_thrown
  exact ⟨thr_get.trans hv, he, h.thr v⟩
theorem updL0 {f : Nat → Int64} {r : Int32} : vp_updL f 0 r.toInt64 0 = r.toInt64 := by simp [vp_updL]
theorem ne10 {P : Prop} (h : (1 : Int32) = 0) : P := absurd h (by decide)
theorem ne20 {P : Prop} (h : (2 : Int32) = 0) : P := absurd h (by decide)
theorem ne30 {P : Prop} (h : (3 : Int32) = 0) : P := absurd h (by decide)
