/-! copies of the class: a traveller, a ford, the history -/
theorem X3_copyFrom_s {post : Mem → Prop} {S : Mem} {i0 i1 : Nat} (hne : i1 ≠ i0) (h3 : isB (S 2 i1 3)) (h4 : isB (S 2 i1 4)) (h5 : isB (S 2 i1 5)) (h : ∀ S' : Mem, (∀ c i, ¬ (c = 2 ∧ i = i0) → S' c i = S c i) → (∀ f, f < 8 → S' 2 i0 f = S 2 i1 f) → post S') : mX3_copyFrom post S i0 i1 := by
  unfold mX3_copyFrom
  intro S1 e1 S2 e2 S3 e3
  have k3 : S3 2 i1 3 = S 2 i1 3 := by subst e3 e2 e1; simp [wr_i hne]
  refine ⟨by rw [k3]; exact h3, fun S5 e5 => ?_⟩
  have k5 : S5 2 i1 4 = S 2 i1 4 := by subst e5 e3 e2 e1; simp [wr_i hne]
  refine ⟨by rw [k5]; exact h4, fun S7 e7 => ?_⟩
  have k7 : S7 2 i1 5 = S 2 i1 5 := by subst e7 e5 e3 e2 e1; simp [wr_i hne]
  refine ⟨by rw [k7]; exact h5, fun S9 e9 S10 e10 S11 e11 => ?_⟩
  refine h S11 (fun c i hci => ?_) (fun f hf => ?_)
  · subst e11 e10 e9 e7 e5 e3 e2 e1
    by_cases hc : c = 2
    · subst hc
      have hi : i ≠ i0 := fun e => hci ⟨rfl, e⟩
      simp only [wr_i hi]
    · simp only [wr_c hc]
  · subst e11 e10 e9 e7 e5 e3 e2 e1
    rcases (show f = 0 ∨ f = 1 ∨ f = 2 ∨ f = 3 ∨ f = 4 ∨ f = 5 ∨ f = 6 ∨ f = 7 by omega) with rfl | rfl | rfl | rfl | rfl | rfl | rfl | rfl <;> simp [wr_i hne, wr_k, wr_same]
theorem RepC.isB {S : Mem} {j n t : Nat} {R : Row} (h : RepC S j R n) (ht : t < n) : isB (S 2 (8 * j + t) 3) ∧ isB (S 2 (8 * j + t) 4) ∧ isB (S 2 (8 * j + t) 5) := by
  obtain ⟨hw, -, -, -, -, -, -, -, -, -, -, -, h2⟩ := h
  have hT := hw.2.2.2.2.2 t ht
  rw [h2 t ht 3 (by decide), h2 t ht 4 (by decide), h2 t ht 5 (by decide)]
  refine ⟨hT.2.2.2.1, ?_, hT.2.2.2.2.2.1⟩
  show wayF (trv R t) = 0 ∨ wayF (trv R t) = 1
  unfold wayF
  split
  · exact hT.2.2.2.2.1
  · split
    · exact Or.inr rfl
    · exact Or.inl rfl
/-- what a copy of a ford leaves as it was -/
def SameBut (j0 : Nat) (S S' : Mem) : Prop := (∀ c, c ≠ 0 → c ≠ 1 → c ≠ 2 → S' c = S c) ∧ (∀ j, j ≠ j0 → S' 0 j = S 0 j ∧ S' 1 j = S 1 j) ∧ (∀ j t, j ≠ j0 → t < 8 → S' 2 (8 * j + t) = S 2 (8 * j + t))
theorem SameBut.rep {j0 j : Nat} {S S' : Mem} {R : Row} (h : SameBut j0 S S') (hj : j ≠ j0) (hR : RepX S j R) : RepX S' j R :=
  hR.congr (h.2.1 j hj).1 (h.2.1 j hj).2 (fun t ht => h.2.2 j t hj ht)
theorem copyFrom_b28_s {post : Mem → Prop} {j0 j1 n : Nat} (hne : j1 ≠ j0) (hn : n ≤ 8) (T : Mem) (h2 : T 0 j1 2 = nI n) (hB : ∀ t, t < n → isB (T 2 (8 * j1 + t) 3) ∧ isB (T 2 (8 * j1 + t) 4) ∧ isB (T 2 (8 * j1 + t) 5))
    (h : ∀ S' : Mem, (∀ c, c ≠ 0 → c ≠ 2 → S' c = T c) → (∀ j, j ≠ j0 → S' 0 j = T 0 j) → (∀ j t, j ≠ j0 → t < 8 → S' 2 (8 * j + t) = T 2 (8 * j + t)) → (∀ k, 2 ≤ k → k < 12 → S' 0 j0 k = T 0 j1 k) → (∀ t, t < n → ∀ f, f < 8 → S' 2 (8 * j0 + t) f = T 2 (8 * j1 + t) f) → post S') :
    ∀ (m t : Nat) (S : Mem), t + m = n → (∀ c, c ≠ 2 → S c = T c) → (∀ j t, j ≠ j0 → t < 8 → S 2 (8 * j + t) = T 2 (8 * j + t)) → (∀ i, i < t → ∀ f, f < 8 → S 2 (8 * j0 + i) f = T 2 (8 * j1 + i) f) → mX0_copyFrom_b28 post (m + 1) S j0 j1 (nI t) := by
  intro m
  induction m with
  | zero =>
    intro t S ht hc hj hd
    unfold mX0_copyFrom_b28
    rw [hc 0 (by decide), h2]
    refine ⟨fun _ => ?_, fun g => absurd (nI_le (by omega) (by omega)) g⟩
    intro S2 e2 S3 e3 S4 e4 S5 e5 S6 e6 S7 e7 S8 e8 S9 e9 S10 e10 S11 e11
    refine h S11 (fun c c0 c2 => ?_) (fun j hjj => ?_) (fun j t hjj ht8 => ?_) (fun k hk1 hk2 => ?_) (fun t ht f hf => ?_)
    · subst e11 e10 e9 e8 e7 e6 e5 e4 e3 e2
      simp only [wr_c c0]
      exact hc c c2
    · subst e11 e10 e9 e8 e7 e6 e5 e4 e3 e2
      simp only [wr_i hjj]
      rw [hc 0 (by decide)]
    · subst e11 e10 e9 e8 e7 e6 e5 e4 e3 e2
      simp only [wr_c (show (2 : Nat) ≠ 0 by decide)]
      exact hj j t hjj ht8
    · subst e11 e10 e9 e8 e7 e6 e5 e4 e3 e2
      rcases (show k = 2 ∨ k = 3 ∨ k = 4 ∨ k = 5 ∨ k = 6 ∨ k = 7 ∨ k = 8 ∨ k = 9 ∨ k = 10 ∨ k = 11 by omega) with rfl | rfl | rfl | rfl | rfl | rfl | rfl | rfl | rfl | rfl <;> simp [wr_i hne, wr_k, wr_same, hc 0, h2]
    · subst e11 e10 e9 e8 e7 e6 e5 e4 e3 e2
      simp only [wr_c (show (2 : Nat) ≠ 0 by decide)]
      exact hd t (by omega) f hf
  | succ m ih =>
    intro t S ht hc hj hd
    have htn : t < n := by omega
    have hB' := hB t htn
    rw [← hj j1 t hne (by omega)] at hB'
    unfold mX0_copyFrom_b28
    rw [hc 0 (by decide), h2]
    refine ⟨fun g => absurd g (nI_ge htn (by omega)), fun _ => ⟨vpN (by omega) (by decide), fun k e => ⟨vpN (by omega) (by decide), fun k' e' => ?_⟩⟩⟩
    rw [nI_clamp (by omega)] at e e'
    subst e e'
    refine X3_copyFrom_s (by omega) hB'.1 hB'.2.1 hB'.2.2 (fun S' hS hf => ?_)
    intro x ex
    rw [ex, inc]
    refine ih (t + 1) S' (by omega) (fun c hc2 => ?_) (fun j u hjj hu => ?_) (fun i hi f hf8 => ?_)
    · rw [← hc c hc2]
      funext i
      exact hS c i (fun e => hc2 e.1)
    · rw [← hj j u hjj hu]
      exact hS 2 _ (fun e => by omega)
    · by_cases hit : i = t
      · subst hit
        rw [hf f hf8, hj j1 i hne (by omega)]
      · rw [hS 2 _ (fun e => by omega)]
        exact hd i (by omega) f hf8
theorem copyFrom_s {post : Mem → Prop} {j0 j1 : Nat} {R : Row} (hne : j1 ≠ j0) (S : Mem) (hR : RepX S j1 R) (h : ∀ S' : Mem, SameBut j0 S S' → RepX S' j0 R → post S') : mX0_copyFrom post S j0 j1 := by
  obtain ⟨n, hR⟩ := hR
  have loop : ∀ (m k : Nat) (T : Mem), k + m = 10 → (∀ c, c ≠ 1 → T c = S c) → (∀ j, j ≠ j0 → T 1 j = S 1 j) → (∀ s, s < k → T 1 j0 s = S 1 j1 s) → mX0_copyFrom_b2 post (m + 1) T j0 j1 (nI k) := by
    intro m
    induction m with
    | zero =>
      intro k T hk hc hj hd
      have hk : k = 10 := by omega
      subst hk
      unfold mX0_copyFrom_b2
      refine ⟨fun _ => ⟨n + 1, ?_⟩, fun g => absurd (by decide) g⟩
      have h2 : T 0 j1 2 = nI n := by rw [hc 0 (by decide), hR.2.1, hR.1.2.1]
      refine copyFrom_b28_s hne hR.1.1 T h2 (fun t ht => by rw [hc 2 (by decide)]; exact hR.isB ht) (fun S' h1 h2 h3 h4 h5 => ?_) n 0 T (by omega) (fun _ _ => rfl) (fun _ _ _ _ => rfl) (fun i hi => absurd hi (by omega))
      refine h S' ⟨fun c c0 c1 c2 => (h1 c c0 c2).trans (hc c c1), fun j hjj => ⟨(h2 j hjj).trans (by rw [hc 0 (by decide)]), by rw [h1 1 (by decide) (by decide)]; exact hj j hjj⟩, fun j t hjj ht => (h3 j t hjj ht).trans (by rw [hc 2 (by decide)])⟩ ⟨n, hR.1, ?_⟩
      obtain ⟨-, b2, b3, b4, b5, b6, b7, b8, b9, b10, b11, b12, b13⟩ := hR
      have h4' : ∀ k, 2 ≤ k → k < 12 → S' 0 j0 k = S 0 j1 k := fun k k1 k2 => (h4 k k1 k2).trans (by rw [hc 0 (by decide)])
      refine ⟨(h4' 2 (by decide) (by decide)).trans b2, (h4' 3 (by decide) (by decide)).trans b3, (h4' 4 (by decide) (by decide)).trans b4, (h4' 5 (by decide) (by decide)).trans b5, (h4' 6 (by decide) (by decide)).trans b6, (h4' 7 (by decide) (by decide)).trans b7, (h4' 8 (by decide) (by decide)).trans b8, (h4' 9 (by decide) (by decide)).trans b9, (h4' 10 (by decide) (by decide)).trans b10, (h4' 11 (by decide) (by decide)).trans b11, fun s hs => ?_, fun t ht f hf => ?_⟩
      · rw [h1 1 (by decide) (by decide), hd s hs]
        exact b12 s hs
      · rw [h5 t ht f hf, hc 2 (by decide)]
        exact b13 t ht f hf
    | succ m ih =>
      intro k T hk hc hj hd
      have hk10 : k < 10 := by omega
      unfold mX0_copyFrom_b2
      refine ⟨fun g => absurd g (nI_ge (b := 10) hk10 (by decide)), fun _ => ⟨vpN hk10 (by decide), vpN hk10 (by decide), fun T' e x ex => ?_⟩⟩
      rw [nI_clamp (by omega)] at e
      rw [ex, inc]
      subst e
      refine ih (k + 1) _ (by omega) (fun c c1 => by rw [wr_c c1]; exact hc c c1) (fun j hjj => by rw [wr_i hjj]; exact hj j hjj) (fun s hs => ?_)
      by_cases hsk : s = k
      · subst hsk
        rw [wr_same]
        exact congrFun (hj j1 hne) s
      · rw [wr_k hsk]
        exact hd s (by omega)
  unfold mX0_copyFrom
  exact ⟨11, loop 10 0 S (by omega) (fun _ _ => rfl) (fun _ _ => rfl) (fun s hs => absurd hs (by omega))⟩

