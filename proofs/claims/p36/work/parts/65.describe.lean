/-! describe -/
def dgF (x : Int32) : Int32 := ((((48 : Int32) + x)).toUInt32 % 65536).toInt32
def sgF (R : Row) (n s : Nat) : Int32 := if lowF (plc R) (nI s) n 0 = -1 then (if stF R (R 1) s = 2 then 95 else if stF R (R 1) s = 1 then 126 else 46) else dgF (lowF (plc R) (nI s) n 0)
def lnL (R : Row) : Nat := if R 1 < 10 then 12 else 13
def chF (R : Row) (n k : Nat) : Int32 := if k < 10 then sgF R n k else if k = 10 then 32 else if k + 1 = lnL R then dgF (R 1 - R 1 / 10 * 10) else dgF (R 1 / 10)
theorem dg_tab : ∀ a, a < 39 → isC (dgF (nI a / 10)) ∧ isC (dgF (nI a - nI a / 10 * 10)) := by unfold isC; decide +kernel
theorem dg8_tab : ∀ a, a < 8 → isC (dgF (nI a)) := by unfold isC; decide +kernel
theorem sg_c : isC 95 ∧ isC 126 ∧ isC 46 ∧ isC 32 := by unfold isC; decide +kernel
theorem sgF_c {R : Row} {n s : Nat} (hn : n ≤ 8) : isC (sgF R n s) := by
  unfold sgF
  rcases lowF_neg (pl := plc R) (v := nI s) n 0 (by omega) with h | ⟨i, h1, h2, h3⟩
  · rw [if_pos h]
    split
    · exact sg_c.1
    · split
      · exact sg_c.2.1
      · exact sg_c.2.2.1
  · rw [h3, if_neg (nI_nm1 (by omega))]
    exact dg8_tab i (by omega)
theorem lvl_dg {x : Int32} (h : lvl x) : isC (dgF (x / 10)) ∧ isC (dgF (x - x / 10 * 10)) := by
  obtain ⟨a, a1, a2, rfl⟩ := h
  exact dg_tab a (by omega)
theorem chF_c {R : Row} {n k : Nat} (w : WFR R n) : isC (chF R n k) := by
  have d := lvl_dg w.lv
  unfold chF
  split
  · exact sgF_c w.1
  · split
    · exact sg_c.2.2.2
    · split
      · exact d.2
      · exact d.1
theorem X5_sign_s {post : Int32 → Mem → Prop} {S : Mem} {n s : Nat} {R : Row} (hR : RepC S 0 R n) (hs : s < 10) (h : post (sgF R n s) S) : mX5_signOf post S (nI s) := by
  unfold mX5_signOf
  refine X0_lowestOn_s hR ?_
  unfold sgF at h
  refine ⟨fun g => ?_, fun g => ?_⟩
  · rw [if_pos g] at h
    rw [hR.sc.2.2.1]
    refine X0_stateOf_s hs hR.1 (hR.2.2.2.2.2.2.2.2.2.2.2.1 s hs) hR.1.lv ⟨fun g2 => ⟨fun g1 => ⟨sg_c.2.2.1, ?_⟩, fun g1 => ⟨sg_c.2.1, ?_⟩⟩, fun g2 => ⟨sg_c.1, ?_⟩⟩
    · rw [if_neg g2, if_neg g1] at h; exact h
    · rw [if_neg g2, if_pos g1] at h; exact h
    · rw [if_pos g2] at h; exact h
  · rw [if_neg g] at h
    refine ⟨?_, h⟩
    rcases lowF_neg (pl := plc R) (v := nI s) n 0 (by have := hR.1.1; omega) with q | ⟨i, h1, h2, h3⟩
    · exact absurd q g
    · rw [h3]
      exact dg8_tab i (by have := hR.1.1; omega)
theorem lnL_c {R : Row} {n : Nat} (w : WFR R n) : (R 1 < 10 ∧ lnL R = 12) ∨ (¬ R 1 < 10 ∧ lnL R = 13) := by
  unfold lnL
  by_cases g : R 1 < 10
  · exact Or.inl ⟨g, if_pos g⟩
  · exact Or.inr ⟨g, if_neg g⟩
theorem X5_describe_s {post : Int32 → Mem → Prop} {S : Mem} {n : Nat} {R : Row} (hR : RepC S 0 R n) (h : ∀ S' : Mem, (∀ c, c ≠ 3 → c ≠ 9 → S' c = S c) → (∀ k, k ≠ 11 → S' 3 0 k = S 3 0 k) → S' 3 0 11 = nI (lnL R) → (∀ k, k < lnL R → S' 9 0 k = chF R n k) → post (nI (lnL R)) S') : mX5_describe post S := by
  have w := hR.1
  have d := lvl_dg w.lv
  have loop : ∀ (m k : Nat) (T : Mem), k + m = 10 → (∀ c, c ≠ 9 → T c = S c) → (∀ i, i < k → T 9 0 i = sgF R n i) → mX5_describe_b2 post (m + 1) T (nI k) := by
    intro m
    induction m with
    | zero =>
      intro k T hk h1 h2
      have hk : k = 10 := by omega
      subst hk
      unfold mX5_describe_b2
      refine ⟨fun _ => ⟨vpL rfl, sg_c.2.2.2, fun S4 e4 S5 e5 => ?_⟩, fun g => absurd (by decide) g⟩
      rw [c10] at e4
      have q5 : ∀ c, c ≠ 3 → c ≠ 9 → S5 c = S c := fun c z3 z9 => by rw [e5, wr_c z3, e4, wr_c z9, h1 c z9]
      have l5 : ∀ i, i < 11 → S5 9 0 i = chF R n i := fun i hi => by
        rw [e5, wr_c (by decide), e4]
        unfold chF
        by_cases hi2 : i = 10
        · subst hi2
          rw [wr_same, if_neg (by decide), if_pos rfl]
        · rw [wr_k hi2, if_pos (by omega), h2 i (by omega)]
      have s5 : S5 3 0 11 = 11 := by rw [e5, wr_same]
      have k5 : ∀ k, k ≠ 11 → S5 3 0 k = S 3 0 k := fun k hk => by rw [e5, wr_k hk, e4, wr_c (by decide), h1 3 (by decide)]
      have v5 : S5 0 0 4 = R 1 := by rw [q5 0 (by decide) (by decide)]; exact hR.sc.2.2.1
      have b66 : ∀ (T2 : Mem) (p : Nat), p + 1 = lnL R → (∀ c, c ≠ 3 → c ≠ 9 → T2 c = S c) → (∀ k, k ≠ 11 → T2 3 0 k = S 3 0 k) → T2 3 0 11 = nI p → (∀ i, i < p → T2 9 0 i = chF R n i) → mX5_describe_b66 post T2 := by
        intro T2 p hp t1 t2 t3 t4
        have p13 : p < 13 := by rcases lnL_c w with ⟨_, e⟩ | ⟨_, e⟩ <;> omega
        have p11 : 11 ≤ p := by rcases lnL_c w with ⟨_, e⟩ | ⟨_, e⟩ <;> omega
        unfold mX5_describe_b66 mX5_writeDigit
        rw [t1 0 (by decide) (by decide), hR.sc.2.2.1, t3]
        refine ⟨fun g => absurd g (nI_ge (b := 13) p13 (by decide)), fun _ => ⟨vpN p13 (by decide), d.2, fun S7 e7 S8 e8 => ?_⟩⟩
        rw [nI_clamp (by omega)] at e7
        have e7s : S7 3 0 11 = nI p := by rw [e7, wr_c (by decide)]; exact t3
        rw [e7s, inc, hp] at e8
        have e8s : S8 3 0 11 = nI (lnL R) := by rw [e8, wr_same]
        rw [e8s]
        refine h S8 (fun c z3 z9 => by rw [e8, wr_c z3, e7, wr_c z9, t1 c z3 z9]) (fun k hk => by rw [e8, wr_k hk, e7, wr_c (by decide), t2 k hk]) e8s (fun i hi => ?_)
        rw [e8, wr_c (by decide), e7]
        by_cases hip : i = p
        · subst hip
          rw [wr_same]
          unfold chF
          rw [if_neg (by omega), if_neg (by omega), if_pos hp]
          rfl
        · rw [wr_k hip]
          exact t4 i (by omega)
      rw [v5]
      refine ⟨fun g => b66 S5 11 ?_ q5 k5 s5 l5, fun g => ?_⟩
      · rcases lnL_c w with ⟨_, e⟩ | ⟨q, _⟩
        · rw [e]
        · exact absurd g q
      · have eL : lnL R = 13 := by
          rcases lnL_c w with ⟨q, _⟩ | ⟨_, e⟩
          · exact absurd q g
          · exact e
        unfold mX5_writeDigit
        rw [s5]
        refine ⟨fun g => absurd g (by decide), fun _ => ⟨vpL rfl, d.1, fun S7 e7 S8 e8 => ?_⟩⟩
        have e7s : S7 3 0 11 = 11 := by rw [e7, wr_c (by decide)]; exact s5
        rw [e7s] at e8
        refine b66 S8 12 eL.symm (fun c z3 z9 => by rw [e8, wr_c z3, e7, wr_c z9, q5 c z3 z9]) (fun k hk => by rw [e8, wr_k hk, e7, wr_c (by decide), k5 k hk]) (by rw [e8, wr_same]; rfl) (fun i hi => ?_)
        rw [e8, wr_c (by decide), e7, show ((11 : Int32)).toNatClampNeg = 11 from rfl]
        by_cases hip : i = 11
        · subst hip
          rw [wr_same]
          unfold chF
          rw [if_neg (by decide), if_neg (by decide), eL, if_neg (by decide)]
          rfl
        · rw [wr_k hip]
          exact l5 i (by omega)
    | succ m ih =>
      intro k T hk h1 h2
      have hk2 : k < 10 := by omega
      have hRT : RepC T 0 R n := Rep_now (by rw [h1 0 (by decide)]) (by rw [h1 1 (by decide)]) (fun t _ => by rw [h1 2 (by decide)]) hR
      unfold mX5_describe_b2
      refine ⟨fun g => absurd g (nI_ge (b := 10) hk2 (by decide)), fun _ => X5_sign_s hRT hk2 ⟨vpN (by omega) (by decide), sgF_c w.1, fun S13 e x ex => ?_⟩⟩
      rw [nI_clamp (by omega)] at e
      rw [ex, inc]
      refine ih (k + 1) S13 (by omega) (fun c z => by rw [e, wr_c z, h1 c z]) (fun i hi => ?_)
      by_cases hik : i = k
      · subst hik
        rw [e, wr_same]
      · rw [e, wr_k hik]
        exact h2 i (by omega)
  unfold mX5_describe
  exact ⟨11, loop 10 0 S (by omega) (fun _ _ => rfl) (fun i hi => absurd hi (by omega))⟩
