/-! describe -/
def dgF (x : Int32) : Int32 := ((((48 : Int32) + x)).toUInt32 % 65536).toInt32
def sgF (R : Row) (n s : Nat) : Int32 := if lowF (plc R) (nI s) n 0 = -1 then (if stF R (R 1) s = 2 then 95 else if stF R (R 1) s = 1 then 126 else 46) else dgF (lowF (plc R) (nI s) n 0)
def lnL (R : Row) : Nat := if R 1 < 10 then 12 else 13
def chF (R : Row) (n k : Nat) : Int32 := if k < 10 then sgF R n k else if k = 10 then 32 else if k + 1 = lnL R then dgF (R 1 - R 1 / 10 * 10) else dgF (R 1 / 10)
theorem dg_tab : ∀ a, a < 39 → isC (dgF (nI a / 10)) ∧ isC (dgF (nI a - nI a / 10 * 10)) := by unfold isC; decide +kernel
theorem dg8_tab : ∀ a, a < 8 → isC (dgF (nI a)) := by unfold isC; decide +kernel
theorem sg_c : isC 95 ∧ isC 126 ∧ isC 46 ∧ isC 32 := by unfold isC; decide +kernel
theorem sgF_c {R : Row} {n s : Nat} (hn : n ≤ 8) : isC (sgF R n s) := by
  unfold sgF
  rcases lowF_neg (pl := plc R) (v := nI s) n 0 (by omega) with h | ⟨i, h1, h2, h3⟩
  · rw [if_pos h]
    split
    · exact sg_c.1
    · split
      · exact sg_c.2.1
      · exact sg_c.2.2.1
  · rw [h3, if_neg (nI_nm1 (by omega))]
    exact dg8_tab i (by omega)
theorem lvl_dg {x : Int32} (h : lvl x) : isC (dgF (x / 10)) ∧ isC (dgF (x - x / 10 * 10)) := by
  obtain ⟨a, a1, a2, rfl⟩ := h
  exact dg_tab a (by omega)
theorem chF_c {R : Row} {n k : Nat} (w : WFR R n) : isC (chF R n k) := by
  have d := lvl_dg w.lv
  unfold chF
  split
  · exact sgF_c w.1
  · split
    · exact sg_c.2.2.2
    · split
      · exact d.2
      · exact d.1
theorem X5_sign_s {post : Int32 → Mem → Prop} {S : Mem} {n s : Nat} {R : Row} (hR : RepC S 0 R n) (hs : s < 10) (h : post (sgF R n s) S) : mX5_signOf post S (nI s) := by
  unfold mX5_signOf
  refine X0_lowestOn_s hR ?_
  unfold sgF at h
  refine ⟨fun g => ?_, fun g => ?_⟩
  · rw [if_pos g] at h
    rw [hR.sc.2.2.1]
    refine X0_stateOf_s hs hR.1 (hR.2.2.2.2.2.2.2.2.2.2.2.1 s hs) hR.1.lv ⟨fun g2 => ⟨fun g1 => ⟨sg_c.2.2.1, ?_⟩, fun g1 => ⟨sg_c.2.1, ?_⟩⟩, fun g2 => ⟨sg_c.1, ?_⟩⟩
    · rw [if_neg g2, if_neg g1] at h; exact h
    · rw [if_neg g2, if_pos g1] at h; exact h
    · rw [if_pos g2] at h; exact h
  · rw [if_neg g] at h
    refine ⟨?_, h⟩
    rcases lowF_neg (pl := plc R) (v := nI s) n 0 (by have := hR.1.1; omega) with q | ⟨i, h1, h2, h3⟩
    · exact absurd q g
    · rw [h3]
      exact dg8_tab i (by have := hR.1.1; omega)
theorem lnL_c {R : Row} {n : Nat} (w : WFR R n) : (R 1 < 10 ∧ lnL R = 12) ∨ (¬ R 1 < 10 ∧ lnL R = 13) := by
  unfold lnL
  by_cases g : R 1 < 10
  · exact Or.inl ⟨g, if_pos g⟩
  · exact Or.inr ⟨g, if_neg g⟩
theorem X5_describe_s {post : Int32 → Mem → Prop} {S : Mem} {n : Nat} {R : Row} (hR : RepC S 0 R n) (h : ∀ S' : Mem, (∀ c, c ≠ 3 → c ≠ 9 → S' c = S c) → (∀ k, k ≠ 11 → S' 3 0 k = S 3 0 k) → S' 3 0 11 = nI (lnL R) → (∀ k, k < lnL R → S' 9 0 k = chF R n k) → post (nI (lnL R)) S') : mX5_describe post S := by
  have w := hR.1
  have d := lvl_dg w.lv
  have loop : ∀ (m k : Nat) (T : Mem), k + m = 10 → (∀ c, c ≠ 9 → T c = S c) → (∀ i, i < k → T 9 0 i = sgF R n i) → mX5_describe_b2 post (m + 1) T (nI k) := by
    intro m
    induction m with
    | zero =>
      intro k T hk h1 h2
      have hk : k = 10 := by omega
      subst hk
      unfold mX5_describe_b2
      refine ⟨fun _ => ⟨vpL rfl, sg_c.2.2.2, fun S4 e4 S5 e5 => ?_⟩, fun g => absurd (by decide) g⟩
      rw [c10] at e4
      have q5 : ∀ c, c ≠ 3 → c ≠ 9 → S5 c = S c := fun c z3 z9 => by rw [e5, wr_c z3, e4, wr_c z9, h1 c z9]
      have l5 : ∀ i, i < 11 → S5 9 0 i = chF R n i := fun i hi => by
        rw [e5, wr_c (by decide), e4]
        unfold chF
        by_cases hi2 : i = 10
        · subst hi2
          rw [wr_same, if_neg (by decide), if_pos rfl]
        · rw [wr_k hi2, if_pos (by omega), h2 i (by omega)]
      have s5 : S5 3 0 11 = 11 := by rw [e5, wr_same]
      have k5 : ∀ k, k ≠ 11 → S5 3 0 k = S 3 0 k := fun k hk => by rw [e5, wr_k hk, e4, wr_c (by decide), h1 3 (by decide)]
      have v5 : S5 0 0 4 = R 1 := by rw [q5 0 (by decide) (by decide)]; exact hR.sc.2.2.1
      have b66 : ∀ (T2 : Mem) (p : Nat), p + 1 = lnL R → (∀ c, c ≠ 3 → c ≠ 9 → T2 c = S c) → (∀ k, k ≠ 11 → T2 3 0 k = S 3 0 k) → T2 3 0 11 = nI p → (∀ i, i < p → T2 9 0 i = chF R n i) → mX5_describe_b66 post T2 := by
        intro T2 p hp t1 t2 t3 t4
        have p13 : p < 13 := by rcases lnL_c w with ⟨_, e⟩ | ⟨_, e⟩ <;> omega
        have p11 : 11 ≤ p := by rcases lnL_c w with ⟨_, e⟩ | ⟨_, e⟩ <;> omega
        unfold mX5_describe_b66 mX5_writeDigit
        rw [t1 0 (by decide) (by decide), hR.sc.2.2.1, t3]
        refine ⟨fun g => absurd g (nI_ge (b := 13) p13 (by decide)), fun _ => ⟨vpN p13 (by decide), d.2, fun S7 e7 S8 e8 => ?_⟩⟩
        rw [nI_clamp (by omega)] at e7
        have e7s : S7 3 0 11 = nI p := by rw [e7, wr_c (by decide)]; exact t3
        rw [e7s, inc, hp] at e8
        have e8s : S8 3 0 11 = nI (lnL R) := by rw [e8, wr_same]
        rw [e8s]
        refine h S8 (fun c z3 z9 => by rw [e8, wr_c z3, e7, wr_c z9, t1 c z3 z9]) (fun k hk => by rw [e8, wr_k hk, e7, wr_c (by decide), t2 k hk]) e8s (fun i hi => ?_)
        rw [e8, wr_c (by decide), e7]
        by_cases hip : i = p
        · subst hip
          rw [wr_same]
          unfold chF
          rw [if_neg (by omega), if_neg (by omega), if_pos hp]
          rfl
        · rw [wr_k hip]
          exact t4 i (by omega)
      rw [v5]
      refine ⟨fun g => b66 S5 11 ?_ q5 k5 s5 l5, fun g => ?_⟩
      · rcases lnL_c w with ⟨_, e⟩ | ⟨q, _⟩
        · rw [e]
        · exact absurd g q
      · have eL : lnL R = 13 := by
          rcases lnL_c w with ⟨q, _⟩ | ⟨_, e⟩
          · exact absurd q g
          · exact e
        unfold mX5_writeDigit
        rw [s5]
        refine ⟨fun g => absurd g (by decide), fun _ => ⟨vpL rfl, d.1, fun S7 e7 S8 e8 => ?_⟩⟩
        have e7s : S7 3 0 11 = 11 := by rw [e7, wr_c (by decide)]; exact s5
        rw [e7s] at e8
        refine b66 S8 12 eL.symm (fun c z3 z9 => by rw [e8, wr_c z3, e7, wr_c z9, q5 c z3 z9]) (fun k hk => by rw [e8, wr_k hk, e7, wr_c (by decide), k5 k hk]) (by rw [e8, wr_same]; rfl) (fun i hi => ?_)
        rw [e8, wr_c (by decide), e7, show ((11 : Int32)).toNatClampNeg = 11 from rfl]
        by_cases hip : i = 11
        · subst hip
          rw [wr_same]
          unfold chF
          rw [if_neg (by decide), if_neg (by decide), eL, if_neg (by decide)]
          rfl
        · rw [wr_k hip]
          exact l5 i (by omega)
    | succ m ih =>
      intro k T hk h1 h2
      have hk2 : k < 10 := by omega
      have hRT : RepC T 0 R n := Rep_now (by rw [h1 0 (by decide)]) (by rw [h1 1 (by decide)]) (fun t _ => by rw [h1 2 (by decide)]) hR
      unfold mX5_describe_b2
      refine ⟨fun g => absurd g (nI_ge (b := 10) hk2 (by decide)), fun _ => X5_sign_s hRT hk2 ⟨vpN (by omega) (by decide), sgF_c w.1, fun S13 e x ex => ?_⟩⟩
      rw [nI_clamp (by omega)] at e
      rw [ex, inc]
      refine ih (k + 1) S13 (by omega) (fun c z => by rw [e, wr_c z, h1 c z]) (fun i hi => ?_)
      by_cases hik : i = k
      · subst hik
        rw [e, wr_same]
      · rw [e, wr_k hik]
        exact h2 i (by omega)
  unfold mX5_describe
  exact ⟨11, loop 10 0 S (by omega) (fun _ _ => rfl) (fun i hi => absurd hi (by omega))⟩
theorem ch20 : chS 20 0 = 46 ∧ chS 20 1 = 126 ∧ chS 20 2 = 95 := by decide +kernel
theorem ch20_s {R : Row} {fl : Int32} {s : Nat} : vp_in (stF R fl s) (lnN 20) ∧ chS 20 (stF R fl s) = if stF R fl s = 2 then 95 else if stF R fl s = 1 then 126 else 46 := by
  rcases stF_cases (R := R) (fl := fl) (s := s) with z | z | z
  · rw [z]; exact ⟨vpL rfl, ch20.1⟩
  · rw [z]; exact ⟨vpL rfl, ch20.2.1⟩
  · rw [z]; exact ⟨vpL rfl, ch20.2.2⟩
theorem X6_describe_s {post : Int32 → Mem → Prop} {S : Mem} {n : Nat} (w : WFR (S 11 0) n) (h : ∀ S' : Mem, (∀ c, c ≠ 10 → c ≠ 16 → S' c = S c) → (∀ k, k ≠ 8 → k ≠ 21 → S' 10 0 k = S 10 0 k) → S' 10 0 8 = nI (lnL (S 11 0)) → (∀ k, k < lnL (S 11 0) → S' 16 0 k = chF (S 11 0) n k) → post (nI (lnL (S 11 0))) S') : mX6_describe post S := by
  have d := lvl_dg w.lv
  have loop : ∀ (m k : Nat) (T : Mem), k + m = 10 → (∀ c, c ≠ 10 → c ≠ 16 → T c = S c) → (∀ k, k ≠ 21 → T 10 0 k = S 10 0 k) → (∀ i, i < k → T 16 0 i = sgF (S 11 0) n i) → mX6_describe_b7 post (m + 1) T (nI k) := by
    intro m
    induction m with
    | zero =>
      intro k T hk h1 h10 h2
      have hk : k = 10 := by omega
      subst hk
      unfold mX6_describe_b7
      refine ⟨fun _ => ⟨vpL rfl, sg_c.2.2.2, fun S4 e4 S5 e5 => ⟨vpL rfl, ?_⟩⟩, fun g => absurd (by decide) g⟩
      rw [c10] at e4
      rw [c1]
      have q5 : ∀ c, c ≠ 10 → c ≠ 16 → S5 c = S c := fun c z3 z9 => by rw [e5, wr_c z3, e4, wr_c z9, h1 c z3 z9]
      have l5 : ∀ i, i < 11 → S5 16 0 i = chF (S 11 0) n i := fun i hi => by
        rw [e5, wr_c (by decide), e4]
        unfold chF
        by_cases hi2 : i = 10
        · subst hi2
          rw [wr_same, if_neg (by decide), if_pos rfl]
        · rw [wr_k hi2, if_pos (by omega), h2 i (by omega)]
      have s5 : S5 10 0 8 = 11 := by rw [e5, wr_same]
      have k5 : ∀ k, k ≠ 8 → k ≠ 21 → S5 10 0 k = S 10 0 k := fun k hk hk2 => by rw [e5, wr_k hk, e4, wr_c (by decide), h10 k hk2]
      have v5 : S5 11 0 1 = S 11 0 1 := by rw [q5 11 (by decide) (by decide)]
      have b108 : ∀ (T2 : Mem) (p : Nat), p + 1 = lnL (S 11 0) → (∀ c, c ≠ 10 → c ≠ 16 → T2 c = S c) → (∀ k, k ≠ 8 → k ≠ 21 → T2 10 0 k = S 10 0 k) → T2 10 0 8 = nI p → (∀ i, i < p → T2 16 0 i = chF (S 11 0) n i) → mX6_describe_b108 post T2 := by
        intro T2 p hp t1 t2 t3 t4
        have p13 : p < 13 := by rcases lnL_c w with ⟨_, e⟩ | ⟨_, e⟩ <;> omega
        have p11 : 11 ≤ p := by rcases lnL_c w with ⟨_, e⟩ | ⟨_, e⟩ <;> omega
        unfold mX6_describe_b108
        intro x1 ex S2 e2
        rw [t3] at ex
        subst ex
        rw [inc, hp] at e2
        have v2 : S2 11 0 1 = S 11 0 1 := by rw [e2, wr_c (by decide), t1 11 (by decide) (by decide)]
        rw [c1, v2, nI_clamp (by omega)]
        refine ⟨vpL rfl, vpN p13 (by decide), d.2, fun S6 e6 => ?_⟩
        have e8s : S6 10 0 8 = nI (lnL (S 11 0)) := by rw [e6, wr_c (by decide), e2, wr_same]
        rw [e8s]
        refine h S6 (fun c z3 z9 => by rw [e6, wr_c z9, e2, wr_c z3, t1 c z3 z9]) (fun k hk hk2 => by rw [e6, wr_c (by decide), e2, wr_k hk, t2 k hk hk2]) e8s (fun i hi => ?_)
        rw [e6]
        by_cases hip : i = p
        · subst hip
          rw [wr_same]
          unfold chF
          rw [if_neg (by omega), if_neg (by omega), if_pos hp]
          rfl
        · rw [wr_k hip, e2, wr_c (by decide)]
          exact t4 i (by omega)
      rw [v5]
      have le9 : S 11 0 1 ≤ 9 ↔ S 11 0 1 < 10 := by
        obtain ⟨a, a1, a2, ea⟩ := w.lv
        rw [ea]
        exact (nI_leI (a := a) (b := 9) (by omega) (by decide)).trans (Nat.lt_succ_iff.symm.trans (nI_ltI (a := a) (b := 10) (by omega) (by decide)).symm)
      rw [le9]
      refine ⟨fun g => b108 S5 11 ?_ q5 k5 s5 l5, fun g => ?_⟩
      · rcases lnL_c w with ⟨_, e⟩ | ⟨q, _⟩
        · rw [e]
        · exact absurd g q
      · have eL : lnL (S 11 0) = 13 := by
          rcases lnL_c w with ⟨q, _⟩ | ⟨_, e⟩
          · exact absurd q g
          · exact e
        intro x8 ex S9 e9
        rw [s5] at ex
        subst ex
        have v9 : S9 11 0 1 = S 11 0 1 := by rw [e9, wr_c (by decide), v5]
        rw [v9]
        refine ⟨vpL rfl, vpL rfl, d.1, fun S13 e13 => ?_⟩
        rw [show ((11 : Int32)).toNatClampNeg = 11 from rfl] at e13
        refine b108 S13 12 eL.symm (fun c z3 z9 => by rw [e13, wr_c z9, e9, wr_c z3, q5 c z3 z9]) (fun k hk hk2 => by rw [e13, wr_c (by decide), e9, wr_k hk, k5 k hk hk2]) (by rw [e13, wr_c (by decide), e9, wr_same]; rfl) (fun i hi => ?_)
        rw [e13]
        by_cases hip : i = 11
        · subst hip
          rw [wr_same]
          unfold chF
          rw [if_neg (by decide), if_neg (by decide), eL, if_neg (by decide)]
          rfl
        · rw [wr_k hip, e9, wr_c (by decide)]
          exact l5 i (by omega)
    | succ m ih =>
      intro k T hk h1 h10 h2
      have hk2 : k < 10 := by omega
      have e11 : T 11 = S 11 := h1 11 (by decide) (by decide)
      unfold mX6_describe_b7
      refine ⟨fun g => absurd g (nI_ge (b := 10) hk2 (by decide)), fun _ => X6_lowestOn_s (n := n) (by rw [e11]; exact w) ?_⟩
      rw [e11]
      have go : ∀ (S13 : Mem) (x : Int32), S13 = wr T 16 0 (nI k).toNatClampNeg (sgF (S 11 0) n k) → x = nI k + 1 → mX6_describe_b7 post (m + 1) S13 x := by
        intro S13 x e ex
        rw [nI_clamp (by omega)] at e
        rw [ex, inc]
        refine ih (k + 1) S13 (by omega) (fun c z y => by rw [e, wr_c y, h1 c z y]) (fun j hj => by rw [e, wr_c (by decide), h10 j hj]) (fun i hi => ?_)
        by_cases hik : i = k
        · subst hik
          rw [e, wr_same]
        · rw [e, wr_k hik]
          exact h2 i (by omega)
      have hc := sgF_c (R := S 11 0) (n := n) (s := k) w.1
      unfold sgF at go hc
      rcases lowF_sign (pl := plc (S 11 0)) (v := nI k) w.1 with ⟨z1, z2⟩ | ⟨z1, z2⟩
      · rw [if_pos z1] at go hc
        refine ⟨fun _ => X6_state_s (n := n) hk2 (by rw [e11]; exact w) ?_, fun g => absurd z2 g⟩
        rw [e11]
        obtain ⟨y1, y2⟩ := ch20_s (R := S 11 0) (fl := S 11 0 1) (s := k)
        rw [y2]
        exact ⟨y1, vpN (by omega) (by decide), hc, fun S13 e x ex => go S13 x e ex⟩
      · rw [if_neg z1] at go hc
        exact ⟨fun g => absurd g z2, fun _ => ⟨vpN (by omega) (by decide), hc, fun S13 e x ex => go S13 x e ex⟩⟩
  unfold mX6_describe
  intro S1 e1
  exact ⟨11, loop 10 0 S1 (by omega) (fun c z _ => by rw [e1, wr_c z]) (fun k hk => by rw [e1, wr_k hk]) (fun i hi => absurd hi (by omega))⟩
theorem k_describe {S : Mem} {f : Nat → Int64} {g : Nat → UInt64} {x1 x2 : Int32} (h : Inv S) : lawC24 (fun S1 _ _ => Inv S1) S f g x1 x2 := by
  obtain ⟨n, hR⟩ := h.1
  unfold lawC24
  refine X5_describe_s hR (fun S1 a1 a2 a3 a4 => ?_)
  have e11 : S1 11 = S 11 := a1 11 (by decide) (by decide)
  refine X6_describe_s (n := n) (by rw [e11]; exact hR.1) (fun S2 b1 b2 b3 b4 => ?_)
  rw [e11] at b3 b4 ⊢
  refine ⟨rfl, ?_⟩
  obtain ⟨i1, ⟨u, nx, q1, q2, q3, q4, q5, q6⟩, i3, i4, i5, i6, i7, i8⟩ := h
  have e := fun c (h0 : c ≠ 3 ∧ c ≠ 9 ∧ c ≠ 10 ∧ c ≠ 16) => (b1 c h0.2.2.1 h0.2.2.2).trans (a1 c h0.1 h0.2.1)
  have k10 : ∀ k, k ≠ 8 → k ≠ 21 → S2 10 0 k = S 10 0 k := fun k z1 z2 => (b2 k z1 z2).trans (by rw [a1 10 (by decide) (by decide)])
  have k3 : ∀ k, k ≠ 11 → S2 3 0 k = S 3 0 k := fun k z => by rw [b1 3 (by decide) (by decide)]; exact a2 k z
  have hX : ∀ j R, RepX S j R → RepX S2 j R := fun j R r => r.c3 (e 0 (by decide)) (e 1 (by decide)) (e 2 (by decide))
  refine ⟨by rw [e 11 (by decide)]; exact hX 0 _ i1, ⟨u, nx, q1, q2, ?_, ?_, ?_, fun i hi => ?_⟩, ⟨?_, ?_⟩, ?_, ?_, ?_, ?_, ⟨lnL (S 11 0), ?_, ?_, b3, fun i hi => ?_⟩⟩
  · rw [k10 4 (by decide) (by decide)]; exact q3
  · rw [e 4 (by decide)]; exact q4
  · rw [e 4 (by decide)]; exact q5
  · have := hX _ _ (q6 i hi)
    unfold keptR at this ⊢
    rw [e 14 (by decide)]
    exact this
  · rw [k3 3 (by decide), k10 6 (by decide) (by decide)]; exact i3.1
  · rw [k10 6 (by decide) (by decide), e 15 (by decide)]
    exact i3.2.imp id (fun r => ⟨r.1, hX 9 _ r.2⟩)
  · exact i4.c (by rw [e 6 (by decide)]) (e 7 (by decide)) (e 17 (by decide)) (k10 10 (by decide) (by decide))
  · exact i5.c (k3 7 (by decide)) (e 8 (by decide)) (e 20 (by decide)) (k10 17 (by decide) (by decide))
  · exact i6.c (k3 5 (by decide)) (k10 18 (by decide) (by decide))
  · exact i7.c (k3 8 (by decide)) (k3 9 (by decide)) (k10 19 (by decide) (by decide)) (k10 20 (by decide) (by decide))
  · rcases lnL_c hR.1 with ⟨_, z⟩ | ⟨_, z⟩ <;> omega
  · rw [b1 3 (by decide) (by decide)]; exact a3
  · rw [b4 i hi, b1 9 (by decide) (by decide), a4 i hi]
    exact ⟨rfl, chF_c hR.1⟩
