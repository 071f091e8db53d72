/-! the history of both sides -/
theorem RepX.row {S : Mem} {j : Nat} {R R' : Row} (h : ∀ k, k < 84 → R' k = R k) (hR : RepX S j R) : RepX S j R' := by
  obtain ⟨n, ⟨w1, w2, w3, w4, w5, w6⟩, b2, b3, b4, b5, b6, b7, b8, b9, b10, b11, b12, b13⟩ := hR
  have hT : ∀ t, t < n → ∀ f, f < 8 → trv R' t f = trv R t f := fun t ht f hf => h _ (by omega)
  have hW : ∀ t, t < n → WFT (trv R' t) := by
    intro t ht
    have h2 := w6 t ht
    unfold WFT at h2 ⊢
    rw [hT t ht 0 (by decide), hT t ht 1 (by decide), hT t ht 2 (by decide), hT t ht 3 (by decide), hT t ht 4 (by decide), hT t ht 5 (by decide), hT t ht 7 (by decide)]
    exact h2
  refine ⟨n, ⟨w1, by rw [h 3 (by decide)]; exact w2, by rw [h 1 (by decide)]; exact w3, by rw [h 2 (by decide)]; exact w4, fun s hs => by rw [h _ (by omega)]; exact w5 s hs, hW⟩, ?_⟩
  refine ⟨by rw [h 3 (by decide)]; exact b2, by rw [h 0 (by decide)]; exact b3, by rw [h 1 (by decide)]; exact b4, by rw [h 2 (by decide)]; exact b5, by rw [h 4 (by decide)]; exact b6, by rw [h 5 (by decide)]; exact b7, by rw [h 6 (by decide)]; exact b8, by rw [h 7 (by decide)]; exact b9, by rw [h 8 (by decide)]; exact b10, by rw [h 9 (by decide)]; exact b11, fun s hs => by rw [h _ (by omega)]; exact b12 s hs, fun t ht f hf => ?_⟩
  rw [b13 t ht f hf]
  unfold ctF
  split
  · unfold wayF
    rw [hT t ht 3 (by decide), hT t ht 4 (by decide), hT t ht 2 (by decide)]
  · exact (hT t ht f hf).symm
theorem tries_s {post : Mem → Prop} {S : Mem} (h : ∀ S' : Mem, (∀ c, c ≠ 10 → c ≠ 12 → S' c = S c) → (∀ k, k ≠ 21 → S' 10 0 k = S 10 0 k) → S' 10 0 21 = 0 → (∀ k, k < 84 → S' 12 0 k = S 11 0 k) → post S') : mX6_tries post S := by
  have loop : ∀ (m k : Nat) (T : Mem), k + m = 84 → (∀ c, c ≠ 10 → c ≠ 12 → T c = S c) → (∀ k, k ≠ 21 → T 10 0 k = S 10 0 k) → T 10 0 21 = 0 → (∀ i, i < k → T 12 0 i = S 11 0 i) → mX6_tries_b7 post (m + 1) T (nI k) := by
    intro m
    induction m with
    | zero =>
      intro k T hk h1 h2 h3 h4
      have hk : k = 84 := by omega
      subst hk
      unfold mX6_tries_b7
      exact ⟨fun _ => h T h1 h2 h3 h4, fun g => absurd (by decide) g⟩
    | succ m ih =>
      intro k T hk h1 h2 h3 h4
      have hk2 : k < 84 := by omega
      unfold mX6_tries_b7
      refine ⟨fun g => absurd g (nI_ge (b := 84) hk2 (by decide)), fun _ => ⟨vpN hk2 (by decide), vpN hk2 (by decide), fun T' e x ex => ?_⟩⟩
      rw [nI_clamp (by omega)] at e
      rw [ex, inc]
      subst e
      refine ih (k + 1) _ (by omega) (fun c c1 c2 => by rw [wr_c c2]; exact h1 c c1 c2) (fun i hi => by rw [wr_c (by decide)]; exact h2 i hi) (by rw [wr_c (by decide)]; exact h3) (fun i hi => ?_)
      by_cases hik : i = k
      · subst hik
        rw [wr_same, h1 11 (by decide) (by decide)]
      · rw [wr_k hik]
        exact h4 i (by omega)
  unfold mX6_tries
  intro S1 e
  subst e
  exact ⟨85, loop 84 0 _ (by omega) (fun c c1 c2 => wr_c c1) (fun k hk => wr_k hk) wr_same (fun i hi => absurd hi (by omega))⟩
/-- the rows that are kept behind a change; R0: the row before it -/
def newK (S : Mem) (R0 : Row) (u : Nat) (i : Nat) : Row := if i + 1 = min 8 (u + 1) then R0 else if u < 8 then keptR S i else keptR S (i + 1)
theorem keeps_b51_s {post : Int32 → Mem → Prop} {v : Int32} {u : Nat} (hu : u < 8) (T : Mem) (h4 : T 10 0 4 = nI u)
    (h : ∀ S' : Mem, (∀ c, c ≠ 10 → c ≠ 14 → S' c = T c) → (∀ k, k ≠ 4 → S' 10 0 k = T 10 0 k) → S' 10 0 4 = nI (u + 1) → (∀ k, k < 84 * u → S' 14 0 k = T 14 0 k) → (∀ k, k < 84 → S' 14 0 (84 * u + k) = T 12 0 k) → post v S') : ∃ fu : Nat, mX6_keeps_b51 post fu T v 0 := by
  have loop : ∀ (m k : Nat) (S : Mem), k + m = 84 → (∀ c, c ≠ 14 → S c = T c) → (∀ i, i < 84 * u → S 14 0 i = T 14 0 i) → (∀ i, i < k → S 14 0 (84 * u + i) = T 12 0 i) → mX6_keeps_b51 post (m + 1) S v (nI k) := by
    intro m
    induction m with
    | zero =>
      intro k S hk h1 h2 h3
      have hk : k = 84 := by omega
      subst hk
      unfold mX6_keeps_b51
      refine ⟨fun _ => fun S2 e => ?_, fun g => absurd (by decide) g⟩
      subst e
      rw [h1 10 (by decide), h4, inc]
      exact h _ (fun c c1 c2 => by rw [wr_c c1]; exact h1 c c2) (fun k hk => by rw [wr_k hk, h1 10 (by decide)]) wr_same (fun k hk => by rw [wr_c (by decide)]; exact h2 k hk) (fun k hk => by rw [wr_c (by decide)]; exact h3 k hk)
    | succ m ih =>
      intro k S hk h1 h2 h3
      have hk2 : k < 84 := by omega
      have hix : ((84 : Int32) * (S 10 0 4)) + nI k = nI (84 * u + k) := by
        rw [h1 10 (by decide), h4, show (84 : Int32) = nI 84 from rfl, pk_mul, nI_add]
      unfold mX6_keeps_b51
      rw [hix]
      refine ⟨fun g => absurd g (nI_ge (b := 84) hk2 (by decide)), fun _ => ⟨vpN hk2 (by decide), vpN (by omega) (by decide), fun T' e x ex => ?_⟩⟩
      rw [nI_clamp (by omega), nI_clamp (by omega)] at e
      rw [ex, inc]
      subst e
      refine ih (k + 1) _ (by omega) (fun c c1 => by rw [wr_c c1]; exact h1 c c1) (fun i hi => by rw [wr_k (by omega)]; exact h2 i hi) (fun i hi => ?_)
      by_cases hik : i = k
      · subst hik
        rw [wr_same, h1 12 (by decide)]
      · rw [wr_k (by omega)]
        exact h3 i (by omega)
  exact ⟨85, loop 84 0 T (by omega) (fun _ _ => rfl) (fun _ _ => rfl) (fun i hi => absurd hi (by omega))⟩
theorem keeps_s {post : Int32 → Mem → Prop} {S : Mem} {v : Int32} {u : Nat} (hu : u ≤ 8) (h4 : S 10 0 4 = nI u)
    (h : ∀ S' : Mem, (∀ c, c ≠ 10 → c ≠ 14 → S' c = S c) → (∀ k, k ≠ 4 → S' 10 0 k = S 10 0 k) → S' 10 0 4 = nI (min 8 (u + 1)) → (∀ i, i < min 8 (u + 1) → ∀ k, k < 84 → keptR S' i k = newK S (S 12 0) u i k) → post v S') : mX6_keeps post S v := by
  unfold mX6_keeps
  rw [h4]
  refine ⟨fun g => ?_, fun g => ?_⟩
  · have hu8 : u < 8 := by
      rcases Nat.lt_or_ge u 8 with h | h
      · exact h
      · have : u = 8 := by omega
        subst this
        exact absurd rfl g
    refine keeps_b51_s hu8 S h4 (fun S' h1 h2 h3 h5 h6 => ?_)
    refine h S' h1 h2 (by rw [h3]; congr 1; omega) (fun i hi k hk => ?_)
    unfold newK keptR
    have hm : min 8 (u + 1) = u + 1 := by omega
    rw [hm] at hi ⊢
    by_cases hiu : i = u
    · subst hiu
      rw [if_pos rfl]
      exact h6 k hk
    · rw [if_neg (by omega), if_pos hu8]
      exact h5 _ (by omega)
  · have hu8 : u = 8 := (nI_eq (by omega) (by decide)).mp g
    subst hu8
    have loop : ∀ (m k : Nat) (T : Mem), k + m = 588 → (∀ c, c ≠ 14 → T c = S c) → (∀ i, i < 672 → T 14 0 i = if i < k then S 14 0 (84 + i) else S 14 0 i) → mX6_keeps_b11 post (m + 1) T v (nI k) := by
      intro m
      induction m with
      | zero =>
        intro k T hk h1 h2
        have hk : k = 588 := by omega
        subst hk
        unfold mX6_keeps_b11
        refine ⟨fun _ => fun S2 e => ?_, fun g => absurd (by decide) g⟩
        subst e
        have e4 : T 10 0 4 - 1 = nI 7 := by rw [h1 10 (by decide), h4]; rfl
        rw [e4]
        refine keeps_b51_s (u := 7) (by decide) _ wr_same (fun S' g1 g2 g3 g5 g6 => ?_)
        refine h S' (fun c c1 c2 => ?_) (fun k hk => ?_) g3 (fun i hi k hk => ?_)
        · rw [g1 c c1 c2, wr_c c1, h1 c c2]
        · rw [g2 k hk, wr_k hk, h1 10 (by decide)]
        · unfold newK keptR
          by_cases hi7 : i = 7
          · subst hi7
            rw [if_pos (by decide)]
            rw [g6 k hk, wr_c (by decide), h1 12 (by decide)]
          · have hi8 : i < 7 := by omega
            rw [if_neg (by omega), if_neg (by decide)]
            rw [g5 _ (by omega), wr_c (by decide), h2 _ (by omega), if_pos (by omega)]
            congr 1
            omega
      | succ m ih =>
        intro k T hk h1 h2
        have hk2 : k < 588 := by omega
        have hix : (84 : Int32) + nI k = nI (84 + k) := nI_add 84 k
        unfold mX6_keeps_b11
        rw [hix]
        refine ⟨fun g => absurd g (nI_ge (b := 588) hk2 (by decide)), fun _ => ⟨vpN (by omega) (by decide), vpN (by omega) (by decide), fun T' e x ex => ?_⟩⟩
        rw [nI_clamp (by omega), nI_clamp (by omega)] at e
        rw [ex, inc]
        subst e
        refine ih (k + 1) _ (by omega) (fun c c1 => by rw [wr_c c1]; exact h1 c c1) (fun i hi => ?_)
        by_cases hik : i = k
        · subst hik
          rw [wr_same, if_pos (by omega), h2 _ (by omega), if_neg (by omega)]
        · rw [wr_k hik, h2 i hi]
          by_cases hl : i < k
          · rw [if_pos hl, if_pos (by omega)]
          · rw [if_neg hl, if_neg (by omega)]
    exact ⟨589, loop 588 0 S (by omega) (fun _ _ => rfl) (fun i hi => by rw [if_neg (by omega)])⟩
/-- behind the class's keep, and whatever only the present ford sees -/
def Kept (S S1 : Mem) (u : Nat) : Prop :=
  (∀ c, c ≠ 0 → c ≠ 1 → c ≠ 2 → c ≠ 4 → S1 c = S c) ∧ (∀ R, RepX S 9 R → RepX S1 9 R) ∧ S1 4 0 2 = nI (min 8 (u + 1)) ∧ ∃ nx', nx' < 8 ∧ S1 4 0 1 = nI nx' ∧ ∀ i, i < min 8 (u + 1) → RepX S1 (ringJ nx' (min 8 (u + 1)) i) (newK S (S 11 0) u i)
theorem Kept.now {S S1 S2 : Mem} {u : Nat} (h : Kept S S1 u) (h2 : SameBut 0 S1 S2) : Kept S S2 u := by
  obtain ⟨a1, a2, a3, nx, a4, a5, a6⟩ := h
  refine ⟨fun c c0 c1 c2 c4 => (h2.1 c c0 c1 c2).trans (a1 c c0 c1 c2 c4), fun R hR => h2.rep (by decide) (a2 R hR), ?_, nx, a4, ?_, fun i hi => h2.rep (by unfold ringJ; omega) (a6 i hi)⟩
  · rw [h2.1 4 (by decide) (by decide) (by decide)]; exact a3
  · rw [h2.1 4 (by decide) (by decide) (by decide)]; exact a5
theorem keep_s {post : Mem → Prop} {S : Mem} (hI : Inv S) (h : ∀ (S1 : Mem) (u : Nat), u ≤ 8 → S 10 0 4 = nI u → Kept S S1 u → S1 0 0 = S 0 0 → S1 1 0 = S 1 0 → (∀ t, t < 8 → S1 2 t = S 2 t) → post S1) : mX1_keep post S 0 := by
  obtain ⟨hR, ⟨u, nx, a1, a2, a3, a4, a5, a6⟩, -⟩ := hI
  unfold mX1_keep
  rw [a5]
  refine ⟨vpN a2 (by decide), fun k e => ?_⟩
  rw [nI_clamp (by omega)] at e
  subst e
  refine copyFrom_s (R := S 11 0) (by omega) S hR (fun S1 hS h1 => ?_)
  have e41 : S1 4 0 1 = nI nx := by rw [hS.1 4 (by decide) (by decide) (by decide)]; exact a5
  have e42 : S1 4 0 2 = nI u := by rw [hS.1 4 (by decide) (by decide) (by decide)]; exact a4
  have fin1 : ∀ nx' : Nat, nx' < 8 → nx' = (nx + 1) % 8 → mX1_keep_b33 post S1 (nI nx') := by
    intro nx' hx' ex'
    unfold mX1_keep_b33
    intro S2 e2 S3 e3
    have e5 : (if (S2 4 0 2) + (1 : Int32) < (8 : Int32) then (S2 4 0 2) + (1 : Int32) else (8 : Int32)) = nI (min 8 (u + 1)) := by
      rw [e2, wr_k (by decide), e42, inc]
      by_cases hu : u + 1 < 8
      · rw [if_pos (show nI (u + 1) < (8 : Int32) from nI_lt (b := 8) hu (by decide)), Nat.min_eq_right (by omega)]
      · rw [if_neg (show ¬ nI (u + 1) < (8 : Int32) from nI_nlt (b := 8) (by omega) (by omega)), Nat.min_eq_left (by omega)]
        rfl
    rw [e5] at e3
    have hX : ∀ j R, RepX S1 j R → RepX S3 j R := fun j R hr => by
      subst e3 e2
      exact RepX.congr (by rw [wr_c (by decide), wr_c (by decide)]) (by rw [wr_c (by decide), wr_c (by decide)]) (fun t _ => by rw [wr_c (by decide), wr_c (by decide)]) hr
    refine h S3 u a1 a3 ⟨fun c c0 c1 c2 c4 => ?_, fun R hr => hX _ _ (hS.rep (by omega) hr), ?_, nx', hx', ?_, fun i hi => ?_⟩ ?_ ?_ ?_
    · subst e3 e2
      rw [wr_c c4, wr_c c4]
      exact hS.1 c c0 c1 c2
    · subst e3
      exact wr_same
    · subst e3 e2
      rw [wr_k (by decide)]
      exact wr_same
    · refine hX _ _ ?_
      unfold newK
      by_cases hl : i + 1 = min 8 (u + 1)
      · rw [if_pos hl]
        have : ringJ nx' (min 8 (u + 1)) i = nx + 1 := by unfold ringJ; omega
        rw [this]
        exact h1
      · rw [if_neg hl]
        by_cases hu : u < 8
        · rw [if_pos hu]
          have : ringJ nx' (min 8 (u + 1)) i = ringJ nx u i := by unfold ringJ; omega
          rw [this]
          exact hS.rep (by unfold ringJ; omega) (a6 i (by omega))
        · rw [if_neg hu]
          have : ringJ nx' (min 8 (u + 1)) i = ringJ nx u (i + 1) := by unfold ringJ; omega
          rw [this]
          exact hS.rep (by unfold ringJ; omega) (a6 (i + 1) (by omega))
    · subst e3 e2
      rw [wr_c (by decide), wr_c (by decide)]
      exact (hS.2.1 0 (by omega)).1
    · subst e3 e2
      rw [wr_c (by decide), wr_c (by decide)]
      exact (hS.2.1 0 (by omega)).2
    · intro t ht
      subst e3 e2
      rw [wr_c (by decide), wr_c (by decide)]
      have := hS.2.2 0 t (by omega) ht
      rw [Nat.mul_zero, Nat.zero_add] at this
      exact this
  rw [e41, inc]
  refine ⟨fun g => ?_, fun g => ?_⟩
  · have hn : nx = 7 := by
      rcases Nat.lt_or_ge nx 7 with h | h
      · exact absurd g (nI_ge (b := 7) h (by decide))
      · omega
    exact fin1 0 (by decide) (by omega)
  · have hn : nx ≠ 7 := fun e => g (by rw [e]; decide)
    exact fin1 (nx + 1) (by omega) (by omega)
/-- a change is done on both sides -/
theorem upd_inv {S S1 S2 : Mem} {u : Nat} (hI : Inv S) (hK : Kept S S1 u) (hc : ∀ c, c ≠ 10 → c ≠ 11 → c ≠ 12 → c ≠ 14 → S2 c = S1 c) (hk : ∀ k, k ≠ 4 → k ≠ 21 → S2 10 0 k = S1 10 0 k) (h4 : S2 10 0 4 = nI (min 8 (u + 1))) (hr : ∀ i, i < min 8 (u + 1) → ∀ k, k < 84 → keptR S2 i k = newK S (S 11 0) u i k) (h0 : RepX S1 0 (S2 11 0)) : Inv S2 := by
  obtain ⟨b1, b2, b3, nx', b4, b5, b6⟩ := hK
  obtain ⟨-, -, i3, i4, i5, i6, i7, i8⟩ := hI
  have e : ∀ c, c ≠ 0 → c ≠ 1 → c ≠ 2 → c ≠ 4 → c ≠ 10 → c ≠ 11 → c ≠ 12 → c ≠ 14 → S2 c = S c := fun c c0 c1 c2 c4 c10 c11 c12 c14 => (hc c c10 c11 c12 c14).trans (b1 c c0 c1 c2 c4)
  have e3 := e 3 (by decide) (by decide) (by decide) (by decide) (by decide) (by decide) (by decide) (by decide)
  have e6 := e 6 (by decide) (by decide) (by decide) (by decide) (by decide) (by decide) (by decide) (by decide)
  have e7 := e 7 (by decide) (by decide) (by decide) (by decide) (by decide) (by decide) (by decide) (by decide)
  have e8 := e 8 (by decide) (by decide) (by decide) (by decide) (by decide) (by decide) (by decide) (by decide)
  have e9 := e 9 (by decide) (by decide) (by decide) (by decide) (by decide) (by decide) (by decide) (by decide)
  have e15 := e 15 (by decide) (by decide) (by decide) (by decide) (by decide) (by decide) (by decide) (by decide)
  have e16 := e 16 (by decide) (by decide) (by decide) (by decide) (by decide) (by decide) (by decide) (by decide)
  have e17 := e 17 (by decide) (by decide) (by decide) (by decide) (by decide) (by decide) (by decide) (by decide)
  have e20 := e 20 (by decide) (by decide) (by decide) (by decide) (by decide) (by decide) (by decide) (by decide)
  have f : ∀ k, k ≠ 4 → k ≠ 21 → S2 10 0 k = S 10 0 k := fun k k4 k21 => (hk k k4 k21).trans (by rw [b1 10 (by decide) (by decide) (by decide) (by decide)])
  have hX : ∀ j R, RepX S1 j R → RepX S2 j R := fun j R h => RepX.congr (by rw [hc 0 (by decide) (by decide) (by decide) (by decide)]) (by rw [hc 1 (by decide) (by decide) (by decide) (by decide)]) (fun t _ => by rw [hc 2 (by decide) (by decide) (by decide) (by decide)]) h
  refine ⟨hX _ _ h0, ⟨min 8 (u + 1), nx', by omega, b4, h4, ?_, ?_, fun i hi => (hX _ _ (b6 i hi)).row (hr i hi)⟩, ⟨?_, ?_⟩, ?_, ?_, ?_, ?_, ?_⟩
  · rw [hc 4 (by decide) (by decide) (by decide) (by decide)]; exact b3
  · rw [hc 4 (by decide) (by decide) (by decide) (by decide)]; exact b5
  · rw [e3, f 6 (by decide) (by decide)]; exact i3.1
  · rw [f 6 (by decide) (by decide), e15]
    exact i3.2.imp id (fun h => ⟨h.1, hX _ _ (b2 _ h.2)⟩)
  · unfold Text
    rw [e6, f 10 (by decide) (by decide), e7, e17]
    exact i4
  · unfold Answ
    rw [e3, f 17 (by decide) (by decide), e8, e20]
    exact i5
  · unfold Fault
    rw [e3, f 18 (by decide) (by decide)]
    exact i6
  · unfold Refu
    rw [e3, f 19 (by decide) (by decide), f 20 (by decide) (by decide)]
    exact i7
  · unfold Line
    rw [e3, f 8 (by decide) (by decide), e9, e16]
    exact i8
