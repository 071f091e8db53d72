/-! type, undo, save, restore -/
theorem RepX.c3 {S S' : Mem} {j : Nat} {R : Row} (h0 : S' 0 = S 0) (h1 : S' 1 = S 1) (h2 : S' 2 = S 2) (h : RepX S j R) : RepX S' j R := h.congr (by rw [h0]) (by rw [h1]) (fun t _ => by rw [h2])
theorem Hist.c {S S' : Mem} (h0 : S' 0 = S 0) (h1 : S' 1 = S 1) (h2 : S' 2 = S 2) (h4 : S' 4 = S 4) (h14 : S' 14 = S 14) (h10 : S' 10 0 4 = S 10 0 4) (h : Hist S) : Hist S' := by
  obtain ⟨u, nx, a1, a2, a3, a4, a5, a6⟩ := h
  refine ⟨u, nx, a1, a2, by rw [h10]; exact a3, by rw [h4]; exact a4, by rw [h4]; exact a5, fun i hi => ?_⟩
  have := (a6 i hi).c3 h0 h1 h2
  unfold keptR at this ⊢
  rw [h14]
  exact this
theorem Snap.c {S S' : Mem} (h0 : S' 0 = S 0) (h1 : S' 1 = S 1) (h2 : S' 2 = S 2) (h3 : S' 3 0 3 = S 3 0 3) (h15 : S' 15 = S 15) (h10 : S' 10 0 6 = S 10 0 6) (h : Snap S) : Snap S' := by
  refine ⟨by rw [h3, h10]; exact h.1, ?_⟩
  rw [h10, h15]
  exact h.2.imp id (fun q => ⟨q.1, q.2.c3 h0 h1 h2⟩)
theorem Text.c {S S' : Mem} (h6 : S' 6 0 1 = S 6 0 1) (h7 : S' 7 = S 7) (h17 : S' 17 = S 17) (h10 : S' 10 0 10 = S 10 0 10) (h : Text S) : Text S' := by
  unfold Text
  rw [h6, h7, h17, h10]
  exact h
theorem Answ.c {S S' : Mem} (h3 : S' 3 0 7 = S 3 0 7) (h8 : S' 8 = S 8) (h20 : S' 20 = S 20) (h10 : S' 10 0 17 = S 10 0 17) (h : Answ S) : Answ S' := by
  unfold Answ
  rw [h3, h8, h20, h10]
  exact h
theorem Fault.c {S S' : Mem} (h3 : S' 3 0 5 = S 3 0 5) (h10 : S' 10 0 18 = S 10 0 18) (h : Fault S) : Fault S' := by
  unfold Fault
  rw [h3, h10]
  exact h
theorem Refu.c {S S' : Mem} (h3 : S' 3 0 8 = S 3 0 8) (h4 : S' 3 0 9 = S 3 0 9) (h10 : S' 10 0 19 = S 10 0 19) (h11 : S' 10 0 20 = S 10 0 20) (h : Refu S) : Refu S' := by
  unfold Refu
  rw [h3, h4, h10, h11]
  exact h
theorem Line.c {S S' : Mem} (h3 : S' 3 0 11 = S 3 0 11) (h9 : S' 9 = S 9) (h16 : S' 16 = S 16) (h10 : S' 10 0 8 = S 10 0 8) (h : Line S) : Line S' := by
  unfold Line
  rw [h3, h9, h16, h10]
  exact h
theorem isC_i2c (y : Int32) : isC ((y.toUInt32 % 65536).toInt32) := by
  have e : (y.toUInt32 % 65536).toUInt16.toUInt32 = y.toUInt32 % 65536 := by
    apply UInt32.toNat_inj.mp
    simp
  unfold isC
  show Value.int ((y.toUInt32 % 65536).toUInt16.toUInt32.toInt32) = _
  rw [e]
theorem k_type {S : Mem} {f : Nat → Int64} {g : Nat → UInt64} {x1 x2 : Int32} (h : Inv S) : lawC19 (fun S1 _ _ => Inv S1) S f g x1 x2 := by
  obtain ⟨i1, i2, i3, ⟨k, hk, a1, a2, a3⟩, i5, i6, i7, i8⟩ := id h
  have hC := isC_i2c x1
  unfold lawC19
  generalize (x1.toUInt32 % 65536).toInt32 = v at hC ⊢
  unfold mL_type mX5_type mX2_isFull
  rw [a1]
  refine ⟨fun g1 => ⟨fun _ => ?_, fun g => absurd rfl g⟩, fun g1 => ⟨fun g => ne10 g, fun _ => ⟨rfl, ?_⟩⟩⟩
  · have hk2 : k < 60 := (nI_ltI (b := 60) (by omega) (by decide)).mp g1
    unfold mX2_append
    rw [a1]
    refine ⟨fun g2 => absurd g2 (nI_ge (b := 60) hk2 (by decide)), fun _ => ⟨vpN hk2 (by decide), hC, fun S4 e4 S5 e5 => ?_⟩⟩
    rw [nI_clamp (by omega)] at e4
    have e46 : S4 6 0 1 = nI k := by rw [e4, wr_c (by decide)]; exact a1
    rw [e46, inc] at e5
    have b10 : S5 10 = S 10 := by rw [e5, e4, wr_c (by decide), wr_c (by decide)]
    unfold mX6_type
    intro S6 e6
    have b6 : S6 10 0 10 = nI k := by rw [e6, thr_k (by decide), b10]; exact a2
    rw [b6]
    refine ⟨fun _ x3 ex S7 e7 => ?_, fun g3 => absurd ((nI_eq (b := 60) (by omega) (by decide)).mp g3) (by omega)⟩
    subst ex
    refine ⟨vpN hk2 (by decide), hC, fun S8 e8 => ?_⟩
    rw [nI_clamp (by omega)] at e8
    rw [inc] at e7
    unfold mX6_thrown
    have ec : ∀ c, c ≠ 6 → c ≠ 7 → c ≠ 10 → c ≠ 17 → S8 c = S c := fun c c6 c7 c10 c17 => by rw [e8, wr_c c17, e7, wr_c c10, e6, wr_c c10, e5, wr_c c6, e4, wr_c c7]
    have ek : ∀ q, q ≠ 10 → q ≠ 21 → S8 10 0 q = S 10 0 q := fun q q10 q21 => by rw [e8, wr_c (by decide), e7, wr_k q10, e6, wr_k q21, b10]
    have h0 := ec 0 (by decide) (by decide) (by decide) (by decide)
    have h1 := ec 1 (by decide) (by decide) (by decide) (by decide)
    have h2 := ec 2 (by decide) (by decide) (by decide) (by decide)
    have h3 := ec 3 (by decide) (by decide) (by decide) (by decide)
    have s6 : S8 6 0 1 = nI (k + 1) := by rw [e8, wr_c (by decide), e7, wr_c (by decide), e6, wr_c (by decide), e5, wr_same]
    have s10 : S8 10 0 10 = nI (k + 1) := by rw [e8, wr_c (by decide), e7, wr_same]
    refine ⟨by rw [e8, wr_c (by decide), e7, wr_k (by decide), e6, thr_get], fun _ => by rw [updL0, s10, e5, wr_same], ?_⟩
    refine ⟨by rw [ec 11 (by decide) (by decide) (by decide) (by decide)]; exact i1.c3 h0 h1 h2, i2.c h0 h1 h2 (ec 4 (by decide) (by decide) (by decide) (by decide)) (ec 14 (by decide) (by decide) (by decide) (by decide)) (ek 4 (by decide) (by decide)), i3.c h0 h1 h2 (by rw [h3]) (ec 15 (by decide) (by decide) (by decide) (by decide)) (ek 6 (by decide) (by decide)), ⟨k + 1, by omega, s6, s10, fun i hi => ?_⟩, i5.c (by rw [h3]) (ec 8 (by decide) (by decide) (by decide) (by decide)) (ec 20 (by decide) (by decide) (by decide) (by decide)) (ek 17 (by decide) (by decide)), i6.c (by rw [h3]) (ek 18 (by decide) (by decide)), i7.c (by rw [h3]) (by rw [h3]) (ek 19 (by decide) (by decide)) (ek 20 (by decide) (by decide)), i8.c (by rw [h3]) (ec 9 (by decide) (by decide) (by decide) (by decide)) (ec 16 (by decide) (by decide) (by decide) (by decide)) (ek 8 (by decide) (by decide))⟩
    have s7 : ∀ i, S8 7 0 i = wr S 7 0 k v 7 0 i := fun i => by rw [e8, wr_c (by decide), e7, wr_c (by decide), e6, wr_c (by decide), e5, wr_c (by decide), e4]
    have s17 : ∀ i, i ≠ k → S8 17 0 i = S 17 0 i := fun i hik => by rw [e8, wr_k hik, e7, wr_c (by decide), e6, wr_c (by decide), e5, wr_c (by decide), e4, wr_c (by decide)]
    rw [s7]
    by_cases hik : i = k
    · subst hik
      rw [wr_same, e8, wr_same]
    · rw [wr_k hik, s17 i hik]
      exact a3 i (by omega)
  · have hk2 : k = 60 := by
      have := mt (nI_ltI (a := k) (b := 60) (by omega) (by decide)).mpr g1
      omega
    subst hk2
    unfold mX6_type
    intro S6 e6
    subst e6
    rw [thr_k (by decide), a2]
    exact ⟨fun g => absurd rfl g, fun _ => s_raises (fin (h.thr 0) rfl ne10)⟩
theorem undo_b30_s {post : Int32 → Mem → Prop} {u : Nat} (hu : u < 8) (T : Mem) (h4 : T 10 0 4 = nI u) (h : ∀ S' : Mem, (∀ c, c ≠ 11 → S' c = T c) → (∀ k, k < 84 → S' 11 0 k = keptR T u k) → post (nI u) S') : ∃ fu : Nat, mX6_undo_b30 post fu T 0 := by
  have loop : ∀ (m k : Nat) (S : Mem), k + m = 84 → (∀ c, c ≠ 11 → S c = T c) → (∀ i, i < k → S 11 0 i = keptR T u i) → mX6_undo_b30 post (m + 1) S (nI k) := by
    intro m
    induction m with
    | zero =>
      intro k S hk h1 h2
      have hk : k = 84 := by omega
      subst hk
      unfold mX6_undo_b30
      rw [h1 10 (by decide), h4]
      exact ⟨fun _ => h S h1 h2, fun g => absurd (by decide) g⟩
    | succ m ih =>
      intro k S hk h1 h2
      have hk2 : k < 84 := by omega
      have hix : ((84 : Int32) * (S 10 0 4)) + nI k = nI (84 * u + k) := by
        rw [h1 10 (by decide), h4, show (84 : Int32) = nI 84 from rfl, pk_mul, nI_add]
      unfold mX6_undo_b30
      rw [hix]
      refine ⟨fun g => absurd g (nI_ge (b := 84) hk2 (by decide)), fun _ => ⟨vpN (by omega) (by decide), vpN hk2 (by decide), fun T' e x ex => ?_⟩⟩
      rw [nI_clamp (by omega), nI_clamp (by omega)] at e
      rw [ex, inc]
      subst e
      refine ih (k + 1) _ (by omega) (fun c c1 => by rw [wr_c c1]; exact h1 c c1) (fun i hi => ?_)
      by_cases hik : i = k
      · subst hik
        rw [wr_same, h1 14 (by decide)]
        rfl
      · rw [wr_k hik]
        exact h2 i (by omega)
  exact ⟨85, loop 84 0 T (by omega) (fun _ _ => rfl) (fun i hi => absurd hi (by omega))⟩
theorem k_undo {S : Mem} {f : Nat → Int64} {g : Nat → UInt64} {x1 x2 : Int32} (h : Inv S) : lawC30 (fun S1 _ _ => Inv S1) S f g x1 x2 := by
  obtain ⟨i1, ⟨u, nx, a1, a2, a3, a4, a5, a6⟩, i3, i4, i5, i6, i7, i8⟩ := id h
  unfold lawC30 mL_undo mX5_undo
  rw [a4]
  refine ⟨fun g1 => ?_, fun g1 => ⟨rfl, ?_⟩⟩
  · obtain ⟨v, rfl⟩ : ∃ v, u = v + 1 := ⟨u - 1, by have : u ≠ 0 := fun e => g1 (by rw [e]; rfl); omega⟩
    have body : ∀ nx' : Nat, nx' < 8 → nx' = (nx + 7) % 8 → mX1_takeBack_b19 (fun (S2 : Mem) => mX6_undo (fun (r4 : Int32) (S5 : Mem) => mX6_thrown (fun (r6 : Int32) (S7 : Mem) => r6 = 0 ∧ ((0 : Int32) = 0 → (vp_updL f 0 (S2 4 0 2).toInt64) 0 = r4.toInt64) ∧ Inv S7) S5) S2) S 0 (nI nx') := by
      intro nx' hx ex
      unfold mX1_takeBack_b19
      intro S1 e1
      rw [e1, wr_same]
      refine ⟨vpN hx (by decide), fun k3 ek => ?_⟩
      rw [nI_clamp (by omega)] at ek
      subst ek
      have hX1 : ∀ j R, RepX S j R → RepX (wr S 4 0 1 (nI nx')) j R := fun j R q => q.c3 (wr_c (by decide)) (wr_c (by decide)) (wr_c (by decide))
      have hlast : RepX (wr S 4 0 1 (nI nx')) (nx' + 1) (keptR S v) := by
        have := hX1 _ _ (a6 v (by omega))
        have e : ringJ nx (v + 1) v = nx' + 1 := by unfold ringJ; omega
        rw [e] at this
        exact this
      refine copyFrom_s (R := keptR S v) (by omega) _ hlast (fun S4 hS hR => ?_)
      intro S6 e6
      have e42 : S4 4 0 2 = nI (v + 1) := by rw [hS.1 4 (by decide) (by decide) (by decide), wr_k (by decide)]; exact a4
      rw [e42, nI_pred] at e6
      have q : ∀ c, c ≠ 0 → c ≠ 1 → c ≠ 2 → c ≠ 4 → S6 c = S c := fun c c0 c1 c2 c4 => by rw [e6, wr_c c4, hS.1 c c0 c1 c2, wr_c c4]
      have q10 := q 10 (by decide) (by decide) (by decide) (by decide)
      unfold mX6_undo
      intro S7 e7
      have e74 : S7 10 0 4 = nI (v + 1) := by rw [e7, thr_k (by decide), q10]; exact a3
      rw [e74]
      refine ⟨fun _ S8 e8 => ?_, fun g => absurd g g1⟩
      rw [nI_pred] at e8
      refine undo_b30_s (u := v) (by omega) S8 (by rw [e8, wr_same]) (fun S9 h1 h2 => ?_)
      have ec : ∀ c, c ≠ 10 → c ≠ 11 → S9 c = S6 c := fun c c10 c11 => by rw [h1 c c11, e8, wr_c c10, e7, wr_c c10]
      have ek : ∀ k, k ≠ 4 → k ≠ 21 → S9 10 0 k = S 10 0 k := fun k k4 k21 => by rw [h1 10 (by decide), e8, wr_k k4, e7, wr_k k21, q10]
      have ec' : ∀ c, c ≠ 0 → c ≠ 1 → c ≠ 2 → c ≠ 4 → c ≠ 10 → c ≠ 11 → S9 c = S c := fun c c0 c1 c2 c4 c10 c11 => (ec c c10 c11).trans (q c c0 c1 c2 c4)
      have hX : ∀ j R, RepX S4 j R → RepX S9 j R := fun j R r => r.c3 (by rw [ec 0 (by decide) (by decide), e6, wr_c (by decide)]) (by rw [ec 1 (by decide) (by decide), e6, wr_c (by decide)]) (by rw [ec 2 (by decide) (by decide), e6, wr_c (by decide)])
      have hX0 : ∀ j R, j ≠ 0 → RepX S j R → RepX S9 j R := fun j R hj r => hX j R (hS.rep hj (hX1 j R r))
      have s3 := ec' 3 (by decide) (by decide) (by decide) (by decide) (by decide) (by decide)
      have s14 := ec' 14 (by decide) (by decide) (by decide) (by decide) (by decide) (by decide)
      unfold mX6_thrown
      refine ⟨by rw [h1 10 (by decide), e8, wr_k (by decide), e7, thr_get], fun _ => by rw [updL0, e6, wr_same], ?_⟩
      refine ⟨(hX 0 _ hR).row (fun k hk => ?_), ⟨v, nx', by omega, hx, ?_, ?_, ?_, fun i hi => ?_⟩, ⟨?_, ?_⟩, ?_, ?_, ?_, ?_, ?_⟩
      · rw [h2 k hk]
        unfold keptR
        rw [e8, wr_c (by decide), e7, wr_c (by decide), q 14 (by decide) (by decide) (by decide) (by decide)]
      · rw [h1 10 (by decide), e8, wr_same]
      · rw [ec 4 (by decide) (by decide), e6, wr_same]
      · rw [ec 4 (by decide) (by decide), e6, wr_k (by decide), hS.1 4 (by decide) (by decide) (by decide), wr_same]
      · have e : ringJ nx' v i = ringJ nx (v + 1) i := by unfold ringJ; omega
        rw [e]
        have := hX0 _ _ (by unfold ringJ; omega) (a6 i (by omega))
        unfold keptR at this ⊢
        rw [s14]
        exact this
      · rw [s3, ek 6 (by decide) (by decide)]; exact i3.1
      · rw [ek 6 (by decide) (by decide), ec' 15 (by decide) (by decide) (by decide) (by decide) (by decide) (by decide)]
        exact i3.2.imp id (fun r => ⟨r.1, hX0 9 _ (by decide) r.2⟩)
      · exact i4.c (by rw [ec' 6 (by decide) (by decide) (by decide) (by decide) (by decide) (by decide)]) (ec' 7 (by decide) (by decide) (by decide) (by decide) (by decide) (by decide)) (ec' 17 (by decide) (by decide) (by decide) (by decide) (by decide) (by decide)) (ek 10 (by decide) (by decide))
      · exact i5.c (by rw [s3]) (ec' 8 (by decide) (by decide) (by decide) (by decide) (by decide) (by decide)) (ec' 20 (by decide) (by decide) (by decide) (by decide) (by decide) (by decide)) (ek 17 (by decide) (by decide))
      · exact i6.c (by rw [s3]) (ek 18 (by decide) (by decide))
      · exact i7.c (by rw [s3]) (by rw [s3]) (ek 19 (by decide) (by decide)) (ek 20 (by decide) (by decide))
      · exact i8.c (by rw [s3]) (ec' 9 (by decide) (by decide) (by decide) (by decide) (by decide) (by decide)) (ec' 16 (by decide) (by decide) (by decide) (by decide) (by decide) (by decide)) (ek 8 (by decide) (by decide))
    unfold mX1_takeBack
    rw [a5]
    refine ⟨fun g2 => ?_, fun g2 => ?_⟩
    · have hn : nx = 0 := by
        rcases Nat.eq_zero_or_pos nx with q | q
        · exact q
        · exact absurd g2 (nI_ge (a := 0) q (by omega))
      exact body 7 (by decide) (by omega)
    · obtain ⟨w, rfl⟩ : ∃ w, nx = w + 1 := ⟨nx - 1, by have : nx ≠ 0 := fun e => g2 (by rw [e]; decide); omega⟩
      rw [nI_pred]
      exact body w (by omega) (by omega)
  · unfold mX6_undo
    intro S1 e
    subst e
    rw [thr_k (by decide), a3]
    exact ⟨fun g => absurd g1 g, fun _ => s_raises (fin (h.thr 0) rfl ne10)⟩
theorem save_b12_s {post : Int32 → Mem → Prop} (T : Mem) (h : ∀ S' : Mem, (∀ c, c ≠ 15 → S' c = T c) → (∀ k, k < 84 → S' 15 0 k = T 11 0 k) → post (T 11 0 0) S') : ∃ fu : Nat, mX6_save_b12 post fu T 0 := by
  have loop : ∀ (m k : Nat) (S : Mem), k + m = 84 → (∀ c, c ≠ 15 → S c = T c) → (∀ i, i < k → S 15 0 i = T 11 0 i) → mX6_save_b12 post (m + 1) S (nI k) := by
    intro m
    induction m with
    | zero =>
      intro k S hk h1 h2
      have hk : k = 84 := by omega
      subst hk
      unfold mX6_save_b12
      rw [h1 11 (by decide), c0]
      exact ⟨fun _ => ⟨vpL rfl, h S h1 h2⟩, fun g => absurd (by decide) g⟩
    | succ m ih =>
      intro k S hk h1 h2
      have hk2 : k < 84 := by omega
      unfold mX6_save_b12
      refine ⟨fun g => absurd g (nI_ge (b := 84) hk2 (by decide)), fun _ => ⟨vpN hk2 (by decide), vpN hk2 (by decide), fun T' e x ex => ?_⟩⟩
      rw [nI_clamp (by omega)] at e
      rw [ex, inc]
      subst e
      refine ih (k + 1) _ (by omega) (fun c c1 => by rw [wr_c c1]; exact h1 c c1) (fun i hi => ?_)
      by_cases hik : i = k
      · subst hik
        rw [wr_same, h1 11 (by decide)]
      · rw [wr_k hik]
        exact h2 i (by omega)
  exact ⟨85, loop 84 0 T (by omega) (fun _ _ => rfl) (fun i hi => absurd hi (by omega))⟩
theorem k_save {S : Mem} {f : Nat → Int64} {g : Nat → UInt64} {x1 x2 : Int32} (h : Inv S) : lawC31 (fun S1 _ _ => Inv S1) S f g x1 x2 := by
  obtain ⟨i1, ⟨u, nx, a1, a2, a3, a4, a5, a6⟩, i3, i4, i5, i6, i7, i8⟩ := id h
  unfold lawC31 mX5_save
  refine copyFrom_s (by decide) S i1 (fun S1 hS hR => ?_)
  intro S3 e3
  have q : ∀ c, c ≠ 0 → c ≠ 1 → c ≠ 2 → c ≠ 3 → S3 c = S c := fun c z0 z1 z2 z3 => by rw [e3, wr_c z3, hS.1 c z0 z1 z2]
  unfold mX6_save
  intro S4 e4 S5 e5
  refine save_b12_s S5 (fun S6 h1 h2 => ?_)
  have ec : ∀ c, c ≠ 10 → c ≠ 15 → S6 c = S3 c := fun c z10 z15 => by rw [h1 c z15, e5, wr_c z10, e4, wr_c z10]
  have ec' : ∀ c, c ≠ 0 → c ≠ 1 → c ≠ 2 → c ≠ 3 → c ≠ 10 → c ≠ 15 → S6 c = S c := fun c z0 z1 z2 z3 z10 z15 => (ec c z10 z15).trans (q c z0 z1 z2 z3)
  have ek : ∀ k, k ≠ 6 → k ≠ 21 → S6 10 0 k = S 10 0 k := fun k k6 k21 => by rw [h1 10 (by decide), e5, wr_k k6, e4, wr_k k21, q 10 (by decide) (by decide) (by decide) (by decide)]
  have e3k : ∀ k, k ≠ 3 → S6 3 0 k = S 3 0 k := fun k hk => by rw [ec 3 (by decide) (by decide), e3, wr_k hk, hS.1 3 (by decide) (by decide) (by decide)]
  have hX : ∀ j R, RepX S1 j R → RepX S6 j R := fun j R r => r.c3 (by rw [ec 0 (by decide) (by decide), e3, wr_c (by decide)]) (by rw [ec 1 (by decide) (by decide), e3, wr_c (by decide)]) (by rw [ec 2 (by decide) (by decide), e3, wr_c (by decide)])
  have hX0 : ∀ j R, j ≠ 9 → RepX S j R → RepX S6 j R := fun j R hj r => hX j R (hS.rep hj r)
  have s11 := ec' 11 (by decide) (by decide) (by decide) (by decide) (by decide) (by decide)
  obtain ⟨n, hR0⟩ := i1
  refine ⟨?_, ?_, ⟨u, nx, a1, a2, ?_, ?_, ?_, fun i hi => ?_⟩, ⟨?_, Or.inr ⟨?_, ?_⟩⟩, ?_, ?_, ?_, ?_, ?_⟩
  · rw [e5, wr_c (by decide), e4, wr_c (by decide), q 11 (by decide) (by decide) (by decide) (by decide), e3, wr_c (by decide), (hS.2.1 0 (by decide)).1]
    exact hR0.2.2.1
  · rw [s11]; exact hX0 0 _ (by decide) ⟨n, hR0⟩
  · rw [ek 4 (by decide) (by decide)]; exact a3
  · rw [ec' 4 (by decide) (by decide) (by decide) (by decide) (by decide) (by decide)]; exact a4
  · rw [ec' 4 (by decide) (by decide) (by decide) (by decide) (by decide) (by decide)]; exact a5
  · have := hX0 _ _ (by unfold ringJ; omega) (a6 i hi)
    unfold keptR at this ⊢
    rw [ec' 14 (by decide) (by decide) (by decide) (by decide) (by decide) (by decide)]
    exact this
  · rw [ec 3 (by decide) (by decide), e3, wr_same, h1 10 (by decide), e5, wr_same]
  · rw [h1 10 (by decide), e5, wr_same]
  · refine (hX 9 _ hR).row (fun k hk => ?_)
    rw [h2 k hk, e5, wr_c (by decide), e4, wr_c (by decide), q 11 (by decide) (by decide) (by decide) (by decide)]
  · exact i4.c (by rw [ec' 6 (by decide) (by decide) (by decide) (by decide) (by decide) (by decide)]) (ec' 7 (by decide) (by decide) (by decide) (by decide) (by decide) (by decide)) (ec' 17 (by decide) (by decide) (by decide) (by decide) (by decide) (by decide)) (ek 10 (by decide) (by decide))
  · exact i5.c (e3k 7 (by decide)) (ec' 8 (by decide) (by decide) (by decide) (by decide) (by decide) (by decide)) (ec' 20 (by decide) (by decide) (by decide) (by decide) (by decide) (by decide)) (ek 17 (by decide) (by decide))
  · exact i6.c (e3k 5 (by decide)) (ek 18 (by decide) (by decide))
  · exact i7.c (e3k 8 (by decide)) (e3k 9 (by decide)) (ek 19 (by decide) (by decide)) (ek 20 (by decide) (by decide))
  · exact i8.c (e3k 11 (by decide)) (ec' 9 (by decide) (by decide) (by decide) (by decide) (by decide) (by decide)) (ec' 16 (by decide) (by decide) (by decide) (by decide) (by decide) (by decide)) (ek 8 (by decide) (by decide))
theorem restore_b20_s {post : Int32 → Mem → Prop} (T : Mem) (h : ∀ S' : Mem, (∀ c, c ≠ 10 → c ≠ 11 → S' c = T c) → (∀ k, k ≠ 4 → S' 10 0 k = T 10 0 k) → S' 10 0 4 = 0 → (∀ k, k < 84 → S' 11 0 k = T 15 0 k) → post (T 15 0 0) S') : ∃ fu : Nat, mX6_restore_b20 post fu T 0 := by
  have loop : ∀ (m k : Nat) (S : Mem), k + m = 84 → (∀ c, c ≠ 11 → S c = T c) → (∀ i, i < k → S 11 0 i = T 15 0 i) → mX6_restore_b20 post (m + 1) S (nI k) := by
    intro m
    induction m with
    | zero =>
      intro k S hk h1 h2
      have hk : k = 84 := by omega
      subst hk
      unfold mX6_restore_b20
      refine ⟨fun _ S2 e2 => ⟨vpL rfl, ?_⟩, fun g => absurd (by decide) g⟩
      rw [c0, e2, wr_c (by decide), h2 0 (by decide)]
      exact h _ (fun c z10 z11 => by rw [wr_c z10]; exact h1 c z11) (fun k hk => by rw [wr_k hk, h1 10 (by decide)]) wr_same (fun k hk => by rw [wr_c (by decide)]; exact h2 k hk)
    | succ m ih =>
      intro k S hk h1 h2
      have hk2 : k < 84 := by omega
      unfold mX6_restore_b20
      refine ⟨fun g => absurd g (nI_ge (b := 84) hk2 (by decide)), fun _ => ⟨vpN hk2 (by decide), vpN hk2 (by decide), fun T' e x ex => ?_⟩⟩
      rw [nI_clamp (by omega)] at e
      rw [ex, inc]
      subst e
      refine ih (k + 1) _ (by omega) (fun c z1 => by rw [wr_c z1]; exact h1 c z1) (fun i hi => ?_)
      by_cases hik : i = k
      · subst hik
        rw [wr_same, h1 15 (by decide)]
      · rw [wr_k hik]
        exact h2 i (by omega)
  exact ⟨85, loop 84 0 T (by omega) (fun _ _ => rfl) (fun i hi => absurd hi (by omega))⟩
theorem k_restore {S : Mem} {f : Nat → Int64} {g : Nat → UInt64} {x1 x2 : Int32} (h : Inv S) : lawC32 (fun S1 _ _ => Inv S1) S f g x1 x2 := by
  obtain ⟨i1, ⟨u, nx, a1, a2, a3, a4, a5, a6⟩, i3, i4, i5, i6, i7, i8⟩ := id h
  unfold lawC32 mL_restore mX5_restore
  rw [i3.1]
  refine ⟨fun g1 => ?_, fun g1 => ⟨rfl, ?_⟩⟩
  · obtain ⟨s1, s9⟩ := i3.2.resolve_left g1
    refine copyFrom_s (by decide) S s9 (fun S1 hS hR => ?_)
    unfold mX1_forget
    intro S3 e3
    have q : ∀ c, c ≠ 0 → c ≠ 1 → c ≠ 2 → c ≠ 4 → S3 c = S c := fun c z0 z1 z2 z4 => by rw [e3, wr_c z4, hS.1 c z0 z1 z2]
    unfold mX6_restore
    intro S4 e4
    have e46 : S4 10 0 6 = S 10 0 6 := by rw [e4, thr_k (by decide), q 10 (by decide) (by decide) (by decide) (by decide)]
    rw [e46]
    refine ⟨fun _ => restore_b20_s S4 (fun S6 h1 hk h4 h2 => ?_), fun g => absurd g g1⟩
    have ec : ∀ c, c ≠ 10 → c ≠ 11 → S6 c = S3 c := fun c z10 z11 => by rw [h1 c z10 z11, e4, wr_c z10]
    have ec' : ∀ c, c ≠ 0 → c ≠ 1 → c ≠ 2 → c ≠ 4 → c ≠ 10 → c ≠ 11 → S6 c = S c := fun c z0 z1 z2 z4 z10 z11 => (ec c z10 z11).trans (q c z0 z1 z2 z4)
    have ek : ∀ k, k ≠ 4 → k ≠ 21 → S6 10 0 k = S 10 0 k := fun k k4 k21 => by rw [hk k k4, e4, wr_k k21, q 10 (by decide) (by decide) (by decide) (by decide)]
    have hX : ∀ j R, RepX S1 j R → RepX S6 j R := fun j R r => r.c3 (by rw [ec 0 (by decide) (by decide), e3, wr_c (by decide)]) (by rw [ec 1 (by decide) (by decide), e3, wr_c (by decide)]) (by rw [ec 2 (by decide) (by decide), e3, wr_c (by decide)])
    have s3 := ec' 3 (by decide) (by decide) (by decide) (by decide) (by decide) (by decide)
    have s15 := ec' 15 (by decide) (by decide) (by decide) (by decide) (by decide) (by decide)
    have e415 : S4 15 = S 15 := by rw [e4, wr_c (by decide), q 15 (by decide) (by decide) (by decide) (by decide)]
    unfold mX6_thrown
    refine ⟨by rw [hk 21 (by decide), e4, thr_get], fun _ => ?_, ?_⟩
    · rw [updL0, e415, e3, wr_c (by decide)]
      obtain ⟨n, hR'⟩ := hR
      rw [hR'.2.2.1]
    · refine ⟨(hX 0 _ hR).row (fun k hk2 => by rw [h2 k hk2, e415]), ⟨0, nx, by omega, a2, h4, ?_, ?_, fun i hi => absurd hi (by omega)⟩, ⟨?_, ?_⟩, ?_, ?_, ?_, ?_, ?_⟩
      · rw [ec 4 (by decide) (by decide), e3, wr_same]; rfl
      · rw [ec 4 (by decide) (by decide), e3, wr_k (by decide), hS.1 4 (by decide) (by decide) (by decide)]; exact a5
      · rw [s3, ek 6 (by decide) (by decide)]; exact i3.1
      · rw [ek 6 (by decide) (by decide), s15]
        exact Or.inr ⟨s1, hX 9 _ (hS.rep (by decide) s9)⟩
      · exact i4.c (by rw [ec' 6 (by decide) (by decide) (by decide) (by decide) (by decide) (by decide)]) (ec' 7 (by decide) (by decide) (by decide) (by decide) (by decide) (by decide)) (ec' 17 (by decide) (by decide) (by decide) (by decide) (by decide) (by decide)) (ek 10 (by decide) (by decide))
      · exact i5.c (by rw [s3]) (ec' 8 (by decide) (by decide) (by decide) (by decide) (by decide) (by decide)) (ec' 20 (by decide) (by decide) (by decide) (by decide) (by decide) (by decide)) (ek 17 (by decide) (by decide))
      · exact i6.c (by rw [s3]) (ek 18 (by decide) (by decide))
      · exact i7.c (by rw [s3]) (by rw [s3]) (ek 19 (by decide) (by decide)) (ek 20 (by decide) (by decide))
      · exact i8.c (by rw [s3]) (ec' 9 (by decide) (by decide) (by decide) (by decide) (by decide) (by decide)) (ec' 16 (by decide) (by decide) (by decide) (by decide) (by decide) (by decide)) (ek 8 (by decide) (by decide))
  · unfold mX6_restore
    intro S1 e
    subst e
    rw [thr_k (by decide)]
    exact ⟨fun g => absurd g1 g, fun _ => s_raises (fin (h.thr 0) rfl ne10)⟩
