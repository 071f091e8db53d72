/-! travellers: traveller, setOut, stop, go, leave -/
theorem WFT.congr {r r' : Row} (h : ∀ f, f < 8 → r' f = r f) (w : WFT r) : WFT r' := by
  unfold WFT at w ⊢
  rw [h 0 (by decide), h 1 (by decide), h 2 (by decide), h 3 (by decide), h 4 (by decide), h 5 (by decide), h 7 (by decide)]
  exact w
theorem ctF.congr {r r' : Row} (h : ∀ f, f < 8 → r' f = r f) {f : Nat} (hf : f < 8) : ctF r' f = ctF r f := by
  unfold ctF wayF
  rw [h 3 (by decide), h 4 (by decide), h 2 (by decide), h f hf]
theorem RepC.setT {S S' : Mem} {R R' : Row} {n t : Nat} (h : RepC S 0 R n) (ht : t < n) (hS : ∀ c, c ≠ 2 → S' c = S c) (hS2 : ∀ i, i ≠ t → S' 2 i = S 2 i) (hR : ∀ k, ¬ (20 + 8 * t ≤ k ∧ k < 28 + 8 * t) → R' k = R k) (hw : WFT (trv R' t)) (hc : ∀ f, f < 8 → S' 2 t f = ctF (trv R' t) f) : RepC S' 0 R' n := by
  obtain ⟨⟨w1, w2, w3, w4, w5, w6⟩, b1, b2, b3, b4, b5, b6, b7, b8, b9, b10, b11, b12⟩ := h
  have hT : ∀ i, i ≠ t → ∀ f, f < 8 → trv R' i f = trv R i f := fun i hi f hf => hR _ (by omega)
  refine ⟨⟨w1, by rw [hR 3 (by omega)]; exact w2, by rw [hR 1 (by omega)]; exact w3, by rw [hR 2 (by omega)]; exact w4, fun s hs => by rw [hR _ (by omega)]; exact w5 s hs, fun i hi => ?_⟩, ?_⟩
  · by_cases hit : i = t
    · subst hit; exact hw
    · exact (w6 i hi).congr (hT i hit)
  · rw [hS 0 (by decide), hS 1 (by decide)]
    refine ⟨by rw [hR 3 (by omega)]; exact b1, by rw [hR 0 (by omega)]; exact b2, by rw [hR 1 (by omega)]; exact b3, by rw [hR 2 (by omega)]; exact b4, by rw [hR 4 (by omega)]; exact b5, by rw [hR 5 (by omega)]; exact b6, by rw [hR 6 (by omega)]; exact b7, by rw [hR 7 (by omega)]; exact b8, by rw [hR 8 (by omega)]; exact b9, by rw [hR 9 (by omega)]; exact b10, fun s hs => by rw [hR _ (by omega)]; exact b11 s hs, fun i hi f hf => ?_⟩
    by_cases hit : i = t
    · subst hit
      rw [Nat.mul_zero, Nat.zero_add]
      exact hc f hf
    · have := b12 i hi f hf
      rw [Nat.mul_zero, Nat.zero_add] at this ⊢
      rw [hS2 i hit, this]
      exact (ctF.congr (hT i hit) hf).symm
theorem wr2_now {S : Mem} {i k : Nat} {v : Int32} (hi : i < 8) : SameBut 0 S (wr S 2 i k v) := ⟨fun c _ _ c2 => wr_c c2, fun j hj => ⟨by rw [wr_c (by decide)], by rw [wr_c (by decide)]⟩, fun j t hj ht => wr_i (by omega)⟩
theorem RepC.trv0 {S : Mem} {n t : Nat} {R : Row} (h : RepC S 0 R n) (ht : t < n) : ∀ f, f < 8 → S 2 t f = ctF (trv R t) f := fun f hf => by
  have := h.trav ht f hf
  rw [Nat.mul_zero, Nat.zero_add] at this
  exact this
theorem not_in {t n : Nat} (ht : t < n) (hn : n ≤ 8) : ¬ (nI t < 0 ∨ ¬ nI t < nI n) := by
  rintro (g | g)
  · exact nI_pos (by omega) g
  · exact g (nI_lt ht (by omega))
theorem k_halt {S : Mem} {f : Nat → Int64} {x1 v : Int32} (hv : v = 0 ∨ v = 1) (h : Inv S) : mX5_setStopped (fun (r : Int32) (S1 : Mem) => mX6_halts (fun (r4 : Int32) (S5 : Mem) => mX6_thrown (fun (r6 : Int32) (S7 : Mem) => r6 = 0 ∧ ((0 : Int32) = 0 → (vp_updL f 0 r.toInt64) 0 = r4.toInt64) ∧ Inv S7) S5) S1 x1 v) (fun (E : String) (S1 : Mem) => (E = "java/lang/IndexOutOfBoundsException" ∧ mX6_halts (fun (r4 : Int32) (S5 : Mem) => mX6_thrown (fun (r6 : Int32) (S7 : Mem) => r6 = 1 ∧ ((1 : Int32) = 0 → f 0 = r4.toInt64) ∧ Inv S7) S5) S1 x1 v) ∨ (E = "java/lang/UnsupportedOperationException" ∧ mX6_halts (fun (r4 : Int32) (S5 : Mem) => mX6_thrown (fun (r6 : Int32) (S7 : Mem) => r6 = 2 ∧ ((2 : Int32) = 0 → f 0 = r4.toInt64) ∧ Inv S7) S5) S1 x1 v)) S x1 v := by
  obtain ⟨n, hR⟩ := h.1
  have w := hR.1
  have hn := w.1
  unfold mX5_setStopped
  refine found_s hn hR.cnt (fun t ht et => ?_) (fun h0 => Or.inl ⟨rfl, ?_⟩)
  · subst et
    have hT := hR.trv0 ht
    have wt := w.t ht
    have k3 : S 2 t 3 = trv (S 11 0) t 3 := hT 3 (by decide)
    have k5 : S 2 t 5 = trv (S 11 0) t 5 := hT 5 (by decide)
    have k2 : S 2 t 2 = trv (S 11 0) t 2 := hT 2 (by decide)
    rw [k3, k2]
    refine ⟨fun g3 => ?_, fun g3 => refuse_s (Or.inr ⟨rfl, ?_⟩)⟩
    · have o3 : trv (S 11 0) t 3 = 1 := wt.2.2.2.1.resolve_left g3
      unfold mX5_setStopped_b22
      rw [k5]
      refine ⟨fun g5 => ?_, fun g5 => refuse_s (Or.inr ⟨rfl, ?_⟩)⟩
      · unfold mX5_setStopped_b37
        refine keep_s h (fun S1 u hu h4 hK e0 e1 e2 => ⟨hv, fun S4 e4 => ?_⟩)
        have hR1 := Rep_now e0 e1 e2 hR
        have hK4 : Kept S S4 u := by rw [e4]; exact hK.now (wr2_now (by omega))
        have hT1 := hR1.trv0 ht
        have k42 : S4 2 t 2 = trv (S 11 0) t 2 := by rw [e4, wr_k (by decide)]; exact hT1 2 (by decide)
        unfold mX6_halts
        refine tries_t (fun S' hTr => ?_)
        have e11 : S' 11 = S 11 := by rw [hTr.1 11 (by decide) (by decide), hK4.1 11 (by decide) (by decide) (by decide) (by decide)]
        refine isTraveller_s hn (by rw [e11]; exact w.2.1) (fun _ _ _ => ⟨fun _ => of_s (f := 3) (by omega) (by decide) ?_, fun g => ne10 g⟩) (fun g => absurd g (not_in ht hn))
        rw [e11]
        refine ⟨fun _ => of_s (f := 5) (by omega) (by decide) ?_, fun g => absurd g g3⟩
        rw [e11]
        refine ⟨fun _ => sets_s (f := 5) (by omega) (by decide) ?_, fun g => absurd g g5⟩
        generalize e9 : wr S' 11 0 (20 + 8 * t + 5) v = S9
        have r9 : S9 11 0 = upd (S 11 0) (20 + 8 * t + 5) v := by rw [← e9, setrow, e11]
        refine of_s (f := 2) (by omega) (by decide) ?_
        refine ref_end (S9 := S9) (E := fun r => (vp_updL f 0 (S4 2 t 2).toInt64) 0 = r.toInt64) h hu h4 hK4 hTr (fun c hc => by rw [← e9, wr_c hc]) ?_ ?_
        · rw [r9]
          have q : ∀ k, k < 8 → k ≠ 5 → trv (upd (S 11 0) (20 + 8 * t + 5) v) t k = trv (S 11 0) t k := fun k _ hk => upd_ne (by omega)
          have q5 : trv (upd (S 11 0) (20 + 8 * t + 5) v) t 5 = v := upd_same
          have qw : wayF (trv (upd (S 11 0) (20 + 8 * t + 5) v) t) = wayF (trv (S 11 0) t) := by
            unfold wayF
            rw [q 3 (by decide) (by decide), q 4 (by decide) (by decide), q 2 (by decide) (by decide)]
          refine ⟨n, hR1.setT (t := t) ht (fun c hc => by rw [e4, wr_c hc]) (fun i hi => by rw [e4, wr_i hi]) (fun k hk => upd_ne (by omega)) ?_ (fun k hk => ?_)⟩
          · unfold WFT at wt ⊢
            rw [q 0 (by decide) (by decide), q 1 (by decide) (by decide), q 2 (by decide) (by decide), q 3 (by decide) (by decide), q 4 (by decide) (by decide), q 7 (by decide) (by decide), q5]
            exact ⟨wt.1, wt.2.1, wt.2.2.1, wt.2.2.2.1, wt.2.2.2.2.1, hv, fun g => absurd (g.symm.trans o3) (by decide), wt.2.2.2.2.2.2.2⟩
          · by_cases hk5 : k = 5
            · subst hk5
              rw [e4, wr_same]
              exact q5.symm
            · rw [e4, wr_k hk5, hT1 k hk]
              unfold ctF
              rw [qw]
              split
              · rfl
              · exact (q k hk hk5).symm
        · show vp_updL f 0 (S4 2 t 2).toInt64 0 = (trv (S9 11 0) t 2).toInt64
          rw [updL0, k42, r9]
          exact congrArg Int32.toInt64 (upd_ne (R := S 11 0) (k := 20 + 8 * t + 5) (i := 20 + 8 * t + 2) (v := v) (by omega)).symm
      · unfold mX6_halts
        refine tries_t (fun S' hTr => ?_)
        have e11 : S' 11 = S 11 := by rw [hTr.1 11 (by decide) (by decide), wr_c (by decide), wr_c (by decide)]
        refine isTraveller_s hn (by rw [e11]; exact w.2.1) (fun _ _ _ => ⟨fun _ => of_s (f := 3) (by omega) (by decide) ?_, fun g => ne10 g⟩) (fun g => absurd g (not_in ht hn))
        rw [e11]
        refine ⟨fun _ => of_s (f := 5) (by omega) (by decide) ?_, fun g => absurd g g3⟩
        rw [e11]
        exact ⟨fun g => absurd g5 g, fun _ => refuses_s ⟨thr_get, ne20, refuse_inv h hTr⟩⟩
    · unfold mX6_halts
      refine tries_t (fun S' hTr => ?_)
      have e11 : S' 11 = S 11 := by rw [hTr.1 11 (by decide) (by decide), wr_c (by decide), wr_c (by decide)]
      refine isTraveller_s hn (by rw [e11]; exact w.2.1) (fun _ _ _ => ⟨fun _ => of_s (f := 3) (by omega) (by decide) ?_, fun g => ne10 g⟩) (fun g => absurd g (not_in ht hn))
      rw [e11]
      refine ⟨fun g => absurd g3 g, fun _ => of_s (f := 2) (by omega) (by decide) (refuses_s ?_)⟩
      rw [e11]
      exact ⟨thr_get, ne20, refuse_inv h hTr⟩
  · unfold mX6_halts
    refine tries_t (fun S' hTr => ?_)
    have e11 : S' 11 = S 11 := hTr.1 11 (by decide) (by decide)
    refine isTraveller_s hn (by rw [e11]; exact w.2.1) (fun t ht et => ?_) (fun _ => ⟨fun g => absurd rfl g, fun _ => s_raises (fin (hTr.inv h) rfl ne10)⟩)
    subst et
    exact absurd h0 (not_in ht hn)
theorem k_stop {S : Mem} {f : Nat → Int64} {g : Nat → UInt64} {x1 x2 : Int32} (h : Inv S) : lawC12 (fun S1 _ _ => Inv S1) S f g x1 x2 := by
  unfold lawC12 mL_stop mX5_stop mX6_stop
  exact k_halt (Or.inr rfl) h
theorem k_go {S : Mem} {f : Nat → Int64} {g : Nat → UInt64} {x1 x2 : Int32} (h : Inv S) : lawC13 (fun S1 _ _ => Inv S1) S f g x1 x2 := by
  unfold lawC13 mL_go mX5_go mX6_go
  exact k_halt (Or.inl rfl) h
theorem X3_arrive_s {post : Mem → Prop} {S : Mem} {i : Nat} {v : Int32} (h : ∀ S' : Mem, (∀ c j, ¬ (c = 2 ∧ j = i) → S' c j = S c j) → (S' 2 i 0 = v ∧ S' 2 i 1 = 0 ∧ S' 2 i 2 = -1 ∧ S' 2 i 3 = 0 ∧ S' 2 i 4 = 1 ∧ S' 2 i 5 = 0 ∧ S' 2 i 6 = 0 ∧ S' 2 i 7 = 0) → post S') : mX3_arrive post S i v := by
  unfold mX3_arrive
  intro S1 e1 S2 e2 S3 e3 S4 e4 S5 e5 S6 e6 S7 e7 S8 e8
  refine h S8 (fun c j hcj => ?_) ?_
  · subst e8 e7 e6 e5 e4 e3 e2 e1
    by_cases hc : c = 2
    · subst hc
      have hj : j ≠ i := fun e => hcj ⟨rfl, e⟩
      simp only [wr_i hj]
    · simp only [wr_c hc]
  · subst e8 e7 e6 e5 e4 e3 e2 e1
    simp [wr_k, wr_same]
theorem k_traveller {S : Mem} {f : Nat → Int64} {g : Nat → UInt64} {x1 x2 : Int32} (h : Inv S) : lawC8 (fun S1 _ _ => Inv S1) S f g x1 x2 := by
  obtain ⟨n, hR⟩ := h.1
  have w := hR.1
  have hn := w.1
  unfold lawC8 mL_traveller mX5_traveller
  refine s_checkRange (fun h0 h1 => ?_) (fun h0 => Or.inl ⟨rfl, ?_⟩)
  · rw [hR.cnt]
    refine ⟨fun hb => ?_, fun hb => refuse_s (Or.inr ⟨rfl, ?_⟩)⟩
    · have hn8 : n < 8 := (nI_ltI (b := 8) (by omega) (by decide)).mp hb
      unfold mX5_traveller_b31
      refine keep_s h (fun S1 u hu h4 hK e0 e1 e2 => ?_)
      have hR1 := Rep_now e0 e1 e2 hR
      unfold mX0_welcome
      intro z ez
      rw [hR1.cnt] at ez
      subst ez
      refine ⟨fun g => absurd g (nI_ge (b := 8) hn8 (by decide)), fun _ => ⟨vpN hn8 (by decide), fun k ek => X3_arrive_s (fun S5 hc5 ha => ?_)⟩⟩
      rw [nI_clamp (by omega)] at ek
      have ek : k = n := by omega
      subst ek
      intro S7 e7
      have e50 : S5 0 0 2 = nI k := by rw [hc5 0 0 (by omega)]; exact hR1.cnt
      rw [e50, inc] at e7
      have hK7 : Kept S S7 u := by
        rw [e7]
        exact (hK.now ⟨fun c _ _ c2 => funext fun i => hc5 c i (fun q => c2 q.1), fun j hj => ⟨hc5 0 j (by omega), hc5 1 j (by omega)⟩, fun j t hj ht => hc5 2 _ (by omega)⟩).now wr0_now
      unfold mX6_traveller
      refine tries_t (fun S' hTr => s_in (fun _ _ => ⟨fun _ => ⟨vpL rfl, ?_⟩, fun g => ne10 g⟩) (fun g0 => absurd g0 (by rintro (g | g); exact h0 g; exact h1 g)))
      have e11 : S' 11 = S 11 := by rw [hTr.1 11 (by decide) (by decide), hK7.1 11 (by decide) (by decide) (by decide) (by decide)]
      rw [e11, c3, w.2.1]
      refine ⟨fun _ => ⟨vpL rfl, fun x9 ex9 => ⟨vpL rfl, fun S11 e11' => ?_⟩⟩, fun g => absurd ((nI_eq (b := 8) (by omega) (by decide)).mp g) (by omega)⟩
      subst ex9
      rw [inc] at e11'
      have r11 : S11 11 0 = upd (S 11 0) 3 (nI (k + 1)) := by rw [e11', setrow, e11]
      have c11 : ∀ c, c ≠ 11 → S11 c = S' c := fun c hc => by rw [e11', wr_c hc]
      have loop : ∀ (m q : Nat) (T : Mem), q + m = 8 → (∀ c, c ≠ 11 → T c = S' c) → (∀ i, ¬ (20 + 8 * k ≤ i ∧ i < 20 + 8 * k + q) → T 11 0 i = upd (S 11 0) 3 (nI (k + 1)) i) → (∀ i, i < q → T 11 0 (20 + 8 * k + i) = 0) → mX6_traveller_b54 (fun (r4 : Int32) (S5 : Mem) => mX6_thrown (fun (r6 : Int32) (S7 : Mem) => r6 = 0 ∧ ((0 : Int32) = 0 → (vp_updL f 0 (nI k).toInt64) 0 = r4.toInt64) ∧ Inv S7) S5) (m + 1) T x1 (nI k) (nI q) := by
        intro m
        induction m with
        | zero =>
          intro q T hq hTc hT1 hT2
          have hq : q = 8 := by omega
          subst hq
          unfold mX6_traveller_b54
          refine ⟨fun _ => sets_s (f := 0) hn8 (by decide) (sets_s (f := 2) hn8 (by decide) (sets_s (f := 4) hn8 (by decide) ?_)), fun g => absurd (by decide) g⟩
          generalize e9 : wr (wr (wr T 11 0 (20 + 8 * k + 0) x1) 11 0 (20 + 8 * k + 2) (-1)) 11 0 (20 + 8 * k + 4) 1 = S9
          have r9 : S9 11 0 = upd (upd (upd (T 11 0) (20 + 8 * k + 0) x1) (20 + 8 * k + 2) (-1)) (20 + 8 * k + 4) 1 := by rw [← e9, setrow, setrow, setrow]
          refine ref_end (S9 := S9) (E := fun r => (vp_updL f 0 (nI k).toInt64) 0 = r.toInt64) h hu h4 hK7 hTr (fun c hc => by rw [← e9, wr_c hc, wr_c hc, wr_c hc]; exact hTc c hc) ?_ updL0
          have o : ∀ i, ¬ (20 + 8 * k ≤ i ∧ i < 28 + 8 * k) → i ≠ 3 → S9 11 0 i = S 11 0 i := fun i hi h3 => by rw [r9, upd_ne (by omega), upd_ne (by omega), upd_ne (by omega), hT1 i (by omega), upd_ne h3]
          have o3 : S9 11 0 3 = nI (k + 1) := by rw [r9, upd_ne (by omega), upd_ne (by omega), upd_ne (by omega), hT1 3 (by omega), upd_same]
          have q0 : trv (S9 11 0) k 0 = x1 := by unfold trv; rw [r9, upd_ne (by omega), upd_ne (by omega), upd_same]
          have q2 : trv (S9 11 0) k 2 = -1 := by unfold trv; rw [r9, upd_ne (by omega), upd_same]
          have q4 : trv (S9 11 0) k 4 = 1 := by unfold trv; rw [r9, upd_same]
          have qz : ∀ i, i < 8 → i ≠ 0 → i ≠ 2 → i ≠ 4 → trv (S9 11 0) k i = 0 := fun i hi i0 i2 i4 => by unfold trv; rw [r9, upd_ne (by omega), upd_ne (by omega), upd_ne (by omega)]; exact hT2 i hi
          obtain ⟨⟨w1, w2, w3, w4, w5, w6⟩, b1, b2, b3, b4, b5, b6, b7, b8, b9, b10, b11, b12⟩ := hR1
          have hTo : ∀ i, i < k → ∀ q, q < 8 → trv (S9 11 0) i q = trv (S 11 0) i q := fun i hi q hq => o _ (by omega) (by omega)
          have s7 : ∀ c, c ≠ 0 → c ≠ 2 → S7 c = S1 c := fun c z0 z2 => by rw [e7, wr_c z0]; exact funext fun i => hc5 c i (fun q => z2 q.1)
          have s70 : ∀ q, q ≠ 2 → S7 0 0 q = S1 0 0 q := fun q hq => by rw [e7, wr_k hq, hc5 0 0 (by omega)]
          have s72 : ∀ i, i ≠ k → S7 2 i = S1 2 i := fun i hi => by rw [e7, wr_c (by decide), hc5 2 i (by omega)]
          refine ⟨k + 1, ⟨by omega, o3, by rw [o 1 (by omega) (by decide)]; exact w3, by rw [o 2 (by omega) (by decide)]; exact w4, fun s hs => by rw [o _ (by omega) (by omega)]; exact w5 s hs, fun i hi => ?_⟩, ?_⟩
          · by_cases hik : i = k
            · subst hik
              obtain ⟨a, ha, ea⟩ := range9 (n := 20) (by decide) h0 h1
              unfold WFT
              rw [q0, q2, q4, qz 1 (by decide) (by decide) (by decide) (by decide), qz 3 (by decide) (by decide) (by decide) (by decide), qz 5 (by decide) (by decide) (by decide) (by decide), qz 7 (by decide) (by decide) (by decide) (by decide)]
              exact ⟨⟨a, ha, ea⟩, ⟨0, by decide, rfl⟩, Or.inl rfl, Or.inl rfl, Or.inr rfl, Or.inl rfl, fun _ => ⟨rfl, rfl, Or.inl rfl⟩, fun g => ne10 g.symm⟩
            · exact (w6 i (by omega)).congr (hTo i (by omega))
          · refine ⟨by rw [e7, wr_same, o3], by rw [s70 3 (by decide), o 0 (by omega) (by decide)]; exact b2, by rw [s70 4 (by decide), o 1 (by omega) (by decide)]; exact b3, by rw [s70 5 (by decide), o 2 (by omega) (by decide)]; exact b4, by rw [s70 6 (by decide), o 4 (by omega) (by decide)]; exact b5, by rw [s70 7 (by decide), o 5 (by omega) (by decide)]; exact b6, by rw [s70 8 (by decide), o 6 (by omega) (by decide)]; exact b7, by rw [s70 9 (by decide), o 7 (by omega) (by decide)]; exact b8, by rw [s70 10 (by decide), o 8 (by omega) (by decide)]; exact b9, by rw [s70 11 (by decide), o 9 (by omega) (by decide)]; exact b10, fun s hs => by rw [s7 1 (by decide) (by decide), o _ (by omega) (by omega)]; exact b11 s hs, fun i hi q hq => ?_⟩
            rw [Nat.mul_zero, Nat.zero_add]
            by_cases hik : i = k
            · subst hik
              obtain ⟨a0, a1, a2, a3, a4, a5, a6, a7⟩ := ha
              have s7i : S7 2 i = S5 2 i := by rw [e7, wr_c (by decide)]
              have qway : wayF (trv (S9 11 0) i) = 1 := by
                unfold wayF
                rw [qz 3 (by decide) (by decide) (by decide) (by decide), if_neg (by decide), if_pos q2]
              rw [s7i]
              rcases (show q = 0 ∨ q = 1 ∨ q = 2 ∨ q = 3 ∨ q = 4 ∨ q = 5 ∨ q = 6 ∨ q = 7 by omega) with rfl | rfl | rfl | rfl | rfl | rfl | rfl | rfl
              · exact a0.trans q0.symm
              · exact a1.trans (qz 1 (by decide) (by decide) (by decide) (by decide)).symm
              · exact a2.trans q2.symm
              · exact a3.trans (qz 3 (by decide) (by decide) (by decide) (by decide)).symm
              · exact a4.trans qway.symm
              · exact a5.trans (qz 5 (by decide) (by decide) (by decide) (by decide)).symm
              · exact a6.trans (qz 6 (by decide) (by decide) (by decide) (by decide)).symm
              · exact a7.trans (qz 7 (by decide) (by decide) (by decide) (by decide)).symm
            · have := b12 i (by omega) q hq
              rw [Nat.mul_zero, Nat.zero_add] at this
              rw [s72 i hik, this]
              exact (ctF.congr (hTo i (by omega)) hq).symm
        | succ m ih =>
          intro q T hq hTc hT1 hT2
          have hq8 : q < 8 := by omega
          unfold mX6_traveller_b54
          refine ⟨fun g => absurd g (nI_ge (b := 8) hq8 (by decide)), fun _ => sets_s hn8 hq8 (fun x ex => ?_)⟩
          rw [ex, inc]
          refine ih (q + 1) _ (by omega) (fun c hc => by rw [wr_c hc]; exact hTc c hc) (fun i hi => by rw [wr_k (by omega)]; exact hT1 i (by omega)) (fun i hi => ?_)
          by_cases hiq : i = q
          · subst hiq; exact wr_same
          · rw [wr_k (by omega)]; exact hT2 i (by omega)
      exact ⟨9, loop 8 0 S11 (by omega) c11 (fun i _ => by rw [r11]) (fun i hi => absurd hi (by omega))⟩
    · have hn8 : n = 8 := by
        have := mt (nI_ltI (a := n) (b := 8) (by omega) (by decide)).mpr hb
        omega
      subst hn8
      unfold mX6_traveller
      refine tries_t (fun S' hTr => s_in (fun _ _ => ⟨fun _ => ⟨vpL rfl, ?_⟩, fun g => ne10 g⟩) (fun g0 => absurd g0 (by rintro (g | g); exact h0 g; exact h1 g)))
      have e11 : S' 11 = S 11 := by rw [hTr.1 11 (by decide) (by decide), wr_c (by decide), wr_c (by decide)]
      rw [e11, c3, w.2.1]
      exact ⟨fun g => absurd rfl g, fun _ => refuses_s ⟨thr_get, ne20, refuse_inv h hTr⟩⟩
  · unfold mX6_traveller
    exact tries_t (fun S' hTr => s_in (fun g0 g1 => absurd h0 (by rintro (g | g); exact g0 g; exact g1 g)) (fun _ => ⟨fun g => absurd rfl g, fun _ => s_raises (fin (hTr.inv h) rfl ne10)⟩))
