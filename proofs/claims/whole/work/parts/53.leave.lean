/-! leave -/
theorem takeAway_b2_s {post : Mem → Prop} {S : Mem} {k t : Nat} (hk : k < 8) (hB : ∀ i, i < k + 1 → isB (S 2 i 3) ∧ isB (S 2 i 4) ∧ isB (S 2 i 5)) (h : ∀ S' : Mem, (∀ c, c ≠ 0 → c ≠ 2 → S' c = S c) → (∀ j, j ≠ 0 → S' 0 j = S 0 j) → (∀ q, q ≠ 2 → S' 0 0 q = S 0 0 q) → S' 0 0 2 = nI k → (∀ i f, t ≤ i → i < k → f < 8 → S' 2 i f = S 2 (i + 1) f) → (∀ i, ¬ (t ≤ i ∧ i < k) → S' 2 i = S 2 i) → post S') :
    ∀ (m i : Nat) (T : Mem), i + m = k → t ≤ i → T 0 0 2 = nI (k + 1) → (∀ c, c ≠ 2 → T c = S c) → (∀ q f, t ≤ q → q < i → f < 8 → T 2 q f = S 2 (q + 1) f) → (∀ q, ¬ (t ≤ q ∧ q < i) → T 2 q = S 2 q) → mX0_takeAway_b2 post (m + 1) T 0 (nI i) := by
  intro m
  induction m with
  | zero =>
    intro i T hi ht h2 hc hs ho
    have hik : i = k := by omega
    subst hik
    unfold mX0_takeAway_b2
    rw [h2, nI_pred]
    refine ⟨fun _ S2 e2 => h S2 (fun c c0 c2 => ?_) (fun j hj => ?_) (fun q hq => ?_) ?_ (fun q f q1 q2 q3 => ?_) (fun q hq => ?_), fun g => absurd (nI_le (Nat.le_refl _) (by omega)) g⟩
    · rw [e2, wr_c c0, hc c c2]
    · rw [e2, wr_i hj, hc 0 (by decide)]
    · rw [e2, wr_k hq, hc 0 (by decide)]
    · rw [e2, wr_same]
    · rw [e2, wr_c (by decide)]; exact hs q f q1 q2 q3
    · rw [e2, wr_c (by decide)]; exact ho q hq
  | succ m ih =>
    intro i T hi ht h2 hc hs ho
    unfold mX0_takeAway_b2
    rw [h2, nI_pred, inc]
    refine ⟨fun g => absurd g (nI_ge (by omega) (by omega)), fun _ => ⟨vpN (by omega) (by decide), fun k4 e4 => ⟨vpN (by omega) (by decide), fun k6 e6 => ?_⟩⟩⟩
    rw [nI_clamp (by omega)] at e4 e6
    have e4 : k4 = i := by omega
    have e6 : k6 = i + 1 := by omega
    subst e4 e6
    have o1 : T 2 (k4 + 1) = S 2 (k4 + 1) := ho _ (by omega)
    have b := hB (k4 + 1) (by omega)
    refine X3_copyFrom_s (by omega) (by rw [o1]; exact b.1) (by rw [o1]; exact b.2.1) (by rw [o1]; exact b.2.2) (fun S' hS hf x9 e9 => ?_)
    subst e9
    refine ih (k4 + 1) S' (by omega) (by omega) (by rw [hS 0 0 (by omega)]; exact h2) (fun c hc' => ?_) (fun q f q1 q2 q3 => ?_) (fun q hq => ?_)
    · rw [← hc c hc']
      exact funext fun i => hS c i (fun z => hc' z.1)
    · by_cases hq : q = k4
      · subst hq
        rw [hf f q3, o1]
      · rw [hS 2 q (by omega)]
        exact hs q f q1 (by omega) q3
    · rw [hS 2 q (by omega)]
      exact ho q (by omega)
theorem leave_b67_s {post : Int32 → Mem → Prop} {T0 : Mem} {R : Row} {k t : Nat} {v : Int32} (hk : k < 8) (h3 : R 3 = nI k) (h : ∀ S' : Mem, (∀ c, c ≠ 11 → S' c = T0 c) → (∀ p, 20 + 8 * t ≤ p → p < 20 + 8 * k → S' 11 0 p = R (p + 8)) → (∀ p, ¬ (20 + 8 * t ≤ p ∧ p < 20 + 8 * k) → S' 11 0 p = R p) → mX6_keeps (fun (r4 : Int32) (S3 : Mem) => post r4 S3) S' v) :
    ∀ (m p : Nat) (T : Mem), p + m = 20 + 8 * k → 20 + 8 * t ≤ p → (∀ c, c ≠ 11 → T c = T0 c) → (∀ q, 20 + 8 * t ≤ q → q < p → T 11 0 q = R (q + 8)) → (∀ q, ¬ (20 + 8 * t ≤ q ∧ q < p) → T 11 0 q = R q) → mX6_leave_b67 post (m + 1) T v (nI p) := by
  intro m
  induction m with
  | zero =>
    intro p T hp ht hc hs ho
    unfold mX6_leave_b67
    rw [c3, ho 3 (by omega), h3]
    have e : (20 : Int32) + (8 : Int32) * nI k = nI (20 + 8 * k) := by
      show nI 20 + nI 8 * nI k = _
      rw [pk_mul, nI_add]
    rw [e]
    have hpk : p = 20 + 8 * k := by omega
    subst hpk
    exact ⟨vpL rfl, fun _ => h T hc hs ho, fun g => absurd (nI_le (Nat.le_refl _) (by omega)) g⟩
  | succ m ih =>
    intro p T hp ht hc hs ho
    unfold mX6_leave_b67
    rw [c3, ho 3 (by omega), h3]
    have e : (20 : Int32) + (8 : Int32) * nI k = nI (20 + 8 * k) := by
      show nI 20 + nI 8 * nI k = _
      rw [pk_mul, nI_add]
    have e8 : nI p + (8 : Int32) = nI (p + 8) := nI_add p 8
    rw [e, e8, inc, nI_clamp (n := p) (by omega), nI_clamp (n := p + 8) (by omega), ho (p + 8) (by omega)]
    refine ⟨vpL rfl, fun g => absurd g (nI_ge (by omega) (by omega)), fun _ => ⟨vpN (by omega) (by decide), vpN (by omega) (by decide), fun S7 e7 x8 ex => ?_⟩⟩
    subst ex
    refine ih (p + 1) S7 (by omega) (by omega) (fun c hc' => by rw [e7, wr_c hc']; exact hc c hc') (fun q q1 q2 => ?_) (fun q hq => ?_)
    · by_cases hqp : q = p
      · subst hqp
        rw [e7, wr_same]
      · rw [e7, wr_k hqp]
        exact hs q q1 (by omega)
    · rw [e7, wr_k (by omega)]
      exact ho q (by omega)
theorem RepC.less {S S' : Mem} {R R' : Row} {k t : Nat} (h : RepC S 0 R (k + 1)) (hS1 : S' 1 0 = S 1 0) (hS0 : ∀ q, q ≠ 2 → S' 0 0 q = S 0 0 q) (hS2 : S' 0 0 2 = nI k) (hs : ∀ i f, t ≤ i → i < k → f < 8 → S' 2 i f = S 2 (i + 1) f) (ho : ∀ i, i < t → S' 2 i = S 2 i) (r3 : R' 3 = nI k) (rs : ∀ p, 20 + 8 * t ≤ p → p < 20 + 8 * k → R' p = R (p + 8)) (ro : ∀ p, ¬ (20 + 8 * t ≤ p ∧ p < 20 + 8 * k) → p ≠ 3 → R' p = R p) : RepC S' 0 R' k := by
  obtain ⟨⟨w1, w2, w3, w4, w5, w6⟩, b1, b2, b3, b4, b5, b6, b7, b8, b9, b10, b11, b12⟩ := h
  have hlo : ∀ i, i < t → i < k → ∀ f, f < 8 → trv R' i f = trv R i f := fun i hi hk f hf => ro _ (by omega) (by omega)
  have hhi : ∀ i, t ≤ i → i < k → ∀ f, f < 8 → trv R' i f = trv R (i + 1) f := fun i hi hk f hf => by
    show R' (20 + 8 * i + f) = R (20 + 8 * (i + 1) + f)
    rw [rs _ (by omega) (by omega)]
    exact congrArg R (by omega)
  refine ⟨⟨by omega, r3, by rw [ro 1 (by omega) (by decide)]; exact w3, by rw [ro 2 (by omega) (by decide)]; exact w4, fun s hs => by rw [ro _ (by omega) (by omega)]; exact w5 s hs, fun i hi => ?_⟩, ?_⟩
  · by_cases hit : i < t
    · exact (w6 i (by omega)).congr (hlo i hit hi)
    · exact (w6 (i + 1) (by omega)).congr (hhi i (by omega) hi)
  · refine ⟨hS2.trans r3.symm, by rw [hS0 3 (by decide), ro 0 (by omega) (by decide)]; exact b2, by rw [hS0 4 (by decide), ro 1 (by omega) (by decide)]; exact b3, by rw [hS0 5 (by decide), ro 2 (by omega) (by decide)]; exact b4, by rw [hS0 6 (by decide), ro 4 (by omega) (by decide)]; exact b5, by rw [hS0 7 (by decide), ro 5 (by omega) (by decide)]; exact b6, by rw [hS0 8 (by decide), ro 6 (by omega) (by decide)]; exact b7, by rw [hS0 9 (by decide), ro 7 (by omega) (by decide)]; exact b8, by rw [hS0 10 (by decide), ro 8 (by omega) (by decide)]; exact b9, by rw [hS0 11 (by decide), ro 9 (by omega) (by decide)]; exact b10, fun s hs' => by rw [hS1, ro _ (by omega) (by omega)]; exact b11 s hs', fun i hi f hf => ?_⟩
    rw [Nat.mul_zero, Nat.zero_add]
    by_cases hit : i < t
    · have := b12 i (by omega) f hf
      rw [Nat.mul_zero, Nat.zero_add] at this
      rw [ho i hit, this]
      exact (ctF.congr (hlo i hit hi) hf).symm
    · have := b12 (i + 1) (by omega) f hf
      rw [Nat.mul_zero, Nat.zero_add] at this
      rw [hs i f (by omega) hi hf, this]
      exact (ctF.congr (hhi i (by omega) hi) hf).symm
theorem k_leave {S : Mem} {f : Nat → Int64} {g : Nat → UInt64} {x1 x2 : Int32} (h : Inv S) : lawC14 (fun S1 _ _ => Inv S1) S f g x1 x2 := by
  obtain ⟨n, hR⟩ := h.1
  have w := hR.1
  have hn := w.1
  unfold lawC14 mL_leave mX5_leave
  refine found_s hn hR.cnt (fun t ht et => ?_) (fun h0 => Or.inl ⟨rfl, ?_⟩)
  · subst et
    have hT := hR.trv0 ht
    have wt := w.t ht
    have t8 : t < 8 := by omega
    have k3 : S 2 t 3 = trv (S 11 0) t 3 := hT 3 (by decide)
    have k2 : S 2 t 2 = trv (S 11 0) t 2 := hT 2 (by decide)
    rw [k3, k2]
    refine ⟨fun g3 => ?_, fun g3 => refuse_s (Or.inr ⟨rfl, ?_⟩)⟩
    · have n3 : ¬ trv (S 11 0) t 3 = 1 := fun q => absurd (g3.symm.trans q) (by decide)
      unfold mX5_leave_b22
      refine keep_s h (fun S1 u hu h4 hK e0 e1 e2 x3 ex3 => ?_)
      have hR1 := Rep_now e0 e1 e2 hR
      obtain ⟨k, rfl⟩ : ∃ k, n = k + 1 := ⟨n - 1, by omega⟩
      have k8 : k < 8 := by omega
      have ex : x3 = trv (S 11 0) t 6 := ex3.trans (hR1.trv0 ht 6 (by decide))
      subst ex
      unfold mX0_takeAway
      refine ⟨_, takeAway_b2_s (S := S1) (t := t) k8 (fun i hi => ?_) (fun S4 s1 s2 s3 s4 s5 s6 => ?_) (k - t) t S1 (by omega) (Nat.le_refl t) hR1.cnt (fun _ _ => rfl) (fun q f a b => absurd b (by omega)) (fun _ _ => rfl)⟩
      · have := hR1.isB hi
        rw [Nat.mul_zero, Nat.zero_add] at this
        exact this
      · have hK4 : Kept S S4 u := hK.now ⟨fun c z0 z1 z2 => s1 c z0 z2, fun j hj => ⟨s2 j hj, by rw [s1 1 (by decide) (by decide)]⟩, fun j q hj hq => s6 _ (by omega)⟩
        unfold mX6_leave
        refine tries_t (fun S' hTr => ?_)
        have e11 : S' 11 = S 11 := by rw [hTr.1 11 (by decide) (by decide), hK4.1 11 (by decide) (by decide) (by decide) (by decide)]
        refine isTraveller_s hn (by rw [e11]; exact w.2.1) (fun _ _ _ => ⟨fun _ => of_s (f := 3) t8 (by decide) ?_, fun g => ne10 g⟩) (fun g => absurd g (not_in ht hn))
        rw [e11]
        refine ⟨fun _ => of_s (f := 6) t8 (by decide) ⟨vpL rfl, vpL rfl, fun S13 e13 x14 e14 => ?_⟩, fun g => absurd g n3⟩
        rw [c3, e11, w.2.1, nI_pred] at e13
        have e14 : x14 = nI (20 + 8 * t) := by
          rw [e14]
          show nI 20 + nI 8 * nI t = _
          rw [pk_mul, nI_add]
        subst e14
        rw [e11]
        have r13 : S13 11 0 = upd (S 11 0) 3 (nI k) := by rw [e13, setrow, e11]
        refine ⟨_, leave_b67_s (T0 := S') (R := upd (S 11 0) 3 (nI k)) (t := t) k8 upd_same (fun S9 q1 q2 q3 => ?_) (8 * k - 8 * t) (20 + 8 * t) S13 (by omega) (Nat.le_refl _) (fun c hc => by rw [e13, wr_c hc]) (fun q a b => absurd b (by omega)) (fun q _ => by rw [r13])⟩
        refine ref_end (S9 := S9) (E := fun r => (vp_updL f 0 (trv (S 11 0) t 6).toInt64) 0 = r.toInt64) h hu h4 hK4 hTr q1 ⟨k, ?_⟩ updL0
        refine hR1.less (t := t) (by rw [s1 1 (by decide) (by decide)]) s3 s4 s5 (fun i hi => s6 i (by omega)) (by rw [q3 3 (by omega), upd_same]) (fun p p1 p2 => by rw [q2 p p1 p2, upd_ne (by omega)]) (fun p p1 p2 => by rw [q3 p p1, upd_ne p2])
    · have o3 : trv (S 11 0) t 3 = 1 := wt.2.2.2.1.resolve_left g3
      unfold mX6_leave
      refine tries_t (fun S' hTr => ?_)
      have e11 : S' 11 = S 11 := by rw [hTr.1 11 (by decide) (by decide), wr_c (by decide), wr_c (by decide)]
      refine isTraveller_s hn (by rw [e11]; exact w.2.1) (fun _ _ _ => ⟨fun _ => of_s (f := 3) t8 (by decide) ?_, fun g => ne10 g⟩) (fun g => absurd g (not_in ht hn))
      rw [e11]
      refine ⟨fun g => absurd o3 g, fun _ => of_s (f := 2) t8 (by decide) (refuses_s ?_)⟩
      rw [e11]
      exact ⟨thr_get, ne20, refuse_inv h hTr⟩
  · unfold mX6_leave
    refine tries_t (fun S' hTr => ?_)
    have e11 : S' 11 = S 11 := hTr.1 11 (by decide) (by decide)
    refine isTraveller_s hn (by rw [e11]; exact w.2.1) (fun t ht et => ?_) (fun _ => ⟨fun g => absurd rfl g, fun _ => s_raises (fin (hTr.inv h) rfl ne10)⟩)
    subst et
    exact absurd h0 (not_in ht hn)
