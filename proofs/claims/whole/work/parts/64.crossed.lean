/-! crossedIn of the reference -/
theorem tgN_ne {far : Bool} {q : Nat} (q1 : far = true → q ≤ 10) (q0 : far = false → 1 ≤ q) : q ≠ tgN far := by
  unfold tgN
  cases far
  · have := q0 rfl
    rw [if_neg (by decide)]
    omega
  · have := q1 rfl
    rw [if_pos rfl]
    omega
theorem thinks_s {post : Mem → Prop} {S : Mem} (h : ∀ S' : Mem, (∀ c, c ≠ 13 → S' c = S c) → (∀ k, k < 84 → S' 13 0 k = S 11 0 k) → post S') : mX6_thinks post S := by
  have loop : ∀ (m k : Nat) (T : Mem), k + m = 84 → (∀ c, c ≠ 13 → T c = S c) → (∀ i, i < k → T 13 0 i = S 11 0 i) → mX6_thinks_b2 post (m + 1) T (nI k) := by
    intro m
    induction m with
    | zero =>
      intro k T hk h1 h2
      have hk : k = 84 := by omega
      subst hk
      unfold mX6_thinks_b2
      exact ⟨fun _ => h T h1 h2, fun g => absurd (by decide) g⟩
    | succ m ih =>
      intro k T hk h1 h2
      have hk2 : k < 84 := by omega
      unfold mX6_thinks_b2
      refine ⟨fun g => absurd g (nI_ge (b := 84) hk2 (by decide)), fun _ => ⟨vpN hk2 (by decide), vpN hk2 (by decide), fun T' e x ex => ?_⟩⟩
      rw [nI_clamp (by omega)] at e
      rw [ex, inc]
      subst e
      refine ih (k + 1) _ (by omega) (fun c z1 => by rw [wr_c z1]; exact h1 c z1) (fun i hi => ?_)
      by_cases hik : i = k
      · subst hik
        rw [wr_same, h1 11 (by decide)]
      · rw [wr_k hik]
        exact h2 i (by omega)
  unfold mX6_thinks
  exact ⟨85, loop 84 0 S (by omega) (fun _ _ => rfl) (fun i hi => absurd hi (by omega))⟩
theorem thinksNoMore_s {post : Mem → Prop} {S : Mem} (h : ∀ S' : Mem, (∀ c, c ≠ 11 → S' c = S c) → (∀ k, k < 84 → S' 11 0 k = S 13 0 k) → post S') : mX6_thinksNoMore post S := by
  have loop : ∀ (m k : Nat) (T : Mem), k + m = 84 → (∀ c, c ≠ 11 → T c = S c) → (∀ i, i < k → T 11 0 i = S 13 0 i) → mX6_thinksNoMore_b2 post (m + 1) T (nI k) := by
    intro m
    induction m with
    | zero =>
      intro k T hk h1 h2
      have hk : k = 84 := by omega
      subst hk
      unfold mX6_thinksNoMore_b2
      exact ⟨fun _ => h T h1 h2, fun g => absurd (by decide) g⟩
    | succ m ih =>
      intro k T hk h1 h2
      have hk2 : k < 84 := by omega
      unfold mX6_thinksNoMore_b2
      refine ⟨fun g => absurd g (nI_ge (b := 84) hk2 (by decide)), fun _ => ⟨vpN hk2 (by decide), vpN hk2 (by decide), fun T' e x ex => ?_⟩⟩
      rw [nI_clamp (by omega)] at e
      rw [ex, inc]
      subst e
      refine ih (k + 1) _ (by omega) (fun c z1 => by rw [wr_c z1]; exact h1 c z1) (fun i hi => ?_)
      by_cases hik : i = k
      · subst hik
        rw [wr_same, h1 13 (by decide)]
      · rw [wr_k hik]
        exact h2 i (by omega)
  unfold mX6_thinksNoMore
  exact ⟨85, loop 84 0 S (by omega) (fun _ _ => rfl) (fun i hi => absurd hi (by omega))⟩
theorem Inv.c11 {S S' : Mem} (h : Inv S) (hc : ∀ c, c ≠ 10 → c ≠ 11 → c ≠ 12 → c ≠ 13 → S' c = S c) (hk : ∀ k, k ≠ 21 → S' 10 0 k = S 10 0 k) (hr : ∀ k, k < 84 → S' 11 0 k = S 11 0 k) : Inv S' := by
  obtain ⟨i1, ⟨u, nx, a1, a2, a3, a4, a5, a6⟩, i3, i4, i5, i6, i7, i8⟩ := h
  have e := fun c (h0 : c ≠ 10 ∧ c ≠ 11 ∧ c ≠ 12 ∧ c ≠ 13) => hc c h0.1 h0.2.1 h0.2.2.1 h0.2.2.2
  have hX : ∀ j R, RepX S j R → RepX S' j R := fun j R r => r.c3 (e 0 (by decide)) (e 1 (by decide)) (e 2 (by decide))
  refine ⟨(hX 0 _ i1).row hr, ⟨u, nx, a1, a2, ?_, ?_, ?_, fun i hi => ?_⟩, ⟨?_, ?_⟩, ?_, ?_, ?_, ?_, ?_⟩
  · rw [hk 4 (by decide)]; exact a3
  · rw [e 4 (by decide)]; exact a4
  · rw [e 4 (by decide)]; exact a5
  · have := hX _ _ (a6 i hi)
    unfold keptR at this ⊢
    rw [e 14 (by decide)]
    exact this
  · rw [e 3 (by decide), hk 6 (by decide)]; exact i3.1
  · rw [hk 6 (by decide), e 15 (by decide)]
    exact i3.2.imp id (fun r => ⟨r.1, hX 9 _ r.2⟩)
  · exact i4.c (by rw [e 6 (by decide)]) (e 7 (by decide)) (e 17 (by decide)) (hk 10 (by decide))
  · exact i5.c (by rw [e 3 (by decide)]) (e 8 (by decide)) (e 20 (by decide)) (hk 17 (by decide))
  · exact i6.c (by rw [e 3 (by decide)]) (hk 18 (by decide))
  · exact i7.c (by rw [e 3 (by decide)]) (by rw [e 3 (by decide)]) (hk 19 (by decide)) (hk 20 (by decide))
  · exact i8.c (by rw [e 3 (by decide)]) (e 9 (by decide)) (e 16 (by decide)) (hk 8 (by decide))
theorem X6_b57_s {post : Int32 → Mem → Prop} {S0 : Mem} {R0 : Row} {n t : Nat} {bank res : Int32} (ht : t < n) (eb : bank = pl (tgN (decide (trv R0 t 4 = 1)))) (h : ∀ (S' : Mem) (v : Nat), (∀ c, c ≠ 11 → S' c = S0 c) → (v ≤ 60 ∧ res = nI v ∨ v = 61 ∧ res = -1) → mX6_crossedIn_b85 post S' (nI v)) :
    ∀ (m k q : Nat) (S : Mem), k + m = 60 → WFR (S 11 0) n → HH R0 (S 11 0) → S 11 0 2 = R0 2 → trv (S 11 0) t 0 = trv R0 t 0 → trv (S 11 0) t 4 = trv R0 t 4 → trv (S 11 0) t 2 = pl q → q ≤ 11 → (decide (trv R0 t 4 = 1) = true → q ≤ 10) → (decide (trv R0 t 4 = 1) = false → 1 ≤ q) → (∀ c, c ≠ 11 → S c = S0 c) → (Dead (S 11 0) t → res = -1) → (¬ Dead (S 11 0) t → res = hcF R0 (kindF (trv R0 t 0)) (decide (trv R0 t 4 = 1)) m (k + 1) q (S 11 0 1)) → mX6_crossedIn_b57 post (m + 1 + 1) S (nI t) bank (nI k) := by
  intro m
  induction m with
  | zero =>
    intro k q S hk w hh r2 r0 r4 e2 hq q1 q0 hS hd ha
    have t8 : t < 8 := by have := w.1; omega
    have hk : k = 60 := by omega
    subst hk
    have hne : ¬ pl q = bank := fun z => by
      rw [eb] at z
      exact tgN_ne q1 q0 (pl_inj hq (by rcases tgN_b (far := decide (trv R0 t 4 = 1)) with y | y <;> omega) z)
    unfold mX6_crossedIn_b57
    refine ⟨fun g => absurd g (by decide), fun _ => of_s (f := 2) t8 (by decide) ?_⟩
    rw [e2]
    refine ⟨fun g => absurd g hne, fun _ => X6_goes_s w (fun S1 p1 r1 x ex => ?_)⟩
    rw [ex, inc]
    unfold mX6_crossedIn_b57
    refine ⟨fun _ => h S1 61 (fun c hc => (p1 c hc).trans (hS c hc)) (Or.inr ⟨rfl, ?_⟩), fun g => absurd (by decide) g⟩
    by_cases d : Dead (S 11 0) t
    · exact hd d
    · exact ha d
  | succ m ih =>
    intro k q S hk w hh r2 r0 r4 e2 hq q1 q0 hS hd ha
    have t8 : t < 8 := by have := w.1; omega
    have hne : ¬ pl q = bank := fun z => by
      rw [eb] at z
      exact tgN_ne q1 q0 (pl_inj hq (by rcases tgN_b (far := decide (trv R0 t 4 = 1)) with y | y <;> omega) z)
    unfold mX6_crossedIn_b57
    refine ⟨fun g => absurd ((nI_ltI (a := 60) (by decide) (by omega)).mp g) (by omega), fun _ => of_s (f := 2) t8 (by decide) ?_⟩
    rw [e2]
    refine ⟨fun g => absurd g hne, fun _ => X6_goes_s w (fun S1 p1 r1 x ex => ?_)⟩
    rw [ex, inc]
    obtain ⟨g0, g4, gd, ga, gl⟩ := hour_go w ht e2 hq
    rw [r2, r4, goB_congr hh] at gd ga gl
    have gt := goB_tg (R := R0) (fl := nxF (S 11 0 1) (R0 2)) hq q1 q0
    rw [r0, stepN_congr hh (nxN_le gt.1 gt.2.1)] at gl
    have st := step_tg (R := R0) (fl := nxF (S 11 0 1) (R0 2)) (kind := kindF (trv R0 t 0)) gt.1 gt.2.1
    have sle := stepN_le (R := R0) (fl := nxF (S 11 0 1) (R0 2)) (kind := kindF (trv R0 t 0)) gt.1 gt.2.1
    have w1 : WFR (S1 11 0) n := by rw [r1]; exact hourR_wf w
    have hh1 : HH R0 (S1 11 0) := fun j j1 j2 => by
      rw [r1, hour_k (by omega)]
      exact (upd_ne (by omega)).trans (hh j j1 j2)
    have r21 : S1 11 0 2 = R0 2 := by
      rw [r1, hour_k (by omega)]
      exact (upd_ne (by decide)).trans r2
    have r11 : S1 11 0 1 = nxF (S 11 0 1) (R0 2) := by
      rw [r1, hour_k (by omega), ← r2]
      exact upd_same
    have r01 : trv (S1 11 0) t 0 = trv R0 t 0 := by rw [r1, g0, r0]
    have r41 : trv (S1 11 0) t 4 = trv R0 t 4 := by rw [r1, g4, r4]
    have hS1 : ∀ c, c ≠ 11 → S1 c = S0 c := fun c hc => (p1 c hc).trans (hS c hc)
    rw [← r1] at gd ga gl
    by_cases d : Dead (S 11 0) t
    · obtain ⟨d1, e21⟩ := gd d
      exact ih (k + 1) _ S1 (by omega) w1 hh1 r21 r01 r41 e21 gt.1 gt.2.1 gt.2.2 hS1 (fun _ => hd d) (fun z => absurd d1 z)
    · have ha := ha d
      unfold hcF at ha
      by_cases b : goB R0 (nxF (S 11 0 1) (R0 2)) (decide (trv R0 t 4 = 1)) 10 q ≠ q ∧ (goB R0 (nxF (S 11 0 1) (R0 2)) (decide (trv R0 t 4 = 1)) 10 q = 0 ∨ goB R0 (nxF (S 11 0 1) (R0 2)) (decide (trv R0 t 4 = 1)) 10 q = 11)
      · rw [if_pos b] at ha
        obtain ⟨d1, e21⟩ := ga d b
        exact ih (k + 1) _ S1 (by omega) w1 hh1 r21 r01 r41 e21 gt.1 gt.2.1 gt.2.2 hS1 (fun _ => ha) (fun z => absurd d1 z)
      · rw [if_neg b] at ha
        obtain ⟨e21, al⟩ := gl d b
        by_cases p : stepN R0 (nxF (S 11 0 1) (R0 2)) (kindF (trv R0 t 0)) (decide (trv R0 t 4 = 1)) (goB R0 (nxF (S 11 0 1) (R0 2)) (decide (trv R0 t 4 = 1)) 10 q) = tgN (decide (trv R0 t 4 = 1))
        · rw [if_pos p] at ha
          rw [p] at e21
          unfold mX6_crossedIn_b57
          refine ⟨fun g => absurd ((nI_ltI (a := 60) (by decide) (by omega)).mp g) (by omega), fun _ => of_s (f := 2) t8 (by decide) ?_⟩
          rw [e21]
          exact ⟨fun _ => h S1 (k + 1) hS1 (Or.inl ⟨by omega, ha⟩), fun g => absurd eb.symm g⟩
        · rw [if_neg p] at ha
          obtain ⟨p1', p2, p3⟩ := st p
          exact ih (k + 1) _ S1 (by omega) w1 hh1 r21 r01 r41 e21 p1' p2 p3 hS1 (fun z => absurd z (al p)) (fun _ => by rw [r11]; exact ha)
theorem k_crossedIn {S : Mem} {f : Nat → Int64} {g : Nat → UInt64} {x1 x2 : Int32} (h : Inv S) : lawC16 (fun S1 _ _ => Inv S1) S f g x1 x2 := by
  obtain ⟨n, hR⟩ := h.1
  have w := hR.1
  have hn := w.1
  unfold lawC16 mL_crossedIn mX5_crossedIn
  refine found_s hn hR.cnt (fun t ht et => ?_) (fun h0 => Or.inl ⟨rfl, ?_⟩)
  · subst et
    have t8 : t < 8 := by omega
    have wt := w.t ht
    obtain ⟨q, hq, e2⟩ := wt.pl
    have ref : ∀ (kk : Int32) (f3 : Nat → Int64), (¬ crF (S 11 0) t = -1 → kk = 0 ∧ f3 0 = (crF (S 11 0) t).toInt64) → (crF (S 11 0) t = -1 → kk = 2) → mX6_crossedIn (fun (r4 : Int32) (S5 : Mem) => mX6_thrown (fun (r6 : Int32) (S7 : Mem) => r6 = kk ∧ (kk = 0 → f3 0 = r4.toInt64) ∧ Inv S7) S5) S (nI t) := by
      intro kk f3 h1 h2
      unfold mX6_crossedIn
      intro S1 e
      subst e
      refine isTraveller_s hn (by rw [ofs_thr]; exact w.2.1) (fun _ _ _ => ⟨fun _ => of_s (f := 3) t8 (by decide) ?_, fun g => ne10 g⟩) (fun g => absurd g (not_in ht hn))
      rw [ofs_thr]
      refine ⟨fun g3 => of_s (f := 4) t8 (by decide) ?_, fun g3 => s_raises ?_⟩
      · have r3 : trv (S 11 0) t 3 = 1 := wt.2.2.2.1.resolve_left g3
        have en := ends wt r3 e2 hq
        rw [ofs_thr]
        have body : ∀ bank : Int32, bank = pl (tgN (decide (trv (S 11 0) t 4 = 1))) → mX6_thinks (fun (S11 : Mem) => ∃ fu : Nat, mX6_crossedIn_b57 (fun (r4 : Int32) (S5 : Mem) => mX6_thrown (fun (r6 : Int32) (S7 : Mem) => r6 = kk ∧ (kk = 0 → f3 0 = r4.toInt64) ∧ Inv S7) S5) fu S11 (nI t) bank 0) (wr S 10 0 21 0) := by
          intro bank eb
          refine thinks_s (fun S2 p1 p2 => ⟨62, ?_⟩)
          have e11 : S2 11 = S 11 := by rw [p1 11 (by decide), ofs_thr]
          rw [ofs_thr] at p2
          refine X6_b57_s (S0 := S2) (R0 := S 11 0) (res := crF (S 11 0) t) ht eb (fun S' v q1 hv => ?_) 60 0 q S2 (by decide) (by rw [e11]; exact w) (by rw [e11]; exact fun _ _ _ => rfl) (by rw [e11]) (by rw [e11]) (by rw [e11]) (by rw [e11]; exact e2) hq (fun z => en.1 (of_decide_eq_true z)) (fun z => en.2 (wt.2.2.2.2.1.resolve_right (of_decide_eq_false z))) (fun _ _ => rfl) (fun d => ?_) (fun d => ?_)
          · unfold mX6_crossedIn_b85
            refine thinksNoMore_s (fun S3 u1 u2 => ?_)
            have e3 : ∀ c, c ≠ 11 → c ≠ 13 → S3 c = (wr S 10 0 21 0) c := fun c z1 z2 => by rw [u1 c z1, q1 c z1, p1 c z2]
            have i3 : Inv S3 := h.c11 (fun c z0 z1 z2 z3 => by rw [e3 c z1 z3, wr_c z0]) (fun k hk => by rw [e3 10 (by decide) (by decide), wr_k hk]) (fun k hk => by rw [u2 k hk, q1 13 (by decide), p2 k hk])
            refine ⟨fun g => ?_, fun g => s_raises ?_⟩
            · rcases hv with ⟨v1, v2⟩ | ⟨v1, v2⟩
              · obtain ⟨a1, a2⟩ := h1 (by rw [v2]; exact nI_nm1 (by omega))
                unfold mX6_thrown
                refine ⟨?_, fun _ => ?_, i3⟩
                · rw [e3 10 (by decide) (by decide), thr_get, a1]
                · rw [a2, v2]
              · subst v1
                exact absurd g (by decide)
            · rcases hv with ⟨v1, v2⟩ | ⟨v1, v2⟩
              · exact absurd (show nI v ≤ (60 : Int32) from nI_le (b := 60) (by omega) (by decide)) g
              · rw [h2 v2]
                exact fin i3 rfl ne20
          · rw [e11] at d
            unfold crF
            exact if_neg d
          · rw [e11] at d ⊢
            unfold crF
            rw [if_pos (Classical.not_not.mp d), e2, plN_pl hq]
        refine ⟨fun z => body (-1) ?_, fun z => body 10 ?_⟩
        · rw [decide_eq_false z]; rfl
        · rw [decide_eq_true z]; rfl
      · have c : crF (S 11 0) t = -1 := if_neg (fun z => absurd (g3.symm.trans z.1) (by decide))
        rw [h2 c]
        exact fin (h.thr 0) rfl ne20
    refine X0_cross_s hR ht ⟨fun z => ref 0 _ (fun _ => ⟨rfl, updL0⟩) (fun y => absurd y z), fun z => Or.inr ⟨rfl, ref 2 _ (fun y => absurd z y) (fun _ => rfl)⟩⟩
  · unfold mX6_crossedIn
    intro S1 e
    subst e
    refine isTraveller_s hn (by rw [ofs_thr]; exact w.2.1) (fun t ht et => ?_) (fun _ => ⟨fun g => absurd rfl g, fun _ => s_raises (fin (h.thr 0) rfl ne10)⟩)
    subst et
    exact absurd h0 (not_in ht hn)
