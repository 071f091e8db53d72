/-! the stoves of the reference -/
theorem wtF_congr {R R' : Row} {bank but : Int32} : ∀ (m t : Nat) (b mo : Int32), (∀ i, t ≤ i → i < t + m → ¬ nI i = but → trv R' i 1 = trv R i 1 ∧ trv R' i 2 = trv R i 2 ∧ trv R' i 3 = trv R i 3) → wtF R' bank but m t b mo = wtF R bank but m t b mo := by
  intro m
  induction m with
  | zero => intro t b mo _; rfl
  | succ m ih =>
    intro t b mo h
    unfold wtF
    by_cases g : nI t = but
    · rw [if_pos g, if_pos g]
      exact ih _ _ _ (fun i h1 h2 => h i (by omega) (by omega))
    · obtain ⟨e1, e2, e3⟩ := h t (Nat.le_refl _) (by omega) g
      rw [if_neg g, if_neg g, e1, e2, e3, ih _ _ _ (fun i h1 h2 => h i (by omega) (by omega)), ih _ _ _ (fun i h1 h2 => h i (by omega) (by omega))]
theorem nI_ge0 {k : Nat} (h : k < 2 ^ 31) : (0 : Int32) ≤ nI k := nI_pos' h
theorem X6_dries15_s {post : Mem → Prop} {K4 : Mem → Int32 → Int32 → Int32 → Prop} {S : Mem} {n : Nat} {bank dn i : Int32} (w : WFR (S 11 0) n) (h1 : wtF (S 11 0) bank dn n 0 (-1) 0 = -1 → post S) (h2 : ∀ j, j < n → wtF (S 11 0) bank dn n 0 (-1) 0 = nI j → ¬ nI j = dn → mX6_wets (fun S4 : Mem => ∀ x6 : Int32, x6 = i + 1 → K4 S4 bank (nI j) x6) S (nI j) (-3)) : ∃ fu : Nat, mX6_dries_b15 post K4 fu S bank dn i (-1) 0 := by
  have hn := w.1
  have loop : ∀ (m t : Nat) (b mo : Int32), t + m = n → (b = -1 ∧ mo = 0 ∨ ∃ j, j < n ∧ b = nI j ∧ mo = trv (S 11 0) j 1 ∧ ¬ nI j = dn) → (wtF (S 11 0) bank dn m t b mo = -1 → post S) → (∀ j, j < n → wtF (S 11 0) bank dn m t b mo = nI j → ¬ nI j = dn → mX6_wets (fun S4 : Mem => ∀ x6 : Int32, x6 = i + 1 → K4 S4 bank (nI j) x6) S (nI j) (-3)) → mX6_dries_b15 post K4 (m + 1) S bank dn i b (nI t) := by
    intro m
    induction m with
    | zero =>
      intro t b mo ht hb h1 h2
      unfold mX6_dries_b15
      rw [c3, w.2.1]
      refine ⟨vpL rfl, fun _ => ⟨fun g => ?_, fun g => ?_⟩, fun g => absurd (nI_le (by omega) (by omega)) g⟩
      · rcases hb with ⟨eb, -⟩ | ⟨j, hj, eb, -, hd⟩
        · rw [eb] at g
          exact absurd g (by decide)
        · rw [eb]
          exact h2 j hj eb hd
      · rcases hb with ⟨eb, -⟩ | ⟨j, hj, eb, -, hd⟩
        · exact h1 eb
        · exact absurd (by rw [eb]; exact nI_ge0 (by omega)) g
    | succ m ih =>
      intro t b mo ht hb h1 h2
      have htn : t < n := by omega
      have t8 : t < 8 := by omega
      unfold mX6_dries_b15
      rw [c3, w.2.1]
      unfold wtF at h1 h2
      refine ⟨vpL rfl, fun g => absurd g (nI_ge htn (by omega)), fun _ => ⟨fun g x ex => ?_, fun g => of_s (f := 2) t8 (by decide) ⟨fun g2 x ex => ?_, fun g2 => of_s (f := 3) t8 (by decide) ⟨fun g3 x ex => ?_, fun g3 => of_s (f := 1) t8 (by decide) ?_⟩⟩⟩⟩
      · rw [if_pos g] at h1 h2
        rw [ex, inc]
        exact ih _ _ mo (by omega) hb h1 h2
      · rw [if_neg g, if_neg (fun z => g2 z.1)] at h1 h2
        rw [ex, inc]
        exact ih _ _ mo (by omega) hb h1 h2
      · rw [if_neg g, if_neg (fun z => g3 z.2.1)] at h1 h2
        rw [ex, inc]
        exact ih _ _ mo (by omega) hb h1 h2
      · rw [if_neg g] at h1 h2
        have b76 : mX6_dries_b76 post (fun S v1 v2 v3 v4 v5 => mX6_dries_b15 post K4 (m + 1) S v1 v2 v3 v4 v5) S bank dn i b (nI t) mo (trv (S 11 0) t 1) := by
          unfold mX6_dries_b76
          refine ⟨fun g1 x ex => ?_, fun g1 x ex => ?_⟩
          · rw [if_neg (fun z => z.2.2 g1)] at h1 h2
            rw [ex, inc]
            exact ih _ _ mo (by omega) hb h1 h2
          · rw [if_pos ⟨g2, g3, g1⟩] at h1 h2
            rw [ex, inc]
            exact ih _ _ _ (by omega) (Or.inr ⟨t, htn, rfl, rfl, g⟩) h1 h2
        rcases hb with ⟨eb, em⟩ | ⟨j, hj, eb, em, hd⟩
        · rw [em] at b76
          refine ⟨fun z => absurd z (by rw [eb]; decide), fun _ => b76⟩
        · rw [em] at b76
          refine ⟨fun _ => ?_, fun z => absurd (by rw [eb]; exact nI_ge0 (by omega)) z⟩
          rw [eb] at b76 ⊢
          exact of_s (f := 1) (by omega) (by decide) b76
  exact ⟨n + 1, loop n 0 (-1) 0 (by omega) (Or.inl ⟨rfl, rfl⟩) h1 h2⟩
theorem X6_dries_s {post : Mem → Prop} {S : Mem} {n : Nat} {bank : Int32} (w : WFR (S 11 0) n) (h : ∀ S' : Mem, (∀ c, c ≠ 11 → S' c = S c) → S' 11 0 = heatR (S 11 0) n bank → post S') : mX6_dries post S bank := by
  have hn := w.1
  unfold heatR at h
  unfold mX6_dries
  refine ⟨3, ?_⟩
  unfold mX6_dries_b4
  refine ⟨fun g => absurd g (by decide), fun _ => X6_dries15_s w (fun g => ?_) (fun j hj g _ => ?_)⟩
  · rw [if_pos g] at h
    exact h S (fun _ _ => rfl) rfl
  · rw [g, if_neg (nI_nm1 (by omega)), nI_clamp (by omega)] at h
    refine X6_wets_s (by omega) (fun x ex => ?_)
    generalize e1 : wr S 11 0 (20 + 8 * j + 1) (wetF (trv (S 11 0) j 1) (-3)) = S1
    have r1 : S1 11 0 = wtR (S 11 0) j (-3) := by rw [← e1, setrow]; rfl
    have q1 : ∀ c, c ≠ 11 → S1 c = S c := fun c hc => by rw [← e1, wr_c hc]
    have w1 : WFR (S1 11 0) n := by rw [r1]; exact wtR_wf (Or.inr (Or.inr rfl)) w hj
    have ew : wtF (S1 11 0) bank (nI j) n 0 (-1) 0 = wtF (S 11 0) bank (nI j) n 0 (-1) 0 := by
      refine wtF_congr n 0 (-1) 0 (fun i _ hi hne => ?_)
      have : i ≠ j := fun z => hne (by rw [z])
      rw [r1, trv_wtR (Or.inr this) (by decide), trv_wtR (Or.inr this) (by decide), trv_wtR (Or.inr this) (by decide)]
      exact ⟨rfl, rfl, rfl⟩
    have ex : x = 1 := ex
    subst ex
    unfold mX6_dries_b4
    refine ⟨fun g => absurd g (by decide), fun _ => X6_dries15_s w1 (fun g2 => ?_) (fun j2 hj2 g2 _ => ?_)⟩
    · rw [ew] at g2
      unfold heat2 at h
      rw [if_pos g2] at h
      exact h S1 q1 r1
    · rw [ew] at g2
      unfold heat2 at h
      rw [g2, if_neg (nI_nm1 (by omega)), nI_clamp (by omega)] at h
      refine X6_wets_s (by omega) (fun x ex => ?_)
      have ex : x = 2 := ex
      subst ex
      unfold mX6_dries_b4
      refine ⟨fun _ => h _ (fun c hc => by rw [wr_c hc]; exact q1 c hc) ?_, fun g => absurd (by decide) g⟩
      rw [setrow, r1]
      rfl
