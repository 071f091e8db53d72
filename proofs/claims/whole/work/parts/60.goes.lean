/-! an hour of the reference -/
theorem foldT_s {step : Row → Nat → Row} {m t : Nat} {R : Row} : foldT step (m + 1) t R = foldT step m (t + 1) (step R t) := rfl
theorem foldC_s {m t : Nat} {R : Row} {c : Int32} : foldC (m + 1) t R c = foldC m (t + 1) (onR R t) (if onC R t = 0 then c else c + 1) := rfl
def restR (A : Row) (n : Nat) : Row := tailR (foldT dryR n 0 (foldT onR n 0 A)) n
theorem X6_b117_s {post : Int32 → Mem → Prop} {S0 : Mem} {n : Nat} {v : Int32} : ∀ (m t : Nat) (S : Mem), t + m = n → WFR (S 11 0) n → (∀ c, c ≠ 11 → S c = S0 c) → (∀ S' : Mem, (∀ c, c ≠ 11 → S' c = S0 c) → S' 11 0 = tailR (foldT dryR m t (S 11 0)) n → post v S') → mX6_goes_b117 post (m + 1) S v (nI t) := by
  intro m
  induction m with
  | zero =>
    intro t S ht w hS h
    have hn := w.1
    unfold mX6_goes_b117
    rw [c3, w.2.1]
    refine ⟨vpL rfl, fun _ => X6_dries_s w (fun S1 q1 r1 => X6_dries_s (by rw [r1]; exact heatR_wf w) (fun S2 q2 r2 => ⟨vpL rfl, vpL rfl, fun S9 e9 => ?_⟩)), fun g => absurd (nI_le (by omega) (by omega)) g⟩
    rw [c0] at e9
    refine h S9 (fun c hc => by rw [e9, wr_c hc, q2 c hc, q1 c hc, hS c hc]) ?_
    rw [e9, setrow, r2, r1]
    rfl
  | succ m ih =>
    intro t S ht w hS h
    have hn := w.1
    have htn : t < n := by omega
    have t8 : t < 8 := by omega
    obtain ⟨q, hq, e⟩ := (w.t htn).pl
    unfold mX6_goes_b117
    rw [c3, w.2.1]
    refine ⟨vpL rfl, fun g => absurd g (nI_ge htn (by omega)), fun _ => of_s (f := 2) t8 (by decide) ?_⟩
    rw [e]
    have idle : ¬ (1 ≤ q ∧ q ≤ 10) → mX6_goes_b117 post (m + 1) S v (nI (t + 1)) := fun g => by
      have ed : dryR (S 11 0) t = S 11 0 := by
        unfold dryR
        rw [e, plN_pl hq]
        exact if_neg g
      refine ih (t + 1) S (by omega) w hS (fun S' a b => h S' a ?_)
      rw [foldT_s, ed]
      exact b
    refine X6_stone_pl hq (fun a ha ea => ⟨fun g => ne10 g, fun _ => of_s (f := 2) t8 (by decide) ?_⟩) (fun g => ⟨fun _ x ex => by rw [ex, inc]; exact idle (by omega), fun g => absurd rfl g⟩)
    subst ea
    rw [e, pl_s]
    have ed : dryR (S 11 0) t = wtR (S 11 0) t (if stF (S 11 0) (S 11 0 1) a = 1 then 2 else -1) := by
      unfold dryR
      rw [e, plN_pl hq, if_pos (by omega), Nat.add_sub_cancel]
      rfl
    refine X6_state_s ha w ⟨fun g => X6_wets_s t8 (fun x ex => ?_), fun g => X6_wets_s t8 (fun x ex => ?_)⟩
    · rw [if_neg g] at ed
      rw [ex, inc]
      refine ih (t + 1) _ (by omega) ?_ (fun c hc => by rw [wr_c hc]; exact hS c hc) (fun S' a b => h S' a ?_)
      · rw [setrow]
        exact wtR_wf (Or.inr (Or.inl rfl)) w htn
      · rw [b, setrow, foldT_s, ed]
        rfl
    · rw [if_pos g] at ed
      rw [ex, inc]
      refine ih (t + 1) _ (by omega) ?_ (fun c hc => by rw [wr_c hc]; exact hS c hc) (fun S' a b => h S' a ?_)
      · rw [setrow]
        exact wtR_wf (Or.inl rfl) w htn
      · rw [b, setrow, foldT_s, ed]
        rfl
theorem X6_b69_s {post : Int32 → Mem → Prop} {S0 : Mem} {n : Nat} : ∀ (m t : Nat) (S : Mem) (v : Int32), t + m = n → WFR (S 11 0) n → (∀ c, c ≠ 11 → S c = S0 c) → (∀ S' : Mem, (∀ c, c ≠ 11 → S' c = S0 c) → S' 11 0 = tailR (foldT dryR n 0 (foldT onR m t (S 11 0))) n → post (foldC m t (S 11 0) v) S') → mX6_goes_b69 post (m + 1) S v (nI t) := by
  intro m
  induction m with
  | zero =>
    intro t S v ht w hS h
    have hn := w.1
    unfold mX6_goes_b69
    rw [c3, w.2.1]
    exact ⟨vpL rfl, fun _ => ⟨n + 1, X6_b117_s n 0 S (by omega) w hS h⟩, fun g => absurd (nI_le (by omega) (by omega)) g⟩
  | succ m ih =>
    intro t S v ht w hS h
    have hn := w.1
    have htn : t < n := by omega
    have t8 : t < 8 := by omega
    unfold mX6_goes_b69
    rw [c3, w.2.1]
    have idle : ¬ (trv (S 11 0) t 3 = 1 ∧ trv (S 11 0) t 5 = 0) → mX6_goes_b69 post (m + 1) S v (nI (t + 1)) := fun g => by
      have e1 : onR (S 11 0) t = S 11 0 := if_neg g
      have e2 : onC (S 11 0) t = 0 := if_neg (fun z => g ⟨z.1, z.2.1⟩)
      simp only [foldT_s, foldC_s] at h
      rw [e1, e2, if_pos rfl] at h
      exact ih (t + 1) S v (by omega) w hS h
    refine ⟨vpL rfl, fun g => absurd g (nI_ge htn (by omega)), fun _ => of_s (f := 3) t8 (by decide) ⟨fun g x ex => by rw [ex, inc]; exact idle (fun z => g z.1), fun g3 => of_s (f := 5) t8 (by decide) ⟨fun g x ex => by rw [ex, inc]; exact idle (fun z => g z.2), fun g5 => X6_steps_s w htn g3 g5 (fun S1 q1 r1 => ?_)⟩⟩⟩
    have w1 : WFR (S1 11 0) n := by rw [r1]; exact onR_wf w htn
    simp only [foldT_s, foldC_s] at h
    refine ⟨fun g x ex => ?_, fun g x ex y ey => ?_⟩
    · rw [if_pos g] at h
      rw [ex, inc]
      exact ih (t + 1) S1 v (by omega) w1 (fun c hc => (q1 c hc).trans (hS c hc)) (by rw [r1]; exact h)
    · rw [if_neg g] at h
      rw [ey, ex, inc]
      exact ih (t + 1) S1 _ (by omega) w1 (fun c hc => (q1 c hc).trans (hS c hc)) (by rw [r1]; exact h)
theorem X6_b18_s {post : Int32 → Mem → Prop} {S0 : Mem} {n : Nat} : ∀ (m t : Nat) (S : Mem), t + m = n → WFR (S 11 0) n → (∀ c, c ≠ 11 → S c = S0 c) → (∀ S' : Mem, (∀ c, c ≠ 11 → S' c = S0 c) → S' 11 0 = restR (foldT backR m t (S 11 0)) n → post (foldC n 0 (foldT backR m t (S 11 0)) 0) S') → mX6_goes_b18 post (m + 1) S (nI t) := by
  intro m
  induction m with
  | zero =>
    intro t S ht w hS h
    have hn := w.1
    unfold mX6_goes_b18
    rw [c3, w.2.1]
    exact ⟨vpL rfl, fun _ => ⟨n + 1, X6_b69_s n 0 S 0 (by omega) w hS h⟩, fun g => absurd (nI_le (by omega) (by omega)) g⟩
  | succ m ih =>
    intro t S ht w hS h
    have hn := w.1
    have htn : t < n := by omega
    have t8 : t < 8 := by omega
    obtain ⟨q, hq, e⟩ := (w.t htn).pl
    unfold mX6_goes_b18
    rw [c3, w.2.1]
    simp only [foldT_s] at h
    have idle : ¬ undP (S 11 0) (S 11 0 1) q → mX6_goes_b18 post (m + 1) S (nI (t + 1)) := fun g => by
      have e1 : backR (S 11 0) t = S 11 0 := by
        unfold backR
        rw [e, plN_pl hq]
        exact if_neg g
      rw [e1] at h
      exact ih (t + 1) S (by omega) w hS h
    refine ⟨vpL rfl, fun g => absurd g (nI_ge htn (by omega)), fun _ => of_s (f := 2) t8 (by decide) ?_⟩
    rw [e]
    refine X6_stone_pl hq (fun a ha ea => ⟨fun g => ne10 g, fun _ => of_s (f := 2) t8 (by decide) ?_⟩) (fun g => ⟨fun _ x ex => by rw [ex, inc]; exact idle (fun u => by have := u.1; have := u.2.1; omega), fun g => absurd rfl g⟩)
    rw [e, ea, pl_s]
    refine X6_state_s ha w ⟨fun g x ex => by rw [ex, inc]; exact idle (fun u => g (by have := u.2.2; rw [ea, Nat.add_sub_cancel] at this; exact this)), fun g => X6_goesBack_s w htn e ⟨by omega, by omega, by rw [ea, Nat.add_sub_cancel]; exact g⟩ (fun S1 q1 r1 x ex => ?_)⟩
    rw [ex, inc]
    exact ih (t + 1) S1 (by omega) (by rw [r1]; exact backR_wf w htn) (fun c hc => (q1 c hc).trans (hS c hc)) (by rw [r1]; exact h)
theorem hourA_wf {R : Row} {n : Nat} (w : WFR R n) : WFR (hourA R) n := by
  have hl := nx_lvl w.lv w.2.2.2.1
  obtain ⟨w1, w2, w3, w4, w5, w6⟩ := w
  unfold hourA
  exact ⟨w1, by rw [upd_ne (by decide)]; exact w2, by rw [upd_same]; exact hl, by rw [upd_ne (by decide)]; exact w4, fun s hs => by rw [upd_ne (by omega)]; exact w5 s hs, fun t ht => (w6 t ht).congr (fun f _ => upd_ne (by omega))⟩
theorem X6_goes_s {post : Int32 → Mem → Prop} {S : Mem} {n : Nat} (w : WFR (S 11 0) n) (h : ∀ S' : Mem, (∀ c, c ≠ 11 → S' c = S c) → S' 11 0 = hourR (S 11 0) n → post (hourC (S 11 0) n) S') : mX6_goes post S := by
  unfold mX6_goes
  rw [c1]
  refine ⟨vpL rfl, X6_next_s w.lv w.2.2.2.1 ⟨vpL rfl, fun S5 e5 => ⟨n + 1, ?_⟩⟩⟩
  have r5 : S5 11 0 = hourA (S 11 0) := by rw [e5, setrow]; rfl
  refine X6_b18_s (n := n) n 0 S5 (by omega) (by rw [r5]; exact hourA_wf w) (fun c hc => by rw [e5, wr_c hc]) ?_
  rw [r5]
  exact h
/-! hours: pass -/
theorem backR_8 {R : Row} {t : Nat} : backR R t 8 = R 8 := by
  unfold backR
  split
  · unfold goneR
    split
    · rw [bankR_s (by decide)]
      split
      · rw [if_neg (by decide), goneA_s (by decide)]; rfl
      · rw [if_neg (by decide), goneA_s (by decide)]; rfl
    · rw [updT (by decide), goneA_s (by decide)]; rfl
  · rfl
theorem onR_8 {R : Row} {t : Nat} : onR R t 8 = if onC R t = 0 then R 8 else R 8 + 1 := by
  unfold onR onC
  by_cases g : trv R t 3 = 1 ∧ trv R t 5 = 0
  · rw [if_pos g]
    by_cases g2 : stpT R t = tgT R t
    · rw [if_pos g2, if_pos (show trv R t 3 = 1 ∧ trv R t 5 = 0 ∧ stpT R t = tgT R t from ⟨g.1, g.2, g2⟩), if_neg (show ¬ (1 : Int32) = 0 by decide), bankR_s (by decide)]
      split
      · rw [if_neg (by decide), overA_s (by decide)]; rfl
      · rw [if_neg (by decide), overA_s (by decide)]; rfl
    · rw [if_neg g2, if_neg (fun z : trv R t 3 = 1 ∧ trv R t 5 = 0 ∧ stpT R t = tgT R t => g2 z.2.2), if_pos rfl, updT (by decide)]
  · rw [if_neg g, if_neg (fun z : trv R t 3 = 1 ∧ trv R t 5 = 0 ∧ stpT R t = tgT R t => g ⟨z.1, z.2.1⟩), if_pos rfl]
theorem dryR_k {R : Row} {t k : Nat} (hk : k < 20) : dryR R t k = R k := by
  unfold dryR
  split
  · exact updT hk
  · rfl
theorem heatR_k {R : Row} {n k : Nat} {bank : Int32} (hk : k < 20) : heatR R n bank k = R k := by
  unfold heatR
  split
  · rfl
  · unfold heat2
    split
    · exact updT hk
    · exact (updT hk).trans (updT hk)
theorem foldT_k {step : Row → Nat → Row} {k : Nat} (h : ∀ R t, step R t k = R k) : ∀ (m t : Nat) (R : Row), foldT step m t R k = R k := by
  intro m
  induction m with
  | zero => intro t R; rfl
  | succ m ih => intro t R; exact (ih (t + 1) (step R t)).trans (h R t)
theorem foldC_8 {d : Int32} : ∀ (m t : Nat) (R : Row) (c : Int32), R 8 = d + c → foldT onR m t R 8 = d + foldC m t R c := by
  intro m
  induction m with
  | zero => intro t R c h; exact h
  | succ m ih =>
    intro t R c h
    rw [foldT_s, foldC_s]
    refine ih (t + 1) (onR R t) _ ?_
    rw [onR_8]
    split
    · exact h
    · rw [h, Int32.add_assoc]
theorem hourR_8 {R : Row} {n : Nat} : hourR R n 8 = R 8 + hourC R n := by
  unfold hourR hourC tailR
  rw [upd_ne (by decide), heatR_k (by decide), heatR_k (by decide), foldT_k (fun R t => dryR_k (by decide))]
  refine foldC_8 n 0 (hourB R n) 0 ?_
  unfold hourB
  rw [foldT_k (fun R t => backR_8), Int32.add_zero]
  exact upd_ne (by decide)
theorem foldT_wf {step : Row → Nat → Row} {n : Nat} (h : ∀ R t, t < n → WFR R n → WFR (step R t) n) : ∀ (m t : Nat) (R : Row), t + m = n → WFR R n → WFR (foldT step m t R) n := by
  intro m
  induction m with
  | zero => intro t R _ w; exact w
  | succ m ih => intro t R ht w; exact ih (t + 1) _ (by omega) (h R t (by omega) w)
theorem tailR_wf {R : Row} {n : Nat} (w : WFR R n) : WFR (tailR R n) n := by
  have w2 := heatR_wf (bank := 10) (heatR_wf (bank := -1) w)
  unfold tailR
  generalize heatR (heatR R n (-1)) n 10 = R2 at w2 ⊢
  obtain ⟨w1, w2, w3, w4, w5, w6⟩ := w2
  exact ⟨w1, by rw [upd_ne (by decide)]; exact w2, by rw [upd_ne (by decide)]; exact w3, by rw [upd_ne (by decide)]; exact w4, fun s hs => by rw [upd_ne (by omega)]; exact w5 s hs, fun t ht => (w6 t ht).congr (fun f _ => upd_ne (by omega))⟩
theorem hourR_wf {R : Row} {n : Nat} (w : WFR R n) : WFR (hourR R n) n := by
  have a := hourA_wf w
  have b := foldT_wf (fun R t ht w => backR_wf w ht) n 0 _ (Nat.zero_add n) a
  have c := foldT_wf (fun R t ht w => onR_wf w ht) n 0 _ (Nat.zero_add n) b
  have d := foldT_wf (fun R t ht w => dryR_wf w ht) n 0 _ (Nat.zero_add n) c
  exact tailR_wf d
