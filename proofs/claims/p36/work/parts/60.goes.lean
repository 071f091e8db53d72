/-! an hour of the reference -/
theorem foldT_s {step : Row → Nat → Row} {m t : Nat} {R : Row} : foldT step (m + 1) t R = foldT step m (t + 1) (step R t) := rfl
theorem foldC_s {m t : Nat} {R : Row} {c : Int32} : foldC (m + 1) t R c = foldC m (t + 1) (onR R t) (if onC R t = 0 then c else c + 1) := rfl
def restR (A : Row) (n : Nat) : Row := tailR (foldT dryR n 0 (foldT onR n 0 A)) n
theorem hourA_wf {R : Row} {n : Nat} (w : WFR R n) : WFR (hourA R) n := by
  have hl := nx_lvl w.lv w.2.2.2.1
  obtain ⟨w1, w2, w3, w4, w5, w6⟩ := w
  unfold hourA
  exact ⟨w1, by rw [upd_ne (by decide)]; exact w2, by rw [upd_same]; exact hl, by rw [upd_ne (by decide)]; exact w4, fun s hs => by rw [upd_ne (by omega)]; exact w5 s hs, fun t ht => (w6 t ht).congr (fun f _ => upd_ne (by omega))⟩
/-! hours: pass -/
theorem backR_8 {R : Row} {t : Nat} : backR R t 8 = R 8 := by
  unfold backR
  split
  · unfold goneR
    split
    · rw [bankR_s (by decide)]
      split
      · rw [if_neg (by decide), goneA_s (by decide)]; rfl
      · rw [if_neg (by decide), goneA_s (by decide)]; rfl
    · rw [updT (by decide), goneA_s (by decide)]; rfl
  · rfl
theorem onR_8 {R : Row} {t : Nat} : onR R t 8 = if onC R t = 0 then R 8 else R 8 + 1 := by
  unfold onR onC
  by_cases g : trv R t 3 = 1 ∧ trv R t 5 = 0
  · rw [if_pos g]
    by_cases g2 : stpT R t = tgT R t
    · rw [if_pos g2, if_pos (show trv R t 3 = 1 ∧ trv R t 5 = 0 ∧ stpT R t = tgT R t from ⟨g.1, g.2, g2⟩), if_neg (show ¬ (1 : Int32) = 0 by decide), bankR_s (by decide)]
      split
      · rw [if_neg (by decide), overA_s (by decide)]; rfl
      · rw [if_neg (by decide), overA_s (by decide)]; rfl
    · rw [if_neg g2, if_neg (fun z : trv R t 3 = 1 ∧ trv R t 5 = 0 ∧ stpT R t = tgT R t => g2 z.2.2), if_pos rfl, updT (by decide)]
  · rw [if_neg g, if_neg (fun z : trv R t 3 = 1 ∧ trv R t 5 = 0 ∧ stpT R t = tgT R t => g ⟨z.1, z.2.1⟩), if_pos rfl]
theorem dryR_k {R : Row} {t k : Nat} (hk : k < 20) : dryR R t k = R k := by
  unfold dryR
  split
  · exact updT hk
  · rfl
theorem heatR_k {R : Row} {n k : Nat} {bank : Int32} (hk : k < 20) : heatR R n bank k = R k := by
  unfold heatR
  split
  · rfl
  · unfold heat2
    split
    · exact updT hk
    · exact (updT hk).trans (updT hk)
theorem foldT_k {step : Row → Nat → Row} {k : Nat} (h : ∀ R t, step R t k = R k) : ∀ (m t : Nat) (R : Row), foldT step m t R k = R k := by
  intro m
  induction m with
  | zero => intro t R; rfl
  | succ m ih => intro t R; exact (ih (t + 1) (step R t)).trans (h R t)
theorem foldC_8 {d : Int32} : ∀ (m t : Nat) (R : Row) (c : Int32), R 8 = d + c → foldT onR m t R 8 = d + foldC m t R c := by
  intro m
  induction m with
  | zero => intro t R c h; exact h
  | succ m ih =>
    intro t R c h
    rw [foldT_s, foldC_s]
    refine ih (t + 1) (onR R t) _ ?_
    rw [onR_8]
    split
    · exact h
    · rw [h, Int32.add_assoc]
theorem hourR_8 {R : Row} {n : Nat} : hourR R n 8 = R 8 + hourC R n := by
  unfold hourR hourC tailR
  rw [upd_ne (by decide), heatR_k (by decide), heatR_k (by decide), foldT_k (fun R t => dryR_k (by decide))]
  refine foldC_8 n 0 (hourB R n) 0 ?_
  unfold hourB
  rw [foldT_k (fun R t => backR_8), Int32.add_zero]
  exact upd_ne (by decide)
theorem foldT_wf {step : Row → Nat → Row} {n : Nat} (h : ∀ R t, t < n → WFR R n → WFR (step R t) n) : ∀ (m t : Nat) (R : Row), t + m = n → WFR R n → WFR (foldT step m t R) n := by
  intro m
  induction m with
  | zero => intro t R _ w; exact w
  | succ m ih => intro t R ht w; exact ih (t + 1) _ (by omega) (h R t (by omega) w)
theorem tailR_wf {R : Row} {n : Nat} (w : WFR R n) : WFR (tailR R n) n := by
  have w2 := heatR_wf (bank := 10) (heatR_wf (bank := -1) w)
  unfold tailR
  generalize heatR (heatR R n (-1)) n 10 = R2 at w2 ⊢
  obtain ⟨w1, w2, w3, w4, w5, w6⟩ := w2
  exact ⟨w1, by rw [upd_ne (by decide)]; exact w2, by rw [upd_ne (by decide)]; exact w3, by rw [upd_ne (by decide)]; exact w4, fun s hs => by rw [upd_ne (by omega)]; exact w5 s hs, fun t ht => (w6 t ht).congr (fun f _ => upd_ne (by omega))⟩
theorem hourR_wf {R : Row} {n : Nat} (w : WFR R n) : WFR (hourR R n) n := by
  have a := hourA_wf w
  have b := foldT_wf (fun R t ht w => backR_wf w ht) n 0 _ (Nat.zero_add n) a
  have c := foldT_wf (fun R t ht w => onR_wf w ht) n 0 _ (Nat.zero_add n) b
  have d := foldT_wf (fun R t ht w => dryR_wf w ht) n 0 _ (Nat.zero_add n) c
  exact tailR_wf d

