/-! what an hour makes of one traveller -/
def Same (R R' : Row) (i : Nat) : Prop := (∀ k, (k = 1 ∨ k = 2 ∨ k = 3 ∨ 10 ≤ k ∧ k < 20) → R' k = R k) ∧ (∀ f, f < 8 → trv R' i f = trv R i f)
theorem Same.trans {R R1 R2 : Row} {i : Nat} (h : Same R R1 i) (h2 : Same R1 R2 i) : Same R R2 i := ⟨fun k hk => (h2.1 k hk).trans (h.1 k hk), fun f hf => (h2.2 f hf).trans (h.2 f hf)⟩
theorem Same.refl {R : Row} {i : Nat} : Same R R i := ⟨fun _ _ => rfl, fun _ _ => rfl⟩
theorem OneT.same {R R' : Row} {t i : Nat} (o : OneT R R' t) (h : i ≠ t) : Same R R' i := ⟨fun k hk => o k (by omega) (by omega), fun f hf => o _ (by omega) (by omega)⟩
theorem foldT_before {step : Row → Nat → Row} (ho : ∀ R t, OneT R (step R t) t) : ∀ (m t : Nat) (R : Row) (i : Nat), i < t → Same R (foldT step m t R) i := by
  intro m
  induction m with
  | zero => intro t R i _; exact Same.refl
  | succ m ih => intro t R i hi; exact ((ho R t).same (by omega)).trans (ih (t + 1) _ i (by omega))
theorem foldT_at {step : Row → Nat → Row} (ho : ∀ R t, OneT R (step R t) t) (cg : ∀ R R' t, WFT (trv R t) → Same R R' t → Same (step R t) (step R' t) t) : ∀ (m t : Nat) (R : Row) (i : Nat), t ≤ i → i < t + m → WFT (trv R i) → Same (step R i) (foldT step m t R) i := by
  intro m
  induction m with
  | zero => intro t R i h1 h2; omega
  | succ m ih =>
    intro t R i h1 h2 hw
    by_cases e : i = t
    · subst e
      exact foldT_before ho m (i + 1) _ i (by omega)
    · have s := (ho R t).same e
      exact (cg R (step R t) i hw s).trans (ih (t + 1) (step R t) i (by omega) (by omega) (hw.congr s.2))
def HH (R R' : Row) : Prop := ∀ k, 10 ≤ k → k < 20 → R' k = R k
theorem Same.hh {R R' : Row} {i : Nat} (h : Same R R' i) : HH R R' := fun k h1 h2 => h.1 k (by omega)
theorem HH.st {R R' : Row} {s : Nat} {fl : Int32} (h : HH R R') (hs : s < 10) : stF R' fl s = stF R fl s := by
  unfold stF
  rw [h (10 + s) (by omega) (by omega)]
theorem goB_congr {R R' : Row} {fl : Int32} {far : Bool} (h : HH R R') : ∀ (m q : Nat), goB R' fl far m q = goB R fl far m q := by
  intro m
  induction m with
  | zero => intro q; rfl
  | succ m ih =>
    intro q
    unfold goB
    by_cases g : 1 ≤ q ∧ q ≤ 10
    · rw [h.st (by omega), ih]
    · rw [if_neg (fun z => g ⟨z.1, z.2.1⟩), if_neg (fun z => g ⟨z.1, z.2.1⟩)]
theorem canF_congr {R R' : Row} {s : Nat} {fl kind p : Int32} (h : HH R R') (hs : s < 10) : canF R' fl kind p s = canF R fl kind p s := by
  unfold canF
  rw [h.st hs, h (10 + s) (by omega) (by omega)]
  by_cases g : p < 0 ∨ ¬ p < 10
  · rw [if_pos g, if_pos g]
  · obtain ⟨k, hk, rfl⟩ := nI_lt_of (n := 10) (by decide) (fun z => g (Or.inl z)) (Classical.not_not.mp (fun z => g (Or.inr z)))
    rw [nI_clamp (by omega), h (10 + k) (by omega) (by omega)]
theorem stepN_congr {R R' : Row} {q : Nat} {fl kind : Int32} {far : Bool} (h : HH R R') (hq : nxN far q ≤ 11) : stepN R' fl kind far q = stepN R fl kind far q := by
  unfold stepN
  by_cases g : nxN far q = 0 ∨ nxN far q = 11
  · rw [if_pos g, if_pos g]
  · rw [if_neg g, if_neg g, canF_congr h (by omega)]
theorem back_f {R : Row} {t q : Nat} (h2 : trv R t 2 = pl q) (hq : q ≤ 11) : trv (backR R t) t 0 = trv R t 0 ∧ trv (backR R t) t 4 = trv R t 4 ∧ trv (backR R t) t 2 = pl (goB R (R 1) (decide (trv R t 4 = 1)) 10 q) ∧ (undP R (R 1) q ∧ (goB R (R 1) (decide (trv R t 4 = 1)) 10 q = 0 ∨ goB R (R 1) (decide (trv R t 4 = 1)) 10 q = 11) → trv (backR R t) t 3 = 0 ∧ trv (backR R t) t 5 = 0) ∧ (¬ (undP R (R 1) q ∧ (goB R (R 1) (decide (trv R t 4 = 1)) 10 q = 0 ∨ goB R (R 1) (decide (trv R t 4 = 1)) 10 q = 11)) → trv (backR R t) t 3 = trv R t 3 ∧ trv (backR R t) t 5 = trv R t 5) := by
  refine ⟨?_, ?_, backR_2 h2 hq, fun g => ?_, fun g => ?_⟩
  · unfold backR
    split
    · unfold goneR
      split
      · rw [bankR_f, goneA_f]; rfl
      · rw [trv_upd, goneA_f]; rfl
    · rfl
  · unfold backR
    split
    · unfold goneR
      split
      · rw [bankR_f, goneA_f]; rfl
      · rw [trv_upd, goneA_f]; rfl
    · rfl
  · unfold backR
    rw [h2, plN_pl hq]
    have u := g.1
    unfold undP at u
    rw [if_pos u]
    unfold goneR
    rw [if_pos g.2, bankR_f, bankR_f]
    exact ⟨rfl, rfl⟩
  · unfold backR
    rw [h2, plN_pl hq]
    by_cases u : undP R (R 1) q
    · have gb := fun z => g ⟨u, z⟩
      unfold undP at u
      rw [if_pos u]
      unfold goneR
      rw [if_neg gb, trv_upd, trv_upd, goneA_f, goneA_f]
      exact ⟨rfl, rfl⟩
    · unfold undP at u
      rw [if_neg u]
      exact ⟨rfl, rfl⟩
theorem on_f {R : Row} {t : Nat} : trv (onR R t) t 0 = trv R t 0 ∧ trv (onR R t) t 4 = trv R t 4 ∧ (¬ (trv R t 3 = 1 ∧ trv R t 5 = 0) → onR R t = R) ∧ (trv R t 3 = 1 ∧ trv R t 5 = 0 → trv (onR R t) t 2 = pl (stpT R t)) ∧ (trv R t 3 = 1 ∧ trv R t 5 = 0 → ¬ stpT R t = tgT R t → trv (onR R t) t 3 = 1 ∧ trv (onR R t) t 5 = 0) := by
  refine ⟨?_, ?_, fun g => if_neg g, onR_2, fun g g2 => ?_⟩
  · unfold onR
    split
    · split
      · rw [bankR_f, overA_f]; rfl
      · rw [trv_upd]; rfl
    · rfl
  · unfold onR
    split
    · split
      · rw [bankR_f, overA_f]; rfl
      · rw [trv_upd]; rfl
    · rfl
  · unfold onR
    rw [if_pos g, if_neg g2, trv_upd, trv_upd]
    exact ⟨g.1, g.2⟩
theorem backR_cg {R R' : Row} {t : Nat} (h : Same R R' t) : Same (backR R t) (backR R' t) t := by
  refine ⟨fun k hk => ?_, fun f hf => ?_⟩
  · rw [(backR_o (R := R') (t := t)) k (by omega) (by omega), (backR_o (R := R) (t := t)) k (by omega) (by omega)]
    exact h.1 k hk
  · unfold backR
    rw [h.2 2 (by decide), h.2 4 (by decide), h.1 1 (by omega)]
    by_cases u : undP R (R 1) (plN (trv R t 2))
    · have u' : 1 ≤ plN (trv R t 2) ∧ plN (trv R t 2) ≤ 10 ∧ stF R' (R 1) (plN (trv R t 2) - 1) = 2 := ⟨u.1, u.2.1, by rw [h.hh.st (by have := u.1; have := u.2.1; omega)]; exact u.2.2⟩
      unfold undP at u
      rw [if_pos u, if_pos u', goB_congr h.hh]
      unfold goneR
      split
      · rw [bankR_f, bankR_f, goneA_f, goneA_f, h.2 1 (by decide), h.2 f hf]
      · rw [trv_upd, trv_upd, goneA_f, goneA_f, h.2 1 (by decide), h.2 f hf]
    · have u' : ¬ (1 ≤ plN (trv R t 2) ∧ plN (trv R t 2) ≤ 10 ∧ stF R' (R 1) (plN (trv R t 2) - 1) = 2) := fun z => u ⟨z.1, z.2.1, by rw [← h.hh.st (by have := z.1; have := z.2.1; omega)]; exact z.2.2⟩
      unfold undP at u
      rw [if_neg u, if_neg u']
      exact h.2 f hf
theorem onR_cg {R R' : Row} {t : Nat} (hok : nxN (decide (trv R t 4 = 1)) (plN (trv R t 2)) ≤ 11) (h : Same R R' t) : Same (onR R t) (onR R' t) t := by
  refine ⟨fun k hk => ?_, fun f hf => ?_⟩
  · rw [(onR_o (R := R') (t := t)) k (by omega) (by omega), (onR_o (R := R) (t := t)) k (by omega) (by omega)]
    exact h.1 k hk
  · have e1 : stpT R' t = stpT R t := by
      unfold stpT
      rw [h.2 0 (by decide), h.2 4 (by decide), h.2 2 (by decide), h.1 1 (by omega)]
      exact stepN_congr h.hh hok
    have e2 : tgT R' t = tgT R t := by
      unfold tgT
      rw [h.2 4 (by decide)]
    unfold onR
    rw [h.2 3 (by decide), h.2 5 (by decide), e1, e2]
    split
    · split
      · rw [bankR_f, bankR_f, overA_f, overA_f, h.2 6 (by decide), h.2 f hf]
      · rw [trv_upd, trv_upd, h.2 f hf]
    · exact h.2 f hf
theorem onR_cg2 {R R' : Row} {t : Nat} (hw : WFT (trv R t)) (h : Same R R' t) : Same (onR R t) (onR R' t) t := by
  by_cases g : trv R t 3 = 1 ∧ trv R t 5 = 0
  · obtain ⟨q, hq, e⟩ := hw.pl
    refine onR_cg ?_ h
    rw [e, plN_pl hq]
    exact nxN_le hq (fun z => (ends hw g.1 e hq).1 (of_decide_eq_true z))
  · have e1 : onR R t = R := if_neg g
    have e2 : onR R' t = R' := if_neg (by rw [h.2 3 (by decide), h.2 5 (by decide)]; exact g)
    rw [e1, e2]
    exact h
theorem dryR_n {R : Row} {t k : Nat} (hk : ∀ j, k ≠ 20 + 8 * j + 1) : dryR R t k = R k := by
  unfold dryR
  split
  · exact upd_ne (hk t)
  · rfl
theorem heatR_n {R : Row} {n k : Nat} {bank : Int32} (hk : ∀ j, k ≠ 20 + 8 * j + 1) : heatR R n bank k = R k := by
  unfold heatR
  split
  · rfl
  · unfold heat2
    split
    · exact upd_ne (hk _)
    · exact (upd_ne (hk _)).trans (upd_ne (hk _))
theorem rest_n {R : Row} {n k : Nat} (hk : ∀ j, k ≠ 20 + 8 * j + 1) (h0 : k ≠ 0) : tailR (foldT dryR n 0 R) n k = R k := by
  unfold tailR
  rw [upd_ne h0, heatR_n hk, heatR_n hk, foldT_k (fun R t => dryR_n hk)]
theorem hour_k {R : Row} {n k : Nat} (hk : k = 1 ∨ k = 2 ∨ k = 3 ∨ 10 ≤ k ∧ k < 20) : hourR R n k = hourA R k := by
  unfold hourR hourB
  rw [rest_n (by omega) (by omega), foldT_k (fun R t => (onR_o (R := R) (t := t)) k (by omega) (by omega)), foldT_k (fun R t => (backR_o (R := R) (t := t)) k (by omega) (by omega))]
theorem hour_f {R : Row} {n t f : Nat} (w : WFR R n) (ht : t < n) (hf : f < 8) (h1 : f ≠ 1) : trv (hourR R n) t f = trv (onR (backR (hourA R) t) t) t f := by
  have wA := hourA_wf w
  have wB := backR_wf wA ht
  have s1 : Same (backR (hourA R) t) (hourB R n) t := foldT_at (fun R t => backR_o) (fun R R' t _ h => backR_cg h) n 0 (hourA R) t (Nat.zero_le t) (by omega) (wA.t ht)
  have s2 : Same (onR (hourB R n) t) (foldT onR n 0 (hourB R n)) t := foldT_at (fun R t => onR_o) (fun R R' t hw h => onR_cg2 hw h) n 0 (hourB R n) t (Nat.zero_le t) (by omega) ((wB.t ht).congr s1.2)
  have s3 := (onR_cg2 (wB.t ht) s1).trans s2
  have e : trv (hourR R n) t f = trv (foldT onR n 0 (hourB R n)) t f := rest_n (by omega) (by omega)
  rw [e]
  exact s3.2 f hf

