/-! wetter and drier; the stoves -/
def dryR (R : Row) (t : Nat) : Row :=
  if 1 ≤ plN (trv R t 2) ∧ plN (trv R t 2) ≤ 10 then upd R (20 + 8 * t + 1) (wetF (trv R t 1) (if stF R (R 1) (plN (trv R t 2) - 1) = 1 then 2 else -1)) else R
def NU (R : Row) (t : Nat) : Prop := ¬ undP R (R 1) (plN (trv R t 2))
theorem dryR_o {R : Row} {t : Nat} : OneT R (dryR R t) t := by
  unfold dryR
  split
  · exact OneT.refl.T (by decide)
  · exact OneT.refl
theorem wetW {r : Row} (w : WFT r) {v : Int32} (hv : v = 2 ∨ v = -1 ∨ v = -3) : ∃ a b, a < 21 ∧ b ≤ 20 ∧ r 1 = nI a ∧ wetF (r 1) v = nI b := by
  obtain ⟨a, ha, e⟩ := w.wet
  have t := wet_tab a ha
  rcases hv with rfl | rfl | rfl
  · exact ⟨a, min 20 (a + 2), ha, by omega, e, by rw [e]; exact t.2.1.1⟩
  · exact ⟨a, a - 1, ha, by omega, e, by rw [e]; exact t.2.2.1.1⟩
  · exact ⟨a, a - 3, ha, by omega, e, by rw [e]; exact t.2.2.2.1⟩
/-- another wet -/
def wtR (R : Row) (t : Nat) (v : Int32) : Row := upd R (20 + 8 * t + 1) (wetF (trv R t 1) v)
theorem wtR_wf {R : Row} {n t : Nat} {v : Int32} (hv : v = 2 ∨ v = -1 ∨ v = -3) (w : WFR R n) (ht : t < n) : WFR (wtR R t v) n := by
  refine w.one (t := t) (OneT.refl.T (by decide)) ?_
  have wt := w.t ht
  obtain ⟨a, b, ha, hb, e, e2⟩ := wetW wt hv
  obtain ⟨w0, w1, w2, w3, w4, w6, w7, w8⟩ := wt
  unfold wtR WFT
  rw [trv_upd, trv_upd, trv_upd, trv_upd, trv_upd, trv_upd, trv_upd]
  exact ⟨w0, ⟨b, hb, e2⟩, w2, w3, w4, w6, w7, w8⟩
theorem dryR_wf {R : Row} {n t : Nat} (w : WFR R n) (ht : t < n) : WFR (dryR R t) n := by
  unfold dryR
  split
  · refine wtR_wf ?_ w ht
    split
    · exact Or.inl rfl
    · exact Or.inr (Or.inl rfl)
  · exact w
theorem RepC.wet {S : Mem} {n t : Nat} {R : Row} {v : Int32} (hv : v = 2 ∨ v = -1 ∨ v = -3) (hR : RepC S 0 R n) (ht : t < n) : RepC (wr S 2 t 1 (wetF (trv R t 1) v)) 0 (wtR R t v) n := by
  have hw := (wtR_wf hv hR.1 ht).t ht
  obtain ⟨s1, s2, s3, s4, s5, s6, s7, s8, s9, s10⟩ := hR.sc
  have o : ∀ f, f ≠ 1 → (wr S 2 t 1 (wetF (trv R t 1) v)) 2 t f = S 2 t f := fun f hf => wr_k hf
  refine hR.one (t := t) (OneT.refl.T (by decide)) hw (by rw [wr_c (by decide)]) ?_ (fun i hi => wr_i hi) ?_ (seven ?_ ?_ ?_ ?_ ?_ ?_ ?_)
  · unfold Scal wtR
    rw [wr_c (show 0 ≠ 2 by decide), updT (show 3 < 20 by decide), updT (show 0 < 20 by decide), updT (show 1 < 20 by decide), updT (show 2 < 20 by decide), updT (show 4 < 20 by decide), updT (show 5 < 20 by decide), updT (show 6 < 20 by decide), updT (show 7 < 20 by decide), updT (show 8 < 20 by decide), updT (show 9 < 20 by decide)]
    exact ⟨s1, s2, s3, s4, s5, s6, s7, s8, s9, s10⟩
  · rw [o 4 (by decide), hR.way ht]
    unfold wayF wtR
    rw [trv_upd, trv_upd, trv_upd]
    rfl
  · unfold wtR; rw [trv_upd, o 0 (by decide)]; exact hR.fld ht (by decide) (by decide)
  · unfold wtR; rw [trv_upd, wr_same]; rfl
  · unfold wtR; rw [trv_upd, o 2 (by decide)]; exact hR.fld ht (by decide) (by decide)
  · unfold wtR; rw [trv_upd, o 3 (by decide)]; exact hR.fld ht (by decide) (by decide)
  · unfold wtR; rw [trv_upd, o 5 (by decide)]; exact hR.fld ht (by decide) (by decide)
  · unfold wtR; rw [trv_upd, o 6 (by decide)]; exact hR.fld ht (by decide) (by decide)
  · unfold wtR; rw [trv_upd, o 7 (by decide)]; exact hR.fld ht (by decide) (by decide)
theorem X0_wetOrDry_s {post : Mem → Prop} {S : Mem} {n t : Nat} {R : Row} (hR : RepC S 0 R n) (ht : t < n) (nu : NU R t) (h : ∀ S' : Mem, SameBut 0 S S' → RepC S' 0 (dryR R t) n → post S') : mX0_wetOrDry post S 0 t := by
  have w := hR.1
  have t8 : t < 8 := by have := w.1; omega
  have wt := w.t ht
  obtain ⟨q, hq, e2⟩ := wt.pl
  have k2 : S 2 t 2 = pl q := (hR.fld ht (by decide) (by decide)).trans e2
  have k1 : S 2 t 1 = trv R t 1 := hR.fld ht (by decide) (by decide)
  unfold NU at nu
  rw [e2, plN_pl hq] at nu
  unfold dryR at h
  rw [e2, plN_pl hq] at h
  unfold mX0_wetOrDry
  rw [k2]
  refine X5_stone_pl hq (fun a ha ea => ⟨fun _ => ?_, fun g => ne10 g⟩) (fun g => ⟨fun g => absurd rfl g, fun _ => ?_⟩)
  · subst ea
    rw [if_pos (by omega), Nat.add_sub_cancel] at h
    have nu2 : ¬ stF R (R 1) a = 2 := fun z => nu ⟨by omega, by omega, z⟩
    rw [k2, pl_s, hR.sc.2.2.1]
    refine X0_stateOf_s ha w (hR.2.2.2.2.2.2.2.2.2.2.2.1 a ha) w.lv ⟨fun g1 => ⟨fun g0 => ?_, fun g0 => ?_⟩, fun g1 => ?_⟩
    · rcases stF_cases (R := R) (fl := R 1) (s := a) with z | z | z
      · exact absurd z g0
      · exact absurd z g1
      · exact absurd z nu2
    · rw [if_neg g1] at h
      obtain ⟨x, y, hx, hy, ex, ey⟩ := wetW (v := -1) wt (Or.inr (Or.inl rfl))
      refine X3_drier_s (k1.trans ex) (wet_tab x hx).2.2.1.2 ?_
      rw [← (wet_tab x hx).2.2.1.1, ← ex]
      exact h _ (wr2_now t8) (hR.wet (Or.inr (Or.inl rfl)) ht)
    · rw [if_pos g1] at h
      obtain ⟨x, y, hx, hy, ex, ey⟩ := wetW (v := 2) wt (Or.inl rfl)
      refine X3_wetter_s (k1.trans ex) (wet_tab x hx).2.1.2 ?_
      rw [← (wet_tab x hx).2.1.1, ← ex]
      exact h _ (wr2_now t8) (hR.wet (Or.inl rfl) ht)
  · rw [if_neg (by omega)] at h
    exact h S ⟨fun _ _ _ _ => rfl, fun _ _ => ⟨rfl, rfl⟩, fun _ _ _ _ => rfl⟩ hR
/-- the wettest on a bank who has not set out, but for one -/
def wtF (R : Row) (bank but : Int32) : Nat → Nat → Int32 → Int32 → Int32
  | 0, _, b, _ => b
  | m + 1, t, b, mo => if nI t = but then wtF R bank but m (t + 1) b mo else if trv R t 2 = bank ∧ trv R t 3 = 0 ∧ ¬ trv R t 1 ≤ mo then wtF R bank but m (t + 1) (nI t) (trv R t 1) else wtF R bank but m (t + 1) b mo
theorem wtF_in {R : Row} {bank but : Int32} {n : Nat} : ∀ (m t : Nat) (b mo : Int32), t + m = n → n ≤ 8 → (b = -1 ∨ ∃ i, i < n ∧ b = nI i ∧ ¬ b = but) → (wtF R bank but m t b mo = -1 ∨ ∃ i, i < n ∧ wtF R bank but m t b mo = nI i ∧ ¬ wtF R bank but m t b mo = but) := by
  intro m
  induction m with
  | zero => intro t b mo _ _ h; exact h
  | succ m ih =>
    intro t b mo ht hn h
    unfold wtF
    split
    · exact ih _ _ _ (by omega) hn h
    · rename_i g
      split
      · exact ih _ _ _ (by omega) hn (Or.inr ⟨t, by omega, rfl, g⟩)
      · exact ih _ _ _ (by omega) hn h
theorem X0_wettest_s {post : Int32 → Mem → Prop} {S : Mem} {n : Nat} {R : Row} {bank but : Int32} (hR : RepC S 0 R n) (h : post (wtF R bank but n 0 (-1) 0) S) : mX0_wettestOn post S 0 bank but := by
  have hn := hR.1.1
  have loop : ∀ (m t : Nat) (b mo : Int32), t + m = n → post (wtF R bank but m t b mo) S → mX0_wettestOn_b8 post (m + 1) S 0 bank but b mo (nI t) := by
    intro m
    induction m with
    | zero =>
      intro t b mo ht h
      unfold mX0_wettestOn_b8
      rw [hR.cnt]
      exact ⟨fun _ => h, fun g => absurd (nI_le (by omega) (by omega)) g⟩
    | succ m ih =>
      intro t b mo ht h
      have htn : t < n := by omega
      unfold mX0_wettestOn_b8
      rw [hR.cnt]
      refine ⟨fun g => absurd g (nI_ge htn (by omega)), fun _ => ⟨vpN (by omega) (by decide), fun k ek => ?_⟩⟩
      rw [nI_clamp (by omega), Nat.mul_zero, Nat.zero_add] at ek
      subst ek
      rw [hR.fld htn (show 2 < 8 by decide) (by decide), hR.fld htn (show 3 < 8 by decide) (by decide), hR.fld htn (show 1 < 8 by decide) (by decide)]
      unfold wtF at h
      refine ⟨fun g x ex => ?_, fun g => ⟨fun g2 x ex => ?_, fun g2 => ⟨fun g3 x ex => ?_, fun g3 => ⟨fun g1 x ex => ?_, fun g1 x ex y ey => ?_⟩⟩⟩⟩
      · rw [if_pos g] at h
        rw [ex, inc]
        exact ih _ _ _ (by omega) h
      · rw [if_neg g, if_neg (fun z => g2 z.1)] at h
        rw [ex, inc]
        exact ih _ _ _ (by omega) h
      · rw [if_neg g, if_neg (fun z => g3 z.2.1)] at h
        rw [ex, inc]
        exact ih _ _ _ (by omega) h
      · rw [if_neg g, if_neg (fun z => z.2.2 g1)] at h
        rw [ex, inc]
        exact ih _ _ _ (by omega) h
      · rw [if_neg g, if_pos ⟨g2, g3, g1⟩] at h
        rw [ey, ex, inc]
        exact ih _ _ _ (by omega) h
  unfold mX0_wettestOn
  exact ⟨n + 1, loop n 0 (-1) 0 (by omega) h⟩
def heat2 (R : Row) (s : Int32) : Row := if s = -1 then R else wtR R s.toNatClampNeg (-3)
def heatR (R : Row) (n : Nat) (bank : Int32) : Row :=
  if wtF R bank (-1) n 0 (-1) 0 = -1 then R else heat2 (wtR R (wtF R bank (-1) n 0 (-1) 0).toNatClampNeg (-3)) (wtF R bank (wtF R bank (-1) n 0 (-1) 0) n 0 (-1) 0)
theorem trv_wtR {R : Row} {t i f : Nat} {v : Int32} (h : f ≠ 1 ∨ i ≠ t) (hf : f < 8) : trv (wtR R t v) i f = trv R i f := by
  show upd R (20 + 8 * t + 1) _ (20 + 8 * i + f) = _
  rw [upd_ne (by omega)]
  rfl
theorem X0_heat_s {post : Mem → Prop} {S : Mem} {n : Nat} {R : Row} {bank : Int32} (hR : RepC S 0 R n) (h : ∀ S' : Mem, SameBut 0 S S' → RepC S' 0 (heatR R n bank) n → post S') : mX0_heat post S 0 bank := by
  have hn := hR.1.1
  unfold mX0_heat
  refine X0_wettest_s hR (X0_wettest_s hR ?_)
  unfold heatR at h
  have hi1 := wtF_in (R := R) (bank := bank) (but := -1) n 0 (-1) 0 (by omega) hn (Or.inl rfl)
  generalize ea : wtF R bank (-1) n 0 (-1) 0 = a at h hi1 ⊢
  have hi2 := wtF_in (R := R) (bank := bank) (but := a) n 0 (-1) 0 (by omega) hn (Or.inl rfl)
  refine ⟨fun g => ?_, fun g => ?_⟩
  · rw [if_pos g] at h
    subst g
    rw [ea]
    unfold mX0_heat_b29
    exact ⟨fun _ => h S ⟨fun _ _ _ _ => rfl, fun _ _ => ⟨rfl, rfl⟩, fun _ _ _ _ => rfl⟩ hR, fun g => absurd rfl g⟩
  · rw [if_neg g] at h
    obtain ⟨i, hi, ei, -⟩ := hi1.resolve_left g
    subst ei
    rw [nI_clamp (by omega)] at h
    refine ⟨vpN (by omega) (by decide), fun k ek => ?_⟩
    rw [nI_clamp (by omega), Nat.mul_zero, Nat.zero_add] at ek
    subst ek
    obtain ⟨x, y, hx, hy, ex, ey⟩ := wetW (v := -3) (hR.1.t hi) (Or.inr (Or.inr rfl))
    refine X3_drier_s ((hR.fld hi (by decide) (by decide)).trans ex) (wet_tab x hx).2.2.2.2 ?_
    rw [← (wet_tab x hx).2.2.2.1, ← ex]
    have hR1 := hR.wet (v := -3) (Or.inr (Or.inr rfl)) hi
    have n1 : SameBut 0 S (wr S 2 k 1 (wetF (trv R k 1) (-3))) := wr2_now (by omega)
    revert h hR1 n1
    generalize wr S 2 k 1 (wetF (trv R k 1) (-3)) = S1
    intro h hR1 n1
    generalize wtF R bank (nI k) n 0 (-1) 0 = b at h hi2 ⊢
    unfold heat2 at h
    unfold mX0_heat_b29
    refine ⟨fun g2 => ?_, fun g2 => ?_⟩
    · rw [if_pos g2] at h
      exact h S1 n1 hR1
    · rw [if_neg g2] at h
      obtain ⟨j, hj, ej, -⟩ := hi2.resolve_left g2
      subst ej
      rw [nI_clamp (by omega)] at h
      refine ⟨vpN (by omega) (by decide), fun k2 ek => ?_⟩
      rw [nI_clamp (by omega), Nat.mul_zero, Nat.zero_add] at ek
      subst ek
      obtain ⟨x, y, hx, hy, ex, ey⟩ := wetW (v := -3) (hR1.1.t hj) (Or.inr (Or.inr rfl))
      refine X3_drier_s ((hR1.fld hj (by decide) (by decide)).trans ex) (wet_tab x hx).2.2.2.2 ?_
      rw [← (wet_tab x hx).2.2.2.1, ← ex]
      exact h _ (n1.trans (wr2_now (by omega))) (hR1.wet (Or.inr (Or.inr rfl)) hj)

