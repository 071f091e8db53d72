/-! an hour -/
def foldT (step : Row → Nat → Row) : Nat → Nat → Row → Row
  | 0, _, R => R
  | m + 1, t, R => foldT step m (t + 1) (step R t)
def foldC : Nat → Nat → Row → Int32 → Int32
  | 0, _, _, c => c
  | m + 1, t, R, c => foldC m (t + 1) (onR R t) (if onC R t = 0 then c else c + 1)
def tailR (C : Row) (n : Nat) : Row := upd (heatR (heatR C n (-1)) n 10) 0 ((heatR (heatR C n (-1)) n 10) 0 + 1)
def hourA (R : Row) : Row := upd R 1 (nxF (R 1) (R 2))
def hourB (R : Row) (n : Nat) : Row := foldT backR n 0 (hourA R)
def hourR (R : Row) (n : Nat) : Row := tailR (foldT dryR n 0 (foldT onR n 0 (hourB R n))) n
def hourC (R : Row) (n : Nat) : Int32 := foldC n 0 (hourB R n) 0
theorem RepC.scs {S S' : Mem} {R R' : Row} {n : Nat} (h : RepC S 0 R n) (hc : ∀ c, c ≠ 0 → S' c = S c) (hs : Scal S' R') (h3 : R' 3 = R 3) (h1 : lvl (R' 1)) (h2 : R' 2 = R 2) (hr : ∀ k, 10 ≤ k → R' k = R k) : RepC S' 0 R' n := by
  obtain ⟨s1, s2, s3, s4, s5, s6, s7, s8, s9, s10⟩ := hs
  obtain ⟨⟨w1, w2, w3, w4, w5, w6⟩, b1, b2, b3, b4, b5, b6, b7, b8, b9, b10, b11, b12⟩ := h
  have hT : ∀ t f, trv R' t f = trv R t f := fun t f => hr _ (by omega)
  refine ⟨⟨w1, by rw [h3]; exact w2, h1, by rw [h2]; exact w4, fun s hs => by rw [hr _ (by omega)]; exact w5 s hs, fun t ht => (w6 t ht).congr (fun f _ => hT t f)⟩, s1, s2, s3, s4, s5, s6, s7, s8, s9, s10, fun s hs => ?_, fun t ht f hf => ?_⟩
  · rw [hc 1 (by decide), hr _ (by omega)]; exact b11 s hs
  · rw [hc 2 (by decide), b12 t ht f hf]
    exact (ctF.congr (fun f _ => hT t f) hf).symm
theorem stF_o {R R' : Row} {t s : Nat} {fl : Int32} (o : OneT R R' t) (hs : s < 10) : stF R' fl s = stF R fl s := by
  unfold stF
  rw [o _ (by omega) (by omega)]
theorem undP_o {R R' : Row} {t q : Nat} {fl : Int32} (o : OneT R R' t) : undP R' fl q ↔ undP R fl q := by
  unfold undP
  constructor
  · rintro ⟨h1, h2, h3⟩
    exact ⟨h1, h2, by rw [← stF_o o (by omega)]; exact h3⟩
  · rintro ⟨h1, h2, h3⟩
    exact ⟨h1, h2, by rw [stF_o o (by omega)]; exact h3⟩
theorem NU_o {R R' : Row} {t i : Nat} (o : OneT R R' t) (hi : i ≠ t) (h : NU R i) : NU R' i := by
  have e : trv R' i 2 = trv R i 2 := o _ (by omega) (by omega)
  unfold NU at h ⊢
  rw [undP_o o, o 1 (by omega) (by omega), e]
  exact h
theorem backR_2 {R : Row} {t q : Nat} (h2 : trv R t 2 = pl q) (hq : q ≤ 11) : trv (backR R t) t 2 = pl (goB R (R 1) (decide (trv R t 4 = 1)) 10 q) := by
  unfold backR
  rw [h2, plN_pl hq]
  split
  · unfold goneR
    split
    · rw [bankR_f]; rfl
    · rw [trv_upd]; rfl
  · rename_i u
    rw [goB_stay u, h2]
theorem goB_end2 {R : Row} {fl : Int32} {far : Bool} {q : Nat} (hq : q ≤ 11) : ¬ undP R fl (goB R fl far 10 q) := by
  by_cases u : undP R fl q
  · have := u.1
    have := u.2.1
    exact goB_end 10 q hq (fun _ => by omega) (fun _ => by omega)
  · rw [goB_stay u]
    exact u
theorem backR_NU {R : Row} {n t : Nat} (w : WFR R n) (ht : t < n) : NU (backR R t) t := by
  obtain ⟨q, hq, e⟩ := (w.t ht).pl
  unfold NU
  rw [undP_o backR_o, (backR_o (R := R) (t := t)) 1 (by omega) (by omega), backR_2 e hq, plN_pl (goB_le 10 q hq)]
  exact goB_end2 hq
theorem canF_und {R : Row} {fl kind p : Int32} {s : Nat} (h : ¬ canF R fl kind p s = 0) : ¬ stF R fl s = 2 := by
  intro g
  unfold canF at h
  rw [if_neg (by rw [g]; decide), if_neg (by rw [g]; decide)] at h
  exact h rfl
theorem stepN_und {R : Row} {fl kind : Int32} {far : Bool} {q : Nat} (h : ¬ undP R fl q) : ¬ undP R fl (stepN R fl kind far q) := by
  unfold stepN
  split
  · rename_i g
    rintro ⟨u1, u2, -⟩
    omega
  · split
    · exact h
    · rename_i g
      exact fun u => canF_und g u.2.2
theorem onR_2 {R : Row} {t : Nat} (g : trv R t 3 = 1 ∧ trv R t 5 = 0) : trv (onR R t) t 2 = pl (stpT R t) := by
  unfold onR
  rw [if_pos g]
  split
  · rename_i e
    rw [bankR_f, e]; rfl
  · rw [trv_upd]; rfl
theorem onR_NU {R : Row} {n t : Nat} (w : WFR R n) (ht : t < n) (h : NU R t) : NU (onR R t) t := by
  have wt := w.t ht
  obtain ⟨q, hq, e⟩ := wt.pl
  by_cases g : trv R t 3 = 1 ∧ trv R t 5 = 0
  · have en := ends wt g.1 e hq
    have sle : stpT R t ≤ 11 := by
      unfold stpT
      rw [e, plN_pl hq]
      exact stepN_le hq (fun z => en.1 (of_decide_eq_true z))
    unfold NU at h ⊢
    rw [undP_o onR_o, (onR_o (R := R) (t := t)) 1 (by omega) (by omega), onR_2 g, plN_pl sle]
    rw [e, plN_pl hq] at h
    unfold stpT
    rw [e, plN_pl hq]
    exact stepN_und h
  · have e : onR R t = R := if_neg g
    rw [e]
    exact h
theorem heatR_wf {R : Row} {n : Nat} {bank : Int32} (w : WFR R n) : WFR (heatR R n bank) n := by
  have hn := w.1
  unfold heatR
  have hi1 := wtF_in (R := R) (bank := bank) (but := -1) n 0 (-1) 0 (by omega) hn (Or.inl rfl)
  split
  · exact w
  · rename_i g
    obtain ⟨i, hi, ei, -⟩ := hi1.resolve_left g
    rw [ei, nI_clamp (by omega)]
    have w1 := wtR_wf (v := -3) (Or.inr (Or.inr rfl)) w hi
    have hi2 := wtF_in (R := R) (bank := bank) (but := nI i) n 0 (-1) 0 (by omega) hn (Or.inl rfl)
    unfold heat2
    split
    · exact w1
    · rename_i g2
      obtain ⟨j, hj, ej, -⟩ := hi2.resolve_left g2
      rw [ej, nI_clamp (by omega)]
      exact wtR_wf (Or.inr (Or.inr rfl)) w1 hj
theorem SameBut.refl {j : Nat} {S : Mem} : SameBut j S S := ⟨fun _ _ _ _ => rfl, fun _ _ => ⟨rfl, rfl⟩, fun _ _ _ _ => rfl⟩
theorem X0_b66_s {post : Mem → Prop} {S0 : Mem} {n : Nat} : ∀ (m t : Nat) (S : Mem) (R : Row), t + m = n → RepC S 0 R n → SameBut 0 S0 S → (∀ i, i < n → NU R i) → (∀ S' : Mem, SameBut 0 S0 S' → RepC S' 0 (tailR (foldT dryR m t R) n) n → post S') → mX0_letHourGoBy_b66 post (m + 1) S 0 (nI t) := by
  intro m
  induction m with
  | zero =>
    intro t S R ht hR hS nu h
    have hn := hR.1.1
    unfold mX0_letHourGoBy_b66
    rw [hR.cnt]
    refine ⟨fun _ => X0_heat_s hR (fun S1 n1 r1 => X0_heat_s r1 (fun S2 n2 r2 S6 e6 => ?_)), fun g => absurd (nI_le (by omega) (by omega)) g⟩
    refine h S6 (by rw [e6]; exact ((hS.trans n1).trans n2).trans wr0_now) ?_
    obtain ⟨s1, s2, s3, s4, s5, s6, s7, s8, s9, s10⟩ := r2.sc
    rw [s2] at e6
    show RepC S6 0 (upd (heatR (heatR R n (-1)) n 10) 0 ((heatR (heatR R n (-1)) n 10) 0 + 1)) n
    generalize heatR (heatR R n (-1)) n 10 = R2 at r2 s1 s2 s3 s4 s5 s6 s7 s8 s9 s10 e6 ⊢
    refine r2.scs (fun c hc => by rw [e6, wr_c hc]) ?_ (upd_ne (by decide)) (by rw [upd_ne (by decide)]; exact r2.1.lv) (upd_ne (by decide)) (fun k hk => upd_ne (by omega))
    unfold Scal
    rw [e6, upd_same, upd_ne (show 1 ≠ 0 by decide), upd_ne (show 2 ≠ 0 by decide), upd_ne (show 3 ≠ 0 by decide), upd_ne (show 4 ≠ 0 by decide), upd_ne (show 5 ≠ 0 by decide), upd_ne (show 6 ≠ 0 by decide), upd_ne (show 7 ≠ 0 by decide), upd_ne (show 8 ≠ 0 by decide), upd_ne (show 9 ≠ 0 by decide), wr_same, wr_k (show 2 ≠ 3 by decide), wr_k (show 4 ≠ 3 by decide), wr_k (show 5 ≠ 3 by decide), wr_k (show 6 ≠ 3 by decide), wr_k (show 7 ≠ 3 by decide), wr_k (show 8 ≠ 3 by decide), wr_k (show 9 ≠ 3 by decide), wr_k (show 10 ≠ 3 by decide), wr_k (show 11 ≠ 3 by decide)]
    exact ⟨s1, rfl, s3, s4, s5, s6, s7, s8, s9, s10⟩
  | succ m ih =>
    intro t S R ht hR hS nu h
    have hn := hR.1.1
    have htn : t < n := by omega
    unfold mX0_letHourGoBy_b66
    rw [hR.cnt]
    refine ⟨fun g => absurd g (nI_ge htn (by omega)), fun _ => ⟨vpN (by omega) (by decide), fun k ek => ?_⟩⟩
    rw [nI_clamp (by omega), Nat.mul_zero, Nat.zero_add] at ek
    subst ek
    refine X0_wetOrDry_s hR htn (nu k htn) (fun S1 n1 r1 x ex => ?_)
    rw [ex, inc]
    refine ih (k + 1) S1 _ (by omega) r1 (hS.trans n1) (fun i hi => ?_) h
    by_cases hik : i = k
    · subst hik
      have e2 : trv (dryR R i) i 2 = trv R i 2 := by
        unfold dryR
        split
        · rw [trv_upd]; rfl
        · rfl
      have := nu i hi
      unfold NU at this ⊢
      rw [undP_o dryR_o, (dryR_o (R := R) (t := i)) 1 (by omega) (by omega), e2]
      exact this
    · exact NU_o dryR_o hik (nu i hi)
theorem X0_b40_s {post : Mem → Prop} {S0 : Mem} {n : Nat} : ∀ (m t : Nat) (S : Mem) (R : Row), t + m = n → RepC S 0 R n → SameBut 0 S0 S → (∀ i, i < n → NU R i) → (∀ S' : Mem, SameBut 0 S0 S' → RepC S' 0 (tailR (foldT dryR n 0 (foldT onR m t R)) n) n → post S') → mX0_letHourGoBy_b40 post (m + 1) S 0 (nI t) := by
  intro m
  induction m with
  | zero =>
    intro t S R ht hR hS nu h
    have hn := hR.1.1
    unfold mX0_letHourGoBy_b40
    rw [hR.cnt]
    exact ⟨fun _ => ⟨n + 1, X0_b66_s n 0 S R (by omega) hR hS nu h⟩, fun g => absurd (nI_le (by omega) (by omega)) g⟩
  | succ m ih =>
    intro t S R ht hR hS nu h
    have hn := hR.1.1
    have htn : t < n := by omega
    unfold mX0_letHourGoBy_b40
    rw [hR.cnt]
    refine ⟨fun g => absurd g (nI_ge htn (by omega)), fun _ => ⟨vpN (by omega) (by decide), fun k ek => ?_⟩⟩
    rw [nI_clamp (by omega), Nat.mul_zero, Nat.zero_add] at ek
    subst ek
    refine X0_sendOn_s hR htn (fun S1 n1 r1 x ex => ?_)
    rw [ex, inc]
    refine ih (k + 1) S1 _ (by omega) r1 (hS.trans n1) (fun i hi => ?_) h
    by_cases hik : i = k
    · subst hik
      exact onR_NU hR.1 hi (nu i hi)
    · exact NU_o onR_o hik (nu i hi)
theorem X0_b14_s {post : Mem → Prop} {S0 : Mem} {n : Nat} : ∀ (m t : Nat) (S : Mem) (R : Row), t + m = n → RepC S 0 R n → SameBut 0 S0 S → (∀ i, i < t → NU R i) → (∀ S' : Mem, SameBut 0 S0 S' → RepC S' 0 (tailR (foldT dryR n 0 (foldT onR n 0 (foldT backR m t R))) n) n → post S') → mX0_letHourGoBy_b14 post (m + 1) S 0 (nI t) := by
  intro m
  induction m with
  | zero =>
    intro t S R ht hR hS nu h
    have hn := hR.1.1
    unfold mX0_letHourGoBy_b14
    rw [hR.cnt]
    exact ⟨fun _ => ⟨n + 1, X0_b40_s n 0 S R (by omega) hR hS (fun i hi => nu i (by omega)) h⟩, fun g => absurd (nI_le (by omega) (by omega)) g⟩
  | succ m ih =>
    intro t S R ht hR hS nu h
    have hn := hR.1.1
    have htn : t < n := by omega
    unfold mX0_letHourGoBy_b14
    rw [hR.cnt]
    refine ⟨fun g => absurd g (nI_ge htn (by omega)), fun _ => ⟨vpN (by omega) (by decide), fun k ek => ?_⟩⟩
    rw [nI_clamp (by omega), Nat.mul_zero, Nat.zero_add] at ek
    subst ek
    refine X0_sendBack_s hR htn (fun S1 n1 r1 x ex => ?_)
    rw [ex, inc]
    refine ih (k + 1) S1 _ (by omega) r1 (hS.trans n1) (fun i hi => ?_) h
    by_cases hik : i = k
    · subst hik
      exact backR_NU hR.1 htn
    · exact NU_o backR_o hik (nu i (by omega))
theorem X0_hour_s {post : Mem → Prop} {S : Mem} {n : Nat} {R : Row} (hR : RepC S 0 R n) (h : ∀ S' : Mem, SameBut 0 S S' → RepC S' 0 (hourR R n) n → post S') : mX0_letHourGoBy post S 0 := by
  obtain ⟨s1, s2, s3, s4, s5, s6, s7, s8, s9, s10⟩ := hR.sc
  unfold mX0_letHourGoBy
  refine X0_levelAfterHour_s s4 (fun S3 e3 => ⟨n + 1, X0_b14_s n 0 S3 (hourA R) (by omega) ?_ (by rw [e3]; exact wr0_now) (fun i hi => absurd hi (by omega)) h⟩)
  rw [s3] at e3
  unfold hourA
  refine hR.scs (fun c hc => by rw [e3, wr_c hc]) ?_ (upd_ne (by decide)) (by rw [upd_same]; exact nx_lvl hR.1.lv hR.1.2.2.2.1) (upd_ne (by decide)) (fun k hk => upd_ne (by omega))
  unfold Scal
  rw [e3, upd_same, upd_ne (show 0 ≠ 1 by decide), upd_ne (show 2 ≠ 1 by decide), upd_ne (show 3 ≠ 1 by decide), upd_ne (show 4 ≠ 1 by decide), upd_ne (show 5 ≠ 1 by decide), upd_ne (show 6 ≠ 1 by decide), upd_ne (show 7 ≠ 1 by decide), upd_ne (show 8 ≠ 1 by decide), upd_ne (show 9 ≠ 1 by decide), wr_same, wr_k (show 2 ≠ 4 by decide), wr_k (show 3 ≠ 4 by decide), wr_k (show 5 ≠ 4 by decide), wr_k (show 6 ≠ 4 by decide), wr_k (show 7 ≠ 4 by decide), wr_k (show 8 ≠ 4 by decide), wr_k (show 9 ≠ 4 by decide), wr_k (show 10 ≠ 4 by decide), wr_k (show 11 ≠ 4 by decide)]
  exact ⟨s1, s2, rfl, s4, s5, s6, s7, s8, s9, s10⟩

