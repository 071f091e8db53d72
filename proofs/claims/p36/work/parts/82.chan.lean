/-! p36, THE CLASS ALONE: changes -/
def rfS (S : Mem) (a b : Int32) : Mem := wr (wr S 3 0 8 a) 3 0 9 b
theorem rfS_c {S : Mem} {a b : Int32} {c : Nat} (h : c ≠ 3) : rfS S a b c = S c := by unfold rfS; rw [wr_c h, wr_c h]
theorem rfS_k {S : Mem} {a b : Int32} {k : Nat} (h8 : k ≠ 8) (h9 : k ≠ 9) : rfS S a b 3 0 k = S 3 0 k := by unfold rfS; rw [wr_k h9, wr_k h8]
theorem KK.rf {S : Mem} {R : Row} {n u : Nat} {hs : Nat → Row} {sn : Option Row} {a b : Int32} (h : KK S R n u hs sn) : KK (rfS S a b) R n u hs sn :=
  h.frame (rfS_c (by decide)) (rfS_c (by decide)) (rfS_c (by decide)) (rfS_c (by decide)) (rfS_k (by decide) (by decide))
theorem Q_rain {post : Int32 → Mem → Prop} {S : Mem} {R : Row} {n u : Nat} {hs : Nat → Row} {sn : Option Row} {v : Int32} (hK : KK S R n u hs sn) (h0 : (v < 0 ∨ 9 < v) → post (-1001) S) (h1 : ¬ v < 0 → ¬ 9 < v → ∀ S' : Mem, KK S' (upd R 2 v) n (min 8 (u + 1)) (newH hs R u) sn → Chg S S' → post (R 2) S') : mL_rain post S v := by
  unfold mL_rain mX5_rain
  refine s_checkRange (fun g0 g1 => ?_) (fun g => ⟨rfl, h0 g⟩)
  refine keep_k hK (fun S1 hK1 hC => ?_)
  intro x5 ex5 S6 e6
  have hR1 := hK1.1
  have hr : RepC (wr S1 0 0 5 v) 0 (upd R 2 v) n := by
    obtain ⟨⟨w1, w2, w3, w4, w5, w6⟩, b1, b2, b3, b4, b5, b6, b7, b8, b9, b10, b11, b12⟩ := hR1
    refine ⟨⟨w1, w2, w3, range9 (n := 9) (by decide) g0 g1, fun s hs => by rw [upd_ne (by omega)]; exact w5 s hs, fun t ht => ?_⟩, ?_⟩
    · have : trv (upd R 2 v) t = trv R t := by funext q; exact upd_ne (by omega)
      rw [this]; exact w6 t ht
    · refine ⟨b1, b2, b3, wr_same, b5, b6, b7, b8, b9, b10, fun s hs => ?_, fun t ht q hq => ?_⟩
      · rw [wr_c (by decide), upd_ne (by omega)]; exact b11 s hs
      · have : trv (upd R 2 v) t = trv R t := by funext q; exact upd_ne (by omega)
        rw [wr_c (by decide), this]; exact b12 t ht q hq
  subst e6
  rw [ex5, hR1.2.2.2.2.1]
  exact h1 g0 g1 _ (hK1.now wr0_now hr) (hC.trans wr0_now.chg)
theorem Q_letters {post : Int32 → Mem → Prop} {S : Mem} {R : Row} {n u : Nat} {hs : Nat → Row} {sn : Option Row} {v : Int32} (hK : KK S R n u hs sn) (h0 : (v < 1 ∨ 50 < v) → post (-1001) S) (hb : ¬ v < 1 → ¬ 50 < v → ¬ R 4 + v ≤ 99 → post (-1002) (rfS S 5 (R 4))) (h1 : ¬ v < 1 → ¬ 50 < v → R 4 + v ≤ 99 → ∀ S' : Mem, KK S' (upd (upd R 4 (R 4 + v)) 6 (R 6 + v)) n (min 8 (u + 1)) (newH hs R u) sn → Chg S S' → post (R 4 + v) S') : mL_letters post S v := by
  have hR := hK.1
  have hbag : S 0 0 6 = R 4 := hR.2.2.2.2.2.1
  unfold mL_letters mX5_letters
  refine s_checkRange (fun g0 g1 => ⟨fun g => ?_, fun g => refuse_s (Or.inr ⟨rfl, ?_⟩)⟩) (fun g => Or.inl ⟨rfl, h0 g⟩)
  · rw [hbag] at g
    unfold mX5_letters_b33
    refine keep_k hK (fun S1 hK1 hC => ?_)
    have hR1 := hK1.1
    intro S3 e3 S4 e4
    rw [hR1.2.2.2.2.2.1] at e3
    have e38 : S3 0 0 8 = R 6 := by rw [e3, wr_k (by decide)]; exact hR1.2.2.2.2.2.2.2.1
    rw [e38] at e4
    have hR4 : RepC S4 0 (upd (upd R 4 (R 4 + v)) 6 (R 6 + v)) n := by rw [e4, e3]; exact (hR1.scal (by omega)).scal (by omega)
    have hs4 : SameBut 0 S1 S4 := by rw [e4, e3]; exact wr0_now.trans wr0_now
    have e : S4 0 0 6 = R 4 + v := by rw [e4, wr_k (by decide), e3, wr_same]
    rw [e]
    exact h1 g0 g1 g S4 (hK1.now hs4 hR4) (hC.trans hs4.chg)
  · rw [hbag] at g ⊢
    exact hb g0 g1 g
theorem Q_height {post : Int32 → Mem → Prop} {S : Mem} {R : Row} {n u : Nat} {hs : Nat → Row} {sn : Option Row} {v1 v2 : Int32} (hK : KK S R n u hs sn) (h0 : (v1 < 0 ∨ ¬ v1 < 10) → post (-1001) S) (h2 : ∀ s, s < 10 → v1 = nI s → (v2 < 1 ∨ 30 < v2) → post (-1002) S) (h3 : ∀ s, s < 10 → v1 = nI s → ¬ v2 < 1 → ¬ 30 < v2 → ¬ lowF (plc R) (nI s) n 0 = -1 → post (-1003) (rfS S 6 (lowF (plc R) (nI s) n 0)))
    (h1 : ∀ s, s < 10 → v1 = nI s → ¬ v2 < 1 → ¬ 30 < v2 → lowF (plc R) (nI s) n 0 = -1 → ∀ S' : Mem, KK S' (upd R (10 + s) v2) n (min 8 (u + 1)) (newH hs R u) sn → Chg S S' → post (R (10 + s)) S') : mL_height post S v1 v2 := by
  have hR := hK.1
  unfold mL_height mX5_height
  refine s_checkStone (fun s hs es => ?_) (fun g => Or.inl ⟨rfl, h0 g⟩)
  subst es
  refine s_checkRange (fun g0 g1 => X0_lowestOn_s hR ?_) (fun g => Or.inr (Or.inl ⟨rfl, h2 s hs rfl g⟩))
  refine ⟨fun hl => ?_, fun hl => refuse_s (Or.inr (Or.inr ⟨rfl, h3 s hs rfl g0 g1 hl⟩))⟩
  unfold mX5_height_b32
  refine keep_k hK (fun S1 hK1 hC => ⟨vpN hs (by decide), fun x4 ex4 => ⟨vpN hs (by decide), fun S6 e6 => ?_⟩⟩)
  rw [nI_clamp (by omega)] at ex4 e6
  have hR1 := hK1.1
  have hr : RepC S6 0 (upd R (10 + s) v2) n := by
    obtain ⟨⟨w1, w2, w3, w4, w5, w6⟩, b1, b2, b3, b4, b5, b6, b7, b8, b9, b10, b11, b12⟩ := hR1
    have hT' : ∀ t, trv (upd R (10 + s) v2) t = trv R t := fun t => by funext q; exact upd_ne (by omega)
    refine ⟨⟨w1, by rw [upd_ne (by omega)]; exact w2, by rw [upd_ne (by omega)]; exact w3, by rw [upd_ne (by omega)]; exact w4, fun i hi => ?_, fun t ht => by rw [hT']; exact w6 t ht⟩, ?_⟩
    · by_cases his : i = s
      · subst his
        rw [upd_same]
        obtain ⟨j, hj, rfl⟩ := nI_of (x := v2) (fun g => g0 (Int32.lt_trans g (by decide)))
        refine ⟨j, ?_, ?_, rfl⟩
        · have := mt (nI_ltI hj (show 1 < 2 ^ 31 by decide)).mpr g0
          omega
        · have := mt (nI_ltI (show 30 < 2 ^ 31 by decide) hj).mpr g1
          omega
      · rw [upd_ne (by omega)]; exact w5 i hi
    · subst e6
      refine ⟨by rw [wr_c (by decide), upd_ne (by omega)]; exact b1, by rw [wr_c (by decide), upd_ne (by omega)]; exact b2, by rw [wr_c (by decide), upd_ne (by omega)]; exact b3, by rw [wr_c (by decide), upd_ne (by omega)]; exact b4, by rw [wr_c (by decide), upd_ne (by omega)]; exact b5, by rw [wr_c (by decide), upd_ne (by omega)]; exact b6, by rw [wr_c (by decide), upd_ne (by omega)]; exact b7, by rw [wr_c (by decide), upd_ne (by omega)]; exact b8, by rw [wr_c (by decide), upd_ne (by omega)]; exact b9, by rw [wr_c (by decide), upd_ne (by omega)]; exact b10, fun i hi => ?_, fun t ht f hf => by rw [wr_c (by decide), hT']; exact b12 t ht f hf⟩
      by_cases his : i = s
      · subst his
        rw [wr_same, upd_same]
      · rw [wr_k his, upd_ne (by omega)]; exact b11 i hi
  have hs6 : SameBut 0 S1 S6 := by rw [e6]; exact wr1_now
  rw [ex4, hR1.hh hs]
  exact h1 s hs rfl g0 g1 hl S6 (hK1.now hs6 hr) (hC.trans hs6.chg)
/-- a traveller comes -/
def arrR (R : Row) (n : Nat) (x : Int32) : Row := fun p => if p = 3 then nI (n + 1) else if 20 + 8 * n ≤ p ∧ p < 28 + 8 * n then (if p = 20 + 8 * n then x else if p = 22 + 8 * n then -1 else if p = 24 + 8 * n then 1 else 0) else R p
theorem arrR_o {R : Row} {n p : Nat} {x : Int32} (h3 : p ≠ 3) (h : ¬ (20 + 8 * n ≤ p ∧ p < 28 + 8 * n)) : arrR R n x p = R p := by unfold arrR; rw [if_neg h3, if_neg h]
theorem arrR_n {R : Row} {n f : Nat} {x : Int32} (hf : f < 8) : trv (arrR R n x) n f = if f = 0 then x else if f = 2 then -1 else if f = 4 then 1 else 0 := by
  unfold trv arrR
  rw [if_neg (by omega), if_pos (by omega)]
  by_cases h0 : f = 0
  · rw [if_pos (by omega), if_pos h0]
  · rw [if_neg (by omega), if_neg h0]
    by_cases h2 : f = 2
    · rw [if_pos (by omega), if_pos h2]
    · rw [if_neg (by omega), if_neg h2]
      by_cases h4 : f = 4
      · rw [if_pos (by omega), if_pos h4]
      · rw [if_neg (by omega), if_neg h4]
theorem Q_traveller {post : Int32 → Mem → Prop} {S : Mem} {R : Row} {n u : Nat} {hs : Nat → Row} {sn : Option Row} {v : Int32} (hK : KK S R n u hs sn) (h0 : (v < 0 ∨ 20 < v) → post (-1001) S) (h8 : ¬ v < 0 → ¬ 20 < v → n = 8 → post (-1002) (rfS S 1 (nI n))) (h1 : ¬ v < 0 → ¬ 20 < v → n < 8 → ∀ S' : Mem, KK S' (arrR R n v) (n + 1) (min 8 (u + 1)) (newH hs R u) sn → Chg S S' → post (nI n) S') : mL_traveller post S v := by
  have hR := hK.1
  have hn := hR.1.1
  unfold mL_traveller mX5_traveller
  refine s_checkRange (fun g0 g1 => ?_) (fun g => Or.inl ⟨rfl, h0 g⟩)
  rw [hR.cnt]
  refine ⟨fun hb => ?_, fun hb => refuse_s (Or.inr ⟨rfl, h8 g0 g1 ?_⟩)⟩
  · have hn8 : n < 8 := (nI_ltI (b := 8) (by omega) (by decide)).mp hb
    unfold mX5_traveller_b31
    refine keep_k hK (fun S1 hK1 hC => ?_)
    have hR1 := hK1.1
    unfold mX0_welcome
    intro z ez
    rw [hR1.cnt] at ez
    subst ez
    refine ⟨fun g => absurd g (nI_ge (b := 8) hn8 (by decide)), fun _ => ⟨vpN hn8 (by decide), fun k ek => X3_arrive_s (fun S5 hc5 ha => ?_)⟩⟩
    rw [nI_clamp (by omega)] at ek
    have ek : k = n := by omega
    subst ek
    intro S7 e7
    have e50 : S5 0 0 2 = nI k := by rw [hc5 0 0 (by omega)]; exact hR1.cnt
    rw [e50, inc] at e7
    have hs7 : SameBut 0 S1 S7 := by
      rw [e7]
      exact SameBut.trans ⟨fun c _ _ c2 => funext fun i => hc5 c i (fun q => c2 q.1), fun j hj => ⟨hc5 0 j (by omega), hc5 1 j (by omega)⟩, fun j t hj ht => hc5 2 _ (by omega)⟩ wr0_now
    have hr : RepC S7 0 (arrR R k v) (k + 1) := by
      have s70 : ∀ q, q ≠ 2 → S7 0 0 q = S1 0 0 q := fun q hq => by rw [e7, wr_k hq, hc5 0 0 (by omega)]
      have s72 : ∀ i, i ≠ k → S7 2 i = S1 2 i := fun i hi => by rw [e7, wr_c (by decide), hc5 2 i (by omega)]
      have s71 : S7 1 0 = S1 1 0 := by rw [e7, wr_c (by decide), hc5 1 0 (by omega)]
      obtain ⟨⟨w1, w2, w3, w4, w5, w6⟩, b1, b2, b3, b4, b5, b6, b7, b8, b9, b10, b11, b12⟩ := hR1
      have o : ∀ p, p ≠ 3 → ¬ (20 + 8 * k ≤ p ∧ p < 28 + 8 * k) → arrR R k v p = R p := fun p h3 h => arrR_o h3 h
      have o3 : arrR R k v 3 = nI (k + 1) := if_pos rfl
      have hTo : ∀ i, i < k → ∀ q, q < 8 → trv (arrR R k v) i q = trv R i q := fun i hi q hq => o _ (by omega) (by omega)
      have qz := fun f (hf : f < 8) => arrR_n (R := R) (n := k) (x := v) hf
      refine ⟨⟨by omega, o3, by rw [o 1 (by decide) (by omega)]; exact w3, by rw [o 2 (by decide) (by omega)]; exact w4, fun s hs => by rw [o _ (by omega) (by omega)]; exact w5 s hs, fun i hi => ?_⟩, ?_⟩
      · by_cases hik : i = k
        · subst hik
          obtain ⟨a, ha, ea⟩ := range9 (n := 20) (by decide) g0 g1
          unfold WFT
          rw [qz 0 (by decide), qz 1 (by decide), qz 2 (by decide), qz 3 (by decide), qz 4 (by decide), qz 5 (by decide), qz 7 (by decide)]
          exact ⟨⟨a, ha, ea⟩, ⟨0, by decide, rfl⟩, Or.inl rfl, Or.inl rfl, Or.inr rfl, Or.inl rfl, fun _ => ⟨rfl, rfl, Or.inl rfl⟩, fun g => absurd (show (0 : Int32) = 1 from g) (by decide)⟩
        · exact (w6 i (by omega)).congr (hTo i (by omega))
      · refine ⟨by rw [e7, wr_same, o3], by rw [s70 3 (by decide), o 0 (by decide) (by omega)]; exact b2, by rw [s70 4 (by decide), o 1 (by decide) (by omega)]; exact b3, by rw [s70 5 (by decide), o 2 (by decide) (by omega)]; exact b4, by rw [s70 6 (by decide), o 4 (by decide) (by omega)]; exact b5, by rw [s70 7 (by decide), o 5 (by decide) (by omega)]; exact b6, by rw [s70 8 (by decide), o 6 (by decide) (by omega)]; exact b7, by rw [s70 9 (by decide), o 7 (by decide) (by omega)]; exact b8, by rw [s70 10 (by decide), o 8 (by decide) (by omega)]; exact b9, by rw [s70 11 (by decide), o 9 (by decide) (by omega)]; exact b10, fun s hs => by rw [s71, o _ (by omega) (by omega)]; exact b11 s hs, fun i hi f hf => ?_⟩
        rw [Nat.mul_zero, Nat.zero_add]
        by_cases hik : i = k
        · subst hik
          obtain ⟨a0, a1, a2, a3, a4, a5, a6, a7⟩ := ha
          have s7i : S7 2 i = S5 2 i := by rw [e7, wr_c (by decide)]
          have qway : wayF (trv (arrR R i v) i) = 1 := by
            unfold wayF
            rw [qz 3 (by decide), qz 2 (by decide)]
            rfl
          rw [s7i]
          by_cases h4 : f = 4
          · subst h4
            rw [a4]
            exact qway.symm
          · rw [ctF_ne h4, qz f hf]
            rcases (show f = 0 ∨ f = 1 ∨ f = 2 ∨ f = 3 ∨ f = 5 ∨ f = 6 ∨ f = 7 by omega) with rfl | rfl | rfl | rfl | rfl | rfl | rfl
            · exact a0
            · exact a1
            · exact a2
            · exact a3
            · exact a5
            · exact a6
            · exact a7
        · rw [s72 i hik]
          have h9 := b12 i (by omega) f hf
          rw [Nat.mul_zero, Nat.zero_add] at h9
          rw [h9]
          exact (ctF.congr (hTo i (by omega)) hf).symm
    exact h1 g0 g1 hn8 S7 (hK1.now hs7 hr) (hC.trans hs7.chg)
  · have : ¬ n < 8 := fun q => hb (nI_lt q (by decide))
    omega
/-- a traveller sets out -/
def setR (R : Row) (t : Nat) : Row := if kindF (trv R t 0) = 0 ∧ trv R t 2 = -1 then upd (upd (upd (outR R t) (20 + 8 * t + 7) (takeX R t)) 4 (R 4 - takeX R t)) 7 (R 7 + tollF (trv R t 0)) else upd (outR R t) 7 (R 7 + tollF (trv R t 0))
theorem Q_setOut {post : Int32 → Mem → Prop} {S : Mem} {R : Row} {n u : Nat} {hs : Nat → Row} {sn : Option Row} {v : Int32} (hK : KK S R n u hs sn) (h0 : (v < 0 ∨ ¬ v < nI n) → post (-1001) S) (h2 : ∀ t, t < n → v = nI t → trv R t 3 = 1 → post (-1002) (rfS S 2 (trv R t 2))) (h4 : ∀ t, t < n → v = nI t → trv R t 3 = 0 → ¬ trv R t 1 < 12 → post (-1002) (rfS S 4 (trv R t 1)))
    (h1 : ∀ t, t < n → v = nI t → trv R t 3 = 0 → trv R t 1 < 12 → ∀ S' : Mem, KK S' (setR R t) n (min 8 (u + 1)) (newH hs R u) sn → Chg S S' → post (tollF (trv R t 0)) S') : mL_setOut post S v := by
  have hR := hK.1
  unfold mL_setOut mX5_setOut
  refine found_s hR.1.1 hR.cnt (fun t ht et => ?_) (fun g => Or.inl ⟨rfl, h0 g⟩)
  have hT := hR.trv0 ht
  have wt := hR.1.t ht
  have k3 : S 2 t 3 = trv R t 3 := hT 3 (by decide)
  have k1 : S 2 t 1 = trv R t 1 := hT 1 (by decide)
  have k2 : S 2 t 2 = trv R t 2 := hT 2 (by decide)
  rw [k3, k2]
  refine ⟨fun g3 => ?_, fun g3 => refuse_s (Or.inr ⟨rfl, h2 t ht et (wt.2.2.2.1.resolve_left g3)⟩)⟩
  unfold mX5_setOut_b22
  rw [k1]
  refine ⟨fun g1 => ?_, fun g1 => refuse_s (Or.inr ⟨rfl, h4 t ht et g3 g1⟩)⟩
  unfold mX5_setOut_b40
  refine keep_k hK (fun S1 hK1 hC => ?_)
  refine startCrossing_s hK1.1 ht g3 (fun q1 q2 S' hs' hr => ?_) (fun q S' hs' hr => ?_)
  · refine h1 t ht et g3 g1 S' (hK1.now hs' ?_) (hC.trans hs'.chg)
    unfold setR
    rw [if_pos ⟨q1, q2⟩]
    exact hr
  · refine h1 t ht et g3 g1 S' (hK1.now hs' ?_) (hC.trans hs'.chg)
    unfold setR
    rw [if_neg (fun z => q.elim (fun a => a z.1) (fun a => a z.2))]
    exact hr
theorem Q_halt {post : Int32 → Mem → Prop} {px : String → Mem → Prop} {S : Mem} {R : Row} {n u : Nat} {hs : Nat → Row} {sn : Option Row} {v b : Int32} (hb : b = 0 ∨ b = 1) (hK : KK S R n u hs sn) (h0 : (v < 0 ∨ ¬ v < nI n) → px "java/lang/IndexOutOfBoundsException" S) (h3 : ∀ t, t < n → v = nI t → trv R t 3 = 0 → px "java/lang/UnsupportedOperationException" (rfS S 3 (trv R t 2))) (h7 : ∀ t, t < n → v = nI t → trv R t 3 = 1 → trv R t 5 = b → px "java/lang/UnsupportedOperationException" (rfS S 7 v))
    (h1 : ∀ t, t < n → v = nI t → trv R t 3 = 1 → ¬ trv R t 5 = b → ∀ S' : Mem, KK S' (upd R (20 + 8 * t + 5) b) n (min 8 (u + 1)) (newH hs R u) sn → Chg S S' → post (trv R t 2) S') : mX5_setStopped post px S v b := by
  have hR := hK.1
  unfold mX5_setStopped
  refine found_s hR.1.1 hR.cnt (fun t ht et => ?_) h0
  have hn := hR.1.1
  have hT := hR.trv0 ht
  have wt := hR.1.t ht
  have k3 : S 2 t 3 = trv R t 3 := hT 3 (by decide)
  have k5 : S 2 t 5 = trv R t 5 := hT 5 (by decide)
  have k2 : S 2 t 2 = trv R t 2 := hT 2 (by decide)
  rw [k3, k2]
  refine ⟨fun g3 => ?_, fun g3 => refuse_s (h3 t ht et g3)⟩
  have o3 : trv R t 3 = 1 := wt.2.2.2.1.resolve_left g3
  unfold mX5_setStopped_b22
  rw [k5]
  refine ⟨fun g5 => ?_, fun g5 => refuse_s (h7 t ht et o3 g5)⟩
  unfold mX5_setStopped_b37
  refine keep_k hK (fun S1 hK1 hC => ⟨hb, fun S4 e4 => ?_⟩)
  have hR1 := hK1.1
  have hT1 := hR1.trv0 ht
  have k42 : S4 2 t 2 = trv R t 2 := by rw [e4, wr_k (by decide)]; exact hT1 2 (by decide)
  have hs4 : SameBut 0 S1 S4 := by rw [e4]; exact wr2_now (by omega)
  have hr : RepC S4 0 (upd R (20 + 8 * t + 5) b) n := by
    have q : ∀ k, k < 8 → k ≠ 5 → trv (upd R (20 + 8 * t + 5) b) t k = trv R t k := fun k _ hk => upd_ne (by omega)
    have q5 : trv (upd R (20 + 8 * t + 5) b) t 5 = b := upd_same
    have qw : wayF (trv (upd R (20 + 8 * t + 5) b) t) = wayF (trv R t) := by
      unfold wayF
      rw [q 3 (by decide) (by decide), q 4 (by decide) (by decide), q 2 (by decide) (by decide)]
    refine hR1.setT (t := t) ht (fun c hc => by rw [e4, wr_c hc]) (fun i hi => by rw [e4, wr_i hi]) (fun k hk => upd_ne (by omega)) ?_ (fun k hk => ?_)
    · unfold WFT at wt ⊢
      rw [q 0 (by decide) (by decide), q 1 (by decide) (by decide), q 2 (by decide) (by decide), q 3 (by decide) (by decide), q 4 (by decide) (by decide), q 7 (by decide) (by decide), q5]
      exact ⟨wt.1, wt.2.1, wt.2.2.1, wt.2.2.2.1, wt.2.2.2.2.1, hb, fun g => absurd (g.symm.trans o3) (by decide), wt.2.2.2.2.2.2.2⟩
    · by_cases hk5 : k = 5
      · subst hk5
        rw [e4, wr_same]
        exact q5.symm
      · rw [e4, wr_k hk5, hT1 k hk]
        unfold ctF
        rw [qw]
        split
        · rfl
        · exact (q k hk hk5).symm
  rw [k42]
  exact h1 t ht et o3 g5 S4 (hK1.now hs4 hr) (hC.trans hs4.chg)
theorem Q_stop {post : Int32 → Mem → Prop} {S : Mem} {R : Row} {n u : Nat} {hs : Nat → Row} {sn : Option Row} {v : Int32} (hK : KK S R n u hs sn) (h0 : (v < 0 ∨ ¬ v < nI n) → post (-1001) S) (h3 : ∀ t, t < n → v = nI t → trv R t 3 = 0 → post (-1002) (rfS S 3 (trv R t 2))) (h7 : ∀ t, t < n → v = nI t → trv R t 3 = 1 → trv R t 5 = 1 → post (-1002) (rfS S 7 v))
    (h1 : ∀ t, t < n → v = nI t → trv R t 3 = 1 → ¬ trv R t 5 = 1 → ∀ S' : Mem, KK S' (upd R (20 + 8 * t + 5) 1) n (min 8 (u + 1)) (newH hs R u) sn → Chg S S' → post (trv R t 2) S') : mL_stop post S v := by
  unfold mL_stop mX5_stop
  exact Q_halt (Or.inr rfl) hK (fun g => Or.inl ⟨rfl, h0 g⟩) (fun t ht et g => Or.inr ⟨rfl, h3 t ht et g⟩) (fun t ht et g g5 => Or.inr ⟨rfl, h7 t ht et g g5⟩) h1
theorem Q_go {post : Int32 → Mem → Prop} {S : Mem} {R : Row} {n u : Nat} {hs : Nat → Row} {sn : Option Row} {v : Int32} (hK : KK S R n u hs sn) (h0 : (v < 0 ∨ ¬ v < nI n) → post (-1001) S) (h3 : ∀ t, t < n → v = nI t → trv R t 3 = 0 → post (-1002) (rfS S 3 (trv R t 2))) (h7 : ∀ t, t < n → v = nI t → trv R t 3 = 1 → trv R t 5 = 0 → post (-1002) (rfS S 7 v))
    (h1 : ∀ t, t < n → v = nI t → trv R t 3 = 1 → ¬ trv R t 5 = 0 → ∀ S' : Mem, KK S' (upd R (20 + 8 * t + 5) 0) n (min 8 (u + 1)) (newH hs R u) sn → Chg S S' → post (trv R t 2) S') : mL_go post S v := by
  unfold mL_go mX5_go
  exact Q_halt (Or.inl rfl) hK (fun g => Or.inl ⟨rfl, h0 g⟩) (fun t ht et g => Or.inr ⟨rfl, h3 t ht et g⟩) (fun t ht et g g5 => Or.inr ⟨rfl, h7 t ht et g g5⟩) h1
/-- a traveller leaves: k are left -/
def levR (R : Row) (t k : Nat) : Row := fun p => if 20 + 8 * t ≤ p ∧ p < 20 + 8 * k then R (p + 8) else if p = 3 then nI k else R p
theorem Q_leave {post : Int32 → Mem → Prop} {S : Mem} {R : Row} {n u : Nat} {hs : Nat → Row} {sn : Option Row} {v : Int32} (hK : KK S R n u hs sn) (h0 : (v < 0 ∨ ¬ v < nI n) → post (-1001) S) (h2 : ∀ t, t < n → v = nI t → trv R t 3 = 1 → post (-1002) (rfS S 2 (trv R t 2)))
    (h1 : ∀ t k, n = k + 1 → t < n → v = nI t → trv R t 3 = 0 → ∀ S' : Mem, KK S' (levR R t k) k (min 8 (u + 1)) (newH hs R u) sn → Chg S S' → post (trv R t 6) S') : mL_leave post S v := by
  have hR := hK.1
  have hn := hR.1.1
  unfold mL_leave mX5_leave
  refine found_s hR.1.1 hR.cnt (fun t ht et => ?_) (fun g => Or.inl ⟨rfl, h0 g⟩)
  subst et
  have hT := hR.trv0 ht
  have wt := hR.1.t ht
  have t8 : t < 8 := by omega
  have k3 : S 2 t 3 = trv R t 3 := hT 3 (by decide)
  have k2 : S 2 t 2 = trv R t 2 := hT 2 (by decide)
  rw [k3, k2]
  refine ⟨fun g3 => ?_, fun g3 => refuse_s (Or.inr ⟨rfl, h2 t ht rfl (wt.2.2.2.1.resolve_left g3)⟩)⟩
  unfold mX5_leave_b22
  refine keep_k hK (fun S1 hK1 hC x3 ex3 => ?_)
  have hR1 := hK1.1
  obtain ⟨k, rfl⟩ : ∃ k, n = k + 1 := ⟨n - 1, by omega⟩
  have k8 : k < 8 := by omega
  have ex : x3 = trv R t 6 := ex3.trans (hR1.trv0 ht 6 (by decide))
  subst ex
  unfold mX0_takeAway
  refine ⟨_, takeAway_b2_s (S := S1) (t := t) k8 (fun i hi => ?_) (fun S4 s1 s2 s3 s4 s5 s6 => ?_) (k - t) t S1 (by omega) (Nat.le_refl t) hR1.cnt (fun _ _ => rfl) (fun q f a b => absurd b (by omega)) (fun _ _ => rfl)⟩
  · have := hR1.isB hi
    rw [Nat.mul_zero, Nat.zero_add] at this
    exact this
  · have hs4 : SameBut 0 S1 S4 := ⟨fun c z0 z1 z2 => s1 c z0 z2, fun j hj => ⟨s2 j hj, by rw [s1 1 (by decide) (by decide)]⟩, fun j q hj hq => s6 _ (by omega)⟩
    have hr : RepC S4 0 (levR R t k) k := by
      refine hR1.less (t := t) (by rw [s1 1 (by decide) (by decide)]) s3 s4 s5 (fun i hi => s6 i (by omega)) ?_ (fun p p1 p2 => ?_) (fun p p1 p2 => ?_)
      · unfold levR
        rw [if_neg (by omega), if_pos rfl]
      · unfold levR
        rw [if_pos ⟨p1, p2⟩]
      · unfold levR
        rw [if_neg p1, if_neg p2]
    exact h1 t k rfl ht rfl g3 S4 (hK1.now hs4 hr) (hC.trans hs4.chg)
theorem Q_pass {post : Int32 → Mem → Prop} {S : Mem} {R : Row} {n u : Nat} {hs : Nat → Row} {sn : Option Row} {v : Int32} (hK : KK S R n u hs sn) (h0 : (v < 1 ∨ 24 < v) → post (-1001) S) (h1 : ∀ H, 1 ≤ H → H ≤ 24 → v = nI H → ∀ S' : Mem, KK S' (hoursR n H R) n (min 8 (u + 1)) (newH hs R u) sn → Chg S S' → post (hoursR n H R 8 - R 8) S') : mL_pass post S v := by
  unfold mL_pass mX5_pass
  refine s_checkRange (fun g0 g1 => ?_) (fun g => ⟨rfl, h0 g⟩)
  obtain ⟨H, hH, rfl⟩ := range9 (n := 24) (by decide) (fun g => g0 (Int32.lt_trans g (by decide))) g1
  refine keep_k hK (fun S1 hK1 hC x5 ex5 => ?_)
  have ex : x5 = R 8 := ex5.trans hK1.1.sc.2.2.2.2.2.2.2.2.1
  subst ex
  have hH1 : 1 ≤ H := by
    rcases Nat.eq_zero_or_pos H with e | e
    · subst e
      exact absurd (show (0 : Int32) < 1 by decide) g0
    · exact e
  exact ⟨H + 1, X5_b28_s hH H 0 S1 R (by omega) hK1.1 SameBut.refl (fun S4 n4 r4 => h1 H hH1 hH rfl S4 (hK1.now n4 r4) (hC.trans n4.chg))⟩
