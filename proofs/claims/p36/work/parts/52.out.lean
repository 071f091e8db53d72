/-! setOut, leave -/
theorem min_c {a b : Int32} : (if b < a then b else a) = (if a < b then a else b) := by
  rcases Int32.lt_or_le b a with g | g
  · rw [if_pos g, if_neg (by rw [Int32.lt_iff_toInt_lt] at g ⊢; omega)]
  · rw [if_neg (by rw [Int32.not_lt]; exact g)]
    split
    · rfl
    · rename_i g2
      rw [Int32.not_lt] at g2
      exact Int32.le_antisymm g g2
def outR (R : Row) (t : Nat) : Row := upd (upd (upd R (20 + 8 * t + 3) 1) (20 + 8 * t + 5) 0) (20 + 8 * t + 4) (if trv R t 2 = -1 then 1 else 0)
theorem outR_3 {R : Row} {t : Nat} : trv (outR R t) t 3 = 1 := by
  show outR R t (20 + 8 * t + 3) = 1
  unfold outR
  rw [upd_ne (by omega), upd_ne (by omega), upd_same]
theorem outR_4 {R : Row} {t : Nat} : trv (outR R t) t 4 = (if trv R t 2 = -1 then 1 else 0) := by
  show outR R t (20 + 8 * t + 4) = _
  unfold outR
  rw [upd_same]
theorem outR_5 {R : Row} {t : Nat} : trv (outR R t) t 5 = 0 := by
  show outR R t (20 + 8 * t + 5) = 0
  unfold outR
  rw [upd_ne (by omega), upd_same]
theorem outR_o {R : Row} {t k : Nat} (h3 : k ≠ 20 + 8 * t + 3) (h4 : k ≠ 20 + 8 * t + 4) (h5 : k ≠ 20 + 8 * t + 5) : outR R t k = R k := by
  unfold outR
  rw [upd_ne h4, upd_ne h5, upd_ne h3]
theorem RepC.out {S : Mem} {R : Row} {n t : Nat} (h : RepC S 0 R n) (ht : t < n) (h3 : trv R t 3 = 0) : RepC (wr S 2 t 3 1) 0 (outR R t) n := by
  have wt := h.1.t ht
  have hT := h.trv0 ht
  obtain ⟨w0, w1, w2, w3, w4, w5, w6, w7⟩ := wt
  obtain ⟨s5, s7, sp⟩ := w6 h3
  have q : ∀ k, k ≠ 3 → k ≠ 4 → k ≠ 5 → trv (outR R t) t k = trv R t k := fun k a b c => outR_o (by omega) (by omega) (by omega)
  have qw : wayF (trv (outR R t) t) = wayF (trv R t) := by
    unfold wayF
    rw [outR_3, if_pos rfl, outR_4, h3, if_neg (show ¬ (0 : Int32) = 1 by decide)]
  refine h.setT ht (fun c hc => wr_c hc) (fun i hi => wr_i hi) (fun k hk => outR_o (by omega) (by omega) (by omega)) ?_ (fun k hk => ?_)
  · unfold WFT
    rw [q 0 (by decide) (by decide) (by decide), q 1 (by decide) (by decide) (by decide), q 2 (by decide) (by decide) (by decide), q 7 (by decide) (by decide) (by decide), outR_3, outR_4, outR_5]
    refine ⟨w0, w1, w2, Or.inr rfl, ?_, Or.inl rfl, fun g => absurd g (by decide), fun _ => ⟨fun g => if_pos g, fun g => if_neg (by rw [g]; decide), fun g => s7⟩⟩
    by_cases g : trv R t 2 = -1
    · exact Or.inr (if_pos g)
    · exact Or.inl (if_neg g)
  · by_cases hk3 : k = 3
    · subst hk3
      rw [wr_same]
      exact outR_3.symm
    · rw [wr_k hk3, hT k hk]
      unfold ctF
      by_cases hk4 : k = 4
      · rw [if_pos hk4, if_pos hk4, qw]
      · rw [if_neg hk4, if_neg hk4]
        by_cases hk5 : k = 5
        · subst hk5
          exact s5.trans outR_5.symm
        · exact (q k hk3 hk4 hk5).symm
theorem RepC.mail {S : Mem} {R : Row} {n t : Nat} {v : Int32} (h : RepC S 0 R n) (ht : t < n) (h3 : trv R t 3 = 1) (h4 : trv R t 4 = 1) : RepC (wr S 2 t 7 v) 0 (upd R (20 + 8 * t + 7) v) n := by
  have wt := h.1.t ht
  have hT := h.trv0 ht
  obtain ⟨w0, w1, w2, w3, w4, w5, w6, w7⟩ := wt
  have q : ∀ k, k ≠ 7 → trv (upd R (20 + 8 * t + 7) v) t k = trv R t k := fun k a => upd_ne (by omega)
  have q7 : trv (upd R (20 + 8 * t + 7) v) t 7 = v := upd_same
  have qw : wayF (trv (upd R (20 + 8 * t + 7) v) t) = wayF (trv R t) := by
    unfold wayF
    rw [q 3 (by decide), q 4 (by decide), q 2 (by decide)]
  refine h.setT ht (fun c hc => wr_c hc) (fun i hi => wr_i hi) (fun k hk => upd_ne (by omega)) ?_ (fun k hk => ?_)
  · unfold WFT
    rw [q 0 (by decide), q 1 (by decide), q 2 (by decide), q 3 (by decide), q 4 (by decide), q 5 (by decide), q7]
    exact ⟨w0, w1, w2, w3, w4, w5, fun g => absurd (h3.symm.trans g) (by decide), fun _ => ⟨fun _ => h4, (w7 h3).2.1, fun g => absurd (h4.symm.trans g) (by decide)⟩⟩
  · by_cases hk7 : k = 7
    · subst hk7
      rw [wr_same]
      exact q7.symm
    · rw [wr_k hk7, hT k hk]
      unfold ctF
      rw [qw]
      split
      · rfl
      · exact (q k hk7).symm
def takeX (R : Row) (t : Nat) : Int32 := if R 4 < 12 - 3 * trv R t 0 then R 4 else 12 - 3 * trv R t 0
theorem startCrossing_s {post : Int32 → Mem → Prop} {S : Mem} {R : Row} {n t : Nat} (h : RepC S 0 R n) (ht : t < n) (h3 : trv R t 3 = 0) (h1 : kindF (trv R t 0) = 0 → trv R t 2 = -1 → ∀ S' : Mem, SameBut 0 S S' → RepC S' 0 (upd (upd (upd (outR R t) (20 + 8 * t + 7) (takeX R t)) 4 (R 4 - takeX R t)) 7 (R 7 + tollF (trv R t 0))) n → post (tollF (trv R t 0)) S') (h0 : (¬ kindF (trv R t 0) = 0 ∨ ¬ trv R t 2 = -1) → ∀ S' : Mem, SameBut 0 S S' → RepC S' 0 (upd (outR R t) 7 (R 7 + tollF (trv R t 0))) n → post (tollF (trv R t 0)) S') : mX0_startCrossing post S 0 t := by
  have hn := h.1.1
  have hT := h.trv0 ht
  have hA := h.out ht h3
  have k0 : S 2 t 0 = trv R t 0 := hT 0 (by decide)
  have k2 : S 2 t 2 = trv R t 2 := hT 2 (by decide)
  have z4 : outR R t 4 = R 4 := outR_o (by omega) (by omega) (by omega)
  have z7 : outR R t 7 = R 7 := outR_o (by omega) (by omega) (by omega)
  unfold mX0_startCrossing
  intro S2 e2
  have hA2 : RepC S2 0 (outR R t) n := by rw [e2]; exact hA
  have l2 : S2 2 t 0 = trv R t 0 := by rw [e2, wr_k (by decide)]; exact k0
  have p2 : S2 2 t 2 = trv R t 2 := by rw [e2, wr_k (by decide)]; exact k2
  have n2 : SameBut 0 S S2 := by rw [e2]; exact wr2_now (by omega)
  have base : (¬ kindF (trv R t 0) = 0 ∨ ¬ trv R t 2 = -1) → mX0_startCrossing_b55 post S2 0 t := by
    intro g
    unfold mX0_startCrossing_b55
    refine X3_toll_s l2 (fun S3 e3 => h0 g S3 ?_ ?_)
    · rw [e3]; exact n2.trans wr0_now
    · have : S2 0 0 9 = R 7 := by rw [hA2.2.2.2.2.2.2.2.2.1, z7]
      rw [e3, this]
      exact hA2.scal (by omega)
  refine X3_kind_s l2 ⟨fun g => base (Or.inl g), fun g => ?_⟩
  rw [p2]
  refine ⟨fun g2 => base (Or.inr g2), fun g2 x6 e6 S7 e7 S8 e8 => ?_⟩
  have b2 : S2 0 0 6 = R 4 := by rw [hA2.2.2.2.2.2.1, z4]
  rw [l2] at e6
  rw [b2, e6] at e7
  have e7' : S7 = wr S2 2 t 7 (takeX R t) := e7
  have h7 : RepC S7 0 (upd (outR R t) (20 + 8 * t + 7) (takeX R t)) n := by
    rw [e7']
    exact hA2.mail ht outR_3 (by rw [outR_4, if_pos g2])
  have b7 : S7 0 0 6 = R 4 := by rw [e7', wr_c (by decide)]; exact b2
  have m7 : S7 2 t 7 = takeX R t := by rw [e7', wr_same]
  rw [b7, m7] at e8
  have h8 : RepC S8 0 (upd (upd (outR R t) (20 + 8 * t + 7) (takeX R t)) 4 (R 4 - takeX R t)) n := by
    rw [e8]
    exact h7.scal (by omega)
  have l8 : S8 2 t 0 = trv R t 0 := by rw [e8, wr_c (by decide), e7', wr_k (by decide)]; exact l2
  unfold mX0_startCrossing_b55
  refine X3_toll_s l8 (fun S3 e3 => h1 g g2 S3 ?_ ?_)
  · rw [e3, e8, e7']; exact ((n2.trans (wr2_now (by omega))).trans wr0_now).trans wr0_now
  · have : S8 0 0 9 = R 7 := by rw [h8.2.2.2.2.2.2.2.2.1, upd_ne (by decide), upd_ne (by omega), z7]
    rw [e3, this]
    exact h8.scal (by omega)
