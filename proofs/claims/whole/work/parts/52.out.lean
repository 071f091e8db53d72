/-! setOut, leave -/
theorem min_c {a b : Int32} : (if b < a then b else a) = (if a < b then a else b) := by
  rcases Int32.lt_or_le b a with g | g
  · rw [if_pos g, if_neg (by rw [Int32.lt_iff_toInt_lt] at g ⊢; omega)]
  · rw [if_neg (by rw [Int32.not_lt]; exact g)]
    split
    · rfl
    · rename_i g2
      rw [Int32.not_lt] at g2
      exact Int32.le_antisymm g g2
def outR (R : Row) (t : Nat) : Row := upd (upd (upd R (20 + 8 * t + 3) 1) (20 + 8 * t + 5) 0) (20 + 8 * t + 4) (if trv R t 2 = -1 then 1 else 0)
theorem outR_3 {R : Row} {t : Nat} : trv (outR R t) t 3 = 1 := by
  show outR R t (20 + 8 * t + 3) = 1
  unfold outR
  rw [upd_ne (by omega), upd_ne (by omega), upd_same]
theorem outR_4 {R : Row} {t : Nat} : trv (outR R t) t 4 = (if trv R t 2 = -1 then 1 else 0) := by
  show outR R t (20 + 8 * t + 4) = _
  unfold outR
  rw [upd_same]
theorem outR_5 {R : Row} {t : Nat} : trv (outR R t) t 5 = 0 := by
  show outR R t (20 + 8 * t + 5) = 0
  unfold outR
  rw [upd_ne (by omega), upd_same]
theorem outR_o {R : Row} {t k : Nat} (h3 : k ≠ 20 + 8 * t + 3) (h4 : k ≠ 20 + 8 * t + 4) (h5 : k ≠ 20 + 8 * t + 5) : outR R t k = R k := by
  unfold outR
  rw [upd_ne h4, upd_ne h5, upd_ne h3]
theorem RepC.out {S : Mem} {R : Row} {n t : Nat} (h : RepC S 0 R n) (ht : t < n) (h3 : trv R t 3 = 0) : RepC (wr S 2 t 3 1) 0 (outR R t) n := by
  have wt := h.1.t ht
  have hT := h.trv0 ht
  obtain ⟨w0, w1, w2, w3, w4, w5, w6, w7⟩ := wt
  obtain ⟨s5, s7, sp⟩ := w6 h3
  have q : ∀ k, k ≠ 3 → k ≠ 4 → k ≠ 5 → trv (outR R t) t k = trv R t k := fun k a b c => outR_o (by omega) (by omega) (by omega)
  have qw : wayF (trv (outR R t) t) = wayF (trv R t) := by
    unfold wayF
    rw [outR_3, if_pos rfl, outR_4, h3, if_neg (show ¬ (0 : Int32) = 1 by decide)]
  refine h.setT ht (fun c hc => wr_c hc) (fun i hi => wr_i hi) (fun k hk => outR_o (by omega) (by omega) (by omega)) ?_ (fun k hk => ?_)
  · unfold WFT
    rw [q 0 (by decide) (by decide) (by decide), q 1 (by decide) (by decide) (by decide), q 2 (by decide) (by decide) (by decide), q 7 (by decide) (by decide) (by decide), outR_3, outR_4, outR_5]
    refine ⟨w0, w1, w2, Or.inr rfl, ?_, Or.inl rfl, fun g => absurd g (by decide), fun _ => ⟨fun g => if_pos g, fun g => if_neg (by rw [g]; decide), fun g => s7⟩⟩
    by_cases g : trv R t 2 = -1
    · exact Or.inr (if_pos g)
    · exact Or.inl (if_neg g)
  · by_cases hk3 : k = 3
    · subst hk3
      rw [wr_same]
      exact outR_3.symm
    · rw [wr_k hk3, hT k hk]
      unfold ctF
      by_cases hk4 : k = 4
      · rw [if_pos hk4, if_pos hk4, qw]
      · rw [if_neg hk4, if_neg hk4]
        by_cases hk5 : k = 5
        · subst hk5
          exact s5.trans outR_5.symm
        · exact (q k hk3 hk4 hk5).symm
theorem RepC.mail {S : Mem} {R : Row} {n t : Nat} {v : Int32} (h : RepC S 0 R n) (ht : t < n) (h3 : trv R t 3 = 1) (h4 : trv R t 4 = 1) : RepC (wr S 2 t 7 v) 0 (upd R (20 + 8 * t + 7) v) n := by
  have wt := h.1.t ht
  have hT := h.trv0 ht
  obtain ⟨w0, w1, w2, w3, w4, w5, w6, w7⟩ := wt
  have q : ∀ k, k ≠ 7 → trv (upd R (20 + 8 * t + 7) v) t k = trv R t k := fun k a => upd_ne (by omega)
  have q7 : trv (upd R (20 + 8 * t + 7) v) t 7 = v := upd_same
  have qw : wayF (trv (upd R (20 + 8 * t + 7) v) t) = wayF (trv R t) := by
    unfold wayF
    rw [q 3 (by decide), q 4 (by decide), q 2 (by decide)]
  refine h.setT ht (fun c hc => wr_c hc) (fun i hi => wr_i hi) (fun k hk => upd_ne (by omega)) ?_ (fun k hk => ?_)
  · unfold WFT
    rw [q 0 (by decide), q 1 (by decide), q 2 (by decide), q 3 (by decide), q 4 (by decide), q 5 (by decide), q7]
    exact ⟨w0, w1, w2, w3, w4, w5, fun g => absurd (h3.symm.trans g) (by decide), fun _ => ⟨fun _ => h4, (w7 h3).2.1, fun g => absurd (h4.symm.trans g) (by decide)⟩⟩
  · by_cases hk7 : k = 7
    · subst hk7
      rw [wr_same]
      exact q7.symm
    · rw [wr_k hk7, hT k hk]
      unfold ctF
      rw [qw]
      split
      · rfl
      · exact (q k hk7).symm
def takeX (R : Row) (t : Nat) : Int32 := if R 4 < 12 - 3 * trv R t 0 then R 4 else 12 - 3 * trv R t 0
theorem startCrossing_s {post : Int32 → Mem → Prop} {S : Mem} {R : Row} {n t : Nat} (h : RepC S 0 R n) (ht : t < n) (h3 : trv R t 3 = 0) (h1 : kindF (trv R t 0) = 0 → trv R t 2 = -1 → ∀ S' : Mem, SameBut 0 S S' → RepC S' 0 (upd (upd (upd (outR R t) (20 + 8 * t + 7) (takeX R t)) 4 (R 4 - takeX R t)) 7 (R 7 + tollF (trv R t 0))) n → post (tollF (trv R t 0)) S') (h0 : (¬ kindF (trv R t 0) = 0 ∨ ¬ trv R t 2 = -1) → ∀ S' : Mem, SameBut 0 S S' → RepC S' 0 (upd (outR R t) 7 (R 7 + tollF (trv R t 0))) n → post (tollF (trv R t 0)) S') : mX0_startCrossing post S 0 t := by
  have hn := h.1.1
  have hT := h.trv0 ht
  have hA := h.out ht h3
  have k0 : S 2 t 0 = trv R t 0 := hT 0 (by decide)
  have k2 : S 2 t 2 = trv R t 2 := hT 2 (by decide)
  have z4 : outR R t 4 = R 4 := outR_o (by omega) (by omega) (by omega)
  have z7 : outR R t 7 = R 7 := outR_o (by omega) (by omega) (by omega)
  unfold mX0_startCrossing
  intro S2 e2
  have hA2 : RepC S2 0 (outR R t) n := by rw [e2]; exact hA
  have l2 : S2 2 t 0 = trv R t 0 := by rw [e2, wr_k (by decide)]; exact k0
  have p2 : S2 2 t 2 = trv R t 2 := by rw [e2, wr_k (by decide)]; exact k2
  have n2 : SameBut 0 S S2 := by rw [e2]; exact wr2_now (by omega)
  have base : (¬ kindF (trv R t 0) = 0 ∨ ¬ trv R t 2 = -1) → mX0_startCrossing_b55 post S2 0 t := by
    intro g
    unfold mX0_startCrossing_b55
    refine X3_toll_s l2 (fun S3 e3 => h0 g S3 ?_ ?_)
    · rw [e3]; exact n2.trans wr0_now
    · have : S2 0 0 9 = R 7 := by rw [hA2.2.2.2.2.2.2.2.2.1, z7]
      rw [e3, this]
      exact hA2.scal (by omega)
  refine X3_kind_s l2 ⟨fun g => base (Or.inl g), fun g => ?_⟩
  rw [p2]
  refine ⟨fun g2 => base (Or.inr g2), fun g2 x6 e6 S7 e7 S8 e8 => ?_⟩
  have b2 : S2 0 0 6 = R 4 := by rw [hA2.2.2.2.2.2.1, z4]
  rw [l2] at e6
  rw [b2, e6] at e7
  have e7' : S7 = wr S2 2 t 7 (takeX R t) := e7
  have h7 : RepC S7 0 (upd (outR R t) (20 + 8 * t + 7) (takeX R t)) n := by
    rw [e7']
    exact hA2.mail ht outR_3 (by rw [outR_4, if_pos g2])
  have b7 : S7 0 0 6 = R 4 := by rw [e7', wr_c (by decide)]; exact b2
  have m7 : S7 2 t 7 = takeX R t := by rw [e7', wr_same]
  rw [b7, m7] at e8
  have h8 : RepC S8 0 (upd (upd (outR R t) (20 + 8 * t + 7) (takeX R t)) 4 (R 4 - takeX R t)) n := by
    rw [e8]
    exact h7.scal (by omega)
  have l8 : S8 2 t 0 = trv R t 0 := by rw [e8, wr_c (by decide), e7', wr_k (by decide)]; exact l2
  unfold mX0_startCrossing_b55
  refine X3_toll_s l8 (fun S3 e3 => h1 g g2 S3 ?_ ?_)
  · rw [e3, e8, e7']; exact ((n2.trans (wr2_now (by omega))).trans wr0_now).trans wr0_now
  · have : S8 0 0 9 = R 7 := by rw [h8.2.2.2.2.2.2.2.2.1, upd_ne (by decide), upd_ne (by omega), z7]
    rw [e3, this]
    exact h8.scal (by omega)
theorem k_setOut {S : Mem} {f : Nat → Int64} {g : Nat → UInt64} {x1 x2 : Int32} (h : Inv S) : lawC11 (fun S1 _ _ => Inv S1) S f g x1 x2 := by
  obtain ⟨n, hR⟩ := h.1
  have w := hR.1
  have hn := w.1
  unfold lawC11 mL_setOut mX5_setOut
  refine found_s hn hR.cnt (fun t ht et => ?_) (fun h0 => Or.inl ⟨rfl, ?_⟩)
  · subst et
    have hT := hR.trv0 ht
    have wt := w.t ht
    have t8 : t < 8 := by omega
    have k3 : S 2 t 3 = trv (S 11 0) t 3 := hT 3 (by decide)
    have k1 : S 2 t 1 = trv (S 11 0) t 1 := hT 1 (by decide)
    have k2 : S 2 t 2 = trv (S 11 0) t 2 := hT 2 (by decide)
    rw [k3, k2]
    refine ⟨fun g3 => ?_, fun g3 => refuse_s (Or.inr ⟨rfl, ?_⟩)⟩
    · have n3 : ¬ trv (S 11 0) t 3 = 1 := fun q => absurd (g3.symm.trans q) (by decide)
      unfold mX5_setOut_b22
      rw [k1]
      refine ⟨fun g1 => ?_, fun g1 => refuse_s (Or.inr ⟨rfl, ?_⟩)⟩
      · unfold mX5_setOut_b40
        refine keep_s h (fun S1 u hu h4 hK e0 e1 e2 => ?_)
        have hR1 := Rep_now e0 e1 e2 hR
        have ref : ∀ (S4 : Mem) (R' : Row), SameBut 0 S1 S4 → RepC S4 0 R' n → (kindF (trv (S 11 0) t 0) = 0 → trv (S 11 0) t 2 = -1 → R' = upd (upd (upd (outR (S 11 0) t) (20 + 8 * t + 7) (takeX (S 11 0) t)) 4 (S 11 0 4 - takeX (S 11 0) t)) 7 (S 11 0 7 + tollF (trv (S 11 0) t 0))) → ((¬ kindF (trv (S 11 0) t 0) = 0 ∨ ¬ trv (S 11 0) t 2 = -1) → R' = upd (outR (S 11 0) t) 7 (S 11 0 7 + tollF (trv (S 11 0) t 0))) → mX6_setOut (fun (r4 : Int32) (S5 : Mem) => mX6_thrown (fun (r6 : Int32) (S7 : Mem) => r6 = 0 ∧ ((0 : Int32) = 0 → (vp_updL f 0 (tollF (trv (S 11 0) t 0)).toInt64) 0 = r4.toInt64) ∧ Inv S7) S5) S4 (nI t) := by
          intro S4 R' hs hR4 r1 r0
          have hK4 := hK.now hs
          unfold mX6_setOut
          refine tries_t (fun S' hTr => ?_)
          have e11 : S' 11 = S 11 := by rw [hTr.1 11 (by decide) (by decide), hK4.1 11 (by decide) (by decide) (by decide) (by decide)]
          refine isTraveller_s hn (by rw [e11]; exact w.2.1) (fun _ _ _ => ⟨fun _ => of_s (f := 3) t8 (by decide) ?_, fun g => ne10 g⟩) (fun g => absurd g (not_in ht hn))
          rw [e11]
          refine ⟨fun _ => of_s (f := 1) t8 (by decide) ?_, fun g => absurd g n3⟩
          rw [e11]
          refine ⟨fun _ => sets_s (f := 3) t8 (by decide) (sets_s (f := 5) t8 (by decide) (of_s (f := 2) t8 (by decide) ?_)), fun g => absurd g1 g⟩
          generalize eA : wr (wr S' 11 0 (20 + 8 * t + 3) 1) 11 0 (20 + 8 * t + 5) 0 = SA
          have rA : SA 11 0 = upd (upd (S 11 0) (20 + 8 * t + 3) 1) (20 + 8 * t + 5) 0 := by rw [← eA, setrow, setrow, e11]
          have cA : ∀ c, c ≠ 11 → SA c = S' c := fun c hc => by rw [← eA, wr_c hc, wr_c hc]
          have a2 : trv (SA 11 0) t 2 = trv (S 11 0) t 2 := by
            show SA 11 0 (20 + 8 * t + 2) = _
            rw [rA, upd_ne (by omega), upd_ne (by omega)]
            rfl
          rw [a2]
          have b97 : ∀ v, v = (if trv (S 11 0) t 2 = -1 then 1 else 0) → mX6_setOut_b97 (fun (r4 : Int32) (S5 : Mem) => mX6_thrown (fun (r6 : Int32) (S7 : Mem) => r6 = 0 ∧ ((0 : Int32) = 0 → (vp_updL f 0 (tollF (trv (S 11 0) t 0)).toInt64) 0 = r4.toInt64) ∧ Inv S7) S5) SA (nI t) v 4 (nI t) := by
            intro v hv
            unfold mX6_setOut_b97
            refine sets_s (f := 4) t8 (by decide) ?_
            generalize eB : wr SA 11 0 (20 + 8 * t + 4) v = SB
            have rB : SB 11 0 = outR (S 11 0) t := by rw [← eB, setrow, rA, hv]; rfl
            have cB : ∀ c, c ≠ 11 → SB c = S' c := fun c hc => by rw [← eB, wr_c hc]; exact cA c hc
            have l0 : trv (S 11 0) t 0 = trv (SB 11 0) t 0 := by
              show _ = SB 11 0 (20 + 8 * t + 0)
              rw [rB, outR_o (by omega) (by omega) (by omega)]
              rfl
            have l2 : trv (S 11 0) t 2 = trv (SB 11 0) t 2 := by
              show _ = SB 11 0 (20 + 8 * t + 2)
              rw [rB, outR_o (by omega) (by omega) (by omega)]
              rfl
            have b7 : SB 11 0 7 = S 11 0 7 := by rw [rB, outR_o (by omega) (by omega) (by omega)]
            have b4 : SB 11 0 4 = S 11 0 4 := by rw [rB, outR_o (by omega) (by omega) (by omega)]
            refine ⟨vpL rfl, X6_feeOf_s t8 ⟨vpL rfl, fun S7 e7 => ?_⟩⟩
            rw [c7, ← l0, b7] at e7
            have r7 : S7 11 0 = upd (outR (S 11 0) t) 7 (S 11 0 7 + tollF (trv (S 11 0) t 0)) := by rw [e7, setrow, rB]
            have c7' : ∀ c, c ≠ 11 → S7 c = S' c := fun c hc => by rw [e7, wr_c hc]; exact cB c hc
            have tt : ∀ k, k < 8 → trv (S7 11 0) t k = trv (SB 11 0) t k := fun k hk => by
              show S7 11 0 (20 + 8 * t + k) = SB 11 0 (20 + 8 * t + k)
              rw [r7, rB, upd_ne (by omega)]
            have t0 : trv (S7 11 0) t 0 = trv (S 11 0) t 0 := (tt 0 (by decide)).trans l0.symm
            have t2 : trv (S7 11 0) t 2 = trv (S 11 0) t 2 := (tt 2 (by decide)).trans l2.symm
            refine X6_kind_s t8 ?_
            rw [t0]
            have stay : (¬ kindF (trv (S 11 0) t 0) = 0 ∨ ¬ trv (S 11 0) t 2 = -1) → mX6_feeOf (fun (r12 : Int32) (S11 : Mem) => mX6_keeps (fun (r14 : Int32) (S13 : Mem) => mX6_thrown (fun (r6 : Int32) (S7 : Mem) => r6 = 0 ∧ ((0 : Int32) = 0 → (vp_updL f 0 (tollF (trv (S 11 0) t 0)).toInt64) 0 = r14.toInt64) ∧ Inv S7) S13) S11 r12) S7 (nI t) := by
              intro gg
              refine X6_feeOf_s t8 ?_
              rw [t0]
              exact ref_end (S9 := S7) (E := fun r => (vp_updL f 0 (tollF (trv (S 11 0) t 0)).toInt64) 0 = r.toInt64) h hu h4 hK4 hTr c7' ⟨n, by rw [r7, ← r0 gg]; exact hR4⟩ updL0
            refine ⟨fun gk => stay (Or.inl gk), fun gk => of_s (f := 2) t8 (by decide) ?_⟩
            rw [t2]
            refine ⟨fun gp => stay (Or.inr gp), fun gp => ⟨vpL rfl, of_s (f := 0) t8 (by decide) ?_⟩⟩
            rw [t0, c4, r7, upd_ne (by decide), ← rB, b4]
            intro x25 ex
            refine ⟨vpL rfl, vpL rfl, fun S28 e28 => sets_s (f := 7) t8 (by decide) ?_⟩
            rw [min_c] at ex
            have ex' : x25 = takeX (S 11 0) t := ex
            subst ex'
            generalize e9 : wr S28 11 0 (20 + 8 * t + 7) (takeX (S 11 0) t) = S9
            have r28 : S28 11 0 = upd (upd (outR (S 11 0) t) 7 (S 11 0 7 + tollF (trv (S 11 0) t 0))) 4 (S 11 0 4 - takeX (S 11 0) t) := by
              rw [e28, setrow, r7]
            have r9 : S9 11 0 = upd (upd (upd (outR (S 11 0) t) 7 (S 11 0 7 + tollF (trv (S 11 0) t 0))) 4 (S 11 0 4 - takeX (S 11 0) t)) (20 + 8 * t + 7) (takeX (S 11 0) t) := by
              rw [← e9, setrow, r28]
            have t09 : trv (S9 11 0) t 0 = trv (S 11 0) t 0 := by
              show S9 11 0 (20 + 8 * t + 0) = _
              rw [r9, upd_ne (by omega), upd_ne (by omega), upd_ne (by omega), ← rB]
              exact l0.symm
            refine X6_feeOf_s t8 ?_
            rw [t09]
            refine ref_end (S9 := S9) (E := fun r => (vp_updL f 0 (tollF (trv (S 11 0) t 0)).toInt64) 0 = r.toInt64) h hu h4 hK4 hTr (fun c hc => by rw [← e9, wr_c hc, e28, wr_c hc]; exact c7' c hc) ?_ updL0
            have e : S9 11 0 = R' := by
              rw [r1 gk gp, r9]
              funext k
              unfold upd
              by_cases ka : k = 20 + 8 * t + 7
              · subst ka
                rw [if_pos rfl, if_neg (by omega), if_neg (by omega), if_pos rfl]
              · by_cases kb : k = 4
                · subst kb
                  rw [if_neg ka, if_pos rfl, if_neg (by decide), if_pos rfl]
                · by_cases kc : k = 7
                  · subst kc
                    rw [if_neg ka, if_neg kb, if_pos rfl, if_pos rfl]
                  · rw [if_neg ka, if_neg kb, if_neg kc, if_neg kc, if_neg kb, if_neg ka]
            rw [e]
            exact ⟨n, hR4⟩
          refine ⟨fun gp => b97 0 (by rw [if_neg gp]), fun gp => b97 1 (by rw [if_pos gp])⟩
        refine startCrossing_s hR1 ht g3 (fun gk gp S4 hs hr => ref S4 _ hs hr (fun _ _ => rfl) (fun q => ?_)) (fun gg S4 hs hr => ref S4 _ hs hr (fun qa qb => ?_) (fun _ => rfl))
        · exact absurd q (by rintro (q | q); exact q gk; exact q gp)
        · exact absurd gg (by rintro (q | q); exact q qa; exact q qb)
      · unfold mX6_setOut
        refine tries_t (fun S' hTr => ?_)
        have e11 : S' 11 = S 11 := by rw [hTr.1 11 (by decide) (by decide), wr_c (by decide), wr_c (by decide)]
        refine isTraveller_s hn (by rw [e11]; exact w.2.1) (fun _ _ _ => ⟨fun _ => of_s (f := 3) t8 (by decide) ?_, fun g => ne10 g⟩) (fun g => absurd g (not_in ht hn))
        rw [e11]
        refine ⟨fun _ => of_s (f := 1) t8 (by decide) ?_, fun g => absurd g n3⟩
        rw [e11]
        refine ⟨fun g => absurd g g1, fun _ => of_s (f := 1) t8 (by decide) (refuses_s ?_)⟩
        rw [e11]
        exact ⟨thr_get, ne20, refuse_inv h hTr⟩
    · have o3 : trv (S 11 0) t 3 = 1 := wt.2.2.2.1.resolve_left g3
      unfold mX6_setOut
      refine tries_t (fun S' hTr => ?_)
      have e11 : S' 11 = S 11 := by rw [hTr.1 11 (by decide) (by decide), wr_c (by decide), wr_c (by decide)]
      refine isTraveller_s hn (by rw [e11]; exact w.2.1) (fun _ _ _ => ⟨fun _ => of_s (f := 3) t8 (by decide) ?_, fun g => ne10 g⟩) (fun g => absurd g (not_in ht hn))
      rw [e11]
      refine ⟨fun g => absurd o3 g, fun _ => of_s (f := 2) t8 (by decide) (refuses_s ?_)⟩
      rw [e11]
      exact ⟨thr_get, ne20, refuse_inv h hTr⟩
  · unfold mX6_setOut
    refine tries_t (fun S' hTr => ?_)
    have e11 : S' 11 = S 11 := hTr.1 11 (by decide) (by decide)
    refine isTraveller_s hn (by rw [e11]; exact w.2.1) (fun t ht et => ?_) (fun _ => ⟨fun g => absurd rfl g, fun _ => s_raises (fin (hTr.inv h) rfl ne10)⟩)
    subst et
    exact absurd h0 (not_in ht hn)
