/-! letters, height, fee, travellerOf, stoneOf, account .. -/
theorem RepC.scal {S : Mem} {j n c k : Nat} {R : Row} {v : Int32} (hk : (c = 3 ∧ k = 0) ∨ (c = 6 ∧ k = 4) ∨ (c = 7 ∧ k = 5) ∨ (c = 8 ∧ k = 6) ∨ (c = 9 ∧ k = 7) ∨ (c = 10 ∧ k = 8) ∨ (c = 11 ∧ k = 9)) (h : RepC S j R n) : RepC (wr S 0 j c v) j (upd R k v) n := by
  obtain ⟨⟨w1, w2, w3, w4, w5, w6⟩, b1, b2, b3, b4, b5, b6, b7, b8, b9, b10, b11, b12⟩ := h
  have hk' : k < 10 ∧ k ≠ 1 ∧ k ≠ 2 ∧ k ≠ 3 := by omega
  have hT : ∀ t, trv (upd R k v) t = trv R t := fun t => by funext q; exact upd_ne (by omega)
  refine ⟨⟨w1, by rw [upd_ne (by omega)]; exact w2, by rw [upd_ne (by omega)]; exact w3, by rw [upd_ne (by omega)]; exact w4, fun s hs => by rw [upd_ne (by omega)]; exact w5 s hs, fun t ht => by rw [hT]; exact w6 t ht⟩, ?_⟩
  refine ⟨by rw [wr_k (by omega), upd_ne (by omega)]; exact b1, ?_, by rw [wr_k (by omega), upd_ne (by omega)]; exact b3, by rw [wr_k (by omega), upd_ne (by omega)]; exact b4, ?_, ?_, ?_, ?_, ?_, ?_, fun s hs => by rw [wr_c (by decide), upd_ne (by omega)]; exact b11 s hs, fun t ht f hf => by rw [wr_c (by decide), hT]; exact b12 t ht f hf⟩
  all_goals
    rcases hk with ⟨rfl, rfl⟩ | ⟨rfl, rfl⟩ | ⟨rfl, rfl⟩ | ⟨rfl, rfl⟩ | ⟨rfl, rfl⟩ | ⟨rfl, rfl⟩ | ⟨rfl, rfl⟩ <;> first | rw [wr_same, upd_same] | (rw [wr_k (by decide), upd_ne (by decide)]; assumption)
theorem setrow {S : Mem} {k : Nat} {v : Int32} : (wr S 11 0 k v) 11 0 = upd (S 11 0) k v := wr_row
theorem k_letters {S : Mem} {f : Nat → Int64} {g : Nat → UInt64} {x1 x2 : Int32} (h : Inv S) : lawC2 (fun S1 _ _ => Inv S1) S f g x1 x2 := by
  obtain ⟨n, hR⟩ := h.1
  have hbag : S 0 0 6 = S 11 0 4 := hR.2.2.2.2.2.1
  unfold lawC2 mL_letters mX5_letters
  refine s_checkRange (fun h0 h1 => ⟨fun hb => ?_, fun hb => refuse_s (Or.inr ⟨rfl, ?_⟩)⟩) (fun h0 => Or.inl ⟨rfl, ?_⟩)
  · rw [hbag] at hb
    unfold mX5_letters_b33
    refine keep_s h (fun S1 u hu h4 hK e0 e1 e2 => ?_)
    have hR1 := Rep_now e0 e1 e2 hR
    intro S3 e3 S4 e4
    rw [hR1.2.2.2.2.2.1] at e3
    have e38 : S3 0 0 8 = S 11 0 6 := by rw [e3, wr_k (by decide)]; exact hR1.2.2.2.2.2.2.2.1
    rw [e38] at e4
    have hR4 : RepC S4 0 (upd (upd (S 11 0) 4 (S 11 0 4 + x1)) 6 (S 11 0 6 + x1)) n := by rw [e4, e3]; exact (hR1.scal (by omega)).scal (by omega)
    have hK4 : Kept S S4 u := by rw [e4, e3]; exact (hK.now wr0_now).now wr0_now
    unfold mX6_letters
    refine tries_t (fun S' hT => s_in (fun g0 g1 => ⟨fun _ => ⟨vpL rfl, fun _ => ?_, fun hb' => ?_⟩, fun h => ne10 h⟩) (fun g0 => absurd g0 (by rintro (g | g); exact h0 g; exact h1 g)))
    · have e11 : S' 11 = S 11 := by rw [hT.1 11 (by decide) (by decide), hK4.1 11 (by decide) (by decide) (by decide) (by decide)]
      refine ⟨vpL rfl, vpL rfl, fun S10 e10 => ⟨vpL rfl, vpL rfl, fun S13 e13 => ⟨vpL rfl, ?_⟩⟩⟩
      simp only [c4, c6] at e10 e13
      have r10 : S10 11 0 = upd (S 11 0) 4 (S 11 0 4 + x1) := by rw [e10, setrow, e11]
      have r13 : S13 11 0 = upd (upd (S 11 0) 4 (S 11 0 4 + x1)) 6 (S 11 0 6 + x1) := by rw [e13, setrow, r10, upd_ne (by decide)]
      refine ref_end (S9 := S13) (E := fun r => (vp_updL f 0 (S4 0 0 6).toInt64) 0 = r.toInt64) h hu h4 hK4 hT (fun c hc => by rw [e13, e10, wr_c hc, wr_c hc]) (by rw [r13]; exact ⟨n, hR4⟩) ?_
      show vp_updL f 0 (S4 0 0 6).toInt64 0 = (S13 11 0 4).toInt64
      rw [updL0, r13, hR4.2.2.2.2.2.1]
    · have e11 : S' 11 = S 11 := by rw [hT.1 11 (by decide) (by decide), hK4.1 11 (by decide) (by decide) (by decide) (by decide)]
      rw [e11, c4] at hb'
      exact absurd hb hb'
  · rw [hbag] at hb ⊢
    unfold mX6_letters
    refine tries_t (fun S' hT => s_in (fun g0 g1 => ⟨fun _ => ⟨vpL rfl, fun hb' => ?_, fun _ => ⟨vpL rfl, refuses_s ?_⟩⟩, fun h => ne10 h⟩) (fun g0 => absurd g0 (by rintro (g | g); exact h0 g; exact h1 g)))
    · have e11 : S' 11 = S 11 := by rw [hT.1 11 (by decide) (by decide), wr_c (by decide), wr_c (by decide)]
      rw [e11, c4] at hb'
      exact absurd hb' hb
    · have e11 : S' 11 = S 11 := by rw [hT.1 11 (by decide) (by decide), wr_c (by decide), wr_c (by decide)]
      rw [e11, c4]
      unfold mX6_thrown
      exact ⟨thr_get, ne20, refuse_inv h hT⟩
  · unfold mX6_letters
    refine tries_t (fun S' hT => s_in (fun g0 g1 => absurd h0 (by rintro (g | g); exact g0 g; exact g1 g)) (fun g0 => ⟨fun h => absurd rfl h, fun _ => s_raises (fin (hT.inv h) rfl ne10)⟩))
theorem s_checkStone {post : Mem → Prop} {px : String → Mem → Prop} {S : Mem} {v : Int32} (h1 : ∀ s, s < 10 → v = nI s → post S) (h0 : (v < 0 ∨ ¬ v < 10) → px "java/lang/IndexOutOfBoundsException" S) : mX5_checkStone post px S v := by
  unfold mX5_checkStone
  refine ⟨fun g => h0 (Or.inl g), fun g => ⟨fun g2 => ?_, fun g2 => h0 (Or.inr g2)⟩⟩
  obtain ⟨k, hk, e⟩ := nI_lt_of (n := 10) (by decide) g g2
  exact h1 k hk e
theorem lowF_neg {pl : Nat → Int32} {v : Int32} : ∀ (m t : Nat), t + m ≤ 8 → (lowF pl v m t = -1 ∨ ∃ i, t ≤ i ∧ i < t + m ∧ lowF pl v m t = nI i) := by
  intro m
  induction m with
  | zero => intro t _; exact Or.inl rfl
  | succ m ih =>
    intro t ht
    unfold lowF
    split
    · exact Or.inr ⟨t, Nat.le_refl _, by omega, rfl⟩
    · rcases ih (t + 1) (by omega) with h | ⟨i, h1, h2, h3⟩
      · exact Or.inl h
      · exact Or.inr ⟨i, by omega, by omega, h3⟩
theorem lowF_sign {pl : Nat → Int32} {v : Int32} {n : Nat} (hn : n ≤ 8) : (lowF pl v n 0 = -1 ∧ lowF pl v n 0 < 0) ∨ (¬ lowF pl v n 0 = -1 ∧ ¬ lowF pl v n 0 < 0) := by
  rcases lowF_neg (pl := pl) (v := v) n 0 (by omega) with h | ⟨i, h1, h2, h3⟩
  · rw [h]; exact Or.inl (by decide)
  · rw [h3]
    refine Or.inr ⟨fun g => absurd (nI_pos' (n := i) (by omega)) (by rw [g]; decide), nI_pos (by omega)⟩
theorem k_height {S : Mem} {f : Nat → Int64} {g : Nat → UInt64} {x1 x2 : Int32} (h : Inv S) : lawC0 (fun S1 _ _ => Inv S1) S f g x1 x2 := by
  obtain ⟨n, hR⟩ := h.1
  have w := hR.1
  unfold lawC0 mL_height mX5_height
  refine s_checkStone (fun s hs es => ?_) (fun h0 => Or.inl ⟨rfl, ?_⟩)
  · subst es
    refine s_checkRange (fun h0 h1 => X0_lowestOn_s hR ?_) (fun h0 => Or.inr (Or.inl ⟨rfl, ?_⟩))
    · refine ⟨fun hl => ?_, fun hl => refuse_s (Or.inr (Or.inr ⟨rfl, ?_⟩))⟩
      · unfold mX5_height_b32
        refine keep_s h (fun S1 u hu h4 hK e0 e1 e2 => ⟨vpN hs (by decide), fun x4 ex4 => ⟨vpN hs (by decide), fun S6 e6 => ?_⟩⟩)
        rw [nI_clamp (by omega)] at ex4 e6
        have hR1 := Rep_now e0 e1 e2 hR
        have hK6 : Kept S S6 u := by rw [e6]; exact hK.now wr1_now
        unfold mX6_height
        refine tries_t (fun S' hT => X6_isStone_s (fun a ha ea => ⟨fun _ => ?_, fun h => ne10 h⟩) (fun g0 => absurd g0 (by rintro (g | g); exact nI_pos (by omega) g; exact g (nI_lt (b := 10) hs (by decide)))))
        have e11 : S' 11 = S 11 := by rw [hT.1 11 (by decide) (by decide), hK6.1 11 (by decide) (by decide) (by decide) (by decide)]
        refine s_in (fun g0 g1 => ⟨fun _ => ?_, fun h => ne10 h⟩) (fun g0 => absurd g0 (by rintro (g | g); exact h0 g; exact h1 g))
        refine X6_lowestOn_s (n := n) (by rw [e11]; exact w) ?_
        rw [e11]
        have ei : (10 : Int32) + nI s = nI (10 + s) := nI_add 10 s
        rw [ei]
        refine ⟨fun _ => ⟨vpN (by omega) (by decide), fun x13 ex13 => ⟨vpN (by omega) (by decide), fun S15 e15 => ?_⟩⟩, fun h' => ?_⟩
        · rw [nI_clamp (by omega)] at ex13 e15
          have r15 : S15 11 0 = upd (S 11 0) (10 + s) x2 := by rw [e15, setrow, e11]
          refine ref_end (S9 := S15) (E := fun r => (vp_updL f 0 x4.toInt64) 0 = r.toInt64) h hu h4 hK6 hT (fun c hc => by rw [e15, wr_c hc]) ?_ ?_
          · rw [r15]
            obtain ⟨⟨w1, w2, w3, w4, w5, w6⟩, b1, b2, b3, b4, b5, b6, b7, b8, b9, b10, b11, b12⟩ := hR1
            have hT' : ∀ t, trv (upd (S 11 0) (10 + s) x2) t = trv (S 11 0) t := fun t => by funext q; exact upd_ne (by omega)
            refine ⟨n, ⟨w1, by rw [upd_ne (by omega)]; exact w2, by rw [upd_ne (by omega)]; exact w3, by rw [upd_ne (by omega)]; exact w4, fun i hi => ?_, fun t ht => by rw [hT']; exact w6 t ht⟩, ?_⟩
            · by_cases his : i = s
              · subst his
                rw [upd_same]
                obtain ⟨j, hj, rfl⟩ := nI_of (x := x2) (fun g => h0 (Int32.lt_trans g (by decide)))
                refine ⟨j, ?_, ?_, rfl⟩
                · have := mt (nI_ltI hj (show 1 < 2 ^ 31 by decide)).mpr h0
                  omega
                · have := mt (nI_ltI (show 30 < 2 ^ 31 by decide) hj).mpr h1
                  omega
              · rw [upd_ne (by omega)]; exact w5 i hi
            · subst e6
              refine ⟨by rw [wr_c (by decide), upd_ne (by omega)]; exact b1, by rw [wr_c (by decide), upd_ne (by omega)]; exact b2, by rw [wr_c (by decide), upd_ne (by omega)]; exact b3, by rw [wr_c (by decide), upd_ne (by omega)]; exact b4, by rw [wr_c (by decide), upd_ne (by omega)]; exact b5, by rw [wr_c (by decide), upd_ne (by omega)]; exact b6, by rw [wr_c (by decide), upd_ne (by omega)]; exact b7, by rw [wr_c (by decide), upd_ne (by omega)]; exact b8, by rw [wr_c (by decide), upd_ne (by omega)]; exact b9, by rw [wr_c (by decide), upd_ne (by omega)]; exact b10, fun i hi => ?_, fun t ht q hq => by rw [wr_c (by decide), hT']; exact b12 t ht q hq⟩
              by_cases his : i = s
              · subst his
                rw [wr_same, upd_same]
              · rw [wr_k his, upd_ne (by omega)]; exact b11 i hi
          · show vp_updL f 0 x4.toInt64 0 = x13.toInt64
            rw [updL0, ex4, ex13, hR1.2.2.2.2.2.2.2.2.2.2.2.1 s hs]
        · rcases lowF_sign (pl := plc (S 11 0)) (v := nI s) w.1 with ⟨q1, q2⟩ | ⟨q1, q2⟩
          · exact absurd q2 h'
          · exact absurd hl q1
      · unfold mX6_height
        refine tries_t (fun S' hT => X6_isStone_s (fun a ha ea => ⟨fun _ => ?_, fun h => ne10 h⟩) (fun g0 => absurd g0 (by rintro (g | g); exact nI_pos (by omega) g; exact g (nI_lt (b := 10) hs (by decide)))))
        have e11 : S' 11 = S 11 := by rw [hT.1 11 (by decide) (by decide), wr_c (by decide), wr_c (by decide)]
        refine s_in (fun g0 g1 => ⟨fun _ => ?_, fun h => ne10 h⟩) (fun g0 => absurd g0 (by rintro (g | g); exact h0 g; exact h1 g))
        refine X6_lowestOn_s (n := n) (by rw [e11]; exact w) ?_
        rw [e11]
        refine ⟨fun h' => ?_, fun _ => refuses_s ⟨thr_get, ne30, refuse_inv h hT⟩⟩
        rcases lowF_sign (pl := plc (S 11 0)) (v := nI s) w.1 with ⟨q1, q2⟩ | ⟨q1, q2⟩
        · exact absurd q1 hl
        · exact absurd h' q2
    · unfold mX6_height
      refine tries_t (fun S' hT => X6_isStone_s (fun a ha ea => ⟨fun _ => ?_, fun h => ne10 h⟩) (fun g0 => absurd g0 (by rintro (g | g); exact nI_pos (by omega) g; exact g (nI_lt (b := 10) hs (by decide)))))
      exact s_in (fun g0 g1 => absurd h0 (by rintro (g | g); exact g0 g; exact g1 g)) (fun _ => ⟨fun h => absurd rfl h, fun _ => s_raises (fin (hT.inv h) rfl ne20)⟩)
  · unfold mX6_height
    refine tries_t (fun S' hT => X6_isStone_s (fun a ha ea => ?_) (fun _ => ⟨fun h => absurd rfl h, fun _ => s_raises (fin (hT.inv h) rfl ne10)⟩))
    subst ea
    exact absurd h0 (by rintro (g | g); exact nI_pos (by omega) g; exact g (nI_lt (b := 10) ha (by decide)))
