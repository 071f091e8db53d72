/-! going back -/
def wetF (x by' : Int32) : Int32 := if 0 < (if x + by' < 20 then x + by' else 20) then (if x + by' < 20 then x + by' else 20) else 0
theorem wet_tab : ∀ a, a < 21 → (wetF (nI a) 5 = nI (min 20 (a + 5)) ∧ (if nI a + 5 < (20 : Int32) then nI a + 5 else 20) = nI (min 20 (a + 5))) ∧ (wetF (nI a) 2 = nI (min 20 (a + 2)) ∧ (if nI a + 2 < (20 : Int32) then nI a + 2 else 20) = nI (min 20 (a + 2))) ∧ (wetF (nI a) (-1) = nI (a - 1) ∧ (if (0 : Int32) < nI a - 1 then nI a - 1 else 0) = nI (a - 1)) ∧ (wetF (nI a) (-3) = nI (a - 3) ∧ (if (0 : Int32) < nI a - 3 then nI a - 3 else 0) = nI (a - 3)) := by decide +kernel
theorem X3_wetter_s {post : Mem → Prop} {S : Mem} {i a b : Nat} {v : Int32} (h1 : S 2 i 1 = nI a) (e : (if nI a + v < (20 : Int32) then nI a + v else 20) = nI b) (h : post (wr S 2 i 1 (nI b))) : mX3_getWetter post S i v := by
  unfold mX3_getWetter
  intro S1 e1
  rw [h1, e] at e1
  rw [e1]
  exact h
theorem X3_drier_s {post : Mem → Prop} {S : Mem} {i a b : Nat} {v : Int32} (h1 : S 2 i 1 = nI a) (e : (if (0 : Int32) < nI a - v then nI a - v else 0) = nI b) (h : post (wr S 2 i 1 (nI b))) : mX3_getDrier post S i v := by
  unfold mX3_getDrier
  intro S1 e1
  rw [h1, e] at e1
  rw [e1]
  exact h
/-- a traveller comes to a bank -/
def bankR (R : Row) (t : Nat) (q : Int32) : Row :=
  upd (if q = -1 then upd (upd (upd (upd R (20 + 8 * t + 2) q) (20 + 8 * t + 3) 0) (20 + 8 * t + 5) 0) 4 (R 4 + trv R t 7) else upd (upd (upd (upd R (20 + 8 * t + 2) q) (20 + 8 * t + 3) 0) (20 + 8 * t + 5) 0) 5 (R 5 + trv R t 7)) (20 + 8 * t + 7) 0
theorem bankR_f {R : Row} {t f : Nat} {q : Int32} : trv (bankR R t q) t f = if f = 7 then 0 else if f = 5 then 0 else if f = 3 then 0 else if f = 2 then q else trv R t f := by
  unfold bankR
  rw [trv_upd]
  split
  · rfl
  · split <;> rw [trv_updS (by decide), trv_upd, trv_upd, trv_upd]
theorem bankR_s {R : Row} {t k : Nat} {q : Int32} (hk : k < 20) : bankR R t q k = if q = -1 then (if k = 4 then R 4 + trv R t 7 else R k) else (if k = 5 then R 5 + trv R t 7 else R k) := by
  unfold bankR
  rw [updT hk]
  split <;> rw [updS, updT hk, updT hk, updT hk]
theorem bankR_o {R : Row} {t : Nat} {q : Int32} {R0 : Row} (h : OneT R0 R t) : OneT R0 (bankR R t q) t := by
  unfold bankR
  split
  · exact ((((h.T (by decide)).T (by decide)).T (by decide)).S (by omega)).T (by decide)
  · exact ((((h.T (by decide)).T (by decide)).T (by decide)).S (by omega)).T (by decide)
theorem WFT.wet {r : Row} (w : WFT r) : ∃ a, a < 21 ∧ r 1 = nI a := by
  obtain ⟨a, ha, e⟩ := w.2.1
  exact ⟨a, by omega, e⟩
theorem WFT.pl {r : Row} (w : WFT r) : ∃ q, q ≤ 11 ∧ r 2 = pl q := pl_of w.2.2.1
/-- back to place q, 5 wetter -/
def goneA (R : Row) (t : Nat) : Row := upd (upd R (20 + 8 * t + 1) (wetF (trv R t 1) 5)) 9 (R 9 + 1)
def goneR (R : Row) (t q : Nat) : Row := if q = 0 ∨ q = 11 then bankR (goneA R t) t (pl q) else upd (goneA R t) (20 + 8 * t + 2) (pl q)
def backR (R : Row) (t : Nat) : Row :=
  if 1 ≤ plN (trv R t 2) ∧ plN (trv R t 2) ≤ 10 ∧ stF R (R 1) (plN (trv R t 2) - 1) = 2 then goneR R t (goB R (R 1) (decide (trv R t 4 = 1)) 10 (plN (trv R t 2))) else R
theorem goneA_f {R : Row} {t f : Nat} : trv (goneA R t) t f = if f = 1 then wetF (trv R t 1) 5 else trv R t f := by
  unfold goneA
  rw [trv_updS (by decide), trv_upd]
theorem goneA_s {R : Row} {t k : Nat} (hk : k < 20) : goneA R t k = if k = 9 then R 9 + 1 else R k := by
  unfold goneA
  rw [updS, updT hk]
theorem goneA_o {R : Row} {t : Nat} : OneT R (goneA R t) t := (OneT.refl.T (by decide)).S (by omega)
theorem goneR_o {R : Row} {t q : Nat} : OneT R (goneR R t q) t := by
  unfold goneR
  split
  · exact bankR_o goneA_o
  · exact goneA_o.T (by decide)
theorem backR_o {R : Row} {t : Nat} : OneT R (backR R t) t := by
  unfold backR
  split
  · exact goneR_o
  · exact OneT.refl
theorem wet5 {R : Row} {t : Nat} (w : WFT (trv R t)) : ∃ b, b ≤ 20 ∧ wetF (trv R t 1) 5 = nI b := by
  obtain ⟨a, ha, e⟩ := w.wet
  refine ⟨min 20 (a + 5), by omega, ?_⟩
  rw [e]
  exact (wet_tab a ha).1.1
theorem goneR_wf {R : Row} {t q q0 : Nat} (w : WFT (trv R t)) (h2 : trv R t 2 = pl q0) (h0 : 1 ≤ q0) (h10 : q0 ≤ 10) (hq : q ≤ 11) (hf : trv R t 4 = 1 → q ≤ q0) (hn : trv R t 4 = 0 → q0 ≤ q) : WFT (trv (goneR R t q) t) := by
  have w5 := wet5 w
  obtain ⟨w0, w1, w2, w3, w4, w6, w7, w8⟩ := w
  obtain ⟨a, rfl⟩ : ∃ a, q0 = a + 1 := ⟨q0 - 1, by omega⟩
  rw [pl_s] at h2
  have r3 : trv R t 3 = 1 := by
    refine w3.resolve_left (fun g => ?_)
    rcases (w7 g).2.2 with e | e
    · exact nI_nm1 (k := a) (by omega) (h2.symm.trans e)
    · have := (nI_eq (a := a) (b := 10) (by omega) (by decide)).mp (h2.symm.trans e)
      omega
  unfold goneR
  split
  · rename_i hb
    unfold WFT
    rw [bankR_f, bankR_f, bankR_f, bankR_f, bankR_f, bankR_f, bankR_f]
    simp only [goneA_f]
    refine ⟨w0, w5, ?_, Or.inl rfl, w4, Or.inl rfl, fun _ => ⟨rfl, rfl, ?_⟩, fun g => absurd (show (0 : Int32) = 1 from g) (by decide)⟩
    · exact pl_to hq
    · rcases hb with rfl | rfl
      · exact Or.inl rfl
      · exact Or.inr rfl
  · rename_i hb
    have e2 : trv (upd (goneA R t) (20 + 8 * t + 2) (pl q)) t 2 = pl q := by rw [trv_upd]; rfl
    obtain ⟨c, rfl⟩ : ∃ c, q = c + 1 := ⟨q - 1, by omega⟩
    unfold WFT
    rw [e2, trv_upd, trv_upd, trv_upd, trv_upd, trv_upd, trv_upd]
    simp only [goneA_f]
    refine ⟨w0, w5, pl_to hq, w3, w4, w6, fun g => absurd (r3.symm.trans g) (by decide), fun g => ⟨fun e => ?_, fun e => ?_, (w8 r3).2.2⟩⟩
    · rw [pl_s] at e
      exact absurd e (nI_nm1 (by omega))
    · rw [pl_s] at e
      have := (nI_eq (a := c) (b := 10) (by omega) (by decide)).mp e
      omega
theorem far_of {r : Row} (w : WFT r) : (decide (r 4 = 1) = true → r 4 = 1) ∧ (decide (r 4 = 1) = false → r 4 = 0) := by
  refine ⟨of_decide_eq_true, fun h => ?_⟩
  exact w.2.2.2.2.1.resolve_right (of_decide_eq_false h)
theorem goB_wf {R : Row} {t q0 : Nat} (w : WFT (trv R t)) (h2 : trv R t 2 = pl q0) (h0 : 1 ≤ q0) (h10 : q0 ≤ 10) : WFT (trv (goneR R t (goB R (R 1) (decide (trv R t 4 = 1)) 10 q0)) t) := by
  refine goneR_wf w h2 h0 h10 (goB_le _ _ (by omega)) (fun g => ?_) (fun g => ?_)
  · rw [decide_eq_true g]
    exact goB_far _ _
  · rw [decide_eq_false (by rw [g]; decide)]
    exact goB_near _ _
theorem backR_wf {R : Row} {n t : Nat} (w : WFR R n) (ht : t < n) : WFR (backR R t) n := by
  refine w.one backR_o ?_
  have wt := w.t ht
  obtain ⟨q, hq, e⟩ := wt.pl
  unfold backR
  rw [e, plN_pl hq]
  split
  · rename_i g
    exact goB_wf wt e g.1 g.2.1
  · exact wt
theorem onstone_out {r : Row} {a : Nat} (w : WFT r) (ha : a < 10) (h2 : r 2 = nI a) : r 3 = 1 := by
  refine w.2.2.2.1.resolve_left (fun g => ?_)
  rcases (w.2.2.2.2.2.2.1 g).2.2 with e | e
  · exact nI_nm1 (k := a) (by omega) (h2.symm.trans e)
  · have := (nI_eq (a := a) (b := 10) (by omega) (by decide)).mp (h2.symm.trans e)
    omega
theorem X0_sendBack_s {post : Mem → Prop} {S : Mem} {n t : Nat} {R : Row} (hR : RepC S 0 R n) (ht : t < n) (h : ∀ S' : Mem, SameBut 0 S S' → RepC S' 0 (backR R t) n → post S') : mX0_sendBack post S 0 t := by
  have w := hR.1
  have t8 : t < 8 := by have := w.1; omega
  have wt := w.t ht
  obtain ⟨q, hq, e2⟩ := wt.pl
  have k2 : S 2 t 2 = pl q := (hR.fld ht (by decide) (by decide)).trans e2
  unfold mX0_sendBack
  rw [hR.sc.2.2.1, k2, hR.way ht]
  refine X0_back_s hq w hR.2.2.2.2.2.2.2.2.2.2.2.1 w.lv ?_
  rw [k2]
  by_cases u : undP R (R 1) q
  · have u1 := u.1
    have u2 := u.2.1
    obtain ⟨a, rfl⟩ : ∃ a, q = a + 1 := ⟨q - 1, by omega⟩
    have r3 : trv R t 3 = 1 := onstone_out wt (a := a) (by omega) (by rw [e2, pl_s])
    have ew : wayF (trv R t) = trv R t 4 := if_pos r3
    have ed : decide (¬ wayF (trv R t) = 0) = decide (trv R t 4 = 1) := by
      rw [ew]
      rcases wt.2.2.2.2.1 with g | g
      · rw [g]; rfl
      · rw [g]; rfl
    rw [ed]
    have eb : backR R t = goneR R t (goB R (R 1) (decide (trv R t 4 = 1)) 10 (a + 1)) := by
      unfold backR
      rw [e2, plN_pl hq]
      exact if_pos u
    have hw : WFT (trv (goneR R t (goB R (R 1) (decide (trv R t 4 = 1)) 10 (a + 1))) t) := goB_wf wt e2 u1 u2
    have ne := goB_ne (far := decide (trv R t 4 = 1)) u
    have le : goB R (R 1) (decide (trv R t 4 = 1)) 10 (a + 1) ≤ 11 := goB_le _ _ hq
    have fr : trv R t 4 = 1 → goB R (R 1) (decide (trv R t 4 = 1)) 10 (a + 1) ≠ 11 := fun g => by
      rw [decide_eq_true g]
      have := goB_far (R := R) (fl := R 1) 10 (a + 1)
      omega
    have nr : trv R t 4 = 0 → goB R (R 1) (decide (trv R t 4 = 1)) 10 (a + 1) ≠ 0 := fun g => by
      rw [decide_eq_false (by rw [g]; decide)]
      have := goB_near (R := R) (fl := R 1) 10 (a + 1)
      omega
    rw [eb] at h
    revert h hw ne le fr nr
    generalize goB R (R 1) (decide (trv R t 4 = 1)) 10 (a + 1) = p
    intro h hw ne le fr nr
    refine ⟨fun _ S4 e4 => ?_, fun g => absurd (pl_inj le hq g) ne⟩
    obtain ⟨b, hb, eb⟩ := wt.wet
    have k1 : S4 2 t 1 = nI b := by rw [e4, wr_k (by decide), hR.fld ht (by decide) (by decide)]; exact eb
    have ewt : wetF (trv R t 1) 5 = nI (min 20 (b + 5)) := by rw [eb]; exact (wet_tab b hb).1.1
    refine X3_wetter_s k1 (wet_tab b hb).1.2 (fun S7 e7 => ?_)
    have b11 : (wr S4 2 t 1 (nI (min 20 (b + 5)))) 0 0 11 = R 9 := by rw [wr_c (by decide), e4, wr_c (by decide)]; exact hR.sc.2.2.2.2.2.2.2.2.2
    rw [b11] at e7
    have n7 : SameBut 0 S S7 := by rw [e7, e4]; exact ((wr2_now t8).trans (wr2_now t8)).trans wr0_now
    have f7 : ∀ f, f < 8 → S7 2 t f = if f = 1 then wetF (trv R t 1) 5 else if f = 2 then pl p else S 2 t f := by
      intro f hf
      rw [e7, wr_c (by decide)]
      by_cases f1 : f = 1
      · subst f1
        rw [wr_same, if_pos rfl, ewt]
      · rw [wr_k f1, if_neg f1, e4]
        by_cases f2 : f = 2
        · subst f2; rw [wr_same, if_pos rfl]
        · rw [wr_k f2, if_neg f2]
    have o7 : ∀ i, i ≠ t → S7 2 i = S 2 i := fun i hi => by rw [e7, wr_c (by decide), wr_i hi, e4, wr_i hi]
    have g7 : ∀ k, S7 0 0 k = if k = 11 then R 9 + 1 else S 0 0 k := by
      intro k
      rw [e7]
      by_cases hk : k = 11
      · subst hk; rw [wr_same, if_pos rfl]
      · rw [wr_k hk, if_neg hk, wr_c (by decide), e4, wr_c (by decide)]
    have h17 : S7 1 0 = S 1 0 := by rw [e7, wr_c (by decide), wr_c (by decide), e4, wr_c (by decide)]
    obtain ⟨s1, s2, s3, s4, s5, s6, s7, s8, s9, s10⟩ := hR.sc
    have fo : ∀ f, f < 8 → f ≠ 4 → f ≠ 1 → f ≠ 2 → S7 2 t f = trv R t f := fun f hf h4 f1 f2 => by rw [f7 f hf, if_neg f1, if_neg f2]; exact hR.fld ht hf h4
    have f4 : S7 2 t 4 = trv R t 4 := by rw [f7 4 (by decide), if_neg (by decide), if_neg (by decide), hR.way ht, ew]
    refine X5_stone_pl le (fun c hc ec => ⟨fun _ => ?_, fun g => ne10 g⟩) (fun g => ⟨fun g => absurd rfl g, fun _ => ?_⟩)
    · unfold mX0_sendBack_b57
      have p0 : p ≠ 0 := by omega
      have p11 : p ≠ 11 := by omega
      refine ⟨fun _ => h S7 n7 ?_, fun g => absurd (pl_inj le (by decide) (g.trans pl_0.symm)) p0⟩
      have eg : goneR R t p = upd (goneA R t) (20 + 8 * t + 2) (pl p) := if_neg (by omega)
      rw [eg] at hw ⊢
      have q3 : trv (upd (goneA R t) (20 + 8 * t + 2) (pl p)) t 3 = 1 := by rw [trv_upd, goneA_f]; exact r3
      refine hR.one (t := t) (goneA_o.T (by decide)) hw h17 ?_ o7 ?_ (seven ?_ ?_ ?_ ?_ ?_ ?_ ?_)
      · unfold Scal
        simp only [g7, updT (show 3 < 20 by decide), updT (show 0 < 20 by decide), updT (show 1 < 20 by decide), updT (show 2 < 20 by decide), updT (show 4 < 20 by decide), updT (show 5 < 20 by decide), updT (show 6 < 20 by decide), updT (show 7 < 20 by decide), updT (show 8 < 20 by decide), updT (show 9 < 20 by decide), goneA_s (show 3 < 20 by decide), goneA_s (show 0 < 20 by decide), goneA_s (show 1 < 20 by decide), goneA_s (show 2 < 20 by decide), goneA_s (show 4 < 20 by decide), goneA_s (show 5 < 20 by decide), goneA_s (show 6 < 20 by decide), goneA_s (show 7 < 20 by decide), goneA_s (show 8 < 20 by decide), goneA_s (show 9 < 20 by decide)]
        exact ⟨s1, s2, s3, s4, s5, s6, s7, s8, s9, rfl⟩
      · unfold wayF
        rw [q3, if_pos rfl, f4, trv_upd, goneA_f]
        rfl
      · rw [trv_upd, goneA_f]; exact fo 0 (by decide) (by decide) (by decide) (by decide)
      · rw [trv_upd, goneA_f, f7 1 (by decide)]; rfl
      · rw [trv_upd, f7 2 (by decide)]; rfl
      · rw [trv_upd, goneA_f]; exact fo 3 (by decide) (by decide) (by decide) (by decide)
      · rw [trv_upd, goneA_f]; exact fo 5 (by decide) (by decide) (by decide) (by decide)
      · rw [trv_upd, goneA_f]; exact fo 6 (by decide) (by decide) (by decide) (by decide)
      · rw [trv_upd, goneA_f]; exact fo 7 (by decide) (by decide) (by decide) (by decide)
    · unfold mX3_restOnBank
      intro S8 e8 S9 e9
      have eg : goneR R t p = bankR (goneA R t) t (pl p) := if_pos g
      rw [eg] at hw h
      have n9 : SameBut 0 S S9 := by rw [e9, e8]; exact (n7.trans (wr2_now t8)).trans (wr2_now t8)
      have c9' : ∀ c, c ≠ 2 → S9 c = S7 c := fun c hc => by rw [e9, wr_c hc, e8, wr_c hc]
      have o9 : ∀ i, i ≠ t → S9 2 i = S 2 i := fun i hi => by rw [e9, wr_i hi, e8, wr_i hi]; exact o7 i hi
      have f9 : ∀ f, f ≠ 3 → f ≠ 5 → S9 2 t f = S7 2 t f := fun f f3 f5 => by rw [e9, wr_k f5, e8, wr_k f3]
      have f93 : S9 2 t 3 = 0 := by rw [e9, wr_k (by decide), e8, wr_same]
      have f95 : S9 2 t 5 = 0 := by rw [e9, wr_same]
      have q3 : trv (bankR (goneA R t) t (pl p)) t 3 = 0 := by rw [bankR_f]; rfl
      have q2 : trv (bankR (goneA R t) t (pl p)) t 2 = pl p := by rw [bankR_f]; rfl
      have gA7 : trv (goneA R t) t 7 = trv R t 7 := by rw [goneA_f]; rfl
      have fin9 : ∀ S' : Mem, S' 1 = S7 1 → (∀ i, i ≠ t → S' 2 i = S9 2 i) → (∀ f, f ≠ 7 → S' 2 t f = S9 2 t f) → S' 2 t 7 = 0 → (∀ k, k ≠ 6 → S' 0 0 k = S7 0 0 k) → S' 0 0 6 = (if pl p = -1 then R 4 + trv R t 7 else R 4) → (¬ pl p = -1 → trv R t 7 = 0) → RepC S' 0 (bankR (goneA R t) t (pl p)) n := by
        intro S' z1 z2 z3 z4 z5 z6 z7
        refine hR.one (t := t) (bankR_o goneA_o) hw (by rw [z1]; exact h17) ?_ (fun i hi => (z2 i hi).trans (o9 i hi)) ?_ (seven ?_ ?_ ?_ ?_ ?_ ?_ ?_)
        · unfold Scal
          rw [z6, z5 2 (by decide), z5 3 (by decide), z5 4 (by decide), z5 5 (by decide), z5 7 (by decide), z5 8 (by decide), z5 9 (by decide), z5 10 (by decide), z5 11 (by decide)]
          simp only [g7, bankR_s (show 3 < 20 by decide), bankR_s (show 0 < 20 by decide), bankR_s (show 1 < 20 by decide), bankR_s (show 2 < 20 by decide), bankR_s (show 4 < 20 by decide), bankR_s (show 5 < 20 by decide), bankR_s (show 6 < 20 by decide), bankR_s (show 7 < 20 by decide), bankR_s (show 8 < 20 by decide), bankR_s (show 9 < 20 by decide), gA7, goneA_s (show 3 < 20 by decide), goneA_s (show 0 < 20 by decide), goneA_s (show 1 < 20 by decide), goneA_s (show 2 < 20 by decide), goneA_s (show 4 < 20 by decide), goneA_s (show 5 < 20 by decide), goneA_s (show 6 < 20 by decide), goneA_s (show 7 < 20 by decide), goneA_s (show 8 < 20 by decide), goneA_s (show 9 < 20 by decide)]
          by_cases gp : pl p = -1
          · simp only [if_pos gp]
            exact ⟨s1, s2, s3, s4, rfl, s6, s7, s8, s9, rfl⟩
          · simp only [if_neg gp]
            refine ⟨s1, s2, s3, s4, rfl, ?_, s7, s8, s9, rfl⟩
            rw [z7 gp]
            exact s6.trans (Int32.add_zero _).symm
        · unfold wayF
          rw [q3, if_neg (by decide), q2, z3 4 (by decide), f9 4 (by decide) (by decide), f4]
          rcases wt.2.2.2.2.1 with w4 | w4
          · have : p = 11 := g.resolve_left (nr w4)
            rw [w4, this]
            rfl
          · have : p = 0 := g.resolve_right (fr w4)
            rw [w4, this]
            rfl
        · rw [bankR_f, goneA_f, z3 0 (by decide), f9 0 (by decide) (by decide)]; exact fo 0 (by decide) (by decide) (by decide) (by decide)
        · rw [bankR_f, goneA_f, z3 1 (by decide), f9 1 (by decide) (by decide), f7 1 (by decide)]; rfl
        · rw [bankR_f, z3 2 (by decide), f9 2 (by decide) (by decide), f7 2 (by decide)]; rfl
        · rw [bankR_f, z3 3 (by decide), f93]; rfl
        · rw [bankR_f, z3 5 (by decide), f95]; rfl
        · rw [bankR_f, goneA_f, z3 6 (by decide), f9 6 (by decide) (by decide)]; exact fo 6 (by decide) (by decide) (by decide) (by decide)
        · rw [bankR_f, z4]; rfl
      have f97 : S9 2 t 7 = trv R t 7 := (f9 7 (by decide) (by decide)).trans (fo 7 (by decide) (by decide) (by decide) (by decide))
      have f96 : S9 0 0 6 = R 4 := by rw [c9' 0 (by decide), g7, if_neg (by decide)]; exact s5
      unfold mX0_sendBack_b57
      refine ⟨fun gp => h S9 n9 (fin9 S9 (c9' 1 (by decide)) (fun _ _ => rfl) (fun _ _ => rfl) ?_ (fun k _ => by rw [c9' 0 (by decide)]) ?_ (fun _ => ?_)), fun gp S2 e2' S3 e3 => h S3 (by rw [e3, e2']; exact (n9.trans wr0_now).trans (wr2_now t8)) (fin9 S3 ?_ (fun i hi => ?_) (fun f hf => ?_) ?_ (fun k hk => ?_) ?_ (fun g => absurd gp g))⟩
      · rw [f97]
        have p0 : p ≠ 0 := fun z => gp (by rw [z]; rfl)
        have w4 : trv R t 4 = 0 := wt.2.2.2.2.1.resolve_right (fun z => fr z (g.resolve_left p0))
        exact (wt.2.2.2.2.2.2.2 r3).2.2 w4
      · rw [if_neg gp, f96]
      · have p0 : p ≠ 0 := fun z => gp (by rw [z]; rfl)
        have w4 : trv R t 4 = 0 := wt.2.2.2.2.1.resolve_right (fun z => fr z (g.resolve_left p0))
        exact (wt.2.2.2.2.2.2.2 r3).2.2 w4
      · rw [e3, wr_c (by decide), e2', wr_c (by decide), c9' 1 (by decide)]
      · rw [e3, wr_i hi, e2', wr_c (by decide)]
      · rw [e3, wr_k hf, e2', wr_c (by decide)]
      · rw [e3, wr_same]
      · rw [e3, wr_c (by decide), e2', wr_k hk, c9' 0 (by decide)]
      · rw [e3, wr_c (by decide), e2', wr_same, f96, f97, if_pos gp]
  · rw [goB_stay u]
    have eb : backR R t = R := by
      unfold backR
      rw [e2, plN_pl hq]
      exact if_neg u
    rw [eb] at h
    exact ⟨fun g => absurd rfl g, fun _ => h S ⟨fun _ _ _ _ => rfl, fun _ _ => ⟨rfl, rfl⟩, fun _ _ _ _ => rfl⟩ hR⟩

