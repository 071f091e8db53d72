/-! going on -/
def tgN (far : Bool) : Nat := if far = true then 11 else 0
def nxN (far : Bool) (q : Nat) : Nat := if far = true then q + 1 else q - 1
def stepN (R : Row) (fl kind : Int32) (far : Bool) (q : Nat) : Nat :=
  if nxN far q = 0 ∨ nxN far q = 11 then nxN far q else if canF R fl kind (pl q) (nxN far q - 1) = 0 then q else nxN far q
theorem nxN_le {far : Bool} {q : Nat} (hq : q ≤ 11) (h1 : far = true → q ≤ 10) : nxN far q ≤ 11 := by
  unfold nxN
  split
  · rename_i g
    have := h1 g
    omega
  · omega
theorem stepN_le {R : Row} {fl kind : Int32} {far : Bool} {q : Nat} (hq : q ≤ 11) (h1 : far = true → q ≤ 10) : stepN R fl kind far q ≤ 11 := by
  have := nxN_le hq h1
  unfold stepN
  split
  · exact this
  · split
    · exact hq
    · exact this
theorem X0_canGo_pl {post : Int32 → Mem → Prop} {S : Mem} {q p n : Nat} {R : Row} {kind fl : Int32} (hp : p ≤ 11) (w : WFR R n) (hh : ∀ s, s < 10 → S 1 0 s = R (10 + s)) (hf : lvl fl) (h1 : (p = 0 ∨ p = 11) → post 1 S) (h0 : ∀ s, s < 10 → p = s + 1 → post (canF R fl kind (pl q) s) S) : mX0_canGo post S 0 kind (pl q) (pl p) fl := by
  by_cases hb : p = 0 ∨ p = 11
  · unfold mX0_canGo
    exact X5_stone_pl hp (fun a ha ea => absurd hb (by omega)) (fun _ => ⟨fun g => absurd rfl g, fun _ => h1 hb⟩)
  · obtain ⟨a, rfl⟩ : ∃ a, p = a + 1 := ⟨p - 1, by omega⟩
    rw [pl_s]
    exact X0_canGo_s (by omega) w hh hf (h0 a (by omega) rfl)
theorem X0_step_s {post : Int32 → Mem → Prop} {S : Mem} {q n : Nat} {R : Row} {kind way fl : Int32} (hq : q ≤ 11) (hfar : ¬ way = 0 → q ≤ 10) (hnear : way = 0 → 1 ≤ q) (w : WFR R n) (hh : ∀ s, s < 10 → S 1 0 s = R (10 + s)) (hf : lvl fl) (h : post (pl (stepN R fl kind (decide (¬ way = 0)) q)) S) : mX0_placeAfterStep post S 0 kind (pl q) way fl := by
  have b13 : ∀ (far : Bool) (x : Int32), far = decide (¬ way = 0) → x = pl (nxN far q) → nxN far q ≤ 11 → mX0_placeAfterStep_b13 post S 0 kind (pl q) fl x := by
    intro far x e1 e2 e3
    rw [← e1] at h
    unfold mX0_placeAfterStep_b13
    rw [e2]
    refine X0_canGo_pl e3 w hh hf (fun g => ⟨fun z => ne10 z, fun _ => ?_⟩) (fun s hs es => ⟨fun z => ?_, fun z => ?_⟩)
    · unfold stepN at h
      rw [if_pos g] at h
      exact h
    · unfold stepN at h
      rw [if_neg (by omega), es, Nat.add_sub_cancel, if_pos z] at h
      exact h
    · unfold stepN at h
      rw [if_neg (by omega), es, Nat.add_sub_cancel, if_neg z] at h
      rw [es]
      exact h
  unfold mX0_placeAfterStep
  refine ⟨fun g => ?_, fun g => ?_⟩
  · obtain ⟨a, rfl⟩ : ∃ a, q = a + 1 := ⟨q - 1, by have := hnear g; omega⟩
    exact b13 false _ (decide_eq_false (fun z => z g)).symm pl_dn (nxN_le hq (fun z => absurd z (by decide)))
  · exact b13 true _ (decide_eq_true g).symm pl_up (nxN_le hq (fun _ => hfar g))
def overA (R : Row) (t : Nat) : Row := upd (upd R (20 + 8 * t + 6) (trv R t 6 + 1)) 8 (R 8 + 1)
/-- where traveller t steps -/
def stpT (R : Row) (t : Nat) : Nat := stepN R (R 1) (kindF (trv R t 0)) (decide (trv R t 4 = 1)) (plN (trv R t 2))
def tgT (R : Row) (t : Nat) : Nat := tgN (decide (trv R t 4 = 1))
def onR (R : Row) (t : Nat) : Row :=
  if trv R t 3 = 1 ∧ trv R t 5 = 0 then (if stpT R t = tgT R t then bankR (overA R t) t (pl (tgT R t)) else upd R (20 + 8 * t + 2) (pl (stpT R t))) else R
def onC (R : Row) (t : Nat) : Int32 := if trv R t 3 = 1 ∧ trv R t 5 = 0 ∧ stpT R t = tgT R t then 1 else 0
theorem overA_f {R : Row} {t f : Nat} : trv (overA R t) t f = if f = 6 then trv R t 6 + 1 else trv R t f := by
  unfold overA
  rw [trv_updS (by decide), trv_upd]
theorem overA_s {R : Row} {t k : Nat} (hk : k < 20) : overA R t k = if k = 8 then R 8 + 1 else R k := by
  unfold overA
  rw [updS, updT hk]
theorem overA_o {R : Row} {t : Nat} : OneT R (overA R t) t := (OneT.refl.T (by decide)).S (by omega)
theorem onR_o {R : Row} {t : Nat} : OneT R (onR R t) t := by
  unfold onR
  split
  · split
    · exact bankR_o overA_o
    · exact OneT.refl.T (by decide)
  · exact OneT.refl
theorem ends {r : Row} {q : Nat} (w : WFT r) (h3 : r 3 = 1) (h2 : r 2 = pl q) (hq : q ≤ 11) : (r 4 = 1 → q ≤ 10) ∧ (r 4 = 0 → 1 ≤ q) := by
  have w8 := w.2.2.2.2.2.2.2 h3
  refine ⟨fun g => ?_, fun g => ?_⟩
  · by_cases e : q = 11
    · subst e
      exact absurd ((w8.2.1 h2).symm.trans g) (by decide)
    · omega
  · by_cases e : q = 0
    · subst e
      exact absurd (g.symm.trans (w8.1 h2)) (by decide)
    · omega
theorem tgN_b {far : Bool} : tgN far = 0 ∨ tgN far = 11 := by
  unfold tgN
  split
  · exact Or.inr rfl
  · exact Or.inl rfl
theorem onR_wf {R : Row} {n t : Nat} (w : WFR R n) (ht : t < n) : WFR (onR R t) n := by
  refine w.one onR_o ?_
  have wt := w.t ht
  obtain ⟨q, hq, e⟩ := wt.pl
  unfold onR
  split
  · rename_i g
    have en := ends wt g.1 e hq
    have hs : stpT R t ≤ 11 := by
      unfold stpT
      rw [e, plN_pl hq]
      exact stepN_le hq (fun z => en.1 (of_decide_eq_true z))
    obtain ⟨w0, w1, w2, w3, w4, w6, w7, w8⟩ := wt
    split
    · unfold WFT
      rw [bankR_f, bankR_f, bankR_f, bankR_f, bankR_f, bankR_f, bankR_f]
      simp only [overA_f]
      refine ⟨w0, w1, ?_, Or.inl rfl, w4, Or.inl rfl, fun _ => ⟨rfl, rfl, ?_⟩, fun g => absurd (show (0 : Int32) = 1 from g) (by decide)⟩
      · exact pl_to (by have := tgN_b (far := decide (trv R t 4 = 1)); unfold tgT; omega)
      · rcases tgN_b (far := decide (trv R t 4 = 1)) with z | z
        · exact Or.inl (by show pl (tgT R t) = -1; unfold tgT; rw [z]; rfl)
        · exact Or.inr (by show pl (tgT R t) = 10; unfold tgT; rw [z]; rfl)
    · rename_i hne
      have e2 : trv (upd R (20 + 8 * t + 2) (pl (stpT R t))) t 2 = pl (stpT R t) := by rw [trv_upd]; rfl
      unfold WFT
      rw [e2, trv_upd, trv_upd, trv_upd, trv_upd, trv_upd, trv_upd]
      refine ⟨w0, w1, pl_to hs, w3, w4, w6, fun z => absurd (g.1.symm.trans z) (by decide), fun _ => ⟨fun z => ?_, fun z => ?_, (w8 g.1).2.2⟩⟩
      · have z0 : stpT R t = 0 := pl_inj hs (by decide) z
        refine w4.resolve_left (fun z4 => hne ?_)
        rw [z0]
        unfold tgT
        rw [decide_eq_false (by rw [z4]; decide)]
        rfl
      · have z0 : stpT R t = 11 := pl_inj hs (by decide) z
        refine w4.resolve_right (fun z4 => hne ?_)
        rw [z0]
        unfold tgT
        rw [decide_eq_true z4]
        rfl
  · exact wt
theorem kindF_c {x : Int32} : kindF x = 0 ∨ kindF x = 1 ∨ kindF x = 2 := by
  unfold kindF
  split
  · split
    · exact Or.inr (Or.inr rfl)
    · exact Or.inr (Or.inl rfl)
  · exact Or.inl rfl
theorem upd_self {R : Row} {k : Nat} {v : Int32} (h : R k = v) : upd R k v = R := by
  funext i
  unfold upd
  split
  · rename_i g
    rw [g, h]
  · rfl
theorem X0_over_s {post : Mem → Prop} {S : Mem} {t : Nat} (t8 : t < 8) (h : ∀ S' : Mem, SameBut 0 S S' → S' 1 = S 1 → (∀ i, i ≠ t → S' 2 i = S 2 i) → (∀ k, k ≠ 10 → k ≠ 7 → S' 0 0 k = S 0 0 k) → S' 0 0 10 = S 0 0 10 + 1 → S' 0 0 7 = S 0 0 7 + S 2 t 7 → (S' 2 t 0 = S 2 t 0 ∧ S' 2 t 1 = S 2 t 1 ∧ S' 2 t 2 = S 2 t 2 ∧ S' 2 t 3 = 0 ∧ S' 2 t 5 = 0 ∧ S' 2 t 6 = S 2 t 6 + 1 ∧ S' 2 t 7 = 0) → S' 2 t 4 = (if S 2 t 4 = 0 then 1 else 0) → post S') : mX0_comeOver post S 0 t := by
  unfold mX0_comeOver mX3_restOnBank
  intro S8 e8 S9 e9
  have k4 : S9 2 t 4 = S 2 t 4 := by rw [e9, wr_k (by decide), e8, wr_k (by decide)]
  have k6 : S9 2 t 6 = S 2 t 6 := by rw [e9, wr_k (by decide), e8, wr_k (by decide)]
  have k7 : S9 2 t 7 = S 2 t 7 := by rw [e9, wr_k (by decide), e8, wr_k (by decide)]
  have n9 : SameBut 0 S S9 := by rw [e9, e8]; exact (wr2_now t8).trans (wr2_now t8)
  have c9' : ∀ c, c ≠ 2 → S9 c = S c := fun c hc => by rw [e9, wr_c hc, e8, wr_c hc]
  have b17 : ∀ v : Int32, isB v → v = (if S 2 t 4 = 0 then 1 else 0) → mX0_comeOver_b17 post S9 0 t v t := by
    intro v hv ev
    unfold mX0_comeOver_b17
    refine ⟨hv, fun S2 e2 S3 e3 S4 e4 S5 e5 S6 e6 => ?_⟩
    have a6 : S2 2 t 6 = S 2 t 6 := by rw [e2, wr_k (by decide)]; exact k6
    have a10 : S3 0 0 10 = S 0 0 10 := by rw [e3, wr_c (by decide), e2, wr_c (by decide), c9' 0 (by decide)]
    have a7 : S4 0 0 7 = S 0 0 7 := by rw [e4, wr_k (by decide), e3, wr_c (by decide), e2, wr_c (by decide), c9' 0 (by decide)]
    have a77 : S4 2 t 7 = S 2 t 7 := by rw [e4, wr_c (by decide), e3, wr_k (by decide), e2, wr_k (by decide)]; exact k7
    rw [a6] at e3
    rw [a10] at e4
    rw [a7, a77] at e5
    have g9 : ∀ f, f ≠ 3 → f ≠ 5 → S9 2 t f = S 2 t f := fun f h3 h5 => by rw [e9, wr_k h5, e8, wr_k h3]
    have g93 : S9 2 t 3 = 0 := by rw [e9, wr_k (by decide), e8, wr_same]
    have g95 : S9 2 t 5 = 0 := by rw [e9, wr_same]
    have u : ∀ f, f ≠ 7 → f ≠ 6 → f ≠ 4 → S6 2 t f = S9 2 t f := fun f h7 h6 h4 => by rw [e6, wr_k h7, e5, wr_c (by decide), e4, wr_c (by decide), e3, wr_k h6, e2, wr_k h4]
    refine h S6 ?_ ?_ (fun i hi => ?_) (fun k h10 h7 => ?_) ?_ ?_ ⟨?_, ?_, ?_, ?_, ?_, ?_, ?_⟩ ?_
    · rw [e6, e5, e4, e3, e2]
      exact ((((n9.trans (wr2_now t8)).trans (wr2_now t8)).trans wr0_now).trans wr0_now).trans (wr2_now t8)
    · rw [e6, wr_c (by decide), e5, wr_c (by decide), e4, wr_c (by decide), e3, wr_c (by decide), e2, wr_c (by decide)]
      exact c9' 1 (by decide)
    · rw [e6, wr_i hi, e5, wr_c (by decide), e4, wr_c (by decide), e3, wr_i hi, e2, wr_i hi, e9, wr_i hi, e8, wr_i hi]
    · rw [e6, wr_c (by decide), e5, wr_k h7, e4, wr_k h10, e3, wr_c (by decide), e2, wr_c (by decide), c9' 0 (by decide)]
    · rw [e6, wr_c (by decide), e5, wr_k (by decide), e4, wr_same]
    · rw [e6, wr_c (by decide), e5, wr_same]
    · rw [u 0 (by decide) (by decide) (by decide)]; exact g9 0 (by decide) (by decide)
    · rw [u 1 (by decide) (by decide) (by decide)]; exact g9 1 (by decide) (by decide)
    · rw [u 2 (by decide) (by decide) (by decide)]; exact g9 2 (by decide) (by decide)
    · rw [u 3 (by decide) (by decide) (by decide)]; exact g93
    · rw [u 5 (by decide) (by decide) (by decide)]; exact g95
    · rw [e6, wr_k (by decide), e5, wr_c (by decide), e4, wr_c (by decide), e3, wr_same]
    · rw [e6, wr_same]
    · rw [e6, wr_k (by decide), e5, wr_c (by decide), e4, wr_c (by decide), e3, wr_k (by decide), e2, wr_same, ev]
  rw [k4]
  refine ⟨fun g => b17 0 (Or.inl rfl) (if_neg g).symm, fun g => b17 1 (Or.inr rfl) (if_pos g).symm⟩
theorem X0_sendOn_s {post : Mem → Prop} {S : Mem} {n t : Nat} {R : Row} (hR : RepC S 0 R n) (ht : t < n) (h : ∀ S' : Mem, SameBut 0 S S' → RepC S' 0 (onR R t) n → post S') : mX0_sendOn post S 0 t := by
  have w := hR.1
  have t8 : t < 8 := by have := w.1; omega
  have wt := w.t ht
  obtain ⟨q, hq, e2⟩ := wt.pl
  have k0 : S 2 t 0 = trv R t 0 := hR.fld ht (by decide) (by decide)
  have k2 : S 2 t 2 = pl q := (hR.fld ht (by decide) (by decide)).trans e2
  have k3 : S 2 t 3 = trv R t 3 := hR.fld ht (by decide) (by decide)
  have k5 : S 2 t 5 = trv R t 5 := hR.fld ht (by decide) (by decide)
  have k4 := hR.way ht
  have idle : ¬ (trv R t 3 = 1 ∧ trv R t 5 = 0) → post S := fun g => by
    have e : onR R t = R := if_neg g
    rw [e] at h
    exact h S ⟨fun _ _ _ _ => rfl, fun _ _ => ⟨rfl, rfl⟩, fun _ _ _ _ => rfl⟩ hR
  unfold mX0_sendOn
  rw [k3, k5]
  refine ⟨fun g => idle (fun z => absurd (g.symm.trans z.1) (by decide)), fun g3 => ⟨fun g5 => X3_kind_s k0 ?_, fun g => idle (fun z => g z.2)⟩⟩
  have r3 : trv R t 3 = 1 := wt.2.2.2.1.resolve_left g3
  have en := ends wt r3 e2 hq
  have ew : wayF (trv R t) = trv R t 4 := if_pos r3
  rw [ew] at k4
  have ed : decide (¬ trv R t 4 = 0) = decide (trv R t 4 = 1) := by
    rcases wt.2.2.2.2.1 with g | g
    · rw [g]; rfl
    · rw [g]; rfl
  have eR : onR R t = if stpT R t = tgT R t then bankR (overA R t) t (pl (tgT R t)) else upd R (20 + 8 * t + 2) (pl (stpT R t)) := if_pos ⟨r3, g5⟩
  have hw : WFT (trv (onR R t) t) := (onR_wf w ht).t ht
  have es : stpT R t = stepN R (R 1) (kindF (trv R t 0)) (decide (trv R t 4 = 1)) q := by
    unfold stpT
    rw [e2, plN_pl hq]
  have sle : stpT R t ≤ 11 := by
    rw [es]
    exact stepN_le hq (fun z => en.1 (of_decide_eq_true z))
  rw [hR.sc.2.2.1, k2, k4]
  refine X0_step_s hq (fun g => en.1 (wt.2.2.2.2.1.resolve_left g)) (fun g => en.2 g) w hR.2.2.2.2.2.2.2.2.2.2.2.1 w.lv ?_
  rw [ed, ← es]
  intro S7 e7
  have n7 : SameBut 0 S S7 := by rw [e7]; exact wr2_now t8
  have f7 : ∀ f, f ≠ 2 → S7 2 t f = S 2 t f := fun f hf => by rw [e7, wr_k hf]
  have f72 : S7 2 t 2 = pl (stpT R t) := by rw [e7, wr_same]
  have o7 : ∀ i, i ≠ t → S7 2 i = S 2 i := fun i hi => by rw [e7, wr_i hi]
  have c7' : ∀ c, c ≠ 2 → S7 c = S c := fun c hc => by rw [e7, wr_c hc]
  obtain ⟨s1, s2, s3, s4, s5, s6, s7, s8, s9, s10⟩ := hR.sc
  have stay : stpT R t ≠ tgT R t → post S7 := by
    intro g
    have eg : onR R t = upd R (20 + 8 * t + 2) (pl (stpT R t)) := eR.trans (if_neg g)
    rw [eg] at hw h
    refine h S7 n7 (hR.one (t := t) (OneT.refl.T (by decide)) hw (by rw [c7' 1 (by decide)]) ?_ o7 ?_ (seven ?_ ?_ ?_ ?_ ?_ ?_ ?_))
    · unfold Scal
      simp only [c7' 0 (by decide), updT (show 3 < 20 by decide), updT (show 0 < 20 by decide), updT (show 1 < 20 by decide), updT (show 2 < 20 by decide), updT (show 4 < 20 by decide), updT (show 5 < 20 by decide), updT (show 6 < 20 by decide), updT (show 7 < 20 by decide), updT (show 8 < 20 by decide), updT (show 9 < 20 by decide)]
      exact ⟨s1, s2, s3, s4, s5, s6, s7, s8, s9, s10⟩
    · unfold wayF
      rw [trv_upd, trv_upd, f7 4 (by decide), k4]
      exact (if_pos r3).symm
    · rw [trv_upd, f7 0 (by decide)]; exact k0
    · rw [trv_upd, f7 1 (by decide)]; exact hR.fld ht (by decide) (by decide)
    · rw [trv_upd]; exact f72
    · rw [trv_upd, f7 3 (by decide)]; exact k3
    · rw [trv_upd, f7 5 (by decide)]; exact k5
    · rw [trv_upd, f7 6 (by decide)]; exact hR.fld ht (by decide) (by decide)
    · rw [trv_upd, f7 7 (by decide)]; exact hR.fld ht (by decide) (by decide)
  have over : stpT R t = tgT R t → mX0_comeOver (fun S10 => post S10) S7 0 t := by
    intro g
    have eg : onR R t = bankR (overA R t) t (pl (tgT R t)) := eR.trans (if_pos g)
    rw [eg] at hw h
    rw [g] at f72
    refine X0_over_s t8 (fun S' z1 z2 z3 z4 z5 z6 z7 z8 => h S' (n7.trans z1) ?_)
    obtain ⟨y0, y1, y2, y3, y5, y6, y7⟩ := z7
    have m7 : S7 2 t 7 = trv R t 7 := (f7 7 (by decide)).trans (hR.fld ht (by decide) (by decide))
    have gA7 : trv (overA R t) t 7 = trv R t 7 := by rw [overA_f]; rfl
    have q3 : trv (bankR (overA R t) t (pl (tgT R t))) t 3 = 0 := by rw [bankR_f]; rfl
    have q2 : trv (bankR (overA R t) t (pl (tgT R t))) t 2 = pl (tgT R t) := by rw [bankR_f]; rfl
    refine hR.one (t := t) (bankR_o overA_o) hw (by rw [z2, c7' 1 (by decide)]) ?_ (fun i hi => (z3 i hi).trans (o7 i hi)) ?_ (seven ?_ ?_ ?_ ?_ ?_ ?_ ?_)
    · unfold Scal
      rw [z5, z6, m7, z4 2 (by decide) (by decide), z4 3 (by decide) (by decide), z4 4 (by decide) (by decide), z4 5 (by decide) (by decide), z4 6 (by decide) (by decide), z4 8 (by decide) (by decide), z4 9 (by decide) (by decide), z4 11 (by decide) (by decide)]
      simp only [c7' 0 (by decide), bankR_s (show 3 < 20 by decide), bankR_s (show 0 < 20 by decide), bankR_s (show 1 < 20 by decide), bankR_s (show 2 < 20 by decide), bankR_s (show 4 < 20 by decide), bankR_s (show 5 < 20 by decide), bankR_s (show 6 < 20 by decide), bankR_s (show 7 < 20 by decide), bankR_s (show 8 < 20 by decide), bankR_s (show 9 < 20 by decide), gA7, overA_s (show 3 < 20 by decide), overA_s (show 0 < 20 by decide), overA_s (show 1 < 20 by decide), overA_s (show 2 < 20 by decide), overA_s (show 4 < 20 by decide), overA_s (show 5 < 20 by decide), overA_s (show 6 < 20 by decide), overA_s (show 7 < 20 by decide), overA_s (show 8 < 20 by decide), overA_s (show 9 < 20 by decide)]
      by_cases gp : pl (tgT R t) = -1
      · have m0 : trv R t 7 = 0 := by
          refine (wt.2.2.2.2.2.2.2 r3).2.2 (wt.2.2.2.2.1.resolve_right (fun z => ?_))
          unfold tgT at gp
          rw [decide_eq_true z] at gp
          exact absurd gp (by decide)
        simp only [if_pos gp]
        rw [m0, s5, s6, s9]
        exact ⟨s1, s2, s3, s4, (Int32.add_zero _).symm, Int32.add_zero _, s7, s8, rfl, s10⟩
      · simp only [if_neg gp]
        rw [s6, s9]
        exact ⟨s1, s2, s3, s4, s5, rfl, s7, s8, rfl, s10⟩
    · unfold wayF
      rw [q3, if_neg (by decide), q2, z8, f7 4 (by decide), k4]
      rcases wt.2.2.2.2.1 with w4 | w4
      · have : tgT R t = 0 := by unfold tgT; rw [w4]; rfl
        rw [w4, this]
        rfl
      · have : tgT R t = 11 := by unfold tgT; rw [w4]; rfl
        rw [w4, this]
        rfl
    · rw [bankR_f, overA_f, y0, f7 0 (by decide)]; exact k0
    · rw [bankR_f, overA_f, y1, f7 1 (by decide)]; exact hR.fld ht (by decide) (by decide)
    · rw [bankR_f, y2, f72]; rfl
    · rw [bankR_f, y3]; rfl
    · rw [bankR_f, y5]; rfl
    · rw [bankR_f, overA_f, y6, f7 6 (by decide), hR.fld ht (by decide) (by decide)]; rfl
    · rw [bankR_f, y7]; rfl
  have k74 : S7 2 t 4 = trv R t 4 := (f7 4 (by decide)).trans k4
  rw [k74, f72]
  refine ⟨fun g => ?_, fun g => ?_⟩
  · have et : tgT R t = 0 := by unfold tgT; rw [g]; rfl
    exact ⟨fun z => stay (fun y => z (by rw [y, et]; rfl)), fun z => over (by rw [et]; exact pl_inj sle (by decide) z)⟩
  · have et : tgT R t = 11 := by unfold tgT; rw [wt.2.2.2.2.1.resolve_left g]; rfl
    exact ⟨fun z => stay (fun y => z (by rw [y, et]; rfl)), fun z => over (by rw [et]; exact pl_inj sle (by decide) z)⟩

