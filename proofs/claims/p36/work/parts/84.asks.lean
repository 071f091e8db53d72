/-! p36: the text, questions -/
theorem Q_type {post : Int32 → Mem → Prop} {S : Mem} {k : Nat} {v : Int32} (hk : k ≤ 60) (h1 : S 6 0 1 = nI k) (hC : isC v) (h0 : k = 60 → post (-1001) S) (h : k < 60 → ∀ S' : Mem, (∀ c, c ≠ 6 → c ≠ 7 → S' c = S c) → S' 6 0 1 = nI (k + 1) → (∀ i, i < k → S' 7 0 i = S 7 0 i) → S' 7 0 k = v → post (nI (k + 1)) S') : mL_type post S v := by
  unfold mL_type mX5_type mX2_isFull
  rw [h1]
  refine ⟨fun g1 => ⟨fun _ => ?_, fun g => absurd rfl g⟩, fun g1 => ⟨fun g => absurd g (by decide), fun _ => ⟨rfl, h0 ?_⟩⟩⟩
  · have hk2 : k < 60 := (nI_ltI (b := 60) (by omega) (by decide)).mp g1
    unfold mX2_append
    rw [h1]
    refine ⟨fun g2 => absurd g2 (nI_ge (b := 60) hk2 (by decide)), fun _ => ⟨vpN hk2 (by decide), hC, fun S4 e4 S5 e5 => ?_⟩⟩
    rw [nI_clamp (by omega)] at e4
    have e46 : S4 6 0 1 = nI k := by rw [e4, wr_c (by decide)]; exact h1
    rw [e46, inc] at e5
    have e56 : S5 6 0 1 = nI (k + 1) := by rw [e5, wr_same]
    rw [e56]
    refine h hk2 S5 (fun c c6 c7 => by rw [e5, wr_c c6, e4, wr_c c7]) e56 (fun i hi => ?_) ?_
    · rw [e5, wr_c (by decide), e4, wr_k (by omega)]
    · rw [e5, wr_c (by decide), e4, wr_same]
  · have := mt (nI_ltI (a := k) (b := 60) (by omega) (by decide)).mpr g1
    omega
theorem Q_ask {post : Int32 → Mem → Prop} {T : Txt} {L n : Nat} {R : Row} {S : Mem} (hL : L ≤ 60) (h1 : S 6 0 1 = nI L) (hT : ∀ i, i < L → S 7 0 i = T i) (hR : RepC S 0 R n)
    (h0 : outP L (askP T L R) = none → ∀ S' : Mem, (∀ c, c ≠ 3 → c ≠ 6 → S' c = S c) → (∀ k, k ≠ 5 → S' 3 0 k = S 3 0 k) → S' 3 0 5 = nI (askP T L R).1 → S' 6 0 1 = 0 → post (-1001) S')
    (hx : ∀ x, outP L (askP T L R) = some x → ∀ S' : Mem, (∀ c, c ≠ 3 → c ≠ 6 → c ≠ 8 → S' c = S c) → (∀ k, k ≠ 7 → S' 3 0 k = S 3 0 k) → S' 3 0 7 = nI (acF (fun t => decide (t < n) && x.2 t) 8) → (∀ i, i < 8 → (decide (i < n) && x.2 i) = true → S' 8 0 (acF (fun t => decide (t < n) && x.2 t) i) = nI i) → S' 6 0 1 = 0 → post (nI (acF (fun t => decide (t < n) && x.2 t) 8)) S') : mL_ask post S := by
  unfold mL_ask
  exact X5_ask_s hL h1 hT hR (fun e S' a b c d => ⟨rfl, h0 e S' a b c d⟩) hx
theorem comp_w {T : Txt} {L a w : Nat} {R : Row} (h1 : selW T L a = w) (h2 : w < 7) (h3 : al T L a w = lnN w) : compP T L R a = (a + lnN w, leaf R (nI w)) := by
  unfold compP
  rw [h1, if_neg (by omega), if_pos h3, if_pos h2]
theorem one_w {T : Txt} {L a d o : Nat} {R : Row} {r : Res} (h5 : ¬ (a < L ∧ T a = 45)) (h9 : ¬ (a < L ∧ T a = 91)) (h : compP T L R a = r) : oneP T L R (d + 1) o a = r := by
  unfold oneP
  rw [if_neg h5, if_neg h9, h]
theorem bin_one {po : Nat → Res} {T : Txt} {L a p : Nat} {sep code : Int32} {op : Bool → Bool → Bool} {x : List Int32 × (Nat → Bool)} (h : po a = (p, some x)) (hn : ¬ (p < L ∧ T p = sep)) : binP po T L sep code op a = (p, some x) := by
  unfold binP
  rw [h]
  show binL po T L sep code op (59 + 1) p x.1 x.2 = _
  unfold binL
  rw [if_neg hn]
theorem binL_on {po : Nat → Res} {T : Txt} {L p q m : Nat} {sep code : Int32} {op : Bool → Bool → Bool} {cs : List Int32} {f : Nat → Bool} {x : List Int32 × (Nat → Bool)} (hp : p < L ∧ T p = sep) (h : po (p + 1) = (q, some x)) : binL po T L sep code op (m + 1) p cs f = binL po T L sep code op m q (cs ++ x.1 ++ [code]) (fun t => op (f t) (x.2 t)) := by
  conv => lhs; unfold binL
  rw [if_pos hp, h]
theorem binL_end {po : Nat → Res} {T : Txt} {L p m : Nat} {sep code : Int32} {op : Bool → Bool → Bool} {cs : List Int32} {f : Nat → Bool} (hp : ¬ (p < L ∧ T p = sep)) : binL po T L sep code op (m + 1) p cs f = (p, some (cs, f)) := by
  unfold binL
  rw [if_neg hp]
theorem bin_no {po : Nat → Res} {T : Txt} {L a p : Nat} {sep code : Int32} {op : Bool → Bool → Bool} (h : po a = (p, none)) : binP po T L sep code op a = (p, none) := by
  unfold binP
  rw [h]
theorem bin_so {po : Nat → Res} {T : Txt} {L a p : Nat} {sep code : Int32} {op : Bool → Bool → Bool} {x : List Int32 × (Nat → Bool)} (h : po a = (p, some x)) : binP po T L sep code op a = binL po T L sep code op 60 p x.1 x.2 := by
  unfold binP
  rw [h]
/-- a text that begins with no word -/
theorem ask_bad {T : Txt} {L : Nat} {R : Row} (h5 : ¬ (0 < L ∧ T 0 = 45)) (h9 : ¬ (0 < L ∧ T 0 = 91)) (h : selW T L 0 = 10) : askP T L R = (0, none) := by
  have e1 : oneP T L R 8 0 0 = (0, none) := one_w h5 h9 (by unfold compP; rw [if_pos h])
  exact bin_no (bin_no e1)
abbrev tQ (i : Nat) : Int32 := chS 10 (nI i)
abbrev tN (i : Nat) : Int32 := chS 11 (nI i)
theorem tN_ask {R : Row} : askP tN 14 R = (14, some ([nI 3, nI 4, 102, nI 5, 102], fun t => or (or (hoF R (nI 3) t) (hoF R (nI 4) t)) (hoF R (nI 5) t))) := by
  have p0 : binP (oneP tN 14 R 8 0) tN 14 43 101 and 0 = (4, some ([nI 3], fun t => hoF R (nI 3) t)) := bin_one (one_w (by decide +kernel) (by decide +kernel) (comp_w (w := 3) (by decide +kernel) (by decide) (by decide +kernel))) (by decide +kernel)
  have p5 : binP (oneP tN 14 R 8 0) tN 14 43 101 and (4 + 1) = (8, some ([nI 4], fun t => hoF R (nI 4) t)) := bin_one (one_w (by decide +kernel) (by decide +kernel) (comp_w (w := 4) (by decide +kernel) (by decide) (by decide +kernel))) (by decide +kernel)
  have p9 : binP (oneP tN 14 R 8 0) tN 14 43 101 and (8 + 1) = (14, some ([nI 5], fun t => hoF R (nI 5) t)) := bin_one (one_w (by decide +kernel) (by decide +kernel) (comp_w (w := 5) (by decide +kernel) (by decide) (by decide +kernel))) (by decide +kernel)
  refine (bin_so p0).trans ?_
  refine (binL_on (m := 59) (by decide +kernel) p5).trans ?_
  refine (binL_on (m := 58) (by decide +kernel) p9).trans ?_
  exact binL_end (m := 57) (by decide +kernel)
theorem ho_all {R : Row} {n t : Nat} (w : WFR R n) (ht : t < n) : or (or (hoF R (nI 3) t) (hoF R (nI 4) t)) (hoF R (nI 5) t) = true := by
  have h3 : hoF R (nI 3) t = decide (trv R t 2 = -1) := rfl
  have h4 : hoF R (nI 4) t = decide (trv R t 2 = 10) := rfl
  have h5 : hoF R (nI 5) t = decide (1 ≤ plN (trv R t 2) ∧ plN (trv R t 2) ≤ 10) := rfl
  rw [h3, h4, h5]
  rcases (w.t ht).2.2.1 with e | e | ⟨a, ha, e⟩
  · rw [e]; rfl
  · rw [e]; rfl
  · rw [e, ← pl_s a, plN_pl (by omega)]
    rw [show decide (1 ≤ a + 1 ∧ a + 1 ≤ 10) = true from decide_eq_true (by omega)]
    exact Bool.or_true _
theorem ac_all : ∀ n, n < 9 → acF (fun t => decide (t < n)) 8 = n := by decide +kernel
theorem acF_congr {g g' : Nat → Bool} (h : ∀ i, g i = g' i) : ∀ t, acF g t = acF g' t := by
  intro t
  rw [show g = g' from funext h]
theorem lnN_q : lnN 10 = 1 ∧ lnN 11 = 14 ∧ lnS 10 = nI 1 ∧ lnS 11 = nI 14 := ⟨rfl, rfl, rfl, rfl⟩
theorem tC : (∀ i, i < 1 → isC (tQ i)) ∧ (∀ i, i < 14 → isC (tN i)) := by unfold isC; decide +kernel
/-- a text is typed, then asked -/
theorem asks_2 {post : Int32 → Mem → Prop} {w L : Nat} (hw : (w = 10 ∧ L = 1) ∨ (w = 11 ∧ L = 14)) {S0 : Mem} (h : ∀ S' : Mem, (∀ c, c ≠ 6 → c ≠ 7 → S' c = S0 c) → S' 6 0 1 = nI L → (∀ i, i < L → S' 7 0 i = chS w (nI i)) → mL_ask post S') : ∀ (m k : Nat) (S : Mem), k + m = L → (∀ c, c ≠ 6 → c ≠ 7 → S c = S0 c) → S 6 0 1 = nI k → (∀ i, i < k → S 7 0 i = chS w (nI i)) → mL_asks_b2 post (m + 1) S w (nI k) := by
  have hL : lnN w = L ∧ lnS w = nI L ∧ L ≤ 14 ∧ ∀ i, i < L → isC (chS w (nI i)) := by
    rcases hw with ⟨rfl, rfl⟩ | ⟨rfl, rfl⟩
    · exact ⟨rfl, rfl, by decide, tC.1⟩
    · exact ⟨rfl, rfl, by decide, tC.2⟩
  obtain ⟨l1, l2, l3, l4⟩ := hL
  intro m
  induction m with
  | zero =>
    intro k S hk h0 h6 h7
    have hk : k = L := by omega
    subst hk
    unfold mL_asks_b2
    rw [l2]
    exact ⟨fun _ => h S h0 h6 h7, fun g => absurd (nI_le (by omega) (by omega)) g⟩
  | succ m ih =>
    intro k S hk h0 h6 h7
    unfold mL_asks_b2
    rw [l2, l1]
    refine ⟨fun g => absurd g (nI_ge (by omega) (by omega)), fun _ => ⟨vpN (by omega) (by omega), Q_type (k := k) (by omega) h6 (l4 k (by omega)) (fun e => absurd e (by omega)) (fun _ S' c1 c2 c3 c4 => ⟨fun _ x ex => ?_, fun g => absurd (inc k).symm g⟩)⟩⟩
    rw [ex, inc]
    refine ih (k + 1) S' (by omega) (fun c z6 z7 => (c1 c z6 z7).trans (h0 c z6 z7)) c2 (fun i hi => ?_)
    by_cases hik : i = k
    · subst hik
      exact c4
    · rw [c3 i (by omega)]
      exact h7 i (by omega)
/-- what asking leaves -/
def Asd (S S' : Mem) : Prop := (∀ c, c ≠ 3 → c ≠ 6 → c ≠ 7 → c ≠ 8 → c ≠ 9 → S' c = S c) ∧ S' 3 0 3 = S 3 0 3 ∧ S' 6 0 1 = 0
theorem Asd.kk {S S' : Mem} {R : Row} {n u : Nat} {hs : Nat → Row} {sn : Option Row} (l : Asd S S') (h : KK S R n u hs sn) : KK S' R n u hs sn :=
  h.frame (l.1 0 (by decide) (by decide) (by decide) (by decide) (by decide)) (l.1 1 (by decide) (by decide) (by decide) (by decide) (by decide)) (l.1 2 (by decide) (by decide) (by decide) (by decide) (by decide)) (l.1 4 (by decide) (by decide) (by decide) (by decide) (by decide)) l.2.1
theorem Q_asks_q {post : Int32 → Mem → Prop} {S : Mem} {R : Row} {n : Nat} (hR : RepC S 0 R n) (h6 : S 6 0 1 = 0) (h : ∀ S' : Mem, Asd S S' → S' 3 0 5 = 0 → post (-1001) S') : mL_asks post S 10 := by
  unfold mL_asks
  refine ⟨2, by decide, asks_2 (Or.inl ⟨rfl, rfl⟩) (fun S1 a1 a2 a3 => ?_) 1 0 S rfl (fun _ _ _ => rfl) h6 (fun i hi => absurd hi (by omega))⟩
  have hR1 : RepC S1 0 R n := Rep_now (by rw [a1 0 (by decide) (by decide)]) (by rw [a1 1 (by decide) (by decide)]) (fun t _ => by rw [a1 2 (by decide) (by decide)]) hR
  have eA : askP tQ 1 R = (0, none) := ask_bad (by decide +kernel) (by decide +kernel) (by decide +kernel)
  refine Q_ask (T := tQ) (L := 1) (by decide) a2 a3 hR1 (fun _ S' b1 b2 b3 b4 => ?_) (fun x hx => ?_)
  · refine h S' ⟨fun c c3 c6 c7 c8 c9 => (b1 c c3 c6).trans (a1 c c6 c7), ?_, b4⟩ ?_
    · rw [b2 3 (by decide), a1 3 (by decide) (by decide)]
    · rw [b3, eA]
      rfl
  · rw [eA] at hx
    exact absurd hx (by simp [outP])
theorem Q_asks_n {post : Int32 → Mem → Prop} {S : Mem} {R : Row} {n : Nat} (hR : RepC S 0 R n) (h6 : S 6 0 1 = 0) (h : ∀ S' : Mem, Asd S S' → S' 3 0 7 = nI n → (0 < n → S' 8 0 0 = 0) → post (nI n) S') : mL_asks post S 11 := by
  have hn := hR.1.1
  unfold mL_asks
  refine ⟨15, by decide, asks_2 (Or.inr ⟨rfl, rfl⟩) (fun S1 a1 a2 a3 => ?_) 14 0 S rfl (fun _ _ _ => rfl) h6 (fun i hi => absurd hi (by omega))⟩
  have hR1 : RepC S1 0 R n := Rep_now (by rw [a1 0 (by decide) (by decide)]) (by rw [a1 1 (by decide) (by decide)]) (fun t _ => by rw [a1 2 (by decide) (by decide)]) hR
  have eO : outP 14 (askP tN 14 R) = some ([nI 3, nI 4, 102, nI 5, 102], fun t => or (or (hoF R (nI 3) t) (hoF R (nI 4) t)) (hoF R (nI 5) t)) := by rw [tN_ask]; rfl
  refine Q_ask (T := tN) (L := 14) (by decide) a2 a3 hR1 (fun z => ?_) (fun x hx S' b1 b2 b3 b4 b5 => ?_)
  · rw [eO] at z
    exact absurd z (by simp)
  · rw [eO] at hx
    cases hx
    have eg : ∀ i, (decide (i < n) && or (or (hoF R (nI 3) i) (hoF R (nI 4) i)) (hoF R (nI 5) i)) = decide (i < n) := fun i => by
      by_cases hi : i < n
      · rw [ho_all hR.1 hi, Bool.and_true]
      · rw [decide_eq_false hi]
        rfl
    have ea : acF (fun t => decide (t < n) && or (or (hoF R (nI 3) t) (hoF R (nI 4) t)) (hoF R (nI 5) t)) 8 = n := by rw [acF_congr eg, ac_all n (by omega)]
    rw [ea] at b3 ⊢
    refine h S' ⟨fun c c3 c6 c7 c8 c9 => (b1 c c3 c6 c8).trans (a1 c c6 c7), ?_, b5⟩ b3 (fun h0 => ?_)
    · rw [b2 3 (by decide), a1 3 (by decide) (by decide)]
    · exact b4 0 (by decide) (by rw [eg 0]; exact decide_eq_true h0)
