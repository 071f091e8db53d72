/-! questions: the small readers of the class -/
def ChgQ (S S' : Mem) : Prop := (∀ c, c ≠ 6 → S' c = S c) ∧ (∀ k, k ≠ 2 → k ≠ 3 → S' 6 0 k = S 6 0 k)
def HQ (T : Txt) (L n : Nat) (R : Row) (S : Mem) (a : Nat) : Prop := a ≤ L ∧ L ≤ 60 ∧ S 6 0 1 = nI L ∧ S 6 0 2 = nI a ∧ (∀ i, i < L → S 7 0 i = T i) ∧ RepC S 0 R n
theorem ChgQ.refl {S : Mem} : ChgQ S S := ⟨fun _ _ => rfl, fun _ _ _ => rfl⟩
theorem ChgQ.trans {S S1 S2 : Mem} (h : ChgQ S S1) (h2 : ChgQ S1 S2) : ChgQ S S2 := ⟨fun c hc => (h2.1 c hc).trans (h.1 c hc), fun k k2 k3 => (h2.2 k k2 k3).trans (h.2 k k2 k3)⟩
theorem ChgQ.w2 {S : Mem} {v : Int32} : ChgQ S (wr S 6 0 2 v) := ⟨fun c hc => wr_c hc, fun k k2 _ => wr_k k2⟩
theorem ChgQ.w3 {S : Mem} {v : Int32} : ChgQ S (wr S 6 0 3 v) := ⟨fun c hc => wr_c hc, fun k _ k3 => wr_k k3⟩
theorem HQ.to {T : Txt} {L n a a' : Nat} {R : Row} {S S' : Mem} (h : HQ T L n R S a) (c : ChgQ S S') (h2 : S' 6 0 2 = nI a') (ha : a' ≤ L) : HQ T L n R S' a' := by
  obtain ⟨q1, q2, q3, q4, q5, q6⟩ := h
  exact ⟨ha, q2, by rw [c.2 1 (by decide) (by decide)]; exact q3, h2, fun i hi => by rw [c.1 7 (by decide)]; exact q5 i hi, Rep_now (by rw [c.1 0 (by decide)]) (by rw [c.1 1 (by decide)]) (fun t _ => by rw [c.1 2 (by decide)]) q6⟩
theorem HQ.w2 {T : Txt} {L n a a' : Nat} {R : Row} {S : Mem} (h : HQ T L n R S a) (ha : a' ≤ L) : HQ T L n R (wr S 6 0 2 (nI a')) a' := h.to ChgQ.w2 wr_same ha
theorem HQ.w3 {T : Txt} {L n a : Nat} {R : Row} {S : Mem} {v : Int32} (h : HQ T L n R S a) : HQ T L n R (wr S 6 0 3 v) a := h.to ChgQ.w3 (by rw [wr_k (by decide)]; exact h.2.2.2.1) h.1
theorem X2_isNext_s {post : Int32 → Mem → Prop} {T : Txt} {L n a : Nat} {R : Row} {S : Mem} {c : Int32} (h : HQ T L n R S a) (hf : S 6 0 3 = -1) (h1 : isNx T L a c → post 1 S) (h0 : ¬ isNx T L a c → post 0 S) : mX2_isNext post S c := by
  obtain ⟨q1, q2, q3, q4, q5, q6⟩ := h
  unfold mX2_isNext
  rw [q3, q4, hf]
  refine ⟨fun g => absurd rfl g, fun _ => ⟨fun g => h0 (fun z => ?_), fun g => ?_⟩⟩
  · have := (nI_leI (by omega) (by omega)).mp g
    have := z.1
    omega
  · have ha : a < L := by
      rcases Nat.lt_or_ge a L with z | z
      · exact z
      · exact absurd (nI_le z (by omega)) g
    rw [nI_clamp (by omega), q5 a ha]
    exact ⟨vpN (by omega) (by decide), fun z => h0 (fun y => z y.2), fun z => h1 ⟨ha, z⟩⟩
theorem X2_isNext_f {post : Int32 → Mem → Prop} {S : Mem} {c : Int32} (hf : ¬ S 6 0 3 = -1) (h0 : post 0 S) : mX2_isNext post S c := by
  unfold mX2_isNext
  exact ⟨fun _ => h0, fun g => absurd g hf⟩
theorem X2_takes_s {post : Int32 → Mem → Prop} {T : Txt} {L n a : Nat} {R : Row} {S : Mem} {c : Int32} (h : HQ T L n R S a) (hf : S 6 0 3 = -1) (h1 : isNx T L a c → post 1 (wr S 6 0 2 (nI (a + 1)))) (h0 : ¬ isNx T L a c → post 0 S) : mX2_takes post S c := by
  unfold mX2_takes
  refine X2_isNext_s h hf (fun g => ⟨fun z => ne10 z, fun _ S4 e4 => ⟨Or.inr rfl, ?_⟩⟩) (fun g => ⟨fun _ => ⟨Or.inl rfl, h0 g⟩, fun z => absurd rfl z⟩)
  rw [h.2.2.2.1, inc] at e4
  rw [e4]
  exact h1 g
theorem X2_takes_f {post : Int32 → Mem → Prop} {S : Mem} {c : Int32} (hf : ¬ S 6 0 3 = -1) (h0 : post 0 S) : mX2_takes post S c := by
  unfold mX2_takes
  exact X2_isNext_f hf ⟨fun _ => ⟨Or.inl rfl, h0⟩, fun z => absurd rfl z⟩
theorem X2_fail_s {post : Mem → Prop} {S : Mem} {v : Int32} (hf : S 6 0 3 = -1) (h : post (wr S 6 0 3 v)) : mX2_fail post S v := by
  unfold mX2_fail
  exact ⟨fun g => absurd hf g, fun _ S2 e => by rw [e]; exact h⟩
theorem X2_fail_f {post : Mem → Prop} {S : Mem} {v : Int32} (hf : ¬ S 6 0 3 = -1) (h : post S) : mX2_fail post S v := by
  unfold mX2_fail
  exact ⟨fun _ => h, fun g => absurd g hf⟩
theorem X2_alike_s {post : Int32 → Mem → Prop} {T : Txt} {L n a w : Nat} {R : Row} {S : Mem} (hw : w < 10) (h : HQ T L n R S a) (hp : post (nI (al T L a w)) S) : mX2_lettersAlike post S w := by
  obtain ⟨q1, q2, q3, q4, q5, q6⟩ := h
  obtain ⟨l1, l2⟩ := ln_tab w hw
  have loop : ∀ (x m i : Nat), x = min (L - a) (lnN w) → i + m = lnN w → i ≤ x → post (nI (alF T L a w m i)) S → mX2_lettersAlike_b19 post (m + 1) S w (nI x) (nI i) := by
    intro x m
    induction m with
    | zero =>
      intro i hx hi hix hp
      have : i = x := by omega
      subst this
      unfold mX2_lettersAlike_b19
      refine ⟨fun _ => ?_, fun g => absurd (nI_le (Nat.le_refl _) (by omega)) g⟩
      by_cases h0 : i = 0
      · subst h0; exact hp
      · rw [if_pos (show (0 : Int32) < nI i from nI_lt (a := 0) (by omega) (by omega))]
        exact hp
    | succ m ih =>
      intro i hx hi hix hp
      unfold mX2_lettersAlike_b19
      unfold alF at hp
      refine ⟨fun g => ?_, fun g => ?_⟩
      · have : x ≤ i := (nI_leI (by omega) (by omega)).mp g
        have : i = x := by omega
        subst this
        rw [if_neg (by omega)] at hp
        by_cases h0 : i = 0
        · subst h0; exact hp
        · rw [if_pos (show (0 : Int32) < nI i from nI_lt (a := 0) (by omega) (by omega))]
          exact hp
      · have hix2 : i < x := by
          rcases Nat.lt_or_ge i x with z | z
          · exact z
          · exact absurd (nI_le z (by omega)) g
        rw [q4, nI_add, nI_clamp (by omega), q5 (a + i) (by omega)]
        refine ⟨vpN (by omega) (by decide), vpN (by omega) (by omega), fun z y ey => ?_, fun z => ?_⟩
        · rw [if_pos ⟨by omega, z⟩] at hp
          rw [ey, inc]
          exact ih (i + 1) hx (by omega) (by omega) hp
        · rw [if_neg (fun y => z y.2)] at hp
          exact hp
  unfold mX2_lettersAlike
  intro x2 ex
  have e : x2 = nI (min (L - a) (lnN w)) := by
    rw [ex, q3, q4, pk_sub q1]
    show (if nI (L - a) < nI (lnN w) then nI (L - a) else nI (lnN w)) = _
    by_cases g : L - a < lnN w
    · rw [if_pos (nI_lt g (by omega)), Nat.min_eq_left (by omega)]
    · rw [if_neg (nI_nlt (by omega) (by omega)), Nat.min_eq_right (by omega)]
  rw [e]
  exact ⟨lnN w + 1, loop _ (lnN w) 0 rfl (by omega) (Nat.zero_le _) hp⟩
def alS (T : Txt) (L a : Nat) : Nat := if selW T L a = 10 then 0 else al T L a (selW T L a)
theorem lnS_eq {w : Nat} : lnS w = nI (lnN w) := rfl
theorem X2_readWord_s {pn : Mem → Prop} {pw : Nat → Mem → Prop} {T : Txt} {L n a : Nat} {R : Row} {S : Mem} (h : HQ T L n R S a) (h1 : selW T L a < 10 → al T L a (selW T L a) = lnN (selW T L a) → pw (selW T L a) (wr S 6 0 2 (nI (a + lnN (selW T L a))))) (h0 : ¬ (selW T L a < 10 ∧ al T L a (selW T L a) = lnN (selW T L a)) → mX2_fail pn S (nI (a + alS T L a))) : mX2_readWord pn pw S := by
  obtain ⟨s1, s2, s3⟩ := sel_al (T := T) (L := L) (a := a)
  have hle : alS T L a ≤ 7 := by
    unfold alS
    split
    · omega
    · have := al_le (T := T) (L := L) (a := a) (w := selW T L a)
      have := (ln_tab (selW T L a) (by omega)).2
      omega
  have a60 : a ≤ 60 := Nat.le_trans h.1 h.2.1
  have loop : ∀ (m k b : Nat), k + m = 10 → b ≤ alS T L a → (selW T L a < k → b = alS T L a ∧ ¬ al T L a (selW T L a) = lnN (selW T L a)) → mX2_readWord_b4 pn pw (m + 1) S (nI b) (nI k) := by
    intro m
    induction m with
    | zero =>
      intro k b hk hb hs
      have hk : k = 10 := by omega
      subst hk
      unfold mX2_readWord_b4
      rw [h.2.2.2.1, nI_add]
      refine ⟨fun _ => ?_, fun g => absurd (by decide) g⟩
      rcases s1 with z | z
      · rw [(hs z).1]
        exact h0 (fun y => (hs z).2 y.2)
      · have e0 : alS T L a = 0 := if_pos z
        have eb : b = alS T L a := by omega
        rw [eb]
        exact h0 (fun y => by omega)
    | succ m ih =>
      intro k b hk hb hs
      have hk2 : k < 10 := by omega
      unfold mX2_readWord_b4
      refine ⟨fun g => absurd g (nI_ge (b := 10) hk2 (by decide)), fun _ => ⟨vpN hk2 (by decide), fun w5 e5 => ?_⟩⟩
      rw [nI_clamp (by omega)] at e5
      subst e5
      have alle := al_le (T := T) (L := L) (a := a) (w := w5)
      have lt := ln_tab w5 (by omega)
      refine X2_alike_s (by omega) h ⟨fun g x ex y ey => ?_, fun g S12 e12 => ?_⟩
      · have ne : ¬ al T L a w5 = lnN w5 := fun z => g (by rw [z]; rfl)
        have ex2 : x = nI (max b (al T L a w5)) := by
          rw [ex]
          by_cases z : b < al T L a w5
          · rw [if_pos (nI_lt z (by omega)), Nat.max_eq_right (by omega)]
          · rw [if_neg (nI_nlt (by omega) (by omega)), Nat.max_eq_left (by omega)]
        have aleS : al T L a w5 ≤ alS T L a := by
          unfold alS
          rcases s1 with z | z
          · rw [if_neg (by omega)]
            by_cases e : w5 = selW T L a
            · rw [← e]
              exact Nat.le_refl _
            · exact (s3 w5 hk2 z e).2
          · rw [s2 w5 hk2 z]
            exact Nat.zero_le _
        rw [ex2, ey, inc]
        refine ih (w5 + 1) _ (by omega) (by omega) (fun z => ?_)
        by_cases e : selW T L a = w5
        · have e2 : alS T L a = al T L a w5 := by
            unfold alS
            rw [if_neg (by omega), e]
          rw [e]
          exact ⟨by omega, ne⟩
        · have := hs (by omega)
          exact ⟨by omega, this.2⟩
      · have full : al T L a w5 = lnN w5 := (nI_eq (by omega) (by omega)).mp g
        have es : w5 = selW T L a := by
          rcases s1 with z | z
          · refine Classical.byContradiction (fun e => ?_)
            have := (s3 w5 hk2 z e).1
            omega
          · have := s2 w5 hk2 z
            omega
        rw [h.2.2.2.1, nI_add, full] at e12
        rw [e12]
        rw [es] at full ⊢
        exact h1 (by omega) full
  unfold mX2_readWord
  exact ⟨11, loop 10 0 0 (by omega) (Nat.zero_le _) (fun z => absurd z (by omega))⟩
/-- the sign at a: 0 <, 1 =, 2 > -/
def sgP (T : Txt) (L a : Nat) : Option Nat := if a < L ∧ T a = 60 then some 0 else if a < L ∧ T a = 61 then some 1 else if a < L ∧ T a = 62 then some 2 else none
def sgC (s : Nat) : Int32 := if s = 0 then 60 else if s = 1 then 61 else 62
theorem sgC_c : isC 60 ∧ isC 61 ∧ isC 62 := by unfold isC; decide +kernel
theorem X2_readSign_s {post : Int32 → Mem → Prop} {T : Txt} {L n a : Nat} {R : Row} {S : Mem} (h : HQ T L n R S a) (hf : S 6 0 3 = -1) (h1 : ∀ s, sgP T L a = some s → a < L → post (sgC s) (wr S 6 0 2 (nI (a + 1)))) (h0 : sgP T L a = none → post 61 (wr S 6 0 3 (nI a))) : mX2_readSign post S := by
  unfold mX2_readSign
  unfold sgP at h1 h0
  refine X2_takes_s h hf (fun g => ⟨fun z => ne10 z, fun _ => ⟨sgC_c.1, ?_⟩⟩) (fun g => ⟨fun _ => ?_, fun z => absurd rfl z⟩)
  · exact h1 0 (if_pos g) g.1
  · have g' : ¬ (a < L ∧ T a = 60) := g
    rw [if_neg g'] at h1 h0
    refine X2_takes_s h hf (fun g => ⟨fun z => ne10 z, fun _ => ⟨sgC_c.2.2, ?_⟩⟩) (fun g2 => ⟨fun _ => ?_, fun z => absurd rfl z⟩)
    · refine h1 2 ?_ g.1
      rw [if_neg (fun z => by rw [g.2] at z; exact absurd z.2 (by decide))]
      exact if_pos g
    · have g2' : ¬ (a < L ∧ T a = 62) := g2
      refine X2_takes_s h hf (fun g => ⟨fun _ => ⟨sgC_c.2.1, ?_⟩, fun z => ne10 z⟩) (fun g3 => ⟨fun z => absurd rfl z, fun _ => X2_fail_s hf ⟨sgC_c.2.1, ?_⟩⟩)
      · exact h1 1 (if_pos g) g.1
      · have g3' : ¬ (a < L ∧ T a = 61) := g3
        rw [if_neg g3', if_neg g2'] at h0
        rw [h.2.2.2.1]
        exact h0 rfl
theorem X2_readSign_f {post : Int32 → Mem → Prop} {S : Mem} (hf : ¬ S 6 0 3 = -1) (h0 : post 61 S) : mX2_readSign post S := by
  unfold mX2_readSign
  exact X2_takes_f hf ⟨fun _ => X2_takes_f hf ⟨fun _ => X2_takes_f hf ⟨fun z => absurd rfl z, fun _ => X2_fail_f hf ⟨sgC_c.2.1, h0⟩⟩, fun z => absurd rfl z⟩, fun z => absurd rfl z⟩
def digP (T : Txt) (L a : Nat) : Prop := a < L ∧ ¬ T a < 48 ∧ ¬ (57 : Int32) < T a
theorem X2_isDigit_s {post : Int32 → Mem → Prop} {T : Txt} {L n a : Nat} {R : Row} {S : Mem} (h : HQ T L n R S a) (hf : S 6 0 3 = -1) (h1 : digP T L a → post 1 S) (h0 : ¬ digP T L a → post 0 S) : mX2_isDigitNext post S := by
  obtain ⟨q1, q2, q3, q4, q5, q6⟩ := h
  unfold mX2_isDigitNext
  rw [q3, q4, hf]
  refine ⟨fun g => absurd rfl g, fun _ => ⟨fun g => h0 (fun z => ?_), fun g => ?_⟩⟩
  · have := (nI_leI (by omega) (by omega)).mp g
    have := z.1
    omega
  · have ha : a < L := by
      rcases Nat.lt_or_ge a L with z | z
      · exact z
      · exact absurd (nI_le z (by omega)) g
    rw [nI_clamp (by omega), q5 a ha]
    exact ⟨vpN (by omega) (by decide), fun z => h0 (fun y => y.2.1 z), fun z => ⟨vpN (by omega) (by decide), fun z2 => h0 (fun y => y.2.2 z2), fun z2 => h1 ⟨ha, z, z2⟩⟩⟩
theorem X2_isDigit_f {post : Int32 → Mem → Prop} {S : Mem} (hf : ¬ S 6 0 3 = -1) (h0 : post 0 S) : mX2_isDigitNext post S := by
  unfold mX2_isDigitNext
  exact ⟨fun _ => h0, fun g => absurd g hf⟩
theorem X2_digit_s {post : Int32 → Mem → Prop} {T : Txt} {L n a : Nat} {R : Row} {S : Mem} (h : HQ T L n R S a) (ha : a < L) (h1 : post (T a - 48) (wr S 6 0 2 (nI (a + 1)))) : mX2_readDigit post S := by
  obtain ⟨q1, q2, q3, q4, q5, q6⟩ := h
  unfold mX2_readDigit
  rw [q4, nI_clamp (by omega), q5 a ha, inc]
  exact ⟨vpN (by omega) (by decide), fun x ex S3 e3 => by rw [ex, e3]; exact h1⟩
theorem X2_readNumber_s {post : Int32 → Mem → Prop} {T : Txt} {L n a : Nat} {R : Row} {S : Mem} (h : HQ T L n R S a) (hf : S 6 0 3 = -1) (h0 : ¬ digP T L a → post 0 (wr S 6 0 3 (nI a))) (h1 : digP T L a → ¬ digP T L (a + 1) → post (T a - 48) (wr S 6 0 2 (nI (a + 1)))) (h2 : digP T L a → digP T L (a + 1) → post ((T a - 48) * 10 + (T (a + 1) - 48)) (wr (wr S 6 0 2 (nI (a + 1))) 6 0 2 (nI (a + 1 + 1)))) : mX2_readNumber post S := by
  unfold mX2_readNumber
  refine X2_isDigit_s h hf (fun g => ⟨fun _ => X2_digit_s h g.1 ?_, fun z => ne10 z⟩) (fun g => ⟨fun z => absurd rfl z, fun _ => X2_fail_s hf ?_⟩)
  · have hq := h.w2 (a' := a + 1) g.1
    have hf2 : (wr S 6 0 2 (nI (a + 1))) 6 0 3 = -1 := by rw [wr_k (by decide)]; exact hf
    refine X2_isDigit_s hq hf2 (fun g2 => ⟨fun z => ne10 z, fun _ => X2_digit_s hq g2.1 (h2 g g2)⟩) (fun g2 => ⟨fun _ => h1 g g2, fun z => absurd rfl z⟩)
  · rw [h.2.2.2.1]
    exact h0 g
theorem X2_readNumber_f {post : Int32 → Mem → Prop} {S : Mem} (hf : ¬ S 6 0 3 = -1) (h0 : post 0 S) : mX2_readNumber post S := by
  unfold mX2_readNumber
  exact X2_isDigit_f hf ⟨fun z => absurd rfl z, fun _ => X2_fail_f hf h0⟩
def soF (l s r : Int32) : Bool := if s = 60 then decide (¬ r ≤ l) else if s = 62 then decide (¬ l ≤ r) else decide (l = r)
theorem X2_isSo_s {post : Int32 → Mem → Prop} {S : Mem} {l s r : Int32} (h1 : soF l s r = true → post 1 S) (h0 : soF l s r = false → post 0 S) : mX2_isSo post S l s r := by
  unfold mX2_isSo
  unfold soF at h1 h0
  refine ⟨fun g => ?_, fun g => ?_⟩
  · rw [if_neg g] at h1 h0
    refine ⟨fun g2 => ?_, fun g2 => ?_⟩
    · rw [if_neg g2] at h1 h0
      exact ⟨fun z => h0 (decide_eq_false z), fun z => h1 (decide_eq_true z)⟩
    · rw [if_pos g2] at h1 h0
      exact ⟨fun z => h0 (decide_eq_false (fun y => y z)), fun z => h1 (decide_eq_true z)⟩
  · rw [if_pos g] at h1 h0
    exact ⟨fun z => h0 (decide_eq_false (fun y => y z)), fun z => h1 (decide_eq_true z)⟩
theorem X2_those_s {post : Int32 → Mem → Prop} {n k : Nat} {R : Row} {S : Mem} {s r : Int32} (hk : k ≤ 9) (hR : RepC S 0 R n) (h : ∀ B : Int32, (∀ t, t < 8 → bt B t = (decide (t < n) && soF (numF (trv R t) k) s r)) → post B S) : mX2_thoseWith post S 0 (nI k) s r := by
  have hn := hR.1.1
  have loop : ∀ (m t : Nat) (B : Int32), t + m = n → (∀ i, i < 8 → bt B i = (decide (i < t) && soF (numF (trv R i) k) s r)) → mX2_thoseWith_b6 post (m + 1) S 0 (nI k) s r B (nI t) := by
    intro m
    induction m with
    | zero =>
      intro t B ht hB
      have : t = n := by omega
      subst this
      unfold mX2_thoseWith_b6
      rw [hR.cnt]
      exact ⟨fun _ => h B hB, fun g => absurd (nI_le (by omega) (by omega)) g⟩
    | succ m ih =>
      intro t B ht hB
      have htn : t < n := by omega
      have t8 : t < 8 := by omega
      unfold mX2_thoseWith_b6
      rw [hR.cnt]
      refine ⟨fun g => absurd g (nI_ge htn (by omega)), fun _ => ⟨vpN (by omega) (by decide), fun q eq => ?_⟩⟩
      rw [nI_clamp (by omega)] at eq
      subst eq
      refine X3_numberOf_s (hR.trav htn) (hR.1.t htn) k hk (X2_isSo_s (fun g => ⟨fun z => ne10 z, fun _ x ex y ey => ?_⟩) (fun g => ⟨fun _ x ex => ?_, fun z => absurd rfl z⟩))
      · rw [ey, ex, inc]
        refine ih (t + 1) _ (by omega) (fun i hi => ?_)
        rw [bt_or, hB i hi, bt_one t t8 i hi]
        by_cases e : i = t
        · subst e
          rw [g, decide_eq_true (show i = i from rfl), decide_eq_true (show i < i + 1 by omega)]
          simp
        · rw [decide_eq_false e]
          by_cases e2 : i < t
          · rw [decide_eq_true e2, decide_eq_true (show i < t + 1 by omega)]
            simp
          · rw [decide_eq_false e2, decide_eq_false (show ¬ i < t + 1 by omega)]
            simp
      · rw [ex, inc]
        refine ih (t + 1) B (by omega) (fun i hi => ?_)
        rw [hB i hi]
        by_cases e : i = t
        · subst e
          rw [g]
          simp
        · by_cases e2 : i < t
          · rw [decide_eq_true e2, decide_eq_true (show i < t + 1 by omega)]
          · rw [decide_eq_false e2, decide_eq_false (show ¬ i < t + 1 by omega)]
  unfold mX2_thoseWith
  exact ⟨n + 1, loop n 0 0 (by omega) (fun i hi => by rw [bt_zero i hi, decide_eq_false (by omega)]; rfl)⟩

