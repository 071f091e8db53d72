/-! questions: the reference's readers -/
def ChgM (S S' : Mem) : Prop := (∀ c, c ≠ 10 → c ≠ 18 → S' c = S c) ∧ (∀ k, k ≠ 11 → k ≠ 12 → k ≠ 14 → S' 10 0 k = S 10 0 k)
theorem ChgM.refl {S : Mem} : ChgM S S := ⟨fun _ _ _ => rfl, fun _ _ _ _ => rfl⟩
theorem ChgM.trans {S S1 S2 : Mem} (h : ChgM S S1) (h2 : ChgM S1 S2) : ChgM S S2 := ⟨fun c z1 z2 => (h2.1 c z1 z2).trans (h.1 c z1 z2), fun k z1 z2 z3 => (h2.2 k z1 z2 z3).trans (h.2 k z1 z2 z3)⟩
theorem ChgM.w {S : Mem} {k : Nat} {v : Int32} (hk : k = 11 ∨ k = 12 ∨ k = 14) : ChgM S (wr S 10 0 k v) := ⟨fun c z1 _ => wr_c z1, fun j z1 z2 z3 => wr_k (by omega)⟩
def HM (T : Txt) (L : Nat) (S : Mem) (a o : Nat) (pre : List Int32) : Prop := a ≤ L ∧ L ≤ 60 ∧ S 10 0 10 = nI L ∧ S 10 0 11 = nI a ∧ S 10 0 12 = nI o ∧ S 10 0 14 = nI pre.length ∧ pre.length ≤ a ∧ (∀ i, i < L → S 17 0 i = T i) ∧ (∀ i, i < pre.length → S 18 0 i = pre.getD i 0)
theorem HM.at {T : Txt} {L a a' o : Nat} {S : Mem} {pre : List Int32} (h : HM T L S a o pre) (h1 : a' ≤ L) (h2 : a ≤ a') : HM T L (wr S 10 0 11 (nI a')) a' o pre := by
  obtain ⟨q1, q2, q3, q4, q5, q6, q7, q8, q9⟩ := h
  exact ⟨h1, q2, by rw [wr_k (by decide)]; exact q3, wr_same, by rw [wr_k (by decide)]; exact q5, by rw [wr_k (by decide)]; exact q6, by omega, fun i hi => by rw [wr_c (by decide)]; exact q8 i hi, fun i hi => by rw [wr_c (by decide)]; exact q9 i hi⟩
theorem HM.op {T : Txt} {L a o o' : Nat} {S : Mem} {pre : List Int32} (h : HM T L S a o pre) : HM T L (wr S 10 0 12 (nI o')) a o' pre := by
  obtain ⟨q1, q2, q3, q4, q5, q6, q7, q8, q9⟩ := h
  exact ⟨q1, q2, by rw [wr_k (by decide)]; exact q3, by rw [wr_k (by decide)]; exact q4, wr_same, by rw [wr_k (by decide)]; exact q6, q7, fun i hi => by rw [wr_c (by decide)]; exact q8 i hi, fun i hi => by rw [wr_c (by decide)]; exact q9 i hi⟩
theorem snoc_lo {l : List Int32} {c : Int32} {i : Nat} (h : i < l.length) : (l ++ [c]).getD i 0 = l.getD i 0 := by
  rw [List.getD_eq_getElem?_getD, List.getD_eq_getElem?_getD, List.getElem?_append_left h]
theorem snoc_at {l : List Int32} {c : Int32} : (l ++ [c]).getD l.length 0 = c := by
  rw [List.getD_eq_getElem?_getD, List.getElem?_append_right (Nat.le_refl _), Nat.sub_self]
  rfl
theorem X6_codes_s {post : Int32 → Mem → Prop} {T : Txt} {L a o : Nat} {S : Mem} {pre : List Int32} {c : Int32} (h : HM T L S a o pre) (hl : pre.length + 1 ≤ a) (hp : ∀ S' : Mem, ChgM S S' → HM T L S' a o (pre ++ [c]) → post 1 S') : mX6_codes post S c := by
  obtain ⟨q1, q2, q3, q4, q5, q6, q7, q8, q9⟩ := h
  unfold mX6_codes
  intro x1 ex S2 e2
  rw [q6] at ex
  subst ex
  rw [inc] at e2
  refine ⟨vpN (by omega) (by decide), fun S4 e4 => ?_⟩
  rw [nI_clamp (by omega)] at e4
  have e : ∀ c', c' ≠ 10 → c' ≠ 18 → S4 c' = S c' := fun c' z1 z2 => by rw [e4, wr_c z2, e2, wr_c z1]
  have k : ∀ j, j ≠ 14 → S4 10 0 j = S 10 0 j := fun j hj => by rw [e4, wr_c (by decide), e2, wr_k hj]
  have hlen : (pre ++ [c]).length = pre.length + 1 := by rw [List.length_append]; rfl
  refine hp S4 ⟨e, fun j _ _ hj => k j hj⟩ ⟨q1, q2, by rw [k 10 (by decide)]; exact q3, by rw [k 11 (by decide)]; exact q4, by rw [k 12 (by decide)]; exact q5, ?_, by rw [hlen]; exact hl, fun i hi => by rw [e 17 (by decide) (by decide)]; exact q8 i hi, fun i hi => ?_⟩
  · rw [hlen, e4, wr_c (by decide), e2, wr_same]
  · rw [hlen] at hi
    rw [e4]
    by_cases z : i = pre.length
    · subst z
      rw [wr_same, snoc_at]
    · rw [wr_k z, e2, wr_c (by decide), snoc_lo (by omega)]
      exact q9 i (by omega)
theorem X6_isNext_s {post : Int32 → Mem → Prop} {T : Txt} {L a o : Nat} {S : Mem} {pre : List Int32} {c : Int32} (h : HM T L S a o pre) (h1 : isNx T L a c → post 1 S) (h0 : ¬ isNx T L a c → post 0 S) : mX6_isNext post S c := by
  obtain ⟨q1, q2, q3, q4, q5, q6, q7, q8, q9⟩ := h
  unfold mX6_isNext
  rw [q3, q4]
  refine ⟨fun g => h0 (fun z => ?_), fun g => ?_⟩
  · have := (nI_leI (by omega) (by omega)).mp g
    have := z.1
    omega
  · have ha : a < L := by
      rcases Nat.lt_or_ge a L with z | z
      · exact z
      · exact absurd (nI_le z (by omega)) g
    rw [nI_clamp (by omega), q8 a ha]
    exact ⟨vpN (by omega) (by decide), fun z => h0 (fun y => z y.2), fun z => h1 ⟨ha, z⟩⟩
theorem X6_takes_s {post : Int32 → Mem → Prop} {T : Txt} {L a o : Nat} {S : Mem} {pre : List Int32} {c : Int32} (h : HM T L S a o pre) (h1 : isNx T L a c → post 1 (wr S 10 0 11 (nI (a + 1)))) (h0 : ¬ isNx T L a c → post 0 S) : mX6_takes post S c := by
  unfold mX6_takes
  refine X6_isNext_s h (fun g => ⟨fun _ S4 e4 => ?_, fun z => ne10 z⟩) (fun g => ⟨fun z => absurd rfl z, fun _ => h0 g⟩)
  rw [h.2.2.2.1, inc] at e4
  rw [e4]
  exact h1 g
theorem ref_tab : ∀ w, w < 10 → ∀ s, s < 20 → lenS.getD s 0 = lenS.getD w 0 → bytS.getD s [] = bytS.getD w [] → lnN s = lnN w ∧ chS s = chS w := by
  intro w _ s _ h1 h2
  refine ⟨h1, funext fun k => ?_⟩
  unfold chS
  rw [h2]
theorem X6_word_s {post : Int32 → Mem → Prop} {T : Txt} {L a o s w : Nat} {S : Mem} {pre : List Int32} (hw : w < 10) (e1 : lnN s = lnN w) (e2 : chS s = chS w) (h : HM T L S a o pre) (h1 : al T L a w = lnN w → HM T L (wr S 10 0 11 (nI (a + lnN w))) (a + lnN w) o pre → post 1 (wr S 10 0 11 (nI (a + lnN w)))) (h0 : ¬ al T L a w = lnN w → post 0 (wr S 10 0 11 (nI (a + al T L a w)))) : mX6_word post S s := by
  have lt := ln_tab w (by omega)
  have eS : lnS s = nI (lnN w) := by
    show nI (lnN s) = _
    rw [e1]
  have loop : ∀ (m i : Nat), i + m = lnN w → a + i ≤ L → alF T L a w m i = al T L a w → mX6_word_b2 post (m + 1) (wr S 10 0 11 (nI (a + i))) s (nI i) := by
    intro m
    induction m with
    | zero =>
      intro i hi hL he
      have hi : i = lnN w := by omega
      subst hi
      unfold mX6_word_b2
      rw [eS]
      refine ⟨fun _ => h1 he.symm (h.at hL (by omega)), fun g => absurd (nI_le (Nat.le_refl _) (by omega)) g⟩
    | succ m ih =>
      intro i hi hL he
      have hm := h.at (a' := a + i) hL (by omega)
      unfold mX6_word_b2
      rw [eS, e1, e2]
      unfold alF at he
      refine ⟨fun g => absurd g (nI_ge (by omega) (by omega)), fun _ => ⟨vpN (by omega) (by omega), X6_takes_s hm (fun g => ⟨fun _ x ex => ?_, fun z => ne10 z⟩) (fun g => ⟨fun z => absurd rfl z, fun _ => ?_⟩)⟩⟩
      · have g' : a + i < L ∧ T (a + i) = chS w (nI i) := g
        rw [if_pos g'] at he
        rw [ex, inc]
        have ew : wr (wr S 10 0 11 (nI (a + i))) 10 0 11 (nI (a + i + 1)) = wr S 10 0 11 (nI (a + (i + 1))) := by
          funext c j k
          unfold wr
          split
          · rfl
          · rfl
        rw [ew]
        exact ih (i + 1) (by omega) g.1 he
      · have g' : ¬ (a + i < L ∧ T (a + i) = chS w (nI i)) := g
        rw [if_neg g'] at he
        rw [he]
        exact h0 (by omega)
  unfold mX6_word
  have e0 : wr S 10 0 11 (nI (a + 0)) = S := by
    funext c j k
    unfold wr
    split
    · rename_i g
      obtain ⟨rfl, rfl, rfl⟩ := g
      exact h.2.2.2.1.symm
    · rfl
  have := loop (lnN w) 0 (by omega) h.1 rfl
  rw [e0] at this
  exact ⟨lnN w + 1, this⟩
/-- what the reference owes behind reading -/
def RQ (post : Int32 → Mem → Prop) (T : Txt) (L : Nat) (S : Mem) (o : Nat) (pre : List Int32) (r : Res) : Prop :=
  match r.2 with
  | none => ∀ S' : Mem, ChgM S S' → S' 10 0 11 = nI r.1 → post 0 S'
  | some x => ∀ S' : Mem, ChgM S S' → HM T L S' r.1 o (pre ++ x.1) → post 1 S'
theorem RQ.mono {post : Int32 → Mem → Prop} {T : Txt} {L o : Nat} {S S1 : Mem} {pre : List Int32} {r : Res} (c : ChgM S S1) (h : RQ post T L S o pre r) : RQ post T L S1 o pre r := by
  obtain ⟨p, q⟩ := r
  cases q with
  | none => exact fun S' c2 hf => h S' (c.trans c2) hf
  | some x => exact fun S' c2 hq => h S' (c.trans c2) hq
theorem X6_in_s {post : Int32 → Mem → Prop} {S : Mem} {T : Txt} {L p : Nat} (hp : p < L) (h1 : digP T L p → post 1 S) (h0 : ¬ digP T L p → post 0 S) : mX6_in post S (T p) 48 57 := s_in (fun g0 g1 => h1 ⟨hp, g0, g1⟩) (fun g => h0 (fun z => g.elim z.2.1 z.2.2))
theorem b177_s {post : Int32 → Mem → Prop} {T : Txt} {L a p o w s : Nat} {R : Row} {S S0 : Mem} {pre : List Int32} {v : Int32} (c : ChgM S0 S) (h : HM T L S p o pre) (hl : pre.length + 1 ≤ p) (hr : RQ post T L S0 o pre (p, leaf R (cdF w s v))) : mX6_measure_b177 post S (nI (whR w)) (nI s) v := by
  unfold mX6_measure_b177
  refine X6_codes_s h hl (fun S' c2 h2 => ⟨Or.inr rfl, ?_⟩)
  have hr : ∀ S' : Mem, ChgM S0 S' → HM T L S' p o (pre ++ [cdF w s v]) → post 1 S' := hr
  exact hr S' (c.trans c2) h2
theorem num_comm {d t : Int32} : ((10 : Int32) * d + t) - 48 = d * 10 + (t - 48) := by
  rw [Int32.mul_comm, Int32.sub_eq_add_neg, Int32.sub_eq_add_neg, Int32.add_assoc]
theorem X6_meas_s {post : Int32 → Mem → Prop} {T : Txt} {L a o w s : Nat} {R : Row} {S : Mem} {pre : List Int32} (hw : w < 10) (h7 : 7 ≤ w) (e1 : lnN s = lnN w) (e2 : chS s = chS w) (h : HM T L S a o pre) (hr : RQ post T L S o pre (if al T L a w = lnN w then measP T L R w (a + lnN w) else (a + al T L a w, none))) : mX6_measure (fun (r : Int32) (S1 : Mem) => isB r ∧ post r S1) S s (nI (whR w)) := by
  have lt := ln_tab w (by omega)
  have hL := h.2.1
  unfold mX6_measure
  refine X6_word_s hw e1 e2 h (fun full h2 => ⟨fun _ => ?_, fun z => ne10 z⟩) (fun nf => ⟨fun z => absurd rfl z, fun _ => ?_⟩)
  · rw [if_pos full] at hr
    have c2 : ChgM S (wr S 10 0 11 (nI (a + lnN w))) := ChgM.w (Or.inl rfl)
    generalize wr S 10 0 11 (nI (a + lnN w)) = S2 at h2 c2 ⊢
    have pl := h.2.2.2.2.2.2.1
    generalize hp : a + lnN w = p at hr h2 ⊢
    unfold measP at hr
    have b50n : sgP T L p = none → mX6_measure_b50 (fun (r : Int32) (S1 : Mem) => isB r ∧ post r S1) S2 (nI (whR w)) (-1) := by
      intro es
      rw [es] at hr
      unfold mX6_measure_b50
      exact ⟨fun g => absurd g (by decide), fun _ => ⟨Or.inl rfl, hr S2 c2 h2.2.2.2.1⟩⟩
    have b50 : ∀ s, s < 3 → sgP T L p = some s → p < L → mX6_measure_b50 (fun (r : Int32) (S1 : Mem) => isB r ∧ post r S1) S2 (nI (whR w)) (nI s) := by
      intro s hs es hpL
      rw [es] at hr
      have hr : RQ post T L S o pre (numP T L R w s (p + 1)) := hr
      have h3 := h2.at (a' := p + 1) hpL (by omega)
      have c3 : ChgM S (wr S2 10 0 11 (nI (p + 1))) := c2.trans (ChgM.w (Or.inl rfl))
      unfold mX6_measure_b50
      refine ⟨fun _ S3 e3 => ?_, fun g => absurd (nI_pos' (by omega)) g⟩
      rw [h2.2.2.2.1, inc] at e3
      rw [← e3] at h3 c3
      obtain ⟨q1, q2, q3, q4, q5, q6, q7, q8, q9⟩ := id h3
      unfold numP at hr
      rw [q4, q3]
      refine ⟨fun g => ?_, fun g => ?_⟩
      · have : p + 1 = L := (nI_eq (by omega) (by omega)).mp g
        rw [if_neg (fun y => by have := (digB_1.mp y).1; omega)] at hr
        exact ⟨Or.inl rfl, hr S3 c3 q4⟩
      · have p1 : p + 1 < L := by
          rcases Nat.lt_or_ge (p + 1) L with z | z
          · exact z
          · exact absurd (show nI (p + 1) = nI L by rw [show p + 1 = L by omega]) g
        rw [nI_clamp (by omega), q8 (p + 1) p1]
        refine ⟨vpN (by omega) (by decide), X6_in_s p1 (fun d => ⟨fun _ x8 e8 S9 e9 => ?_, fun z => ne10 z⟩) (fun d => ⟨fun z => absurd rfl z, fun _ => ?_⟩)⟩
        · rw [q4] at e8
          subst e8
          rw [inc] at e9
          rw [if_pos (digB_1.mpr d)] at hr
          have h4 := h3.at (a' := p + 1 + 1) d.1 (by omega)
          have c4 : ChgM S (wr S3 10 0 11 (nI (p + 1 + 1))) := c3.trans (ChgM.w (Or.inl rfl))
          rw [← e9] at h4 c4
          obtain ⟨y1, y2, y3, y4, y5, y6, y7, y8, y9⟩ := id h4
          refine ⟨vpN (by omega) (by decide), fun x11 e11 => ?_⟩
          rw [nI_clamp (by omega), y8 (p + 1) p1] at e11
          rw [y4, y3]
          refine ⟨fun g2 => ?_, fun g2 => ?_⟩
          · have : L ≤ p + 1 + 1 := (nI_leI (by omega) (by omega)).mp g2
            rw [if_neg (fun y => by have := (digB_1.mp y).1; omega)] at hr
            rw [e11]
            exact b177_s (a := a) (post := fun (r : Int32) (S1 : Mem) => isB r ∧ post r S1) c4 h4 (by omega) (fun S' z1 z2 => ⟨Or.inr rfl, hr S' z1 z2⟩)
          · have p2 : p + 1 + 1 < L := by
              rcases Nat.lt_or_ge (p + 1 + 1) L with z | z
              · exact z
              · exact absurd (nI_le z (by omega)) g2
            rw [nI_clamp (by omega), y8 (p + 1 + 1) p2]
            refine ⟨vpN (by omega) (by decide), X6_in_s p2 (fun d2 => ⟨fun z => ne10 z, fun _ x17 e17 S18 e18 => ?_⟩) (fun d2 => ⟨fun _ => ?_, fun z => absurd rfl z⟩)⟩
            · rw [y4] at e17
              subst e17
              rw [inc] at e18
              rw [if_pos (digB_1.mpr d2)] at hr
              have h5 := h4.at (a' := p + 1 + 1 + 1) d2.1 (by omega)
              have c5 : ChgM S (wr S9 10 0 11 (nI (p + 1 + 1 + 1))) := c4.trans (ChgM.w (Or.inl rfl))
              rw [← e18] at h5 c5
              refine ⟨vpN (by omega) (by decide), fun x20 e20 => ?_⟩
              rw [nI_clamp (by omega), h5.2.2.2.2.2.2.2.1 (p + 1 + 1) p2, num_comm, e11] at e20
              rw [e20]
              exact b177_s (a := a) (post := fun (r : Int32) (S1 : Mem) => isB r ∧ post r S1) c5 h5 (by omega) (fun S' z1 z2 => ⟨Or.inr rfl, hr S' z1 z2⟩)
            · rw [if_neg (fun y => d2 (digB_1.mp y))] at hr
              rw [e11]
              exact b177_s (a := a) (post := fun (r : Int32) (S1 : Mem) => isB r ∧ post r S1) c4 h4 (by omega) (fun S' z1 z2 => ⟨Or.inr rfl, hr S' z1 z2⟩)
        · rw [if_neg (fun y => d (digB_1.mp y))] at hr
          exact ⟨Or.inl rfl, hr S3 c3 q4⟩
    unfold sgP at b50n b50
    refine X6_isNext_s h2 (fun g => ⟨fun z => ne10 z, fun _ => b50 0 (by decide) (if_pos g) g.1⟩) (fun g => ⟨fun _ => ?_, fun z => absurd rfl z⟩)
    have g' : ¬ (p < L ∧ T p = 60) := g
    rw [if_neg g'] at b50n b50
    refine X6_isNext_s h2 (fun g => ⟨fun z => ne10 z, fun _ => b50 1 (by decide) (if_pos g) g.1⟩) (fun g => ⟨fun _ => ?_, fun z => absurd rfl z⟩)
    have g' : ¬ (p < L ∧ T p = 61) := g
    rw [if_neg g'] at b50n b50
    refine X6_isNext_s h2 (fun g => ⟨fun z => ne10 z, fun _ => b50 2 (by decide) (if_pos g) g.1⟩) (fun g => ⟨fun _ => ?_, fun z => absurd rfl z⟩)
    have g' : ¬ (p < L ∧ T p = 62) := g
    exact b50n (if_neg g')
  · rw [if_neg nf] at hr
    exact ⟨Or.inl rfl, hr _ (ChgM.w (Or.inl rfl)) wr_same⟩
theorem X6_wc_s {post : Int32 → Mem → Prop} {T : Txt} {L a o w s : Nat} {R : Row} {S : Mem} {pre : List Int32} {c : Int32} (hw : w < 10) (e1 : lnN s = lnN w) (e2 : chS s = chS w) (h : HM T L S a o pre) (hr : RQ post T L S o pre (if al T L a w = lnN w then (a + lnN w, leaf R c) else (a + al T L a w, none))) : mX6_word (fun (r6 : Int32) (S5 : Mem) => ((r6 = 0 → (post (0 : Int32) S5)) ∧ (¬ r6 = 0 → (mX6_codes (fun (r9 : Int32) (S8 : Mem) => ((r9 = 0 → (post (0 : Int32) S8)) ∧ (¬ r9 = 0 → (post (1 : Int32) S8)))) S5 c)))) S s := by
  have lt := ln_tab w (by omega)
  refine X6_word_s hw e1 e2 h (fun full h2 => ⟨fun z => ne10 z, fun _ => ?_⟩) (fun nf => ⟨fun _ => ?_, fun z => absurd rfl z⟩)
  · rw [if_pos full] at hr
    have pl := h.2.2.2.2.2.2.1
    refine X6_codes_s h2 (by omega) (fun S' c2 h3 => ⟨fun z => ne10 z, fun _ => ?_⟩)
    have hr : ∀ S' : Mem, ChgM S S' → HM T L S' (a + lnN w) o (pre ++ [c]) → post 1 S' := hr
    exact hr S' ((ChgM.w (Or.inl rfl)).trans c2) h3
  · rw [if_neg nf] at hr
    exact hr _ (ChgM.w (Or.inl rfl)) wr_same
