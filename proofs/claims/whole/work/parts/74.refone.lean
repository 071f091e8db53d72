/-! questions: the reference reads what is read -/
theorem X6_b157_s {mo : (Int32 → Mem → Prop) → Mem → Prop} {post : Int32 → Mem → Prop} {T : Txt} {L a o : Nat} {R : Row} {S : Mem} {pre : List Int32} {vt : Int32} (h : HM T L S a o pre) (ha : a < L) (hv : ∀ c : Int32, ¬ c = 32 → (vt = c ↔ a + 1 < L ∧ T (a + 1) = c)) (hr : RQ post T L S o pre (compP T L R a)) : mX6_one_b157 mo post S vt := by
  have hL := h.2.1
  unfold mX6_one_b157
  rw [h.2.2.2.1, nI_clamp (by omega), h.2.2.2.2.2.2.2.1 a ha]
  refine ⟨vpN (by omega) (by decide), fun x2 ex => ?_⟩
  subst ex
  unfold compP at hr
  refine ⟨fun e => ?_, fun e => ?_, fun e => ?_, fun e => ?_, fun e => ?_, fun e => ?_, fun e => ?_, fun e => ?_, fun e => ?_, fun e => ?_, fun e => ?_, fun e => ?_, fun e => ?_, fun e => ?_, fun e => ?_, fun e => ?_, fun e => ?_, fun e => ?_, fun e => ?_, fun e => ?_, fun e => ?_, fun e => ?_⟩
  · refine ⟨fun g => ?_, fun g => ?_⟩
    · have es : selW T L a = 1 := by unfold selW; rw [if_pos ha, if_neg (by rw [e]; decide), if_pos e, if_neg (fun z => g ((hv 114 (by decide)).mpr z))]
      rw [es, if_neg (by decide), if_pos (show 1 < 7 by decide)] at hr
      exact X6_wc_s (w := 1) (s := 13) (R := R) (c := nI 1) (by decide) (ref_tab 1 (by decide) 13 (by decide) rfl rfl).1 (ref_tab 1 (by decide) 13 (by decide) rfl rfl).2 h hr
    · have es : selW T L a = 9 := by unfold selW; rw [if_pos ha, if_neg (by rw [e]; decide), if_pos e, if_pos ((hv 114 (by decide)).mp g)]
      rw [es, if_neg (by decide), if_neg (show ¬ 9 < 7 by decide)] at hr
      exact X6_meas_s (w := 9) (s := 12) (R := R) (by decide) (by decide) (ref_tab 9 (by decide) 12 (by decide) rfl rfl).1 (ref_tab 9 (by decide) 12 (by decide) rfl rfl).2 h hr
  · have es : selW T L a = 2 := by unfold selW; rw [if_pos ha, if_neg (by rw [e]; decide), if_neg (by rw [e]; decide), if_pos e]
    rw [es, if_neg (by decide), if_pos (show 2 < 7 by decide)] at hr
    exact X6_wc_s (w := 2) (s := 14) (R := R) (c := nI 2) (by decide) (ref_tab 2 (by decide) 14 (by decide) rfl rfl).1 (ref_tab 2 (by decide) 14 (by decide) rfl rfl).2 h hr
  · have es : selW T L a = 10 := by unfold selW; rw [if_pos ha, if_neg (by rw [e]; decide), if_neg (by rw [e]; decide), if_neg (by rw [e]; decide), if_neg (by rw [e]; decide), if_neg (by rw [e]; decide), if_neg (by rw [e]; decide), if_neg (by rw [e]; decide), if_neg (by rw [e]; decide)]
    rw [es, if_pos rfl] at hr
    exact hr S ChgM.refl h.2.2.2.1
  · have es : selW T L a = 4 := by unfold selW; rw [if_pos ha, if_neg (by rw [e]; decide), if_neg (by rw [e]; decide), if_neg (by rw [e]; decide), if_neg (by rw [e]; decide), if_pos e]
    rw [es, if_neg (by decide), if_pos (show 4 < 7 by decide)] at hr
    exact X6_wc_s (w := 4) (s := 16) (R := R) (c := nI 4) (by decide) (ref_tab 4 (by decide) 16 (by decide) rfl rfl).1 (ref_tab 4 (by decide) 16 (by decide) rfl rfl).2 h hr
  · have es : selW T L a = 10 := by unfold selW; rw [if_pos ha, if_neg (by rw [e]; decide), if_neg (by rw [e]; decide), if_neg (by rw [e]; decide), if_neg (by rw [e]; decide), if_neg (by rw [e]; decide), if_neg (by rw [e]; decide), if_neg (by rw [e]; decide), if_neg (by rw [e]; decide)]
    rw [es, if_pos rfl] at hr
    exact hr S ChgM.refl h.2.2.2.1
  · have es : selW T L a = 10 := by unfold selW; rw [if_pos ha, if_neg (by rw [e]; decide), if_neg (by rw [e]; decide), if_neg (by rw [e]; decide), if_neg (by rw [e]; decide), if_neg (by rw [e]; decide), if_neg (by rw [e]; decide), if_neg (by rw [e]; decide), if_neg (by rw [e]; decide)]
    rw [es, if_pos rfl] at hr
    exact hr S ChgM.refl h.2.2.2.1
  · have es : selW T L a = 10 := by unfold selW; rw [if_pos ha, if_neg (by rw [e]; decide), if_neg (by rw [e]; decide), if_neg (by rw [e]; decide), if_neg (by rw [e]; decide), if_neg (by rw [e]; decide), if_neg (by rw [e]; decide), if_neg (by rw [e]; decide), if_neg (by rw [e]; decide)]
    rw [es, if_pos rfl] at hr
    exact hr S ChgM.refl h.2.2.2.1
  · have es : selW T L a = 10 := by unfold selW; rw [if_pos ha, if_neg (by rw [e]; decide), if_neg (by rw [e]; decide), if_neg (by rw [e]; decide), if_neg (by rw [e]; decide), if_neg (by rw [e]; decide), if_neg (by rw [e]; decide), if_neg (by rw [e]; decide), if_neg (by rw [e]; decide)]
    rw [es, if_pos rfl] at hr
    exact hr S ChgM.refl h.2.2.2.1
  · have es : selW T L a = 10 := by unfold selW; rw [if_pos ha, if_neg (by rw [e]; decide), if_neg (by rw [e]; decide), if_neg (by rw [e]; decide), if_neg (by rw [e]; decide), if_neg (by rw [e]; decide), if_neg (by rw [e]; decide), if_neg (by rw [e]; decide), if_neg (by rw [e]; decide)]
    rw [es, if_pos rfl] at hr
    exact hr S ChgM.refl h.2.2.2.1
  · have es : selW T L a = 8 := by unfold selW; rw [if_pos ha, if_neg (by rw [e]; decide), if_neg (by rw [e]; decide), if_neg (by rw [e]; decide), if_neg (by rw [e]; decide), if_neg (by rw [e]; decide), if_neg (by rw [e]; decide), if_neg (by rw [e]; decide), if_pos e]
    rw [es, if_neg (by decide), if_neg (show ¬ 8 < 7 by decide)] at hr
    exact X6_meas_s (w := 8) (s := 19) (R := R) (by decide) (by decide) (ref_tab 8 (by decide) 19 (by decide) rfl rfl).1 (ref_tab 8 (by decide) 19 (by decide) rfl rfl).2 h hr
  · have es : selW T L a = 10 := by unfold selW; rw [if_pos ha, if_neg (by rw [e]; decide), if_neg (by rw [e]; decide), if_neg (by rw [e]; decide), if_neg (by rw [e]; decide), if_neg (by rw [e]; decide), if_neg (by rw [e]; decide), if_neg (by rw [e]; decide), if_neg (by rw [e]; decide)]
    rw [es, if_pos rfl] at hr
    exact hr S ChgM.refl h.2.2.2.1
  · have es : selW T L a = 3 := by unfold selW; rw [if_pos ha, if_neg (by rw [e]; decide), if_neg (by rw [e]; decide), if_neg (by rw [e]; decide), if_pos e]
    rw [es, if_neg (by decide), if_pos (show 3 < 7 by decide)] at hr
    exact X6_wc_s (w := 3) (s := 15) (R := R) (c := nI 3) (by decide) (ref_tab 3 (by decide) 15 (by decide) rfl rfl).1 (ref_tab 3 (by decide) 15 (by decide) rfl rfl).2 h hr
  · have es : selW T L a = 6 := by unfold selW; rw [if_pos ha, if_neg (by rw [e]; decide), if_neg (by rw [e]; decide), if_neg (by rw [e]; decide), if_neg (by rw [e]; decide), if_neg (by rw [e]; decide), if_neg (by rw [e]; decide), if_pos e]
    rw [es, if_neg (by decide), if_pos (show 6 < 7 by decide)] at hr
    exact X6_wc_s (w := 6) (s := 18) (R := R) (c := nI 6) (by decide) (ref_tab 6 (by decide) 18 (by decide) rfl rfl).1 (ref_tab 6 (by decide) 18 (by decide) rfl rfl).2 h hr
  · have es : selW T L a = 10 := by unfold selW; rw [if_pos ha, if_neg (by rw [e]; decide), if_neg (by rw [e]; decide), if_neg (by rw [e]; decide), if_neg (by rw [e]; decide), if_neg (by rw [e]; decide), if_neg (by rw [e]; decide), if_neg (by rw [e]; decide), if_neg (by rw [e]; decide)]
    rw [es, if_pos rfl] at hr
    exact hr S ChgM.refl h.2.2.2.1
  · have es : selW T L a = 10 := by unfold selW; rw [if_pos ha, if_neg (by rw [e]; decide), if_neg (by rw [e]; decide), if_neg (by rw [e]; decide), if_neg (by rw [e]; decide), if_neg (by rw [e]; decide), if_neg (by rw [e]; decide), if_neg (by rw [e]; decide), if_neg (by rw [e]; decide)]
    rw [es, if_pos rfl] at hr
    exact hr S ChgM.refl h.2.2.2.1
  · have es : selW T L a = 10 := by unfold selW; rw [if_pos ha, if_neg (by rw [e]; decide), if_neg (by rw [e]; decide), if_neg (by rw [e]; decide), if_neg (by rw [e]; decide), if_neg (by rw [e]; decide), if_neg (by rw [e]; decide), if_neg (by rw [e]; decide), if_neg (by rw [e]; decide)]
    rw [es, if_pos rfl] at hr
    exact hr S ChgM.refl h.2.2.2.1
  · have es : selW T L a = 5 := by unfold selW; rw [if_pos ha, if_neg (by rw [e]; decide), if_neg (by rw [e]; decide), if_neg (by rw [e]; decide), if_neg (by rw [e]; decide), if_neg (by rw [e]; decide), if_pos e]
    rw [es, if_neg (by decide), if_pos (show 5 < 7 by decide)] at hr
    exact X6_wc_s (w := 5) (s := 17) (R := R) (c := nI 5) (by decide) (ref_tab 5 (by decide) 17 (by decide) rfl rfl).1 (ref_tab 5 (by decide) 17 (by decide) rfl rfl).2 h hr
  · have es : selW T L a = 10 := by unfold selW; rw [if_pos ha, if_neg (by rw [e]; decide), if_neg (by rw [e]; decide), if_neg (by rw [e]; decide), if_neg (by rw [e]; decide), if_neg (by rw [e]; decide), if_neg (by rw [e]; decide), if_neg (by rw [e]; decide), if_neg (by rw [e]; decide)]
    rw [es, if_pos rfl] at hr
    exact hr S ChgM.refl h.2.2.2.1
  · have es : selW T L a = 10 := by unfold selW; rw [if_pos ha, if_neg (by rw [e]; decide), if_neg (by rw [e]; decide), if_neg (by rw [e]; decide), if_neg (by rw [e]; decide), if_neg (by rw [e]; decide), if_neg (by rw [e]; decide), if_neg (by rw [e]; decide), if_neg (by rw [e]; decide)]
    rw [es, if_pos rfl] at hr
    exact hr S ChgM.refl h.2.2.2.1
  · have es : selW T L a = 10 := by unfold selW; rw [if_pos ha, if_neg (by rw [e]; decide), if_neg (by rw [e]; decide), if_neg (by rw [e]; decide), if_neg (by rw [e]; decide), if_neg (by rw [e]; decide), if_neg (by rw [e]; decide), if_neg (by rw [e]; decide), if_neg (by rw [e]; decide)]
    rw [es, if_pos rfl] at hr
    exact hr S ChgM.refl h.2.2.2.1
  · refine ⟨fun g => ?_, fun g => ?_⟩
    · have es : selW T L a = 0 := by unfold selW; rw [if_pos ha, if_pos e, if_neg (fun z => g ((hv 101 (by decide)).mpr z))]
      rw [es, if_neg (by decide), if_pos (show 0 < 7 by decide)] at hr
      exact X6_wc_s (w := 0) (s := 11) (R := R) (c := nI 0) (by decide) (ref_tab 0 (by decide) 11 (by decide) rfl rfl).1 (ref_tab 0 (by decide) 11 (by decide) rfl rfl).2 h hr
    · have es : selW T L a = 7 := by unfold selW; rw [if_pos ha, if_pos e, if_pos ((hv 101 (by decide)).mp g)]
      rw [es, if_neg (by decide), if_neg (show ¬ 7 < 7 by decide)] at hr
      exact X6_meas_s (w := 7) (s := 10) (R := R) (by decide) (by decide) (ref_tab 7 (by decide) 10 (by decide) rfl rfl).1 (ref_tab 7 (by decide) 10 (by decide) rfl rfl).2 h hr
  · obtain ⟨n99, n100, n101, n102, n103, n104, n105, n106, n107, n108, n109, n110, n111, n112, n113, n114, n115, n116, n117, n118, n119⟩ := e
    have es : selW T L a = 10 := by unfold selW; rw [if_pos ha, if_neg n119, if_neg n99, if_neg n100, if_neg n110, if_neg n102, if_neg n115, if_neg n111, if_neg n108]
    rw [es, if_pos rfl] at hr
    exact hr S ChgM.refl h.2.2.2.1
def RSpec (mo : (Int32 → Mem → Prop) → Mem → Prop) (po : Nat → Res) (T : Txt) (L o : Nat) : Prop := ∀ (post : Int32 → Mem → Prop) (S : Mem) (a : Nat) (pre : List Int32), HM T L S a o pre → RQ post T L S o pre (po a) → mo post S
theorem X6_part_b9_s {post : Int32 → Mem → Prop} {mo : (Int32 → Mem → Prop) → Mem → Prop} {po : Nat → Res} {T : Txt} {L o a0 : Nat} {R : Row} {pre : List Int32} (hm : RSpec mo po T L o) (hg : ∀ p, p ≤ L → Good L R p (po p)) (hpre : pre.length ≤ a0) : ∀ (m k p : Nat) (cs : List Int32) (f : Nat → Bool) (S : Mem), k + m = 60 → k ≤ p → a0 + cs.length ≤ p → HM T L S p o (pre ++ cs) → RQ post T L S o pre (binL po T L 43 101 and m p cs f) → mX6_part_b9 mo post (m + 1) S := by
  intro m
  induction m with
  | zero =>
    intro k p cs f S hk hkp hcs h hc
    unfold mX6_part_b9
    have hL := h.2.1
    refine X6_takes_s h (fun g => absurd g.1 (by omega)) (fun _ => ⟨fun _ => hc S ChgM.refl h, fun z => absurd rfl z⟩)
  | succ m ih =>
    intro k p cs f S hk hkp hcs h hc
    unfold mX6_part_b9
    unfold binL at hc
    refine X6_takes_s h (fun g => ⟨fun z => ne10 z, fun _ => ?_⟩) (fun g => ⟨fun _ => ?_, fun z => absurd rfl z⟩)
    · have g' : p < L ∧ T p = 43 := g
      rw [if_pos g'] at hc
      have gp := hg (p + 1) g.1
      have h2 := h.at (a' := p + 1) g.1 (by omega)
      refine hm _ _ (p + 1) _ h2 ?_
      generalize po (p + 1) = r at hc gp ⊢
      obtain ⟨p2, o2⟩ := r
      cases o2 with
      | none => exact fun S' c hf => ⟨fun _ => hc S' ((ChgM.w (Or.inl rfl)).trans c) hf, fun z => absurd rfl z⟩
      | some x =>
        intro S' c hq
        obtain ⟨g1, g2, -⟩ := gp.2 x rfl
        have g1 : p + 1 + x.1.length ≤ p2 := g1
        have hq : HM T L S' p2 o (pre ++ cs ++ x.1) := hq
        have el : (pre ++ cs ++ x.1).length = pre.length + cs.length + x.1.length := by rw [List.length_append, List.length_append]
        refine ⟨fun z => ne10 z, fun _ => X6_codes_s hq (by rw [el]; omega) (fun S3 c3 h3 => ⟨fun _ => ?_, fun z => ne10 z⟩)⟩
        have el2 : (cs ++ x.1 ++ [101]).length = cs.length + x.1.length + 1 := by rw [List.length_append, List.length_append]; rfl
        have ea : pre ++ cs ++ x.1 ++ [101] = pre ++ (cs ++ x.1 ++ [101]) := by simp only [List.append_assoc]
        rw [ea] at h3
        exact ih (k + 1) p2 _ _ S3 (by omega) (by omega) (by rw [el2]; omega) h3 (RQ.mono (((ChgM.w (Or.inl rfl)).trans c).trans c3) hc)
    · have g' : ¬ (p < L ∧ T p = 43) := g
      rw [if_neg g'] at hc
      exact hc S ChgM.refl h
theorem X6_part_c {mo : (Int32 → Mem → Prop) → Mem → Prop} {po : Nat → Res} {T : Txt} {L o : Nat} {R : Row} (hm : RSpec mo po T L o) (hg : ∀ p, p ≤ L → Good L R p (po p)) : RSpec (mX6_part mo) (binP po T L 43 101 and) T L o := by
  intro post S a pre h hc
  unfold mX6_part
  refine hm _ S a pre h ?_
  have gp := hg a h.1
  unfold binP at hc
  generalize po a = r at hc gp ⊢
  obtain ⟨p2, o2⟩ := r
  cases o2 with
  | none => exact fun S' c hf => ⟨fun z => absurd rfl z, fun _ => hc S' c hf⟩
  | some x =>
    intro S' c hq
    obtain ⟨g1, g2, -⟩ := gp.2 x rfl
    exact ⟨fun _ => ⟨61, X6_part_b9_s hm hg h.2.2.2.2.2.2.1 60 0 p2 x.1 x.2 S' (by decide) (Nat.zero_le _) g1 hq (RQ.mono c hc)⟩, fun z => ne10 z⟩
theorem X6_que_b9_s {post : Int32 → Mem → Prop} {mo : (Int32 → Mem → Prop) → Mem → Prop} {po : Nat → Res} {T : Txt} {L o a0 : Nat} {R : Row} {pre : List Int32} (hm : RSpec (mX6_part mo) po T L o) (hg : ∀ p, p ≤ L → Good L R p (po p)) (hpre : pre.length ≤ a0) : ∀ (m k p : Nat) (cs : List Int32) (f : Nat → Bool) (S : Mem), k + m = 60 → k ≤ p → a0 + cs.length ≤ p → HM T L S p o (pre ++ cs) → RQ post T L S o pre (binL po T L 47 102 or m p cs f) → mX6_question_b9 mo post (m + 1) S := by
  intro m
  induction m with
  | zero =>
    intro k p cs f S hk hkp hcs h hc
    unfold mX6_question_b9
    have hL := h.2.1
    refine X6_takes_s h (fun g => absurd g.1 (by omega)) (fun _ => ⟨fun _ => hc S ChgM.refl h, fun z => absurd rfl z⟩)
  | succ m ih =>
    intro k p cs f S hk hkp hcs h hc
    unfold mX6_question_b9
    unfold binL at hc
    refine X6_takes_s h (fun g => ⟨fun z => ne10 z, fun _ => ?_⟩) (fun g => ⟨fun _ => ?_, fun z => absurd rfl z⟩)
    · have g' : p < L ∧ T p = 47 := g
      rw [if_pos g'] at hc
      have gp := hg (p + 1) g.1
      have h2 := h.at (a' := p + 1) g.1 (by omega)
      refine hm _ _ (p + 1) _ h2 ?_
      generalize po (p + 1) = r at hc gp ⊢
      obtain ⟨p2, o2⟩ := r
      cases o2 with
      | none => exact fun S' c hf => ⟨fun _ => hc S' ((ChgM.w (Or.inl rfl)).trans c) hf, fun z => absurd rfl z⟩
      | some x =>
        intro S' c hq
        obtain ⟨g1, g2, -⟩ := gp.2 x rfl
        have g1 : p + 1 + x.1.length ≤ p2 := g1
        have hq : HM T L S' p2 o (pre ++ cs ++ x.1) := hq
        have el : (pre ++ cs ++ x.1).length = pre.length + cs.length + x.1.length := by rw [List.length_append, List.length_append]
        refine ⟨fun z => ne10 z, fun _ => X6_codes_s hq (by rw [el]; omega) (fun S3 c3 h3 => ⟨fun _ => ?_, fun z => ne10 z⟩)⟩
        have el2 : (cs ++ x.1 ++ [102]).length = cs.length + x.1.length + 1 := by rw [List.length_append, List.length_append]; rfl
        have ea : pre ++ cs ++ x.1 ++ [102] = pre ++ (cs ++ x.1 ++ [102]) := by simp only [List.append_assoc]
        rw [ea] at h3
        exact ih (k + 1) p2 _ _ S3 (by omega) (by omega) (by rw [el2]; omega) h3 (RQ.mono (((ChgM.w (Or.inl rfl)).trans c).trans c3) hc)
    · have g' : ¬ (p < L ∧ T p = 47) := g
      rw [if_neg g'] at hc
      exact hc S ChgM.refl h
theorem X6_que_c {mo : (Int32 → Mem → Prop) → Mem → Prop} {po : Nat → Res} {T : Txt} {L o : Nat} {R : Row} (hm : RSpec mo po T L o) (hg : ∀ p, p ≤ L → Good L R p (po p)) : RSpec (mX6_question mo) (queP po T L) T L o := by
  intro post S a pre h hc
  have hp := X6_part_c hm hg
  have hg2 : ∀ p, p ≤ L → Good L R p (binP po T L 43 101 and p) := fun p h => good_binP op_and hg h
  unfold mX6_question
  refine hp _ S a pre h ?_
  have gp := hg2 a h.1
  unfold queP at hc
  revert hc gp hp hg2
  generalize binP po T L 43 101 and = po2
  intro hc hp hg2 gp
  unfold binP at hc
  generalize po2 a = r at hc gp ⊢
  obtain ⟨p2, o2⟩ := r
  cases o2 with
  | none => exact fun S' c hf => ⟨fun z => absurd rfl z, fun _ => hc S' c hf⟩
  | some x =>
    intro S' c hq
    obtain ⟨g1, g2, -⟩ := gp.2 x rfl
    exact ⟨fun _ => ⟨61, X6_que_b9_s hp hg2 h.2.2.2.2.2.2.1 60 0 p2 x.1 x.2 S' (by decide) (Nat.zero_le _) g1 hq (RQ.mono c hc)⟩, fun z => ne10 z⟩
theorem b103_s {mo : (Int32 → Mem → Prop) → Mem → Prop} {post : Int32 → Mem → Prop} {S : Mem} {v : Int32} (hv : isB v) (h : post v (wr S 10 0 12 (S 10 0 12 - 1))) : mX6_one_b103 mo post S v := by
  unfold mX6_one_b103
  intro S1 e
  rw [e]
  exact ⟨hv, h⟩
theorem X6_b18one_s {post : Int32 → Mem → Prop} {mo : (Int32 → Mem → Prop) → Mem → Prop} {T : Txt} {L d o a : Nat} {R : Row} {S : Mem} {pre : List Int32} (hm : o < 4 → RSpec mo (oneP T L R d (o + 1)) T L (o + 1)) (ho : o ≤ 4) (h : HM T L S a o pre) (hx : isNx T L a 45 ∨ isNx T L a 91) (hr : RQ post T L S o pre (oneP T L R (d + 1) o a)) : mX6_one_b18 mo post S := by
  have hL := h.2.1
  have pl := h.2.2.2.2.2.2.1
  unfold oneP at hr
  unfold mX6_one_b18
  rw [h.2.2.2.2.1]
  refine ⟨fun g S2 e2 => ?_, fun g => ?_⟩
  · have o4 : o < 4 := by
      rcases Nat.lt_or_ge o 4 with z | z
      · exact z
      · exact absurd (show nI o = 4 by rw [show o = 4 by omega]; rfl) g
    have hm := hm o4
    rw [inc] at e2
    have h2 := h.op (o' := o + 1)
    have c2 : ChgM S (wr S 10 0 12 (nI (o + 1))) := ChgM.w (Or.inr (Or.inl rfl))
    rw [← e2] at h2 c2
    have z103 : ∀ S' : Mem, ChgM S S' → (∀ S1 : Mem, ChgM S S1 → S1 10 0 11 = S' 10 0 11 → post 0 S1) → mX6_one_b103 mo post S' 0 := fun S' c k => b103_s (Or.inl rfl) (k _ (c.trans (ChgM.w (Or.inr (Or.inl rfl)))) (wr_k (by decide)))
    have o103 : ∀ (S' : Mem) (p : Nat) (pre2 : List Int32), ChgM S S' → HM T L S' p (o + 1) pre2 → (∀ S1 : Mem, ChgM S S1 → HM T L S1 p o pre2 → post 1 S1) → mX6_one_b103 mo post S' 1 := fun S' p pre2 c hq k => by
      refine b103_s (Or.inr rfl) ?_
      rw [hq.2.2.2.2.1, nI_pred]
      exact k _ (c.trans (ChgM.w (Or.inr (Or.inl rfl)))) hq.op
    by_cases g1 : a < L ∧ T a = 45
    · rw [if_pos g1, if_pos o4] at hr
      have gd := good_one (T := T) (L := L) (R := R) d (o + 1) (a + 1) g1.1
      refine X6_takes_s h2 (fun _ => ⟨fun z => ne10 z, fun _ => ?_⟩) (fun g => absurd g1 g)
      have h3 := h2.at (a' := a + 1) g1.1 (by omega)
      have c3 : ChgM S (wr S2 10 0 11 (nI (a + 1))) := c2.trans (ChgM.w (Or.inl rfl))
      refine hm _ _ (a + 1) pre h3 ?_
      generalize oneP T L R d (o + 1) (a + 1) = r at hr gd ⊢
      obtain ⟨p2, o2⟩ := r
      cases o2 with
      | none => exact fun S' c hf => ⟨fun _ => z103 S' (c3.trans c) (fun S1 c1 e1 => hr S1 c1 (e1.trans hf)), fun z => absurd rfl z⟩
      | some x =>
        intro S' c hq
        obtain ⟨y1, y2, -⟩ := gd.2 x rfl
        have y1 : a + 1 + x.1.length ≤ p2 := y1
        have hq : HM T L S' p2 (o + 1) (pre ++ x.1) := hq
        refine ⟨fun z => ne10 z, fun _ => X6_codes_s hq (by rw [List.length_append]; omega) (fun S3 c4 h4 => ⟨fun z => ne10 z, fun _ => o103 S3 p2 _ ((c3.trans c).trans c4) h4 (fun S1 c1 h5 => ?_)⟩)⟩
        rw [List.append_assoc] at h5
        exact hr S1 c1 h5
    · have g2 : a < L ∧ T a = 91 := hx.resolve_left g1
      rw [if_neg g1, if_pos g2, if_pos o4] at hr
      have gd : Good L R (a + 1) (queP (oneP T L R d (o + 1)) T L (a + 1)) := good_binP op_or (fun p hp => good_binP op_and (fun p hp => good_one d (o + 1) p hp) hp) g2.1
      refine X6_takes_s h2 (fun g => absurd g g1) (fun _ => ⟨fun _ => X6_takes_s h2 (fun _ => ⟨fun z => ne10 z, fun _ => ?_⟩) (fun g => absurd g2 g), fun z => absurd rfl z⟩)
      have h3 := h2.at (a' := a + 1) g2.1 (by omega)
      have c3 : ChgM S (wr S2 10 0 11 (nI (a + 1))) := c2.trans (ChgM.w (Or.inl rfl))
      refine X6_que_c hm (fun p hp => good_one d (o + 1) p hp) _ _ (a + 1) pre h3 ?_
      generalize queP (oneP T L R d (o + 1)) T L (a + 1) = r at hr gd ⊢
      obtain ⟨p2, o2⟩ := r
      cases o2 with
      | none => exact fun S' c hf => ⟨fun _ => z103 S' (c3.trans c) (fun S1 c1 e1 => hr S1 c1 (e1.trans hf)), fun z => absurd rfl z⟩
      | some x =>
        intro S' c hq
        have hq : HM T L S' p2 (o + 1) (pre ++ x.1) := hq
        have hr : RQ post T L S o pre (if p2 < L ∧ T p2 = 93 then (p2 + 1, some x) else (p2, none)) := hr
        refine ⟨fun z => ne10 z, fun _ => X6_takes_s hq (fun g => ⟨fun z => ne10 z, fun _ => ?_⟩) (fun g => ⟨fun _ => ?_, fun z => absurd rfl z⟩)⟩
        · have g' : p2 < L ∧ T p2 = 93 := g
          rw [if_pos g'] at hr
          exact o103 _ (p2 + 1) _ ((c3.trans c).trans (ChgM.w (Or.inl rfl))) (hq.at g.1 (by omega)) (fun S1 c1 h5 => hr S1 c1 h5)
        · have g' : ¬ (p2 < L ∧ T p2 = 93) := g
          rw [if_neg g'] at hr
          exact z103 S' (c3.trans c) (fun S1 c1 e1 => hr S1 c1 (e1.trans hq.2.2.2.1))
  · have o4 : ¬ o < 4 := fun z => by
      have := (nI_eq (b := 4) (by omega) (by decide)).mp g
      omega
    have hr : RQ post T L S o pre (a, none) := by
      by_cases g1 : a < L ∧ T a = 45
      · rw [if_pos g1, if_neg o4] at hr
        exact hr
      · have g2 : a < L ∧ T a = 91 := hx.resolve_left g1
        rw [if_neg g1, if_pos g2, if_neg o4] at hr
        exact hr
    exact hr S ChgM.refl h.2.2.2.1
theorem X6_one_c {T : Txt} {L : Nat} {R : Row} : ∀ (d o : Nat), 5 ≤ d + o → o ≤ 4 → RSpec (mX6_one d) (oneP T L R d o) T L o := by
  intro d
  induction d with
  | zero => intro o h1 h2; omega
  | succ d ih =>
    intro o h1 h2 post S a pre h hr
    have hL := h.2.1
    have haL := h.1
    have hm : o < 4 → RSpec (mX6_one d) (oneP T L R d (o + 1)) T L (o + 1) := fun z => ih (o + 1) (by omega) (by omega)
    unfold mX6_one
    refine X6_isNext_s h (fun g => ⟨fun _ => X6_b18one_s hm h2 h (Or.inl g) hr, fun z => ne10 z⟩) (fun g => ⟨fun z => absurd rfl z, fun _ => X6_isNext_s h (fun g2 => ⟨fun z => ne10 z, fun _ => X6_b18one_s hm h2 h (Or.inr g2) hr⟩) (fun g2 => ⟨fun _ => ?_, fun z => absurd rfl z⟩)⟩)
    have g' : ¬ (a < L ∧ T a = 45) := g
    have g2' : ¬ (a < L ∧ T a = 91) := g2
    unfold oneP at hr
    rw [if_neg g', if_neg g2'] at hr
    rw [h.2.2.2.1, h.2.2.1, inc]
    refine ⟨fun y => ?_, fun y => ?_⟩
    · have ha : a < L := by
        rcases Nat.lt_or_ge a L with z | z
        · exact z
        · exact absurd (show nI a = nI L by rw [show a = L by omega]) y
      refine ⟨fun z => X6_b157_s h ha (fun c hc => ?_) hr, fun z => ?_⟩
      · have : L ≤ a + 1 := (nI_leI (by omega) (by omega)).mp z
        exact ⟨fun q => absurd q.symm hc, fun q => absurd q.1 (by omega)⟩
      · have a1 : a + 1 < L := by
          rcases Nat.lt_or_ge (a + 1) L with q | q
          · exact q
          · exact absurd (nI_le q (by omega)) z
        rw [nI_clamp (by omega), h.2.2.2.2.2.2.2.1 (a + 1) a1]
        exact ⟨vpN (by omega) (by decide), X6_b157_s h ha (fun c _ => ⟨fun q => ⟨a1, q⟩, fun q => q.2⟩) hr⟩
    · have : a = L := (nI_eq (by omega) (by omega)).mp y
      have e10 : selW T L a = 10 := by unfold selW; rw [if_neg (by omega)]
      unfold compP at hr
      rw [if_pos e10] at hr
      exact hr S ChgM.refl h.2.2.2.1
