/-! questions: how they are read -/
abbrev Txt : Type := Nat → Int32
abbrev Res : Type := Nat × Option (List Int32 × (Nat → Bool))
/-- how many letters of the word w stand at a -/
def alF (T : Txt) (L a w : Nat) : Nat → Nat → Nat
  | 0, i => i
  | m + 1, i => if a + i < L ∧ T (a + i) = chS w (nI i) then alF T L a w m (i + 1) else i
def al (T : Txt) (L a w : Nat) : Nat := alF T L a w (lnN w) 0
def isNx (T : Txt) (L a : Nat) (c : Int32) : Prop := a < L ∧ T a = c
/-- the word that can stand at a, 10 for none -/
def selW (T : Txt) (L a : Nat) : Nat :=
  if a < L then (if T a = 119 then (if a + 1 < L ∧ T (a + 1) = 101 then 7 else 0) else if T a = 99 then (if a + 1 < L ∧ T (a + 1) = 114 then 9 else 1) else if T a = 100 then 2 else if T a = 110 then 3 else if T a = 102 then 4 else if T a = 115 then 5 else if T a = 111 then 6 else if T a = 108 then 8 else 10) else 10
theorem alF_ge {T : Txt} {L a w : Nat} : ∀ (m i : Nat), i ≤ alF T L a w m i ∧ alF T L a w m i ≤ i + m := by
  intro m
  induction m with
  | zero => intro i; exact ⟨Nat.le_refl _, Nat.le_refl _⟩
  | succ m ih =>
    intro i
    unfold alF
    split
    · have := ih (i + 1)
      omega
    · omega
theorem alF_at {T : Txt} {L a w : Nat} : ∀ (m i k : Nat), i ≤ k → k < alF T L a w m i → a + k < L ∧ T (a + k) = chS w (nI k) := by
  intro m
  induction m with
  | zero =>
    intro i k h1 h2
    unfold alF at h2
    omega
  | succ m ih =>
    intro i k h1 h2
    unfold alF at h2
    split at h2
    · rename_i g
      by_cases e : k = i
      · subst e; exact g
      · exact ih (i + 1) k (by omega) h2
    · omega
theorem al_le {T : Txt} {L a w : Nat} : al T L a w ≤ lnN w := by
  have := (alF_ge (T := T) (L := L) (a := a) (w := w) (lnN w) 0).2
  unfold al
  omega
theorem al_at {T : Txt} {L a w k : Nat} (h : k < al T L a w) : a + k < L ∧ T (a + k) = chS w (nI k) := alF_at (lnN w) 0 k (Nat.zero_le k) h
theorem al_end {T : Txt} {L a w : Nat} (h : a ≤ L) : a + al T L a w ≤ L := by
  cases e : al T L a w with
  | zero => omega
  | succ k =>
    have := (al_at (T := T) (L := L) (a := a) (w := w) (k := k) (by omega)).1
    omega
theorem ln_tab : ∀ w, w < 10 → 3 ≤ lnN w ∧ lnN w ≤ 7 := by decide +kernel
theorem ch_tab : chS 0 0 = 119 ∧ chS 1 0 = 99 ∧ chS 2 0 = 100 ∧ chS 3 0 = 110 ∧ chS 4 0 = 102 ∧ chS 5 0 = 115 ∧ chS 6 0 = 111 ∧ chS 7 0 = 119 ∧ chS 8 0 = 108 ∧ chS 9 0 = 99 ∧ chS 0 1 = 97 ∧ chS 7 1 = 101 ∧ chS 1 1 = 97 ∧ chS 9 1 = 114 := by decide +kernel
theorem al_pos {T : Txt} {L a w : Nat} (hw : w < 10) (h : a < L ∧ T a = chS w 0) : 1 ≤ al T L a w := by
  have := (ln_tab w hw).1
  unfold al
  obtain ⟨m, em⟩ : ∃ m, lnN w = m + 1 := ⟨lnN w - 1, by omega⟩
  rw [em]
  unfold alF
  rw [if_pos (show a + 0 < L ∧ T (a + 0) = chS w (nI 0) from h)]
  exact (alF_ge m (0 + 1)).1
theorem al_two {T : Txt} {L a w : Nat} (hw : w < 10) (h : a < L ∧ T a = chS w 0) (h2 : a + 1 < L ∧ T (a + 1) = chS w 1) : 2 ≤ al T L a w := by
  have := (ln_tab w hw).1
  unfold al
  obtain ⟨m, em⟩ : ∃ m, lnN w = m + 1 + 1 := ⟨lnN w - 2, by omega⟩
  rw [em]
  unfold alF
  rw [if_pos (show a + 0 < L ∧ T (a + 0) = chS w (nI 0) from h)]
  unfold alF
  rw [if_pos (show a + (0 + 1) < L ∧ T (a + (0 + 1)) = chS w (nI (0 + 1)) from h2)]
  exact (alF_ge m (0 + 1 + 1)).1
theorem al_one {T : Txt} {L a w : Nat} (h : ¬ (a + 1 < L ∧ T (a + 1) = chS w 1)) : al T L a w ≤ 1 := by
  rcases Nat.lt_or_ge 1 (al T L a w) with g | g
  · exact absurd (al_at g) h
  · exact g
theorem al_zero {T : Txt} {L a w : Nat} (h : ¬ (a < L ∧ T a = chS w 0)) : al T L a w = 0 := by
  rcases Nat.lt_or_ge 0 (al T L a w) with g | g
  · exact absurd (al_at g) h
  · omega
/-- no other word has more letters there than the one that is chosen -/
theorem sel_al {T : Txt} {L a : Nat} : (selW T L a < 10 ∨ selW T L a = 10) ∧ (∀ w, w < 10 → selW T L a = 10 → al T L a w = 0) ∧ (∀ w, w < 10 → selW T L a < 10 → w ≠ selW T L a → al T L a w ≤ 1 ∧ al T L a w ≤ al T L a (selW T L a)) := by
  obtain ⟨d0, d1, d2, d3, d4, d5, d6, d7, d8, d9, e0, e7, e1, e9⟩ := ch_tab
  have first : ∀ w, w < 10 → ∀ x : Int32, T a = x → chS w 0 ≠ x → al T L a w = 0 := fun w hw x hx hne => al_zero (fun z => hne (z.2.symm.trans hx))
  have ten : ∀ w : Nat, w < 10 → w = 0 ∨ w = 1 ∨ w = 2 ∨ w = 3 ∨ w = 4 ∨ w = 5 ∨ w = 6 ∨ w = 7 ∨ w = 8 ∨ w = 9 := fun w hw => by omega
  by_cases ha : a < L
  · by_cases g0 : T a = 119
    · have z : ∀ w, w < 10 → w ≠ 0 → w ≠ 7 → al T L a w = 0 := fun w hw n0 n7 => by
        refine first w hw _ g0 ?_
        rcases ten w hw with rfl | rfl | rfl | rfl | rfl | rfl | rfl | rfl | rfl | rfl
        · exact absurd rfl n0
        · rw [d1]; decide
        · rw [d2]; decide
        · rw [d3]; decide
        · rw [d4]; decide
        · rw [d5]; decide
        · rw [d6]; decide
        · exact absurd rfl n7
        · rw [d8]; decide
        · rw [d9]; decide
      by_cases g1 : a + 1 < L ∧ T (a + 1) = 101
      · have es : selW T L a = 7 := by unfold selW; rw [if_pos ha, if_pos g0, if_pos g1]
        rw [es]
        refine ⟨Or.inl (by decide), fun _ _ h => absurd h (by decide), fun w hw _ hne => ?_⟩
        by_cases w0 : w = 0
        · subst w0
          have h1 : al T L a 0 ≤ 1 := al_one (fun q => by rw [e0, g1.2] at q; exact absurd q.2 (by decide))
          have h2 := al_pos (w := 7) (by decide) ⟨ha, g0.trans d7.symm⟩
          omega
        · rw [z w hw w0 hne]
          omega
      · have es : selW T L a = 0 := by unfold selW; rw [if_pos ha, if_pos g0, if_neg g1]
        rw [es]
        refine ⟨Or.inl (by decide), fun _ _ h => absurd h (by decide), fun w hw _ hne => ?_⟩
        by_cases w7 : w = 7
        · subst w7
          have h1 : al T L a 7 ≤ 1 := al_one (fun q => g1 (by rw [e7] at q; exact q))
          have h2 := al_pos (w := 0) (by decide) ⟨ha, g0.trans d0.symm⟩
          omega
        · rw [z w hw hne w7]
          omega
    · by_cases g2 : T a = 99
      · have z : ∀ w, w < 10 → w ≠ 1 → w ≠ 9 → al T L a w = 0 := fun w hw n0 n7 => by
          refine first w hw _ g2 ?_
          rcases ten w hw with rfl | rfl | rfl | rfl | rfl | rfl | rfl | rfl | rfl | rfl
          · rw [d0]; decide
          · exact absurd rfl n0
          · rw [d2]; decide
          · rw [d3]; decide
          · rw [d4]; decide
          · rw [d5]; decide
          · rw [d6]; decide
          · rw [d7]; decide
          · rw [d8]; decide
          · exact absurd rfl n7
        by_cases g1 : a + 1 < L ∧ T (a + 1) = 114
        · have es : selW T L a = 9 := by unfold selW; rw [if_pos ha, if_neg g0, if_pos g2, if_pos g1]
          rw [es]
          refine ⟨Or.inl (by decide), fun _ _ h => absurd h (by decide), fun w hw _ hne => ?_⟩
          by_cases w0 : w = 1
          · subst w0
            have h1 : al T L a 1 ≤ 1 := al_one (fun q => by rw [e1, g1.2] at q; exact absurd q.2 (by decide))
            have h2 := al_pos (w := 9) (by decide) ⟨ha, g2.trans d9.symm⟩
            omega
          · rw [z w hw w0 hne]
            omega
        · have es : selW T L a = 1 := by unfold selW; rw [if_pos ha, if_neg g0, if_pos g2, if_neg g1]
          rw [es]
          refine ⟨Or.inl (by decide), fun _ _ h => absurd h (by decide), fun w hw _ hne => ?_⟩
          by_cases w7 : w = 9
          · subst w7
            have h1 : al T L a 9 ≤ 1 := al_one (fun q => g1 (by rw [e9] at q; exact q))
            have h2 := al_pos (w := 1) (by decide) ⟨ha, g2.trans d1.symm⟩
            omega
          · rw [z w hw hne w7]
            omega
      · have c1' : ¬ (T a = chS 0 0) := fun q => g0 (q.trans d0)
        have c2' : ¬ (T a = chS 7 0) := fun q => g0 (q.trans d7)
        have c3' : ¬ (T a = chS 1 0) := fun q => g2 (q.trans d1)
        have c4' : ¬ (T a = chS 9 0) := fun q => g2 (q.trans d9)
        have one : ∀ (s : Nat), s < 10 → selW T L a = s → (∀ w, w < 10 → w ≠ s → ¬ T a = chS w 0) → ((selW T L a < 10 ∨ selW T L a = 10) ∧ (∀ w, w < 10 → selW T L a = 10 → al T L a w = 0) ∧ (∀ w, w < 10 → selW T L a < 10 → w ≠ selW T L a → al T L a w ≤ 1 ∧ al T L a w ≤ al T L a (selW T L a))) := by
          intro s hs es hz
          rw [es]
          refine ⟨Or.inl hs, fun _ _ h => absurd h (by omega), fun w hw _ hne => ?_⟩
          rw [al_zero (fun q => hz w hw hne q.2)]
          omega
        by_cases g3 : T a = 100
        · refine one 2 (by decide) (by unfold selW; rw [if_pos ha, if_neg g0, if_neg g2, if_pos g3]) (fun w hw hne => ?_)
          rw [g3]
          rcases ten w hw with rfl | rfl | rfl | rfl | rfl | rfl | rfl | rfl | rfl | rfl
          · rw [d0]; decide
          · rw [d1]; decide
          · exact absurd rfl hne
          · rw [d3]; decide
          · rw [d4]; decide
          · rw [d5]; decide
          · rw [d6]; decide
          · rw [d7]; decide
          · rw [d8]; decide
          · rw [d9]; decide
        by_cases g4 : T a = 110
        · refine one 3 (by decide) (by unfold selW; rw [if_pos ha, if_neg g0, if_neg g2, if_neg g3, if_pos g4]) (fun w hw hne => ?_)
          rw [g4]
          rcases ten w hw with rfl | rfl | rfl | rfl | rfl | rfl | rfl | rfl | rfl | rfl
          · rw [d0]; decide
          · rw [d1]; decide
          · rw [d2]; decide
          · exact absurd rfl hne
          · rw [d4]; decide
          · rw [d5]; decide
          · rw [d6]; decide
          · rw [d7]; decide
          · rw [d8]; decide
          · rw [d9]; decide
        by_cases g5 : T a = 102
        · refine one 4 (by decide) (by unfold selW; rw [if_pos ha, if_neg g0, if_neg g2, if_neg g3, if_neg g4, if_pos g5]) (fun w hw hne => ?_)
          rw [g5]
          rcases ten w hw with rfl | rfl | rfl | rfl | rfl | rfl | rfl | rfl | rfl | rfl
          · rw [d0]; decide
          · rw [d1]; decide
          · rw [d2]; decide
          · rw [d3]; decide
          · exact absurd rfl hne
          · rw [d5]; decide
          · rw [d6]; decide
          · rw [d7]; decide
          · rw [d8]; decide
          · rw [d9]; decide
        by_cases g6 : T a = 115
        · refine one 5 (by decide) (by unfold selW; rw [if_pos ha, if_neg g0, if_neg g2, if_neg g3, if_neg g4, if_neg g5, if_pos g6]) (fun w hw hne => ?_)
          rw [g6]
          rcases ten w hw with rfl | rfl | rfl | rfl | rfl | rfl | rfl | rfl | rfl | rfl
          · rw [d0]; decide
          · rw [d1]; decide
          · rw [d2]; decide
          · rw [d3]; decide
          · rw [d4]; decide
          · exact absurd rfl hne
          · rw [d6]; decide
          · rw [d7]; decide
          · rw [d8]; decide
          · rw [d9]; decide
        by_cases g7 : T a = 111
        · refine one 6 (by decide) (by unfold selW; rw [if_pos ha, if_neg g0, if_neg g2, if_neg g3, if_neg g4, if_neg g5, if_neg g6, if_pos g7]) (fun w hw hne => ?_)
          rw [g7]
          rcases ten w hw with rfl | rfl | rfl | rfl | rfl | rfl | rfl | rfl | rfl | rfl
          · rw [d0]; decide
          · rw [d1]; decide
          · rw [d2]; decide
          · rw [d3]; decide
          · rw [d4]; decide
          · rw [d5]; decide
          · exact absurd rfl hne
          · rw [d7]; decide
          · rw [d8]; decide
          · rw [d9]; decide
        by_cases g8 : T a = 108
        · refine one 8 (by decide) (by unfold selW; rw [if_pos ha, if_neg g0, if_neg g2, if_neg g3, if_neg g4, if_neg g5, if_neg g6, if_neg g7, if_pos g8]) (fun w hw hne => ?_)
          rw [g8]
          rcases ten w hw with rfl | rfl | rfl | rfl | rfl | rfl | rfl | rfl | rfl | rfl
          · rw [d0]; decide
          · rw [d1]; decide
          · rw [d2]; decide
          · rw [d3]; decide
          · rw [d4]; decide
          · rw [d5]; decide
          · rw [d6]; decide
          · rw [d7]; decide
          · exact absurd rfl hne
          · rw [d9]; decide
        · have es : selW T L a = 10 := by unfold selW; rw [if_pos ha, if_neg g0, if_neg g2, if_neg g3, if_neg g4, if_neg g5, if_neg g6, if_neg g7, if_neg g8]
          rw [es]
          refine ⟨Or.inr rfl, fun w hw _ => al_zero (fun q => ?_), fun _ _ h => absurd h (by decide)⟩
          rcases ten w hw with rfl | rfl | rfl | rfl | rfl | rfl | rfl | rfl | rfl | rfl
          · exact c1' q.2
          · exact c3' q.2
          · exact g3 (q.2.trans d2)
          · exact g4 (q.2.trans d3)
          · exact g5 (q.2.trans d4)
          · exact g6 (q.2.trans d5)
          · exact g7 (q.2.trans d6)
          · exact c2' q.2
          · exact g8 (q.2.trans d8)
          · exact c4' q.2
  · have es : selW T L a = 10 := by unfold selW; rw [if_neg ha]
    rw [es]
    exact ⟨Or.inr rfl, fun w hw _ => al_zero (fun q => ha q.1), fun _ _ h => absurd h (by decide)⟩

