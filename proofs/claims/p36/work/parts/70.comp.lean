/-! questions: a comparison -/
def soR (l s r : Int32) : Bool := if s = 0 then decide (¬ r ≤ l) else if s = 1 then decide (l = r) else decide (¬ l ≤ r)
/-- whether a traveller fulfils a code -/
def hoF (R : Row) (c : Int32) (t : Nat) : Bool :=
  if c < 10000 then (if c = 0 ∨ c = 1 ∨ c = 2 then decide (kindF (trv R t 0) = c) else if c = 3 then decide (trv R t 2 = -1) else if c = 4 then decide (trv R t 2 = 10) else if c = 5 then decide (1 ≤ plN (trv R t 2) ∧ plN (trv R t 2) ≤ 10) else decide (trv R t 3 = 1))
  else soR (trv R t ((c / 1000) - (c / 1000) / 10 * 10).toNatClampNeg) ((c / 100) - (c / 100) / 10 * 10) (c - c / 100 * 100)
def whR (w : Nat) : Nat := if w = 7 then 1 else if w = 8 then 0 else 6
def cdF (w s : Nat) (v : Int32) : Int32 := (((10000 : Int32) + ((1000 : Int32) * nI (whR w))) + ((100 : Int32) * nI s)) + v
def cdB (w s m : Nat) : Bool := decide (¬ cdF w s (nI m) < 10000) && decide (((cdF w s (nI m)) / 1000 - (cdF w s (nI m)) / 1000 / 10 * 10).toNatClampNeg = whR w) && decide ((cdF w s (nI m)) / 100 - (cdF w s (nI m)) / 100 / 10 * 10 = nI s) && decide (cdF w s (nI m) - cdF w s (nI m) / 100 * 100 = nI m) && decide (¬ cdF w s (nI m) = 100) && decide (¬ cdF w s (nI m) = 101) && decide (¬ cdF w s (nI m) = 102)
theorem cd_tab0 : ∀ w, w < 10 → 7 ≤ w → ∀ s, s < 3 → ∀ m, m < 100 → cdB w s m = true := by decide +kernel
theorem cd_tab : ∀ w, w < 10 → 7 ≤ w → ∀ s, s < 3 → ∀ m, m < 100 → ¬ cdF w s (nI m) < 10000 ∧ ((cdF w s (nI m)) / 1000 - (cdF w s (nI m)) / 1000 / 10 * 10).toNatClampNeg = whR w ∧ (cdF w s (nI m)) / 100 - (cdF w s (nI m)) / 100 / 10 * 10 = nI s ∧ cdF w s (nI m) - cdF w s (nI m) / 100 * 100 = nI m ∧ ¬ cdF w s (nI m) = 100 ∧ ¬ cdF w s (nI m) = 101 ∧ ¬ cdF w s (nI m) = 102 := by
  intro w hw h7 s hs m hm
  have h := cd_tab0 w hw h7 s hs m hm
  unfold cdB at h
  simp only [Bool.and_eq_true, decide_eq_true_eq] at h
  obtain ⟨⟨⟨⟨⟨⟨h1, h2⟩, h3⟩, h4⟩, h5⟩, h6⟩, h7⟩ := h
  exact ⟨h1, h2, h3, h4, h5, h6, h7⟩
def leaf (R : Row) (c : Int32) : Option (List Int32 × (Nat → Bool)) := some ([c], fun t => hoF R c t)
def digB (T : Txt) (L a : Nat) : Bool := decide (a < L ∧ ¬ T a < 48 ∧ ¬ (57 : Int32) < T a)
theorem digB_1 {T : Txt} {L a : Nat} : digB T L a = true ↔ digP T L a := by
  unfold digB digP
  exact decide_eq_true_iff
def numP (T : Txt) (L : Nat) (R : Row) (w s p : Nat) : Res :=
  if digB T L p = true then (if digB T L (p + 1) = true then (p + 1 + 1, leaf R (cdF w s ((T p - 48) * 10 + (T (p + 1) - 48)))) else (p + 1, leaf R (cdF w s (T p - 48)))) else (p, none)
def measP (T : Txt) (L : Nat) (R : Row) (w p : Nat) : Res :=
  match sgP T L p with
  | none => (p, none)
  | some s => numP T L R w s (p + 1)
def compP (T : Txt) (L : Nat) (R : Row) (a : Nat) : Res :=
  if selW T L a = 10 then (a, none)
  else if al T L a (selW T L a) = lnN (selW T L a) then (if selW T L a < 7 then (a + lnN (selW T L a), leaf R (nI (selW T L a))) else measP T L R (selW T L a) (a + lnN (selW T L a)))
  else (a + al T L a (selW T L a), none)
theorem dig_of {x : Int32} (h0 : ¬ x < 48) (h1 : ¬ (57 : Int32) < x) : ∃ d, d < 10 ∧ x - 48 = nI d := by
  obtain ⟨j, hj, rfl⟩ := nI_of (x := x) (fun g => h0 (Int32.lt_trans g (by decide)))
  have a := mt (nI_ltI hj (show 48 < 2 ^ 31 by decide)).mpr h0
  have b := mt (nI_ltI (show 57 < 2 ^ 31 by decide) hj).mpr h1
  exact ⟨j - 48, by omega, pk_sub (b := 48) (by omega)⟩
theorem num_of {T : Txt} {L p : Nat} (h : digP T L p) (h2 : digP T L (p + 1)) : ∃ m, m < 100 ∧ (T p - 48) * 10 + (T (p + 1) - 48) = nI m := by
  obtain ⟨d, hd, e⟩ := dig_of h.2.1 h.2.2
  obtain ⟨d2, hd2, e2⟩ := dig_of h2.2.1 h2.2.2
  refine ⟨d * 10 + d2, by omega, ?_⟩
  rw [e, e2]
  show nI d * nI 10 + nI d2 = _
  rw [pk_mul, nI_add]
theorem num_of1 {T : Txt} {L p : Nat} (h : digP T L p) : ∃ m, m < 100 ∧ T p - 48 = nI m := by
  obtain ⟨d, hd, e⟩ := dig_of h.2.1 h.2.2
  exact ⟨d, by omega, e⟩
theorem ho_word {R : Row} {w t : Nat} (hw : w < 7) (wt : WFT (trv R t)) : soF (numF (trv R t) (([0, 0, 0, 9, 9, 9, 4, 2, 1, 7] : List Nat).getD w 0)) 61 (nuW.getD w 0) = hoF R (nI w) t := by
  have reg := reg0 (p := trv R t 2) wt.2.2.1
  rcases (show w = 0 ∨ w = 1 ∨ w = 2 ∨ w = 3 ∨ w = 4 ∨ w = 5 ∨ w = 6 by omega) with rfl | rfl | rfl | rfl | rfl | rfl | rfl
  · rfl
  · rfl
  · rfl
  · show decide (regF (trv R t 2) = 0) = decide (trv R t 2 = -1)
    rw [decide_eq_decide, reg.1]
    exact not_lt_lt
  · show decide (regF (trv R t 2) = 2) = decide (trv R t 2 = 10)
    rw [decide_eq_decide, reg.2.2]
    exact not_lt_lt
  · show decide (regF (trv R t 2) = 1) = decide (1 ≤ plN (trv R t 2) ∧ plN (trv R t 2) ≤ 10)
    rw [decide_eq_decide]
    obtain ⟨q, hq, e⟩ := wt.pl
    rw [e, plN_pl hq]
    have tab : ∀ q, q < 12 → (regF (pl q) = 1 ↔ 1 ≤ q ∧ q ≤ 10) := by decide +kernel
    exact tab q (by omega)
  · rfl
theorem ho_meas {R : Row} {w s m t : Nat} (h7 : 7 ≤ w) (hw : w < 10) (hs : s < 3) (hm : m < 100) : soF (numF (trv R t) (([0, 0, 0, 9, 9, 9, 4, 2, 1, 7] : List Nat).getD w 0)) (sgC s) (nI m) = hoF R (cdF w s (nI m)) t := by
  obtain ⟨z0, z1, z2, z3, -⟩ := cd_tab w hw h7 s hs m hm
  unfold hoF
  rw [if_neg z0, z1, z2, z3]
  have e : numF (trv R t) (([0, 0, 0, 9, 9, 9, 4, 2, 1, 7] : List Nat).getD w 0) = trv R t (whR w) := by
    rcases (show w = 7 ∨ w = 8 ∨ w = 9 by omega) with rfl | rfl | rfl <;> rfl
  rw [e]
  rcases (show s = 0 ∨ s = 1 ∨ s = 2 by omega) with rfl | rfl | rfl <;> rfl
theorem sgP_lt {T : Txt} {L a s : Nat} (h : sgP T L a = some s) : s < 3 := by
  unfold sgP at h
  split at h
  · cases h; decide
  · split at h
    · cases h; decide
    · split at h
      · cases h; decide
      · exact absurd h (by simp)
/-- what the class owes behind reading -/
def CQ (post : Int32 → Mem → Prop) (T : Txt) (L n : Nat) (R : Row) (S : Mem) (r : Res) : Prop :=
  match r.2 with
  | none => ∀ (B : Int32) (a' : Nat) (S' : Mem), ChgQ S S' → HQ T L n R S' a' → S' 6 0 3 = nI r.1 → post B S'
  | some x => ∀ (B : Int32) (S' : Mem), ChgQ S S' → HQ T L n R S' r.1 → S' 6 0 3 = -1 → (∀ t, t < 8 → bt B t = (decide (t < n) && x.2 t)) → post B S'
def FQ (post : Int32 → Mem → Prop) (T : Txt) (L n : Nat) (R : Row) (S : Mem) : Prop := ∀ (B : Int32) (a' : Nat) (S' : Mem), ChgQ S S' → HQ T L n R S' a' → S' 6 0 3 = S 6 0 3 → post B S'
theorem wh_tab : ∀ w, w < 10 → whW.getD w 0 = nI (([0, 0, 0, 9, 9, 9, 4, 2, 1, 7] : List Nat).getD w 0) ∧ ([0, 0, 0, 9, 9, 9, 4, 2, 1, 7] : List Nat).getD w 0 ≤ 9 ∧ (nuW.getD w 0 = -1 ↔ 7 ≤ w) := by decide +kernel
/-- what the class does where a word is to come -/
def cpC (post : Int32 → Mem → Prop) (S : Mem) (j1 : Nat) : Prop := mX2_readWord (fun (S1 : Mem) => post (0 : Int32) S1) (fun (w3 : Nat) (S1 : Mem) => (((nuW.getD w3 0) = (-1 : Int32) → (mX2_readSign (fun (r6 : Int32) (S5 : Mem) => mX2_readNumber (fun (r8 : Int32) (S7 : Mem) => mX2_thoseWith (fun (r10 : Int32) (S9 : Mem) => post r10 S9) S7 j1 (whW.getD w3 0) r6 r8) S5 ) S1 )) ∧ (¬ (nuW.getD w3 0) = (-1 : Int32) → (mX2_thoseWith (fun (r12 : Int32) (S11 : Mem) => post r12 S11) S1 j1 (whW.getD w3 0) (61 : Int32) (nuW.getD w3 0))))) S
theorem X2_comp_s {post : Int32 → Mem → Prop} {T : Txt} {L n a : Nat} {R : Row} {S : Mem} (h : HQ T L n R S a) (hf : S 6 0 3 = -1) (hc : CQ post T L n R S (compP T L R a)) : cpC post S 0 := by
  have hL := h.2.1
  have haL := h.1
  have hR := h.2.2.2.2.2
  have hn := hR.1.1
  have hend := al_end (T := T) (w := selW T L a) h.1
  unfold cpC
  unfold compP at hc
  refine X2_readWord_s h (fun g1 g2 => ?_) (fun g => X2_fail_s hf ?_)
  · rw [if_neg (by omega), if_pos g2] at hc
    rw [g2] at hend
    have h2 := h.w2 hend
    have hf2 : (wr S 6 0 2 (nI (a + lnN (selW T L a)))) 6 0 3 = -1 := by rw [wr_k (by decide)]; exact hf
    obtain ⟨t1, t2, t3⟩ := wh_tab (selW T L a) g1
    have lt := (ln_tab (selW T L a) (by omega)).1
    generalize lnN (selW T L a) = ln at hc h2 hf2 hend lt g2 ⊢
    generalize selW T L a = w at hc t1 t2 t3 g1 g2 ⊢
    rw [t1, t3]
    refine ⟨fun z => ?_, fun z => ?_⟩
    · rw [if_neg (by omega)] at hc
      unfold measP at hc
      refine X2_readSign_s h2 hf2 (fun s es hs => ?_) (fun es => ?_)
      · rw [es] at hc
        have hc : CQ post T L n R S (numP T L R w s (a + ln + 1)) := hc
        have hs3 := sgP_lt es
        have h3 := h2.w2 (a' := a + ln + 1) hs
        have hf3 : (wr (wr S 6 0 2 (nI (a + ln))) 6 0 2 (nI (a + ln + 1))) 6 0 3 = -1 := by rw [wr_k (by decide)]; exact hf2
        unfold numP at hc
        refine X2_readNumber_s h3 hf3 (fun d => ?_) (fun d d2 => ?_) (fun d d2 => ?_)
        · rw [if_neg (fun y => d (digB_1.mp y))] at hc
          refine X2_those_s t2 (h3.w3).2.2.2.2.2 (fun B _ => hc B (a + ln + 1) _ ((ChgQ.w2.trans ChgQ.w2).trans ChgQ.w3) h3.w3 wr_same)
        · rw [if_pos (digB_1.mpr d), if_neg (fun y => d2 (digB_1.mp y))] at hc
          obtain ⟨m, hm, em⟩ := num_of1 d
          have h4 := h3.w2 (a' := a + ln + 1 + 1) d.1
          refine X2_those_s t2 h4.2.2.2.2.2 (fun B hB => hc B _ ((ChgQ.w2.trans ChgQ.w2).trans ChgQ.w2) h4 (by rw [wr_k (by decide)]; exact hf3) (fun t ht => ?_))
          rw [hB t ht, em, ho_meas z g1 hs3 hm]
        · rw [if_pos (digB_1.mpr d), if_pos (digB_1.mpr d2)] at hc
          obtain ⟨m, hm, em⟩ := num_of d d2
          have h4 := h3.w2 (a' := a + ln + 1 + 1) d.1
          have h5 := h4.w2 (a' := a + ln + 1 + 1 + 1) d2.1
          refine X2_those_s t2 h5.2.2.2.2.2 (fun B hB => hc B _ (((ChgQ.w2.trans ChgQ.w2).trans ChgQ.w2).trans ChgQ.w2) h5 (by rw [wr_k (by decide), wr_k (by decide)]; exact hf3) (fun t ht => ?_))
          rw [hB t ht, em, ho_meas z g1 hs3 hm]
      · rw [es] at hc
        have hf3 : ¬ (wr (wr S 6 0 2 (nI (a + ln))) 6 0 3 (nI (a + ln))) 6 0 3 = -1 := by rw [wr_same]; exact nI_nm1 (by omega)
        exact X2_readNumber_f hf3 (X2_those_s t2 (h2.w3).2.2.2.2.2 (fun B _ => hc B (a + ln) _ (ChgQ.w2.trans ChgQ.w3) h2.w3 wr_same))
    · rw [if_pos (by omega)] at hc
      refine X2_those_s t2 h2.2.2.2.2.2 (fun B hB => hc B _ ChgQ.w2 h2 hf2 (fun t ht => ?_))
      rw [hB t ht]
      by_cases e : t < n
      · rw [ho_word (by omega) (hR.1.t e)]
      · rw [decide_eq_false e]
        rfl
  · unfold alS
    by_cases e : selW T L a = 10
    · rw [if_pos e] at hc ⊢
      exact hc 0 a _ ChgQ.w3 h.w3 wr_same
    · rcases (sel_al (T := T) (L := L) (a := a)).1 with z | z
      · rw [if_neg e, if_neg (fun y => g ⟨z, y⟩)] at hc
        rw [if_neg e]
        exact hc 0 a _ ChgQ.w3 h.w3 wr_same
      · exact absurd z e
theorem X2_comp_f {post : Int32 → Mem → Prop} {T : Txt} {L n a : Nat} {R : Row} {S : Mem} (h : HQ T L n R S a) (hf : ¬ S 6 0 3 = -1) (hc : FQ post T L n R S) : cpC post S 0 := by
  have hend := al_end (T := T) (w := selW T L a) h.1
  unfold cpC
  refine X2_readWord_s h (fun g1 g2 => ?_) (fun g => X2_fail_f hf (hc 0 a S ChgQ.refl h rfl))
  rw [g2] at hend
  have h2 := h.w2 hend
  have e3 : (wr S 6 0 2 (nI (a + lnN (selW T L a)))) 6 0 3 = S 6 0 3 := wr_k (by decide)
  have hf2 : ¬ (wr S 6 0 2 (nI (a + lnN (selW T L a)))) 6 0 3 = -1 := by rw [e3]; exact hf
  obtain ⟨t1, t2, t3⟩ := wh_tab (selW T L a) g1
  rw [t1]
  exact ⟨fun _ => X2_readSign_f hf2 (X2_readNumber_f hf2 (X2_those_s t2 h2.2.2.2.2.2 (fun B _ => hc B _ _ ChgQ.w2 h2 e3))), fun _ => X2_those_s t2 h2.2.2.2.2.2 (fun B _ => hc B _ _ ChgQ.w2 h2 e3)⟩

