/-! questions: the class reads what is read -/
abbrev WP2 : Type := (Int32 → Mem → Prop) → Mem → Nat → Int32 → Prop
def CSpec (mo : WP2) (po : Nat → Res) (T : Txt) (L n : Nat) (R : Row) (o : Nat) : Prop :=
  (∀ (post : Int32 → Mem → Prop) (S : Mem) (a : Nat), HQ T L n R S a → S 6 0 3 = -1 → CQ post T L n R S (po a) → mo post S 0 (nI o)) ∧
  (∀ (post : Int32 → Mem → Prop) (S : Mem) (a : Nat), HQ T L n R S a → ¬ S 6 0 3 = -1 → FQ post T L n R S → mo post S 0 (nI o))
theorem CQ.mono {post : Int32 → Mem → Prop} {T : Txt} {L n : Nat} {R : Row} {S S1 : Mem} {r : Res} (c : ChgQ S S1) (h : CQ post T L n R S r) : CQ post T L n R S1 r := by
  obtain ⟨p, o⟩ := r
  cases o with
  | none => exact fun B a' S' c2 hq hf => h B a' S' (c.trans c2) hq hf
  | some x => exact fun B S' c2 hq hf hb => h B S' (c.trans c2) hq hf hb
theorem FQ.of {post : Int32 → Mem → Prop} {T : Txt} {L n p : Nat} {R : Row} {S S1 : Mem} (c : ChgQ S S1) (e : S1 6 0 3 = nI p) (h : CQ post T L n R S (p, none)) : FQ post T L n R S1 := fun B a' S' c2 hq hf => h B a' S' (c.trans c2) hq (hf.trans e)
theorem FQ.mono {post : Int32 → Mem → Prop} {T : Txt} {L n : Nat} {R : Row} {S S1 : Mem} (c : ChgQ S S1) (e : S1 6 0 3 = S 6 0 3) (h : FQ post T L n R S) : FQ post T L n R S1 := fun B a' S' c2 hq hf => h B a' S' (c.trans c2) hq (hf.trans e)
theorem bin_bt {n : Nat} {B B2 : Int32} {f g : Nat → Bool} (h1 : ∀ t, t < 8 → bt B t = (decide (t < n) && f t)) (h2 : ∀ t, t < 8 → bt B2 t = (decide (t < n) && g t)) : (∀ t, t < 8 → bt (B &&& B2) t = (decide (t < n) && (f t && g t))) ∧ (∀ t, t < 8 → bt (B ||| B2) t = (decide (t < n) && (f t || g t))) := by
  refine ⟨fun t ht => ?_, fun t ht => ?_⟩
  · rw [bt_and, h1 t ht, h2 t ht]
    cases decide (t < n) <;> cases f t <;> cases g t <;> rfl
  · rw [bt_or, h1 t ht, h2 t ht]
    cases decide (t < n) <;> cases f t <;> cases g t <;> rfl
theorem X2_part_b10_f {post : Int32 → Mem → Prop} {mo : WP2} {T : Txt} {L n a m k : Nat} {R : Row} {S : Mem} {B v : Int32} (h : HQ T L n R S a) (hf : ¬ S 6 0 3 = -1) (hc : FQ post T L n R S) : mX2_readPart_b10 mo post (m + 1) S 0 v B (nI k) := by
  unfold mX2_readPart_b10
  exact ⟨fun _ => hc B a S ChgQ.refl h rfl, fun _ => X2_takes_f hf ⟨fun _ => hc B a S ChgQ.refl h rfl, fun g => absurd rfl g⟩⟩
theorem X2_que_b10_f {post : Int32 → Mem → Prop} {mo : WP2} {T : Txt} {L n a m k : Nat} {R : Row} {S : Mem} {B v : Int32} (h : HQ T L n R S a) (hf : ¬ S 6 0 3 = -1) (hc : FQ post T L n R S) : mX2_readQuestion_b10 mo post (m + 1) S 0 v B (nI k) := by
  unfold mX2_readQuestion_b10
  exact ⟨fun _ => hc B a S ChgQ.refl h rfl, fun _ => X2_takes_f hf ⟨fun _ => hc B a S ChgQ.refl h rfl, fun g => absurd rfl g⟩⟩
theorem X2_part_b10_s {post : Int32 → Mem → Prop} {mo : WP2} {po : Nat → Res} {T : Txt} {L n o : Nat} {R : Row} (hm : CSpec mo po T L n R o) (hg : ∀ p, p ≤ L → Good L R p (po p)) : ∀ (m k p : Nat) (cs : List Int32) (f : Nat → Bool) (S : Mem) (B : Int32), k + m = 60 → HQ T L n R S p → S 6 0 3 = -1 → (∀ t, t < 8 → bt B t = (decide (t < n) && f t)) → CQ post T L n R S (binL po T L 43 101 and m p cs f) → mX2_readPart_b10 mo post (m + 1) S 0 (nI o) B (nI k) := by
  intro m
  induction m with
  | zero =>
    intro k p cs f S B hk h hf hB hc
    have hk : k = 60 := by omega
    subst hk
    unfold mX2_readPart_b10
    exact ⟨fun _ => hc B S ChgQ.refl h hf hB, fun g => absurd (by decide) g⟩
  | succ m ih =>
    intro k p cs f S B hk h hf hB hc
    unfold mX2_readPart_b10
    unfold binL at hc
    refine ⟨fun g => absurd g (nI_ge (b := 60) (by omega) (by decide)), fun _ => X2_takes_s h hf (fun g => ⟨fun z => ne10 z, fun _ => ?_⟩) (fun g => ⟨fun _ => ?_, fun z => absurd rfl z⟩)⟩
    · have g' : p < L ∧ T p = 43 := g
      rw [if_pos g'] at hc
      have gp := (hg (p + 1) g.1).1
      have h2 := h.w2 (a' := p + 1) g.1
      have hf2 : (wr S 6 0 2 (nI (p + 1))) 6 0 3 = -1 := by rw [wr_k (by decide)]; exact hf
      have hL := h.2.1
      refine hm.1 _ _ (p + 1) h2 hf2 ?_
      generalize po (p + 1) = r at hc gp ⊢
      obtain ⟨p2, o2⟩ := r
      cases o2 with
      | none =>
        intro B2 a' S' c hq hf3 x ex y ey
        have hf3 : S' 6 0 3 = nI p2 := hf3
        rw [ey, inc]
        exact X2_part_b10_f hq (by rw [hf3]; exact nI_nm1 (by have gp : p2 ≤ L := gp; omega)) (FQ.of (ChgQ.w2.trans c) hf3 hc)
      | some x =>
        intro B2 S' c hq hf3 hB2 x1 ex y ey
        rw [ey, inc, ex]
        exact ih (k + 1) p2 _ _ S' _ (by omega) hq hf3 (bin_bt hB hB2).1 (CQ.mono (ChgQ.w2.trans c) hc)
    · have g' : ¬ (p < L ∧ T p = 43) := g
      rw [if_neg g'] at hc
      exact hc B S ChgQ.refl h hf hB
theorem X2_que_b10_s {post : Int32 → Mem → Prop} {mo : WP2} {po : Nat → Res} {T : Txt} {L n o : Nat} {R : Row} (hm : CSpec (fun post S j v => mX2_readPart mo post S j v) po T L n R o) (hg : ∀ p, p ≤ L → Good L R p (po p)) : ∀ (m k p : Nat) (cs : List Int32) (f : Nat → Bool) (S : Mem) (B : Int32), k + m = 60 → HQ T L n R S p → S 6 0 3 = -1 → (∀ t, t < 8 → bt B t = (decide (t < n) && f t)) → CQ post T L n R S (binL po T L 47 102 or m p cs f) → mX2_readQuestion_b10 mo post (m + 1) S 0 (nI o) B (nI k) := by
  intro m
  induction m with
  | zero =>
    intro k p cs f S B hk h hf hB hc
    have hk : k = 60 := by omega
    subst hk
    unfold mX2_readQuestion_b10
    exact ⟨fun _ => hc B S ChgQ.refl h hf hB, fun g => absurd (by decide) g⟩
  | succ m ih =>
    intro k p cs f S B hk h hf hB hc
    unfold mX2_readQuestion_b10
    unfold binL at hc
    refine ⟨fun g => absurd g (nI_ge (b := 60) (by omega) (by decide)), fun _ => X2_takes_s h hf (fun g => ⟨fun z => ne10 z, fun _ => ?_⟩) (fun g => ⟨fun _ => ?_, fun z => absurd rfl z⟩)⟩
    · have g' : p < L ∧ T p = 47 := g
      rw [if_pos g'] at hc
      have gp := (hg (p + 1) g.1).1
      have h2 := h.w2 (a' := p + 1) g.1
      have hf2 : (wr S 6 0 2 (nI (p + 1))) 6 0 3 = -1 := by rw [wr_k (by decide)]; exact hf
      have hL := h.2.1
      refine hm.1 _ _ (p + 1) h2 hf2 ?_
      generalize po (p + 1) = r at hc gp ⊢
      obtain ⟨p2, o2⟩ := r
      cases o2 with
      | none =>
        intro B2 a' S' c hq hf3 x ex y ey
        have hf3 : S' 6 0 3 = nI p2 := hf3
        rw [ey, inc]
        exact X2_que_b10_f hq (by rw [hf3]; exact nI_nm1 (by have gp : p2 ≤ L := gp; omega)) (FQ.of (ChgQ.w2.trans c) hf3 hc)
      | some x =>
        intro B2 S' c hq hf3 hB2 x1 ex y ey
        rw [ey, inc, ex]
        exact ih (k + 1) p2 _ _ S' _ (by omega) hq hf3 (bin_bt hB hB2).2 (CQ.mono (ChgQ.w2.trans c) hc)
    · have g' : ¬ (p < L ∧ T p = 47) := g
      rw [if_neg g'] at hc
      exact hc B S ChgQ.refl h hf hB
theorem X2_part_c {mo : WP2} {po : Nat → Res} {T : Txt} {L n o : Nat} {R : Row} (hm : CSpec mo po T L n R o) (hg : ∀ p, p ≤ L → Good L R p (po p)) : CSpec (fun post S j v => mX2_readPart mo post S j v) (binP po T L 43 101 and) T L n R o := by
  refine ⟨fun post S a h hf hc => ?_, fun post S a h hf hc => ?_⟩
  · show mX2_readPart mo post S 0 (nI o)
    unfold mX2_readPart
    refine hm.1 _ S a h hf ?_
    have gp := (hg a h.1).1
    have hL := h.2.1
    unfold binP at hc
    generalize po a = r at hc gp ⊢
    obtain ⟨p2, o2⟩ := r
    cases o2 with
    | none =>
      intro B2 a' S' c hq hf3
      have hf3 : S' 6 0 3 = nI p2 := hf3
      exact ⟨1, X2_part_b10_f (m := 0) (k := 0) hq (by rw [hf3]; exact nI_nm1 (by have gp : p2 ≤ L := gp; omega)) (FQ.of c hf3 hc)⟩
    | some x =>
      intro B2 S' c hq hf3 hB2
      exact ⟨61, X2_part_b10_s hm hg 60 0 p2 x.1 x.2 S' B2 (by decide) hq hf3 hB2 (CQ.mono c hc)⟩
  · show mX2_readPart mo post S 0 (nI o)
    unfold mX2_readPart
    refine hm.2 _ S a h hf (fun B a' S' c hq hf3 => ⟨1, X2_part_b10_f (m := 0) (k := 0) hq (by rw [hf3]; exact hf) (FQ.mono c hf3 hc)⟩)
theorem X2_que_c {mo : WP2} {po : Nat → Res} {T : Txt} {L n o : Nat} {R : Row} (hm : CSpec mo po T L n R o) (hg : ∀ p, p ≤ L → Good L R p (po p)) : CSpec (fun post S j v => mX2_readQuestion mo post S j v) (queP po T L) T L n R o := by
  have hp := X2_part_c hm hg
  have hg2 : ∀ p, p ≤ L → Good L R p (binP po T L 43 101 and p) := fun p h => good_binP op_and hg h
  refine ⟨fun post S a h hf hc => ?_, fun post S a h hf hc => ?_⟩
  · show mX2_readQuestion mo post S 0 (nI o)
    unfold mX2_readQuestion
    refine hp.1 _ S a h hf ?_
    have gp := (hg2 a h.1).1
    have hL := h.2.1
    unfold queP at hc
    revert hc gp hp hg2
    generalize binP po T L 43 101 and = po2
    intro hp hg2 hc gp
    unfold binP at hc
    generalize po2 a = r at hc gp ⊢
    obtain ⟨p2, o2⟩ := r
    cases o2 with
    | none =>
      intro B2 a' S' c hq hf3
      have hf3 : S' 6 0 3 = nI p2 := hf3
      exact ⟨1, X2_que_b10_f (m := 0) (k := 0) hq (by rw [hf3]; exact nI_nm1 (by have gp : p2 ≤ L := gp; omega)) (FQ.of c hf3 hc)⟩
    | some x =>
      intro B2 S' c hq hf3 hB2
      exact ⟨61, X2_que_b10_s hp hg2 60 0 p2 x.1 x.2 S' B2 (by decide) hq hf3 hB2 (CQ.mono c hc)⟩
  · show mX2_readQuestion mo post S 0 (nI o)
    unfold mX2_readQuestion
    refine hp.2 _ S a h hf (fun B a' S' c hq hf3 => ⟨1, X2_que_b10_f (m := 0) (k := 0) hq (by rw [hf3]; exact hf) (FQ.mono c hf3 hc)⟩)
theorem X2_one_c {T : Txt} {L n : Nat} {R : Row} : ∀ (d o : Nat), 5 ≤ d + o → o ≤ 4 → CSpec (mX2_readOne d) (oneP T L R d o) T L n R o := by
  intro d
  induction d with
  | zero => intro o h1 h2; omega
  | succ d ih =>
    intro o h1 h2
    have ho1 : nI o + 1 = nI (o + 1) := inc o
    have lt4 : ∀ {A B : Prop}, (o < 4 → A) → (¬ o < 4 → B) → (nI o < 4 → A) ∧ (¬ nI o < 4 → B) := fun h3 h4 => ⟨fun g => h3 ((nI_ltI (b := 4) (by omega) (by decide)).mp g), fun g => h4 (fun z => g (nI_lt (b := 4) z (by decide)))⟩
    refine ⟨fun post S a h hf hc => ?_, fun post S a h hf hc => ?_⟩
    · have hL := h.2.1
      have haL := h.1
      unfold oneP at hc
      have plain : ¬ (a < L ∧ T a = 45) → ¬ (a < L ∧ T a = 91) → mX2_readOne_b33 (mX2_readOne d) post S 0 (nI o) := by
        intro g1 g2
        rw [if_neg g1, if_neg g2] at hc
        unfold mX2_readOne_b33
        exact X2_takes_s h hf (fun g => absurd g g1) (fun _ => ⟨fun _ => X2_takes_s h hf (fun g => absurd g g2) (fun _ => ⟨fun _ => X2_comp_s h hf hc, fun z => absurd rfl z⟩), fun z => absurd rfl z⟩)
      unfold mX2_readOne
      refine lt4 (fun o4 => ?_) (fun o4 => X2_isNext_s h hf (fun g => ⟨fun _ => X2_fail_s hf ?_, fun z => ne10 z⟩) (fun g => ⟨fun z => absurd rfl z, fun _ => X2_isNext_s h hf (fun g2 => ⟨fun z => ne10 z, fun _ => X2_fail_s hf ?_⟩) (fun g2 => ⟨fun _ => plain g g2, fun z => absurd rfl z⟩)⟩))
      · by_cases g1 : a < L ∧ T a = 45
        · rw [if_pos g1, if_pos o4] at hc
          have hm := ih (o + 1) (by omega) (by omega)
          have gd := good_one (T := T) (L := L) (R := R) d (o + 1) (a + 1) g1.1
          have h3 := h.w2 (a' := a + 1) g1.1
          have hf3 : (wr S 6 0 2 (nI (a + 1))) 6 0 3 = -1 := by rw [wr_k (by decide)]; exact hf
          unfold mX2_readOne_b33
          refine X2_takes_s h hf (fun _ => ⟨fun z => ne10 z, fun _ => ?_⟩) (fun g => absurd g1 g)
          unfold mX2_everyone
          have hR := h3.2.2.2.2.2
          have hn := hR.1.1
          rw [hR.cnt, ho1]
          refine hm.1 _ _ (a + 1) h3 hf3 ?_
          generalize oneP T L R d (o + 1) (a + 1) = r at hc gd ⊢
          obtain ⟨p2, o2⟩ := r
          cases o2 with
          | none => exact fun B a' S' c hq e => hc _ a' S' (ChgQ.w2.trans c) hq e
          | some x =>
            intro B S' c hq e hB
            refine hc _ S' (ChgQ.w2.trans c) hq e (fun t ht => ?_)
            rw [bt_and, bt_not ht, bt_every n (by omega) t ht, hB t ht]
            show (decide (t < n) && !(decide (t < n) && x.2 t)) = (decide (t < n) && !x.2 t)
            cases decide (t < n) <;> rfl
        · by_cases g2 : a < L ∧ T a = 91
          · rw [if_neg g1, if_pos g2, if_pos o4] at hc
            have hm := X2_que_c (ih (o + 1) (by omega) (by omega)) (fun p hp => good_one d (o + 1) p hp)
            have gd : Good L R (a + 1) (queP (oneP T L R d (o + 1)) T L (a + 1)) := good_binP op_or (fun p hp => good_binP op_and (fun p hp => good_one d (o + 1) p hp) hp) g2.1
            have h3 := h.w2 (a' := a + 1) g2.1
            have hf3 : (wr S 6 0 2 (nI (a + 1))) 6 0 3 = -1 := by rw [wr_k (by decide)]; exact hf
            unfold mX2_readOne_b33
            refine X2_takes_s h hf (fun g => absurd g g1) (fun _ => ⟨fun _ => X2_takes_s h hf (fun _ => ⟨fun z => ne10 z, fun _ => ?_⟩) (fun g => absurd g2 g), fun z => absurd rfl z⟩)
            rw [ho1]
            refine hm.1 _ _ (a + 1) h3 hf3 ?_
            generalize queP (oneP T L R d (o + 1)) T L (a + 1) = r at hc gd ⊢
            obtain ⟨p2, o2⟩ := r
            have gp : p2 ≤ L := gd.1
            cases o2 with
            | none =>
              intro B a' S' c hq e
              have e : S' 6 0 3 = nI p2 := e
              have hf4 : ¬ S' 6 0 3 = -1 := by rw [e]; exact nI_nm1 (by omega)
              exact X2_takes_f hf4 ⟨fun z => absurd rfl z, fun _ => X2_fail_f hf4 (hc _ a' S' (ChgQ.w2.trans c) hq e)⟩
            | some x =>
              intro B S' c hq e hB
              have hc : CQ post T L n R S (if p2 < L ∧ T p2 = 93 then (p2 + 1, some x) else (p2, none)) := hc
              refine X2_takes_s hq e (fun g => ⟨fun _ => ?_, fun z => ne10 z⟩) (fun g => ⟨fun z => absurd rfl z, fun _ => X2_fail_s e ?_⟩)
              · have g' : p2 < L ∧ T p2 = 93 := g
                rw [if_pos g'] at hc
                exact hc B _ ((ChgQ.w2.trans c).trans ChgQ.w2) (hq.w2 g.1) (by rw [wr_k (by decide)]; exact e) hB
              · have g' : ¬ (p2 < L ∧ T p2 = 93) := g
                rw [if_neg g'] at hc
                have e2 : S' 6 0 2 = nI p2 := hq.2.2.2.1
                rw [e2]
                exact hc B _ _ ((ChgQ.w2.trans c).trans ChgQ.w3) hq.w3 wr_same
          · exact plain g1 g2
      · have g' : a < L ∧ T a = 45 := g
        rw [if_pos g', if_neg o4] at hc
        rw [h.2.2.2.1]
        exact hc 0 a _ ChgQ.w3 h.w3 wr_same
      · have g' : ¬ (a < L ∧ T a = 45) := g
        have g2' : a < L ∧ T a = 91 := g2
        rw [if_neg g', if_pos g2', if_neg o4] at hc
        rw [h.2.2.2.1]
        exact hc 0 a _ ChgQ.w3 h.w3 wr_same
    · have plain : mX2_readOne_b33 (mX2_readOne d) post S 0 (nI o) := by
        unfold mX2_readOne_b33
        exact X2_takes_f hf ⟨fun _ => X2_takes_f hf ⟨fun _ => X2_comp_f h hf hc, fun z => absurd rfl z⟩, fun z => absurd rfl z⟩
      unfold mX2_readOne
      exact lt4 (fun _ => plain) (fun _ => X2_isNext_f hf ⟨fun z => absurd rfl z, fun _ => X2_isNext_f hf ⟨fun _ => plain, fun z => absurd rfl z⟩⟩)

