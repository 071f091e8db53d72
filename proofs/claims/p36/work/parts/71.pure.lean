/-! questions: the whole of what is read, and its codes -/
/-- a code that speaks of a number that there is -/
def valB (c : Int32) : Bool := decide (c < 10000) || (decide (¬ (c / 1000) - (c / 1000) / 10 * 10 < 0) && decide ((c / 1000) - (c / 1000) / 10 * 10 < 8))
theorem val_w : ∀ w, w < 7 → valB (nI w) = true := by decide +kernel
theorem val_m : ∀ w, w < 10 → 7 ≤ w → ∀ s, s < 3 → ∀ m, m < 100 → valB (cdF w s (nI m)) = true := by decide +kernel
def stepS (R : Row) (t : Nat) (c : Int32) (st : List Bool) : Option (List Bool) :=
  if c = 100 then (match st with | b :: s => some ((!b) :: s) | [] => none)
  else if c = 101 then (match st with | b :: a :: s => some ((a && b) :: s) | _ => none)
  else if c = 102 then (match st with | b :: a :: s => some ((a || b) :: s) | _ => none)
  else if valB c = true then some (hoF R c t :: st) else none
def rpnL (R : Row) (t : Nat) : List Int32 → List Bool → Option (List Bool)
  | [], st => some st
  | c :: cs, st => match stepS R t c st with | none => none | some s2 => rpnL R t cs s2
theorem rpnL_app {R : Row} {t : Nat} {ds : List Int32} : ∀ (cs : List Int32) (st s2 : List Bool), rpnL R t cs st = some s2 → rpnL R t (cs ++ ds) st = rpnL R t ds s2 := by
  intro cs
  induction cs with
  | nil =>
    intro st s2 h
    have h : some st = some s2 := h
    cases h
    rfl
  | cons c cs ih =>
    intro st s2 h
    show rpnL R t (c :: (cs ++ ds)) st = _
    have e1 : ∀ l, rpnL R t (c :: l) st = match stepS R t c st with | none => none | some s2 => rpnL R t l s2 := fun l => rfl
    rw [e1] at h ⊢
    cases e : stepS R t c st with
    | none => rw [e] at h; exact absurd h (by simp)
    | some s3 =>
      rw [e] at h
      exact ih s3 s2 h
def Ev (R : Row) (cs : List Int32) (f : Nat → Bool) : Prop := ∀ t st, rpnL R t cs st = some (f t :: st)
def Good (L : Nat) (R : Row) (a : Nat) (r : Res) : Prop := r.1 ≤ L ∧ ∀ x, r.2 = some x → a + x.1.length ≤ r.1 ∧ a < r.1 ∧ Ev R x.1 x.2
theorem Good.none {L a p : Nat} {R : Row} (h : p ≤ L) : Good L R a (p, none) := ⟨h, fun x hx => absurd hx (by simp)⟩
theorem Good.leaf {L a p : Nat} {R : Row} {c : Int32} (h : p ≤ L) (ha : a < p) (h0 : ¬ c = 100) (h1 : ¬ c = 101) (h2 : ¬ c = 102) (hv : valB c = true) : Good L R a (p, leaf R c) := by
  refine ⟨h, fun x hx => ?_⟩
  have hx : some ([c], fun t => hoF R c t) = some x := hx
  cases hx
  refine ⟨ha, ha, fun t st => ?_⟩
  show rpnL R t [c] st = _
  have e : stepS R t c st = some (hoF R c t :: st) := by
    unfold stepS
    rw [if_neg h0, if_neg h1, if_neg h2, if_pos hv]
  unfold rpnL
  rw [e]
  rfl
theorem nI7 : ∀ w, w < 7 → ¬ nI w = 100 ∧ ¬ nI w = 101 ∧ ¬ nI w = 102 := by decide +kernel
theorem good_comp {T : Txt} {L a : Nat} {R : Row} (h : a ≤ L) : Good L R a (compP T L R a) := by
  have hend := al_end (T := T) (w := selW T L a) h
  unfold compP
  split
  · exact Good.none h
  · rename_i n10
    have s10 : selW T L a < 10 := (sel_al (T := T) (L := L) (a := a)).1.resolve_right n10
    have lt := (ln_tab (selW T L a) (by omega)).1
    split
    · rename_i full
      rw [full] at hend
      split
      · rename_i w7
        obtain ⟨z0, z1, z2⟩ := nI7 _ w7
        exact Good.leaf hend (by omega) z0 z1 z2 (val_w _ w7)
      · rename_i w7
        unfold measP
        cases e : sgP T L (a + lnN (selW T L a)) with
        | none => exact Good.none hend
        | some s =>
          have hs := sgP_lt e
          have hp : a + lnN (selW T L a) < L := by
            unfold sgP at e
            split at e
            · rename_i g; exact g.1
            · split at e
              · rename_i g; exact g.1
              · split at e
                · rename_i g; exact g.1
                · exact absurd e (by simp)
          show Good L R a (numP T L R (selW T L a) s (a + lnN (selW T L a) + 1))
          unfold numP
          split
          · rename_i d
            have d := digB_1.mp d
            split
            · rename_i d2
              have d2 := digB_1.mp d2
              obtain ⟨m, hm, em⟩ := num_of d d2
              rw [em]
              obtain ⟨-, -, -, -, z0, z1, z2⟩ := cd_tab _ s10 (by omega) s hs m hm
              exact Good.leaf d2.1 (by omega) z0 z1 z2 (val_m _ s10 (by omega) s hs m hm)
            · obtain ⟨m, hm, em⟩ := num_of1 d
              rw [em]
              obtain ⟨-, -, -, -, z0, z1, z2⟩ := cd_tab _ s10 (by omega) s hs m hm
              exact Good.leaf d.1 (by omega) z0 z1 z2 (val_m _ s10 (by omega) s hs m hm)
          · exact Good.none hp
    · exact Good.none hend
def binL (po : Nat → Res) (T : Txt) (L : Nat) (sep code : Int32) (op : Bool → Bool → Bool) : Nat → Nat → List Int32 → (Nat → Bool) → Res
  | 0, p, cs, f => (p, some (cs, f))
  | m + 1, p, cs, f => if p < L ∧ T p = sep then (match (po (p + 1)).2 with | none => ((po (p + 1)).1, none) | some x => binL po T L sep code op m (po (p + 1)).1 (cs ++ x.1 ++ [code]) (fun t => op (f t) (x.2 t))) else (p, some (cs, f))
def binP (po : Nat → Res) (T : Txt) (L : Nat) (sep code : Int32) (op : Bool → Bool → Bool) (a : Nat) : Res :=
  match (po a).2 with
  | none => ((po a).1, none)
  | some x => binL po T L sep code op 60 (po a).1 x.1 x.2
def OpOk (R : Row) (code : Int32) (op : Bool → Bool → Bool) : Prop := ∀ t b c s, stepS R t code (c :: b :: s) = some (op b c :: s)
theorem op_and {R : Row} : OpOk R 101 and := fun t b c s => rfl
theorem op_or {R : Row} : OpOk R 102 or := fun t b c s => rfl
theorem good_binL {po : Nat → Res} {T : Txt} {L a : Nat} {R : Row} {sep code : Int32} {op : Bool → Bool → Bool} (ho : OpOk R code op) (hp : ∀ p, p ≤ L → Good L R p (po p)) : ∀ (m p : Nat) (cs : List Int32) (f : Nat → Bool), p ≤ L → a + cs.length ≤ p → a < p → Ev R cs f → Good L R a (binL po T L sep code op m p cs f) := by
  intro m
  induction m with
  | zero =>
    intro p cs f h1 h2 h3 h4
    refine ⟨h1, fun x hx => ?_⟩
    have hx : some (cs, f) = some x := hx
    cases hx
    exact ⟨h2, h3, h4⟩
  | succ m ih =>
    intro p cs f h1 h2 h3 h4
    unfold binL
    split
    · rename_i g
      have gp := hp (p + 1) g.1
      generalize po (p + 1) = r at gp ⊢
      obtain ⟨p2, o⟩ := r
      cases o with
      | none => exact Good.none gp.1
      | some x =>
        obtain ⟨g1, g2, g3⟩ := gp.2 x rfl
        have g1 : p + 1 + x.1.length ≤ p2 := g1
        have g2 : p + 1 < p2 := g2
        refine ih p2 _ _ gp.1 ?_ (by omega) (fun t st => ?_)
        · rw [List.length_append, List.length_append]
          show a + (cs.length + x.1.length + 1) ≤ p2
          omega
        · have e1 := rpnL_app (ds := x.1) cs st _ (h4 t st)
          rw [g3 t (f t :: st)] at e1
          have e2 := rpnL_app (ds := [code]) (cs ++ x.1) st _ e1
          rw [e2]
          unfold rpnL
          rw [ho t (f t) (x.2 t) st]
          rfl
    · refine ⟨h1, fun x hx => ?_⟩
      have hx : some (cs, f) = some x := hx
      cases hx
      exact ⟨h2, h3, h4⟩
theorem good_binP {po : Nat → Res} {T : Txt} {L a : Nat} {R : Row} {sep code : Int32} {op : Bool → Bool → Bool} (ho : OpOk R code op) (hp : ∀ p, p ≤ L → Good L R p (po p)) (ha : a ≤ L) : Good L R a (binP po T L sep code op a) := by
  have gp := hp a ha
  unfold binP
  generalize po a = r at gp ⊢
  obtain ⟨p2, o⟩ := r
  cases o with
  | none => exact Good.none gp.1
  | some x =>
    obtain ⟨g1, g2, g3⟩ := gp.2 x rfl
    exact good_binL ho hp 60 p2 x.1 x.2 gp.1 g1 g2 g3
def queP (po : Nat → Res) (T : Txt) (L a : Nat) : Res := binP (binP po T L 43 101 and) T L 47 102 or a
def notP (r : Res) : Res := match r.2 with | none => (r.1, none) | some x => (r.1, some (x.1 ++ [100], fun t => !x.2 t))
def brP (T : Txt) (L : Nat) (r : Res) : Res := match r.2 with | none => (r.1, none) | some x => if r.1 < L ∧ T r.1 = 93 then (r.1 + 1, some x) else (r.1, none)
def oneP (T : Txt) (L : Nat) (R : Row) : Nat → Nat → Nat → Res
  | 0, _, a => (a, none)
  | d + 1, o, a => if a < L ∧ T a = 45 then (if o < 4 then notP (oneP T L R d (o + 1) (a + 1)) else (a, none)) else if a < L ∧ T a = 91 then (if o < 4 then brP T L (queP (oneP T L R d (o + 1)) T L (a + 1)) else (a, none)) else compP T L R a
theorem good_not {L a : Nat} {R : Row} {r : Res} (h : Good L R (a + 1) r) : Good L R a (notP r) := by
  obtain ⟨p2, o⟩ := r
  unfold notP
  cases o with
  | none => exact Good.none h.1
  | some x =>
    obtain ⟨g1, g2, g3⟩ := h.2 x rfl
    have g1 : a + 1 + x.1.length ≤ p2 := g1
    have g2 : a + 1 < p2 := g2
    refine ⟨h.1, fun y hy => ?_⟩
    have hy : some (x.1 ++ [100], fun t => !x.2 t) = some y := hy
    cases hy
    refine ⟨?_, by show a < p2; omega, fun t st => ?_⟩
    · show a + (x.1 ++ [100]).length ≤ p2
      rw [List.length_append]
      show a + (x.1.length + 1) ≤ p2
      omega
    · show rpnL R t (x.1 ++ [100]) st = _
      rw [rpnL_app (ds := [100]) x.1 st _ (g3 t st)]
      rfl
theorem good_br {T : Txt} {L a : Nat} {R : Row} {r : Res} (h : Good L R (a + 1) r) : Good L R a (brP T L r) := by
  obtain ⟨p2, o⟩ := r
  unfold brP
  cases o with
  | none => exact Good.none h.1
  | some x =>
    obtain ⟨g1, g2, g3⟩ := h.2 x rfl
    have g1 : a + 1 + x.1.length ≤ p2 := g1
    have g2 : a + 1 < p2 := g2
    show Good L R a (if p2 < L ∧ T p2 = 93 then (p2 + 1, some x) else (p2, none))
    split
    · rename_i g
      refine ⟨g.1, fun y hy => ?_⟩
      have hy : some x = some y := hy
      cases hy
      exact ⟨by show a + x.1.length ≤ p2 + 1; omega, by show a < p2 + 1; omega, g3⟩
    · exact Good.none h.1
theorem good_one {T : Txt} {L : Nat} {R : Row} : ∀ (d o a : Nat), a ≤ L → Good L R a (oneP T L R d o a) := by
  intro d
  induction d with
  | zero => intro o a h; exact Good.none h
  | succ d ih =>
    intro o a h
    unfold oneP
    split
    · rename_i g
      split
      · exact good_not (ih (o + 1) (a + 1) g.1)
      · exact Good.none h
    · split
      · rename_i g
        split
        · exact good_br (good_binP op_or (fun p hp => good_binP op_and (fun p hp => ih (o + 1) p hp) hp) g.1)
        · exact Good.none h
      · exact good_comp h

