/-! crossedIn -/
/-- the hours to the other bank, -1 if it is not so soon -/
def hcF (R : Row) (kind : Int32) (far : Bool) : Nat → Nat → Nat → Int32 → Int32
  | 0, _, _, _ => -1
  | m + 1, k, q, fl =>
    if goB R (nxF fl (R 2)) far 10 q ≠ q ∧ (goB R (nxF fl (R 2)) far 10 q = 0 ∨ goB R (nxF fl (R 2)) far 10 q = 11) then -1
    else if stepN R (nxF fl (R 2)) kind far (goB R (nxF fl (R 2)) far 10 q) = tgN far then nI k
    else hcF R kind far m (k + 1) (stepN R (nxF fl (R 2)) kind far (goB R (nxF fl (R 2)) far 10 q)) (nxF fl (R 2))
theorem goB_tg {R : Row} {fl : Int32} {far : Bool} {q : Nat} (hq : q ≤ 11) (h1 : far = true → q ≤ 10) (h0 : far = false → 1 ≤ q) : goB R fl far 10 q ≤ 11 ∧ (far = true → goB R fl far 10 q ≤ 10) ∧ (far = false → 1 ≤ goB R fl far 10 q) := by
  refine ⟨goB_le 10 q hq, fun g => ?_, fun g => ?_⟩
  · subst g
    have := goB_far (R := R) (fl := fl) 10 q
    have := h1 rfl
    omega
  · subst g
    have := goB_near (R := R) (fl := fl) 10 q
    have := h0 rfl
    omega
theorem step_tg {R : Row} {fl kind : Int32} {far : Bool} {q : Nat} (hq : q ≤ 11) (h1 : far = true → q ≤ 10) (h2 : stepN R fl kind far q ≠ tgN far) : stepN R fl kind far q ≤ 11 ∧ (far = true → stepN R fl kind far q ≤ 10) ∧ (far = false → 1 ≤ stepN R fl kind far q) := by
  have := stepN_le (R := R) (fl := fl) (kind := kind) hq h1
  unfold tgN at h2
  refine ⟨this, fun g => ?_, fun g => ?_⟩
  · rw [if_pos g] at h2
    omega
  · rw [if_neg (by rw [g]; decide)] at h2
    omega
theorem X0_b35_s {post : Int32 → Mem → Prop} {S : Mem} {n t : Nat} {R : Row} (hR : RepC S 0 R n) (ht : t < n) (h3 : trv R t 3 = 1) : ∀ (m k q : Nat) (fl : Int32), k + m = 61 → q ≤ 11 → (decide (trv R t 4 = 1) = true → q ≤ 10) → (decide (trv R t 4 = 1) = false → 1 ≤ q) → lvl fl → post (hcF R (kindF (trv R t 0)) (decide (trv R t 4 = 1)) m k q fl) S → mX0_hoursToCross_b35 post (m + 1) S 0 t (kindF (trv R t 0)) (pl q) fl (nI k) := by
  have w := hR.1
  have wt := w.t ht
  have ew : wayF (trv R t) = trv R t 4 := if_pos h3
  have k4 : S 2 t 4 = trv R t 4 := (hR.way ht).trans ew
  have ed : decide (¬ trv R t 4 = 0) = decide (trv R t 4 = 1) := by
    rcases wt.2.2.2.2.1 with g | g
    · rw [g]; rfl
    · rw [g]; rfl
  have hh := hR.2.2.2.2.2.2.2.2.2.2.2.1
  intro m
  induction m with
  | zero =>
    intro k q fl hk hq q1 q0 hl h
    unfold mX0_hoursToCross_b35
    refine ⟨fun _ => h, fun g => absurd (show (60 : Int32) < nI k from (nI_ltI (a := 60) (by decide) (by omega)).mpr (by omega)) g⟩
  | succ m ih =>
    intro k q fl hk hq q1 q0 hl h
    unfold mX0_hoursToCross_b35
    refine ⟨fun g => absurd ((nI_ltI (a := 60) (by decide) (by omega)).mp g) (by omega), fun _ => X0_levelAfterHour_s hR.sc.2.2.2.1 ?_⟩
    rw [k4]
    have hl2 := nx_lvl hl w.2.2.2.1
    refine X0_back_s hq w hh hl2 ?_
    rw [ed]
    unfold hcF at h
    have gt := goB_tg (R := R) (fl := nxF fl (R 2)) hq q1 q0
    generalize goB R (nxF fl (R 2)) (decide (trv R t 4 = 1)) 10 q = b at h gt ⊢
    have b79 : ¬ (b ≠ q ∧ (b = 0 ∨ b = 11)) → mX0_hoursToCross_b79 post (fun S j0 i1 v2 v3 v4 v5 => mX0_hoursToCross_b35 post (m + 1) S j0 i1 v2 v3 v4 v5) S 0 t (kindF (trv R t 0)) (nxF fl (R 2)) (nI k) (pl b) := by
      intro g
      rw [if_neg g] at h
      unfold mX0_hoursToCross_b79
      rw [k4]
      refine X0_step_s gt.1 (fun z => gt.2.1 (decide_eq_true (wt.2.2.2.2.1.resolve_left z))) (fun z => gt.2.2 (decide_eq_false (by rw [z]; decide))) w hh hl2 ?_
      rw [ed, k4]
      have st := step_tg (R := R) (fl := nxF fl (R 2)) (kind := kindF (trv R t 0)) gt.1 gt.2.1
      have sle := stepN_le (R := R) (fl := nxF fl (R 2)) (kind := kindF (trv R t 0)) gt.1 gt.2.1
      generalize stepN R (nxF fl (R 2)) (kindF (trv R t 0)) (decide (trv R t 4 = 1)) b = p at h st sle ⊢
      have go : p ≠ tgN (decide (trv R t 4 = 1)) → ∀ x : Int32, x = nI k + 1 → mX0_hoursToCross_b35 post (m + 1) S 0 t (kindF (trv R t 0)) (pl p) (nxF fl (R 2)) x := by
        intro z x ex
        rw [if_neg z] at h
        obtain ⟨p1, p2, p3⟩ := st z
        rw [ex, inc]
        exact ih (k + 1) p _ (by omega) p1 p2 p3 hl2 h
      have come : p = tgN (decide (trv R t 4 = 1)) → post (nI k) S := by
        intro z
        rw [if_pos z] at h
        exact h
      refine ⟨fun z => ?_, fun z => ?_⟩
      · have et : tgN (decide (trv R t 4 = 1)) = 0 := by rw [z]; rfl
        rw [et] at go come
        exact ⟨fun y => go (fun x => y (by rw [x]; rfl)), fun y => come (pl_inj sle (by decide) y)⟩
      · have et : tgN (decide (trv R t 4 = 1)) = 11 := by rw [wt.2.2.2.2.1.resolve_left z]; rfl
        rw [et] at go come
        exact ⟨fun y => go (fun x => y (by rw [x]; rfl)), fun y => come (pl_inj sle (by decide) y)⟩
    refine ⟨fun g => ?_, fun g => ?_⟩
    · exact b79 (fun z => z.1 (pl_inj gt.1 hq g))
    · have hne : b ≠ q := fun z => g (by rw [z])
      refine X5_stone_pl gt.1 (fun a ha ea => ⟨fun _ => b79 (fun z => by omega), fun z => ne10 z⟩) (fun z => ⟨fun y => absurd rfl y, fun _ => ?_⟩)
      rw [if_pos ⟨hne, z⟩] at h
      exact h
def crF (R : Row) (t : Nat) : Int32 := if trv R t 3 = 1 ∧ trv R t 5 = 0 then hcF R (kindF (trv R t 0)) (decide (trv R t 4 = 1)) 60 1 (plN (trv R t 2)) (R 1) else -1
theorem X0_cross_s {post : Int32 → Mem → Prop} {S : Mem} {n t : Nat} {R : Row} (hR : RepC S 0 R n) (ht : t < n) (h : post (crF R t) S) : mX0_hoursToCross post S 0 t := by
  have w := hR.1
  have wt := w.t ht
  obtain ⟨q, hq, e2⟩ := wt.pl
  have k0 : S 2 t 0 = trv R t 0 := hR.fld ht (by decide) (by decide)
  have k2 : S 2 t 2 = pl q := (hR.fld ht (by decide) (by decide)).trans e2
  have k3 : S 2 t 3 = trv R t 3 := hR.fld ht (by decide) (by decide)
  have k5 : S 2 t 5 = trv R t 5 := hR.fld ht (by decide) (by decide)
  unfold mX0_hoursToCross
  rw [k3, k5]
  unfold crF at h
  refine ⟨fun g => ?_, fun g => ⟨fun g5 => X3_kind_s k0 (fun x5 ex5 x6 ex6 => ?_), fun g5 => ?_⟩⟩
  · rw [if_neg (fun z => absurd (g.symm.trans z.1) (by decide))] at h
    exact h
  · have r3 : trv R t 3 = 1 := wt.2.2.2.1.resolve_left g
    have en := ends wt r3 e2 hq
    rw [if_pos ⟨r3, g5⟩, e2, plN_pl hq] at h
    rw [k2] at ex5
    rw [hR.sc.2.2.1] at ex6
    subst ex5 ex6
    exact ⟨61, X0_b35_s hR ht r3 60 1 q _ (by decide) hq (fun z => en.1 (of_decide_eq_true z)) (fun z => en.2 (wt.2.2.2.2.1.resolve_right (of_decide_eq_false z))) w.lv h⟩
  · rw [if_neg (fun z => g5 z.2)] at h
    exact h
/-- one who does not come over any more -/
def Dead (R : Row) (t : Nat) : Prop := ¬ (trv R t 3 = 1 ∧ trv R t 5 = 0)
theorem hour_go {R : Row} {n t q : Nat} (w : WFR R n) (ht : t < n) (h2 : trv R t 2 = pl q) (hq : q ≤ 11) : trv (hourR R n) t 0 = trv R t 0 ∧ trv (hourR R n) t 4 = trv R t 4 ∧
    (Dead R t → Dead (hourR R n) t ∧ trv (hourR R n) t 2 = pl (goB R (nxF (R 1) (R 2)) (decide (trv R t 4 = 1)) 10 q)) ∧
    (¬ Dead R t → (goB R (nxF (R 1) (R 2)) (decide (trv R t 4 = 1)) 10 q ≠ q ∧ (goB R (nxF (R 1) (R 2)) (decide (trv R t 4 = 1)) 10 q = 0 ∨ goB R (nxF (R 1) (R 2)) (decide (trv R t 4 = 1)) 10 q = 11)) → Dead (hourR R n) t ∧ trv (hourR R n) t 2 = pl (goB R (nxF (R 1) (R 2)) (decide (trv R t 4 = 1)) 10 q)) ∧
    (¬ Dead R t → ¬ (goB R (nxF (R 1) (R 2)) (decide (trv R t 4 = 1)) 10 q ≠ q ∧ (goB R (nxF (R 1) (R 2)) (decide (trv R t 4 = 1)) 10 q = 0 ∨ goB R (nxF (R 1) (R 2)) (decide (trv R t 4 = 1)) 10 q = 11)) →
      trv (hourR R n) t 2 = pl (stepN R (nxF (R 1) (R 2)) (kindF (trv R t 0)) (decide (trv R t 4 = 1)) (goB R (nxF (R 1) (R 2)) (decide (trv R t 4 = 1)) 10 q)) ∧
      (stepN R (nxF (R 1) (R 2)) (kindF (trv R t 0)) (decide (trv R t 4 = 1)) (goB R (nxF (R 1) (R 2)) (decide (trv R t 4 = 1)) 10 q) ≠ tgN (decide (trv R t 4 = 1)) → ¬ Dead (hourR R n) t)) := by
  have f : ∀ f, f < 8 → f ≠ 1 → trv (hourR R n) t f = trv (onR (backR (hourA R) t) t) t f := fun f hf h1 => hour_f w ht hf h1
  have aT : ∀ f, f < 8 → trv (hourA R) t f = trv R t f := fun f hf => upd_ne (by omega)
  have a1 : hourA R 1 = nxF (R 1) (R 2) := upd_same
  have hh : HH R (hourA R) := fun k h1 h2 => upd_ne (by omega)
  obtain ⟨b0, b4, b2, bg, bn⟩ := back_f (R := hourA R) (t := t) ((aT 2 (by decide)).trans h2) hq
  rw [a1, aT 4 (by decide), goB_congr hh] at b2 bg bn
  rw [aT 0 (by decide)] at b0
  rw [aT 4 (by decide)] at b4
  rw [aT 3 (by decide), aT 5 (by decide)] at bn
  obtain ⟨o0, o4, o1, o2, o3⟩ := on_f (R := backR (hourA R) t) (t := t)
  have u : (undP (hourA R) (nxF (R 1) (R 2)) q ∧ (goB R (nxF (R 1) (R 2)) (decide (trv R t 4 = 1)) 10 q = 0 ∨ goB R (nxF (R 1) (R 2)) (decide (trv R t 4 = 1)) 10 q = 11)) ↔ (goB R (nxF (R 1) (R 2)) (decide (trv R t 4 = 1)) 10 q ≠ q ∧ (goB R (nxF (R 1) (R 2)) (decide (trv R t 4 = 1)) 10 q = 0 ∨ goB R (nxF (R 1) (R 2)) (decide (trv R t 4 = 1)) 10 q = 11)) := by
    rw [← goB_congr hh]
    constructor
    · rintro ⟨u1, u2⟩
      exact ⟨goB_ne u1, u2⟩
    · rintro ⟨u1, u2⟩
      exact ⟨Classical.byContradiction (fun z => u1 (goB_stay z)), u2⟩
  rw [u] at bg bn
  have stp : stpT (backR (hourA R) t) t = stepN R (nxF (R 1) (R 2)) (kindF (trv R t 0)) (decide (trv R t 4 = 1)) (goB R (nxF (R 1) (R 2)) (decide (trv R t 4 = 1)) 10 q) ∨ Dead R t := by
    by_cases d : Dead R t
    · exact Or.inr d
    · refine Or.inl ?_
      have d := Classical.not_not.mp d
      have hB : HH R (backR (hourA R) t) := fun k h1 h2 => ((backR_o (R := hourA R) (t := t)) k (by omega) (by omega)).trans (hh k h1 h2)
      have e1 : backR (hourA R) t 1 = nxF (R 1) (R 2) := ((backR_o (R := hourA R) (t := t)) 1 (by omega) (by omega)).trans a1
      have gl := goB_le (R := R) (fl := nxF (R 1) (R 2)) (far := decide (trv R t 4 = 1)) 10 q hq
      have en := ends (w.t ht) d.1 h2 hq
      have gt := goB_tg (R := R) (fl := nxF (R 1) (R 2)) (far := decide (trv R t 4 = 1)) hq (fun z => en.1 (of_decide_eq_true z)) (fun z => en.2 ((w.t ht).2.2.2.2.1.resolve_right (of_decide_eq_false z)))
      unfold stpT
      rw [e1, b0, b4, b2, plN_pl gl]
      exact stepN_congr hB (nxN_le gl gt.2.1)
  have tg : tgT (backR (hourA R) t) t = tgN (decide (trv R t 4 = 1)) := by
    unfold tgT
    rw [b4]
  refine ⟨by rw [f 0 (by decide) (by decide), o0, b0], by rw [f 4 (by decide) (by decide), o4, b4], fun d => ?_, fun d g => ?_, fun d g => ?_⟩
  · have dB : Dead (backR (hourA R) t) t := by
      unfold Dead
      by_cases g : (goB R (nxF (R 1) (R 2)) (decide (trv R t 4 = 1)) 10 q ≠ q ∧ (goB R (nxF (R 1) (R 2)) (decide (trv R t 4 = 1)) 10 q = 0 ∨ goB R (nxF (R 1) (R 2)) (decide (trv R t 4 = 1)) 10 q = 11))
      · rw [(bg g).1]
        exact fun z => absurd z.1 (by decide)
      · rw [(bn g).1, (bn g).2]
        exact d
    have e := o1 dB
    refine ⟨?_, by rw [f 2 (by decide) (by decide), e, b2]⟩
    unfold Dead
    rw [f 3 (by decide) (by decide), f 5 (by decide) (by decide), e]
    exact dB
  · have dB : Dead (backR (hourA R) t) t := by
      unfold Dead
      rw [(bg g).1]
      exact fun z => absurd z.1 (by decide)
    have e := o1 dB
    refine ⟨?_, by rw [f 2 (by decide) (by decide), e, b2]⟩
    unfold Dead
    rw [f 3 (by decide) (by decide), f 5 (by decide) (by decide), e]
    exact dB
  · have al : trv (backR (hourA R) t) t 3 = 1 ∧ trv (backR (hourA R) t) t 5 = 0 := by
      rw [(bn g).1, (bn g).2]
      exact Classical.not_not.mp d
    have es := stp.resolve_right d
    refine ⟨by rw [f 2 (by decide) (by decide), o2 al, es], fun z => ?_⟩
    unfold Dead
    rw [f 3 (by decide) (by decide), f 5 (by decide) (by decide), (o3 al (by rw [es, tg]; exact z)).1, (o3 al (by rw [es, tg]; exact z)).2]
    exact fun y => y ⟨rfl, rfl⟩

