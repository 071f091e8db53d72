/-! questions: the reference's codes at work -/
def b2i (b : Bool) : Int32 := if b = true then 1 else 0
theorem b2i_b {b : Bool} : isB (b2i b) := by cases b; exact Or.inl rfl; exact Or.inr rfl
theorem b2i_0 {b : Bool} : b2i b = 0 ↔ b = false := by cases b <;> decide
theorem dec_post {P : Prop} [Decidable P] {post : Int32 → Mem → Prop} {S : Mem} (h : post (b2i (decide P)) S) : (¬ P → post 0 S) ∧ (P → post 1 S) := by
  refine ⟨fun g => ?_, fun g => ?_⟩
  · rw [decide_eq_false g] at h; exact h
  · rw [decide_eq_true g] at h; exact h
theorem X6_holds_s {post : Int32 → Mem → Prop} {S : Mem} {n t : Nat} {c : Int32} (w : WFR (S 11 0) n) (ht : t < n) (hv : valB c = true) (h : post (b2i (hoF (S 11 0) c t)) S) : mX6_holds post S c (nI t) := by
  have t8 : t < 8 := by have := w.1; omega
  have wt := w.t ht
  unfold hoF at h
  unfold mX6_holds
  refine ⟨fun g => ?_, fun g => ?_⟩
  · rw [if_pos g] at h
    refine ⟨fun e => X6_kind_s t8 ?_, fun e => X6_kind_s t8 ?_, fun e => X6_kind_s t8 ?_, fun e => of_s (f := 2) t8 (by decide) ?_, fun e => of_s (f := 2) t8 (by decide) ?_, fun e => of_s (f := 2) t8 (by decide) ?_, fun e => of_s (f := 3) t8 (by decide) ?_⟩
    · rw [if_pos (Or.inl e)] at h
      exact dec_post h
    · rw [if_pos (Or.inr (Or.inl e))] at h
      exact dec_post h
    · rw [if_pos (Or.inr (Or.inr e))] at h
      exact dec_post h
    · subst e
      rw [if_neg (by decide), if_pos rfl] at h
      exact dec_post h
    · subst e
      rw [if_neg (by decide), if_neg (by decide), if_pos rfl] at h
      exact dec_post h
    · subst e
      rw [if_neg (by decide), if_neg (by decide), if_neg (by decide), if_pos rfl] at h
      obtain ⟨q, hq, e2⟩ := wt.pl
      rw [e2, plN_pl hq] at h
      rw [e2]
      refine X6_stone_pl hq (fun a ha ea => ⟨Or.inr rfl, ?_⟩) (fun z => ⟨Or.inl rfl, ?_⟩)
      · rw [decide_eq_true (by omega)] at h
        exact h
      · rw [decide_eq_false (by omega)] at h
        exact h
    · obtain ⟨e0, e1, e2, e3, e4, e5⟩ := e
      rw [if_neg (by rintro (z | z | z); exact e0 z; exact e1 z; exact e2 z), if_neg e3, if_neg e4, if_neg e5] at h
      exact dec_post h
  · rw [if_neg g] at h
    have hf : ∃ f, f < 8 ∧ ((c / 1000) - (c / 1000) / 10 * 10) = nI f := by
      unfold valB at hv
      rw [decide_eq_false g, Bool.false_or, Bool.and_eq_true, decide_eq_true_eq, decide_eq_true_eq] at hv
      exact nI_lt_of (n := 8) (by decide) hv.1 hv.2
    obtain ⟨f, hf, ef⟩ := hf
    rw [ef, nI_clamp (by omega)] at h
    rw [ef]
    refine of_s t8 hf (fun x27 e27 x28 e28 => ?_)
    subst e27 e28
    unfold soR at h
    refine ⟨fun g0 => ⟨fun g1 => ?_, fun g1 => ?_⟩, fun g0 => ?_⟩
    · rw [if_neg g0, if_neg g1] at h
      have := dec_post h
      exact ⟨fun z => this.1 (fun y => y z), fun z => this.2 z⟩
    · rw [if_neg g0, if_pos g1] at h
      exact dec_post h
    · rw [if_pos g0] at h
      have := dec_post h
      exact ⟨fun z => this.1 (fun y => y z), fun z => this.2 z⟩
/-- the stack of the reference -/
def Stk (S : Mem) : List Bool → Prop
  | [] => True
  | b :: s => S 19 0 s.length = b2i b ∧ Stk S s
theorem Stk.wr {S : Mem} {k : Nat} {v : Int32} : ∀ (s : List Bool), Stk S s → s.length ≤ k → Stk (wr S 19 0 k v) s := by
  intro s
  induction s with
  | nil => intro _ _; trivial
  | cons b s ih =>
    intro h hk
    have hk : s.length + 1 ≤ k := hk
    exact ⟨by rw [wr_k (by omega)]; exact h.1, ih h.2 (by omega)⟩
theorem rpn_cons {R : Row} {t : Nat} {c : Int32} {cs : List Int32} {st r : List Bool} (h : rpnL R t (c :: cs) st = some r) : ∃ s2, stepS R t c st = some s2 ∧ rpnL R t cs s2 = some r := by
  have e : rpnL R t (c :: cs) st = match stepS R t c st with | none => none | some s2 => rpnL R t cs s2 := rfl
  rw [e] at h
  cases e2 : stepS R t c st with
  | none => rw [e2] at h; exact absurd h (by simp)
  | some s2 => rw [e2] at h; exact ⟨s2, rfl, h⟩
theorem step_100 {R : Row} {t : Nat} {st s2 : List Bool} (h : stepS R t 100 st = some s2) : ∃ b s, st = b :: s ∧ s2 = (!b) :: s := by
  cases st with
  | nil => exact absurd h (by simp [stepS])
  | cons b s =>
    have h : some ((!b) :: s) = some s2 := h
    cases h
    exact ⟨b, s, rfl, rfl⟩
theorem step_101 {R : Row} {t : Nat} {st s2 : List Bool} (h : stepS R t 101 st = some s2) : ∃ b a s, st = b :: a :: s ∧ s2 = (a && b) :: s := by
  cases st with
  | nil => exact absurd h (by simp [stepS])
  | cons b s =>
    cases s with
    | nil => exact absurd h (by simp [stepS])
    | cons a s =>
      have h : some ((a && b) :: s) = some s2 := h
      cases h
      exact ⟨b, a, s, rfl, rfl⟩
theorem step_102 {R : Row} {t : Nat} {st s2 : List Bool} (h : stepS R t 102 st = some s2) : ∃ b a s, st = b :: a :: s ∧ s2 = (a || b) :: s := by
  cases st with
  | nil => exact absurd h (by simp [stepS])
  | cons b s =>
    cases s with
    | nil => exact absurd h (by simp [stepS])
    | cons a s =>
      have h : some ((a || b) :: s) = some s2 := h
      cases h
      exact ⟨b, a, s, rfl, rfl⟩
theorem step_ho {R : Row} {t : Nat} {c : Int32} {st s2 : List Bool} (h0 : ¬ c = 100) (h1 : ¬ c = 101) (h2 : ¬ c = 102) (h : stepS R t c st = some s2) : valB c = true ∧ s2 = hoF R c t :: st := by
  unfold stepS at h
  rw [if_neg h0, if_neg h1, if_neg h2] at h
  split at h
  · rename_i g
    cases h
    exact ⟨g, rfl⟩
  · exact absurd h (by simp)
theorem app_at {done cs : List Int32} {c : Int32} : (done ++ c :: cs).getD done.length 0 = c := by
  rw [List.getD_eq_getElem?_getD, List.getElem?_append_right (Nat.le_refl _), Nat.sub_self]
  rfl
theorem X6_ful_b4_s {post : Int32 → Mem → Prop} {S0 : Mem} {R : Row} {n t : Nat} {all : List Int32} {b : Bool} (w : WFR R n) (ht : t < n) (hR : S0 11 0 = R) (hN : S0 10 0 14 = nI all.length) (hC : ∀ i, i < all.length → S0 18 0 i = all.getD i 0) (h60 : all.length ≤ 60) (hp : ∀ S' : Mem, (∀ c, c ≠ 19 → S' c = S0 c) → post (b2i b) S') :
    ∀ (cs done : List Int32) (st : List Bool) (S : Mem), all = done ++ cs → (∀ c, c ≠ 19 → S c = S0 c) → Stk S st → st.length ≤ done.length → rpnL R t cs st = some [b] → mX6_fulfils_b4 post (cs.length + 1) S (nI t) (nI st.length) (nI done.length) := by
  intro cs
  induction cs with
  | nil =>
    intro done st S ha hS hk hl hr
    have hr : some st = some [b] := hr
    cases hr
    have hl2 : all.length = done.length := by rw [ha, List.length_append]; rfl
    unfold mX6_fulfils_b4
    rw [hS 10 (by decide), hN, hl2]
    have e : S 19 0 (0 : Int32).toNatClampNeg = b2i b := hk.1
    rw [e]
    exact ⟨fun _ => ⟨vpL rfl, b2i_b, hp S hS⟩, fun g => absurd (nI_le (Nat.le_refl _) (by omega)) g⟩
  | cons c cs ih =>
    intro done st S ha hS hk hl hr
    have hlen : all.length = done.length + (cs.length + 1) := by rw [ha, List.length_append]; rfl
    obtain ⟨s2, e1, e2⟩ := rpn_cons hr
    have ec : S 18 0 (nI done.length).toNatClampNeg = c := by
      rw [nI_clamp (by omega), hS 18 (by decide), hC _ (by omega), ha, app_at]
    have hv : vp_in (nI done.length) 64 := vpN (by omega) (by decide)
    have ed : (done ++ [c]).length = done.length + 1 := by rw [List.length_append]; rfl
    have ha2 : all = (done ++ [c]) ++ cs := by rw [List.append_assoc]; exact ha
    have next : ∀ (S2 : Mem) (m : Nat) (x : Int32), m = s2.length → x = nI done.length + 1 → (∀ c, c ≠ 19 → S2 c = S c) → Stk S2 s2 → s2.length ≤ done.length + 1 → mX6_fulfils_b4 post (cs.length + 1) S2 (nI t) (nI m) x := by
      intro S2 m x hm hx h2 hk2 hl2
      have := ih (done ++ [c]) s2 S2 ha2 (fun c hc => (h2 c hc).trans (hS c hc)) hk2 (by rw [ed]; exact hl2) e2
      rw [ed] at this
      rw [hx, inc, hm]
      exact this
    show mX6_fulfils_b4 post (cs.length + 1 + 1) S (nI t) (nI st.length) (nI done.length)
    unfold mX6_fulfils_b4
    rw [hS 10 (by decide), hN, ec]
    refine ⟨fun g => absurd g (nI_ge (by omega) (by omega)), fun _ => ⟨hv, fun g100 => ⟨hv, fun g101 => ?_, fun g101 => ⟨hv, fun g102 x9 e9 => ⟨hv, ?_⟩, fun g102 => ?_⟩⟩, fun g100 => ?_⟩⟩
    · subst g101
      obtain ⟨b1, a1, s, rfl, rfl⟩ := step_101 e1
      have k1 : S 19 0 (s.length + 1) = b2i b1 := hk.1
      have k2 : S 19 0 s.length = b2i a1 := hk.2.1
      have hl : s.length + 2 ≤ done.length := hl
      unfold mX6_fulfils_b72
      intro x1 ex
      have ex : x1 = nI (s.length + 1) := by rw [ex]; exact pk_m1 (s.length + 1)
      subst ex
      rw [ec]
      have st1 : nI (s.length + 1) - 1 = nI s.length := nI_pred _
      rw [st1, nI_clamp (n := s.length) (by omega), nI_clamp (n := s.length + 1) (by omega), k1, k2]
      have v0 : vp_in (nI s.length) 64 := vpN (by omega) (by decide)
      have v1 : vp_in (nI (s.length + 1)) 64 := vpN (by omega) (by decide)
      have fin1 : ∀ (v : Int32), v = b2i (a1 && b1) → ∀ S4 : Mem, S4 = wr S 19 0 s.length v → ∀ x : Int32, x = nI done.length + 1 → mX6_fulfils_b4 post (cs.length + 1) S4 (nI t) (nI (s.length + 1)) x := by
        intro v hv S4 e4 x hx
        refine next S4 _ x rfl hx (fun c hc => by rw [e4, wr_c hc]) ⟨?_, ?_⟩ (by show s.length + 1 ≤ done.length + 1; omega)
        · rw [e4, wr_same, hv]
        · rw [e4]; exact Stk.wr s hk.2.2 (Nat.le_refl _)
      refine ⟨hv, fun g => absurd rfl g, fun _ => ⟨v0, fun z => ?_, fun z => ⟨v1, fun z2 => ?_, fun z2 => ⟨v0, Or.inr rfl, fun S4 e4 x hx => ?_⟩⟩⟩⟩
      · rw [b2i_0] at z
        unfold mX6_fulfils_b117
        rw [nI_clamp (by omega)]
        exact ⟨v0, Or.inl rfl, fun S4 e4 x hx => fin1 0 (by rw [z]; rfl) S4 e4 x hx⟩
      · rw [b2i_0] at z2
        unfold mX6_fulfils_b117
        rw [nI_clamp (by omega)]
        exact ⟨v0, Or.inl rfl, fun S4 e4 x hx => fin1 0 (by rw [z2]; cases a1 <;> rfl) S4 e4 x hx⟩
      · rw [b2i_0, Bool.not_eq_false] at z z2
        exact fin1 1 (by rw [z, z2]; rfl) S4 e4 x hx
    · obtain ⟨vb, rfl⟩ := step_ho g100 g101 g102 e1
      rw [inc] at e9
      subst e9
      have w' : WFR (S 11 0) n := by rw [hS 11 (by decide), hR]; exact w
      refine X6_holds_s w' ht vb ⟨vpN (by omega) (by decide), b2i_b, fun S15 e15 x hx => ?_⟩
      rw [nI_clamp (by omega), hS 11 (by decide), hR] at e15
      refine next S15 _ x rfl hx (fun c hc => by rw [e15, wr_c hc]) ⟨?_, ?_⟩ (by show st.length + 1 ≤ done.length + 1; omega)
      · rw [e15, wr_same]
      · rw [e15]; exact Stk.wr st hk (Nat.le_refl _)
    · subst g102
      obtain ⟨b1, a1, s, rfl, rfl⟩ := step_102 e1
      have k1 : S 19 0 (s.length + 1) = b2i b1 := hk.1
      have k2 : S 19 0 s.length = b2i a1 := hk.2.1
      have hl : s.length + 2 ≤ done.length := hl
      unfold mX6_fulfils_b72
      intro x1 ex
      have ex : x1 = nI (s.length + 1) := by rw [ex]; exact pk_m1 (s.length + 1)
      subst ex
      rw [ec]
      have st1 : nI (s.length + 1) - 1 = nI s.length := nI_pred _
      rw [st1, nI_clamp (n := s.length) (by omega), nI_clamp (n := s.length + 1) (by omega), k1, k2]
      have v0 : vp_in (nI s.length) 64 := vpN (by omega) (by decide)
      have v1 : vp_in (nI (s.length + 1)) 64 := vpN (by omega) (by decide)
      have fin1 : ∀ (v : Int32), v = b2i (a1 || b1) → ∀ S4 : Mem, S4 = wr S 19 0 s.length v → ∀ x : Int32, x = nI done.length + 1 → mX6_fulfils_b4 post (cs.length + 1) S4 (nI t) (nI (s.length + 1)) x := by
        intro v hv S4 e4 x hx
        refine next S4 _ x rfl hx (fun c hc => by rw [e4, wr_c hc]) ⟨?_, ?_⟩ (by show s.length + 1 ≤ done.length + 1; omega)
        · rw [e4, wr_same, hv]
        · rw [e4]; exact Stk.wr s hk.2.2 (Nat.le_refl _)
      refine ⟨hv, fun _ => ⟨v0, fun z => ?_, fun z => ⟨v1, fun z2 => ⟨v0, Or.inl rfl, fun S4 e4 x hx => ?_⟩, fun z2 => ?_⟩⟩, fun g => absurd g (by decide)⟩
      · rw [b2i_0, Bool.not_eq_false] at z
        unfold mX6_fulfils_b141
        rw [nI_clamp (by omega)]
        exact ⟨v0, Or.inr rfl, fun S4 e4 x hx => fin1 1 (by rw [z]; rfl) S4 e4 x hx⟩
      · rw [b2i_0] at z z2
        exact fin1 0 (by rw [z, z2]; rfl) S4 e4 x hx
      · rw [b2i_0, Bool.not_eq_false] at z2
        unfold mX6_fulfils_b141
        rw [nI_clamp (by omega)]
        exact ⟨v0, Or.inr rfl, fun S4 e4 x hx => fin1 1 (by rw [z2]; cases a1 <;> rfl) S4 e4 x hx⟩
    · subst g100
      obtain ⟨b1, s, rfl, rfl⟩ := step_100 e1
      have k1 : S 19 0 s.length = b2i b1 := hk.1
      have hl : s.length + 1 ≤ done.length := hl
      have st1 : nI (b1 :: s).length - 1 = nI s.length := nI_pred _
      rw [st1, nI_clamp (n := s.length) (by omega), k1]
      have v0 : vp_in (nI s.length) 64 := vpN (by omega) (by decide)
      have fin1 : ∀ (v : Int32), v = b2i (!b1) → ∀ S4 : Mem, S4 = wr S 19 0 s.length v → ∀ x : Int32, x = nI done.length + 1 → mX6_fulfils_b4 post (cs.length + 1) S4 (nI t) (nI (s.length + 1)) x := by
        intro v hv S4 e4 x hx
        refine next S4 _ x rfl hx (fun c hc => by rw [e4, wr_c hc]) ⟨?_, ?_⟩ (by show s.length + 1 ≤ done.length + 1; omega)
        · rw [e4, wr_same, hv]
        · rw [e4]; exact Stk.wr s hk.2 (Nat.le_refl _)
      refine ⟨v0, fun z => ⟨v0, Or.inl rfl, fun S4 e4 x hx => ?_⟩, fun z => ⟨v0, Or.inr rfl, fun S4 e4 x hx => ?_⟩⟩
      · rw [b2i_0, Bool.not_eq_false] at z
        exact fin1 0 (by rw [z]; rfl) S4 e4 x hx
      · rw [b2i_0] at z
        exact fin1 1 (by rw [z]; rfl) S4 e4 x hx
theorem X6_fulfils_s {post : Int32 → Mem → Prop} {S : Mem} {n t : Nat} {cs : List Int32} {f : Nat → Bool} (w : WFR (S 11 0) n) (ht : t < n) (hN : S 10 0 14 = nI cs.length) (hC : ∀ i, i < cs.length → S 18 0 i = cs.getD i 0) (h60 : cs.length ≤ 60) (hE : Ev (S 11 0) cs f) (hp : ∀ S' : Mem, (∀ c, c ≠ 19 → S' c = S c) → post (b2i (f t)) S') : mX6_fulfils post S (nI t) := by
  unfold mX6_fulfils
  exact ⟨cs.length + 1, X6_ful_b4_s (S0 := S) (R := S 11 0) (all := cs) w ht rfl hN hC h60 hp cs [] [] S rfl (fun _ _ => rfl) trivial (Nat.le_refl _) (hE t [])⟩
