/-! p36: a ford is made -/
def lst (l : List Int32) : Row := fun k => l.getD k 0
def r0 : Row := lst [0, 4, 0, 0, 0, 0, 0, 0, 0, 0, 10, 10, 10, 10, 10, 10, 10, 10, 10, 10]
theorem r0_h : ∀ s, s < 10 → r0 (10 + s) = 10 := by decide
theorem start_kk {f : Nat → Nat → Int32} (hf : ∀ j k, j < 10 → k < 10 → f j k = 10) : KK (S0 f) r0 0 0 (fun _ => r0) none := by
  refine ⟨⟨⟨by decide, rfl, ⟨4, by decide, by decide, rfl⟩, ⟨0, by decide, rfl⟩, fun s hs => ⟨10, by decide, by decide, r0_h s hs⟩, fun t ht => absurd ht (by omega)⟩, rfl, rfl, rfl, rfl, rfl, rfl, rfl, rfl, rfl, rfl, fun s hs => ?_, fun t ht => absurd ht (by omega)⟩, ⟨by decide, rfl, 0, by decide, rfl, fun i hi => absurd hi (by omega)⟩, rfl⟩
  show f 0 s = r0 (10 + s)
  rw [hf 0 s (by decide) hs, r0_h s hs]
def Tg (S : Mem) : Prop := S 6 0 1 = 0 ∧ S 3 0 7 = 0
theorem Chg.tg {S S' : Mem} (h : Chg S S') (g : Tg S) : Tg S' := by
  unfold Tg at g ⊢
  rw [h 6 (by decide) (by decide) (by decide) (by decide), h 3 (by decide) (by decide) (by decide) (by decide)]
  exact g
theorem start_tg {f : Nat → Nat → Int32} : Tg (S0 f) := ⟨rfl, rfl⟩
theorem Q_at {ex : Nat → Nat → Nat} {post : Int32 → Mem → Prop} {S : Mem} {k : Nat} (hL : ex 4 1 ≤ 260) (hk : k < 100) (h : ∀ r, post r S) : mL_at ex post S (nI k) := by
  unfold mL_at
  refine ⟨fun _ => h 0, fun g => ⟨vpN ?_ (by omega), h _⟩⟩
  have := mt (nI_leI (a := ex 4 1) (b := k) (by omega) (by omega)).mpr g
  omega
theorem not_rng {a b k : Nat} (h1 : a ≤ k) (h2 : k ≤ b) (hb : b < 1000) : ¬ (nI k < nI a ∨ nI b < nI k) := by
  rintro (g | g)
  · have := (nI_ltI (by omega) (by omega)).mp g
    omega
  · have := (nI_ltI (by omega) (by omega)).mp g
    omega
theorem makes_h {ex : Nat → Nat → Nat} (hL : ex 4 1 ≤ 260) {post : Int32 → Mem → Prop} {K : Mem → Prop} {S0 : Mem} (h : ∀ (S : Mem) (R : Row) (hs : Nat → Row), KK S R 0 8 hs none → R 2 = 0 → R 4 = 0 → Chg S0 S → K S) : ∀ (m s : Nat) (S : Mem) (R : Row) (hs : Nat → Row), s + m = 10 → KK S R 0 (min 8 s) hs none → R 2 = 0 → R 4 = 0 → (∀ k, s ≤ k → k < 10 → R (10 + k) = 10) → Chg S0 S → mL_makes1_b2 ex post K (m + 1) S (nI s) := by
  intro m
  induction m with
  | zero =>
    intro s S R hs hm hK h2 h4 _ c
    have hm : s = 10 := by omega
    subst hm
    unfold mL_makes1_b2
    exact ⟨fun _ => h S R hs hK h2 h4 c, fun g => absurd (by decide) g⟩
  | succ m ih =>
    intro s S R hs hm hK h2 h4 hh c
    unfold mL_makes1_b2
    refine ⟨fun g => absurd g (nI_ge (b := 10) (by omega) (by decide)), fun _ => Q_at hL (by omega) (fun r => Q_some (m := 9) (by decide) (by decide) (fun w hw => ?_))⟩
    rw [show (5 : Int32) + nI w = nI (5 + w) from nI_add 5 w]
    have nr := not_rng (a := 1) (b := 30) (k := 5 + w) (by omega) (by omega) (by decide)
    refine Q_height hK (fun g => absurd g (not10 (by omega))) (fun _ _ _ g => absurd g nr) (fun _ _ _ _ _ g => absurd rfl g) (fun s' hs' e _ _ _ S' k' c' => ?_)
    have := (nI_eq (by omega) (by omega)).mp e
    subst this
    refine eqw (hh s (Nat.le_refl s) (by omega)) (fun x ex => ?_)
    rw [ex, inc]
    refine ih (s + 1) S' (upd R (10 + s) (nI (5 + w))) (newH hs R (min 8 s)) (by omega) ?_ ((upd_ne (by omega)).trans h2) ((upd_ne (by omega)).trans h4) (fun k hk hk2 => (upd_ne (by omega)).trans (hh k (by omega) hk2)) (c.trans c')
    rw [show min 8 (s + 1) = min 8 (min 8 s + 1) by omega]
    exact k'
theorem load_rng : ∀ i, i < 7 → ¬ loadF i < 0 ∧ ¬ 20 < loadF i := by decide
theorem makes_t {ex : Nat → Nat → Nat} (hL : ex 4 1 ≤ 260) {post : Int32 → Mem → Prop} {S0 : Mem} (h : ∀ (S : Mem) (R : Row) (hs : Nat → Row), KK S R 7 8 hs none → Bnd R 7 50 → (∀ i, i < 7 → trv R i 3 = 0 ∧ trv R i 1 = 0) → Chg S0 S → post 1 S) : ∀ (m t : Nat) (S : Mem) (R : Row) (hs : Nat → Row), t + m = 7 → KK S R t 8 hs none → R 2 = 0 → R 4 = 0 → Bnd R t 0 → (∀ i, i < t → trv R i 3 = 0 ∧ trv R i 1 = 0) → Chg S0 S → mL_makes2_b77 ex post (m + 1) S (nI t) := by
  intro m
  induction m with
  | zero =>
    intro t S R hs hm hK h2 h4 hb hT c
    have hm : t = 7 := by omega
    subst hm
    unfold mL_makes2_b77
    refine ⟨fun _ => Q_at (k := 10) hL (by decide) (fun r => Q_some (m := 50) (by decide) (by decide) (fun w hw => ?_)), fun g => absurd (by decide) g⟩
    rw [show (1 : Int32) + nI w = nI (1 + w) from nI_add 1 w]
    have nr := not_rng (a := 1) (b := 50) (k := 1 + w) (by omega) (by omega) (by decide)
    have le99 : R 4 + nI (1 + w) ≤ 99 := by
      rw [h4, Int32.zero_add]
      exact nI_le (b := 99) (by omega) (by decide)
    refine Q_letters hK (fun g => absurd g nr) (fun _ _ g => absurd le99 g) (fun g1 g2 _ S1 k1 c1 => ?_)
    obtain ⟨x, hx, ex, x0, hb'⟩ := let_b hb g1 g2
    rw [ex]
    refine ⟨fun g => absurd ((nI_leI (b := 0) (by omega) (by decide)).mp g) (by omega), fun _ => Q_at (k := 11) hL (by decide) (fun r => Q_some (m := 4) (by decide) (by decide) (fun w2 hw2 => ?_))⟩
    refine Q_rain k1 (fun g => absurd g (not_out (n := 9) (by omega) (by decide))) (fun _ _ S2 k2 c2 => eqv ?_ ?_)
    · rw [upd_ne (by decide), upd_ne (by decide)]
      exact h2
    · refine h S2 _ _ k2 (hb'.cg (upd_ne (by decide)) (fun t _ => upd_ne (by omega)) (fun t _ => upd_ne (by omega))) (fun i hi => ?_) ((c.trans c1).trans c2)
      have z : ∀ (a b d : Int32) (f : Nat), trv (upd (upd (upd R 4 a) 6 b) 2 d) i f = trv R i f := fun a b d f => (trv_updS (by decide)).trans ((trv_updS (by decide)).trans (trv_updS (by decide)))
      rw [z, z]
      exact hT i hi
  | succ m ih =>
    intro t S R hs hm hK h2 h4 hb hT c
    unfold mL_makes2_b77
    rw [nI_clamp (by omega)]
    obtain ⟨l1, l2⟩ := load_rng t (by omega)
    refine ⟨fun g => absurd g (nI_ge (b := 7) (by omega) (by decide)), fun _ => ⟨vpN (by omega) (by decide), Q_traveller hK (fun g => g.elim (fun q => absurd q l1) (fun q => absurd q l2)) (fun _ _ e => absurd e (by omega)) (fun _ _ hn S' k' c' => eqw rfl (fun x ex => ?_))⟩⟩
    rw [ex, inc]
    refine ih (t + 1) S' _ _ (by omega) k' ((arrR_o (by decide) (by omega)).trans h2) ((arrR_o (by decide) (by omega)).trans h4) (arr_b hb) (fun i hi => ?_) (c.trans c')
    by_cases e : i = t
    · subst e
      rw [arrR_n (by decide), arrR_n (by decide)]
      exact ⟨rfl, rfl⟩
    · have q : ∀ f, f < 8 → trv (arrR R t (loadF t)) i f = trv R i f := fun f hf => arrR_o (by omega) (by omega)
      rw [q 3 (by decide), q 1 (by decide)]
      exact hT i (by omega)
theorem Q_makes {ex : Nat → Nat → Nat} (hL : ex 4 1 ≤ 260) {post : Int32 → Mem → Prop} {S : Mem} {hs : Nat → Row} (hK : KK S r0 0 0 hs none) (h : ∀ (S' : Mem) (R : Row) (hs : Nat → Row), KK S' R 7 8 hs none → Bnd R 7 50 → (∀ i, i < 7 → trv R i 3 = 0 ∧ trv R i 1 = 0) → Chg S S' → post 1 S') : mL_makes ex post S := by
  unfold mL_makes mL_makes1
  refine ⟨11, Nat.le_refl 11, makes_h hL (S0 := S) (fun S1 R1 hs1 k1 h2 h4 c1 => ?_) 10 0 S r0 hs rfl hK rfl rfl (fun k _ hk => r0_h k hk) Chg.refl⟩
  unfold mL_makes2
  exact ⟨8, Nat.le_refl 8, makes_t hL (S0 := S) h 7 0 S1 R1 hs1 rfl k1 h2 h4 ⟨⟨0, Nat.le_refl 0, h4⟩, fun t ht => absurd ht (by omega)⟩ (fun i hi => absurd hi (by omega)) c1⟩
