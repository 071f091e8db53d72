/-! what both sides look up -/
def stN (h fl : Nat) : Int32 := if fl ≤ h then (if fl + 2 < h then 0 else 1) else 2
/-- a stone's state at a flood -/
def stF (R : Row) (fl : Int32) (s : Nat) : Int32 := stN (R (10 + s)).toNatClampNeg fl.toNatClampNeg
def lvl (x : Int32) : Prop := ∃ a, 4 ≤ a ∧ a ≤ 38 ∧ x = nI a
theorem WFR.h {R : Row} {n s : Nat} (w : WFR R n) (hs : s < 10) : ∃ a, 1 ≤ a ∧ a ≤ 30 ∧ R (10 + s) = nI a := w.2.2.2.2.1 s hs
theorem WFR.lv {R : Row} {n : Nat} (w : WFR R n) : lvl (R 1) := w.2.2.1
theorem lt_or {v : Int32} {n : Nat} (hn : n < 2 ^ 31) : (∃ k, k < n ∧ v = nI k) ∨ v < 0 ∨ ¬ v < nI n := by
  by_cases h0 : v < 0
  · exact Or.inr (Or.inl h0)
  · by_cases h1 : v < nI n
    · exact Or.inl (nI_lt_of hn h0 h1)
    · exact Or.inr (Or.inr h1)
theorem X0_stateOf_s {post : Int32 → Mem → Prop} {S : Mem} {j s : Nat} {R : Row} {n : Nat} {fl : Int32} (hs : s < 10) (w : WFR R n) (hh : S 1 j s = R (10 + s)) (hf : lvl fl) (h : post (stF R fl s) S) : mX0_stateOf post S j (nI s) fl := by
  obtain ⟨a, a1, a2, ea⟩ := w.h hs
  obtain ⟨b, b1, b2, eb⟩ := hf
  unfold stF stN at h
  rw [ea, eb, nI_clamp (by omega), nI_clamp (by omega)] at h
  unfold mX0_stateOf
  refine ⟨vpN hs (by decide), fun x ex => ?_⟩
  rw [nI_clamp (by omega), hh, ea, eb] at ex
  have e := pk_sub_toInt (a := a) (b := b) (by omega) (by omega)
  rw [← ex] at e
  refine ⟨fun g => ⟨fun g2 => ?_, fun g2 => ?_⟩, fun g => ?_⟩
  · rw [Int32.lt_iff_toInt_lt, e] at g2
    have : (2 : Int32).toInt = 2 := rfl
    rw [if_pos (by omega), if_pos (by omega)] at h
    exact h
  · rw [Int32.le_iff_toInt_le, e] at g
    rw [Int32.lt_iff_toInt_lt, e] at g2
    have : (2 : Int32).toInt = 2 := rfl
    have : (0 : Int32).toInt = 0 := rfl
    rw [if_pos (by omega), if_neg (by omega)] at h
    exact h
  · rw [Int32.le_iff_toInt_le, e] at g
    have : (0 : Int32).toInt = 0 := rfl
    rw [if_neg (by omega)] at h
    exact h
theorem X6_state_s {post : Int32 → Mem → Prop} {S : Mem} {s : Nat} {n : Nat} (hs : s < 10) (w : WFR (S 11 0) n) (h : post (stF (S 11 0) (S 11 0 1) s) S) : mX6_state post S (nI s) := by
  obtain ⟨a, a1, a2, ea⟩ := w.h hs
  obtain ⟨b, b1, b2, eb⟩ := w.lv
  unfold stF stN at h
  rw [ea, eb, nI_clamp (by omega), nI_clamp (by omega)] at h
  unfold mX6_state
  have ei : (10 : Int32) + nI s = nI (10 + s) := nI_add 10 s
  rw [ei]
  refine ⟨vpL rfl, vpN (by omega) (by decide), fun x ex => ?_⟩
  rw [nI_clamp (by omega), c1, ea, eb] at ex
  have e := pk_sub_toInt (a := b) (b := a) (by omega) (by omega)
  rw [← ex] at e
  have k0 : (0 : Int32).toInt = 0 := rfl
  have k2 : (-2 : Int32).toInt = -2 := rfl
  refine ⟨fun g => ⟨fun g2 => ?_, fun g2 => ?_⟩, fun g => ?_⟩
  · rw [Int32.lt_iff_toInt_lt, e] at g2
    rw [if_pos (by omega), if_pos (by omega)] at h
    exact h
  · rw [Int32.le_iff_toInt_le, e] at g
    rw [Int32.lt_iff_toInt_lt, e] at g2
    rw [if_pos (by omega), if_neg (by omega)] at h
    exact h
  · rw [Int32.le_iff_toInt_le, e] at g
    rw [if_neg (by omega)] at h
    exact h
theorem X5_isStone_s {post : Int32 → Mem → Prop} {S : Mem} {p : Int32} (h1 : ∀ a, a < 10 → p = nI a → post 1 S) (h0 : (p < 0 ∨ ¬ p < 10) → post 0 S) : mX5_isStone post S p := by
  unfold mX5_isStone
  refine ⟨fun g => h0 (Or.inl g), fun g => ⟨fun g2 => h0 (Or.inr (Int32.not_lt.mpr g2)), fun g2 => ?_⟩⟩
  obtain ⟨k, hk, e⟩ := nI_lt_of (n := 10) (by decide) g (Int32.not_le.mp g2)
  exact h1 k hk e
theorem not_lt10 {p : Int32} : (9 : Int32) < p ↔ ¬ p < 10 := by
  rw [Int32.not_lt, Int32.lt_iff_toInt_lt, Int32.le_iff_toInt_le]
  have : (9 : Int32).toInt = 9 := rfl
  have : (10 : Int32).toInt = 10 := rfl
  omega
theorem X6_isStone_s {post : Int32 → Mem → Prop} {S : Mem} {p : Int32} (h1 : ∀ a, a < 10 → p = nI a → post 1 S) (h0 : (p < 0 ∨ ¬ p < 10) → post 0 S) : mX6_isStone post S p := by
  unfold mX6_isStone
  refine s_in (fun g0 g1 => ⟨Or.inr rfl, ?_⟩) (fun g => ⟨Or.inl rfl, h0 (g.imp id not_lt10.mp)⟩)
  rw [not_lt10, Classical.not_not] at g1
  obtain ⟨k, hk, e⟩ := nI_lt_of (n := 10) (by decide) g0 g1
  exact h1 k hk e
theorem of_s {post : Int32 → Mem → Prop} {S : Mem} {t f : Nat} (ht : t < 8) (hf : f < 8) (h : post (trv (S 11 0) t f) S) : mX6_of post S (nI t) (nI f) := by
  unfold mX6_of
  have e : ((20 : Int32) + ((8 : Int32) * nI t)) + nI f = nI (20 + 8 * t + f) := by
    rw [show (20 : Int32) = nI 20 from rfl, show (8 : Int32) = nI 8 from rfl, pk_mul, nI_add, nI_add]
  rw [e, nI_clamp (by omega)]
  exact ⟨vpN (by omega) (by decide), h⟩
theorem sets_s {post : Mem → Prop} {S : Mem} {t f : Nat} {v : Int32} (ht : t < 8) (hf : f < 8) (h : post (wr S 11 0 (20 + 8 * t + f) v)) : mX6_sets post S (nI t) (nI f) v := by
  unfold mX6_sets
  have e : ((20 : Int32) + ((8 : Int32) * nI t)) + nI f = nI (20 + 8 * t + f) := by
    rw [show (20 : Int32) = nI 20 from rfl, show (8 : Int32) = nI 8 from rfl, pk_mul, nI_add, nI_add]
  rw [e, nI_clamp (by omega)]
  exact ⟨vpN (by omega) (by decide), fun S2 e2 => by rw [e2]; exact h⟩
/-- the first of n with pl t = v, from t on -/
def lowF (pl : Nat → Int32) (v : Int32) : Nat → Nat → Int32
  | 0, _ => -1
  | m + 1, t => if pl t = v then nI t else lowF pl v m (t + 1)
def cntF (q : Nat → Bool) : Nat → Nat → Int32 → Int32
  | 0, _, a => a
  | m + 1, t, a => cntF q m (t + 1) (if q t then a + 1 else a)
def sumF (g : Nat → Int32) : Nat → Nat → Int32 → Int32
  | 0, _, a => a
  | m + 1, t, a => sumF g m (t + 1) (a + g t)
theorem cntF_congr {q q' : Nat → Bool} : ∀ (m t : Nat) (a : Int32), (∀ i, t ≤ i → i < t + m → q i = q' i) → cntF q m t a = cntF q' m t a := by
  intro m
  induction m with
  | zero => intro t a _; rfl
  | succ m ih =>
    intro t a h
    unfold cntF
    rw [h t (Nat.le_refl _) (by omega)]
    exact ih _ _ (fun i h1 h2 => h i (by omega) (by omega))
theorem sumF_congr {g g' : Nat → Int32} : ∀ (m t : Nat) (a : Int32), (∀ i, t ≤ i → i < t + m → g i = g' i) → sumF g m t a = sumF g' m t a := by
  intro m
  induction m with
  | zero => intro t a _; rfl
  | succ m ih =>
    intro t a h
    unfold sumF
    rw [h t (Nat.le_refl _) (by omega)]
    exact ih _ _ (fun i h1 h2 => h i (by omega) (by omega))
def plc (R : Row) (t : Nat) : Int32 := R (20 + 8 * t + 2)
theorem RepC.tr {S : Mem} {j n t f : Nat} {R : Row} (h : RepC S j R n) (ht : t < n) (hf : f < 8) (h4 : f ≠ 4) : S 2 (8 * j + t) f = R (20 + 8 * t + f) := by
  rw [h.2.2.2.2.2.2.2.2.2.2.2.2 t ht f hf]
  unfold ctF
  rw [if_neg h4]
  rfl
theorem RepC.cnt {S : Mem} {j n : Nat} {R : Row} (h : RepC S j R n) : S 0 j 2 = nI n := h.2.1.trans h.1.2.1
theorem X0_lowestOn_s {post : Int32 → Mem → Prop} {S : Mem} {j n : Nat} {R : Row} {v : Int32} (hR : RepC S j R n) (h : post (lowF (plc R) v n 0) S) : mX0_lowestOn post S j v := by
  have loop : ∀ (m t : Nat), t + m = n → post (lowF (plc R) v m t) S → mX0_lowestOn_b2 post (m + 1) S j v (nI t) := by
    intro m
    induction m with
    | zero =>
      intro t ht h
      unfold mX0_lowestOn_b2
      rw [hR.cnt]
      have := hR.1.1
      exact ⟨fun _ => h, fun g => absurd (nI_le (by omega) (by omega)) g⟩
    | succ m ih =>
      intro t ht h
      have hn := hR.1.1
      have htn : t < n := by omega
      unfold mX0_lowestOn_b2
      rw [hR.cnt]
      refine ⟨fun g => absurd g (nI_ge htn (by omega)), fun _ => ⟨vpN (by omega) (by decide), fun k ek => ?_⟩⟩
      rw [nI_clamp (by omega)] at ek
      subst ek
      rw [hR.tr htn (by decide) (by decide)]
      unfold lowF at h
      refine ⟨fun g x ex => ?_, fun g => ?_⟩
      · rw [if_neg (show ¬ plc R t = v from g)] at h
        rw [ex, inc]
        exact ih (t + 1) (by omega) h
      · rw [if_pos (show plc R t = v from g)] at h
        exact h
  unfold mX0_lowestOn
  exact ⟨n + 1, loop n 0 (by omega) h⟩
theorem X6_lowestOn_s {post : Int32 → Mem → Prop} {S : Mem} {n : Nat} {v : Int32} (w : WFR (S 11 0) n) (h : post (lowF (plc (S 11 0)) v n 0) S) : mX6_lowestOn post S v := by
  have loop : ∀ (m t : Nat), t + m = n → post (lowF (plc (S 11 0)) v m t) S → mX6_lowestOn_b2 post (m + 1) S v (nI t) := by
    intro m
    have hn := w.1
    induction m with
    | zero =>
      intro t ht h
      unfold mX6_lowestOn_b2
      rw [c3, w.2.1]
      exact ⟨vpL rfl, fun _ => h, fun g => absurd (nI_le (by omega) (by omega)) g⟩
    | succ m ih =>
      intro t ht h
      have htn : t < n := by omega
      unfold mX6_lowestOn_b2
      rw [c3, w.2.1]
      refine ⟨vpL rfl, fun g => absurd g (nI_ge htn (by omega)), fun _ => of_s (f := 2) (by omega) (by decide) ?_⟩
      unfold lowF at h
      refine ⟨fun g x ex => ?_, fun g => ?_⟩
      · rw [if_neg (show ¬ plc (S 11 0) t = v from g)] at h
        rw [ex, inc]
        exact ih (t + 1) (by omega) h
      · rw [if_pos (show plc (S 11 0) t = v from g)] at h
        exact h
  unfold mX6_lowestOn
  exact ⟨n + 1, loop n 0 (by omega) h⟩
theorem X0_countOn_s {post : Int32 → Mem → Prop} {S : Mem} {j n : Nat} {R : Row} {v : Int32} (hR : RepC S j R n) (h : post (cntF (fun t => decide (plc R t = v)) n 0 0) S) : mX0_countOn post S j v := by
  have loop : ∀ (m t : Nat) (a : Int32), t + m = n → post (cntF (fun t => decide (plc R t = v)) m t a) S → mX0_countOn_b4 post (m + 1) S j v a (nI t) := by
    intro m
    have hn := hR.1.1
    induction m with
    | zero =>
      intro t a ht h
      unfold mX0_countOn_b4
      rw [hR.cnt]
      exact ⟨fun _ => h, fun g => absurd (nI_le (by omega) (by omega)) g⟩
    | succ m ih =>
      intro t a ht h
      have htn : t < n := by omega
      unfold mX0_countOn_b4
      rw [hR.cnt]
      refine ⟨fun g => absurd g (nI_ge htn (by omega)), fun _ => ⟨vpN (by omega) (by decide), fun k ek => ?_⟩⟩
      rw [nI_clamp (by omega)] at ek
      subst ek
      rw [hR.tr htn (by decide) (by decide)]
      unfold cntF at h
      refine ⟨fun g x ex => ?_, fun g x ex y ey => ?_⟩
      · rw [if_neg (by simpa using (show ¬ plc R t = v from g))] at h
        rw [ex, inc]
        exact ih (t + 1) a (by omega) h
      · rw [if_pos (by simpa using (show plc R t = v from g))] at h
        rw [ex, ey, inc]
        exact ih (t + 1) _ (by omega) h
  unfold mX0_countOn
  exact ⟨n + 1, loop n 0 0 (by omega) h⟩
theorem X6_countAt_s {post : Int32 → Mem → Prop} {S : Mem} {n : Nat} {a b : Int32} (w : WFR (S 11 0) n) (h : post (cntF (fun t => decide (¬ (plc (S 11 0) t < a ∨ b < plc (S 11 0) t))) n 0 0) S) : mX6_countAt post S a b := by
  have loop : ∀ (m t : Nat) (z : Int32), t + m = n → post (cntF (fun t => decide (¬ (plc (S 11 0) t < a ∨ b < plc (S 11 0) t))) m t z) S → mX6_countAt_b5 post (m + 1) S a b z (nI t) := by
    intro m
    have hn := w.1
    induction m with
    | zero =>
      intro t z ht h
      unfold mX6_countAt_b5
      rw [c3, w.2.1]
      exact ⟨vpL rfl, fun _ => h, fun g => absurd (nI_le (by omega) (by omega)) g⟩
    | succ m ih =>
      intro t z ht h
      have htn : t < n := by omega
      unfold mX6_countAt_b5
      rw [c3, w.2.1]
      unfold cntF at h
      refine ⟨vpL rfl, fun g => absurd g (nI_ge htn (by omega)), fun _ => of_s (f := 2) (by omega) (by decide) (s_in (fun g0 g1 => ⟨fun g => ne10 g, fun _ x ex y ey => ?_⟩) (fun g => ⟨fun _ x ex => ?_, fun g2 => absurd rfl g2⟩))⟩
      · rw [if_pos (by simpa using (show ¬ (plc (S 11 0) t < a ∨ b < plc (S 11 0) t) from fun g => g.elim g0 g1))] at h
        rw [ex, ey, inc]
        exact ih (t + 1) _ (by omega) h
      · rw [if_neg (fun h9 => absurd (show plc (S 11 0) t < a ∨ b < plc (S 11 0) t from g) (of_decide_eq_true h9))] at h
        rw [ex, inc]
        exact ih (t + 1) _ (by omega) h
  unfold mX6_countAt
  exact ⟨n + 1, loop n 0 0 (by omega) h⟩
theorem X6_sum_s {post : Int32 → Mem → Prop} {S : Mem} {n f : Nat} (hf : f < 8) (w : WFR (S 11 0) n) (h : post (sumF (fun t => trv (S 11 0) t f) n 0 0) S) : mX6_sum post S (nI f) := by
  have loop : ∀ (m t : Nat) (z : Int32), t + m = n → post (sumF (fun t => trv (S 11 0) t f) m t z) S → mX6_sum_b4 post (m + 1) S (nI f) z (nI t) := by
    intro m
    have hn := w.1
    induction m with
    | zero =>
      intro t z ht h
      unfold mX6_sum_b4
      rw [c3, w.2.1]
      exact ⟨vpL rfl, fun _ => h, fun g => absurd (nI_le (by omega) (by omega)) g⟩
    | succ m ih =>
      intro t z ht h
      have htn : t < n := by omega
      unfold mX6_sum_b4
      rw [c3, w.2.1]
      unfold sumF at h
      refine ⟨vpL rfl, fun g => absurd g (nI_ge htn (by omega)), fun _ => of_s (by omega) hf (fun x ex y ey => ?_)⟩
      rw [ex, ey, inc]
      exact ih (t + 1) _ (by omega) h
  unfold mX6_sum
  exact ⟨n + 1, loop n 0 0 (by omega) h⟩
def kindF (ld : Int32) : Int32 := if 3 < ld then (if 8 < ld then 2 else 1) else 0
theorem lt34 {x : Int32} : (3 : Int32) < x ↔ 4 ≤ x := by
  rw [Int32.lt_iff_toInt_lt, Int32.le_iff_toInt_le]
  have : (3 : Int32).toInt = 3 := rfl
  have : (4 : Int32).toInt = 4 := rfl
  omega
theorem lt89 {x : Int32} : (8 : Int32) < x ↔ 9 ≤ x := by
  rw [Int32.lt_iff_toInt_lt, Int32.le_iff_toInt_le]
  have : (8 : Int32).toInt = 8 := rfl
  have : (9 : Int32).toInt = 9 := rfl
  omega
theorem X3_kind_s {post : Int32 → Mem → Prop} {S : Mem} {i : Nat} {ld : Int32} (hl : S 2 i 0 = ld) (h : post (kindF ld) S) : mX3_kind post S i := by
  unfold mX3_kind
  rw [hl]
  unfold kindF at h
  refine ⟨fun g => ⟨fun g2 => ?_, fun g2 => ?_⟩, fun g => ?_⟩
  · rw [if_pos g, if_pos g2] at h; exact h
  · rw [if_pos g, if_neg g2] at h; exact h
  · rw [if_neg g] at h; exact h
theorem X6_kind_s {post : Int32 → Mem → Prop} {S : Mem} {t : Nat} (ht : t < 8) (h : post (kindF (trv (S 11 0) t 0)) S) : mX6_kind post S (nI t) := by
  unfold mX6_kind
  refine of_s (f := 0) ht (by decide) ?_
  unfold kindF at h
  refine ⟨fun g => ⟨fun g2 => ?_, fun g2 => ?_⟩, fun g => ?_⟩
  · rw [if_pos (lt34.mpr g), if_pos (lt89.mpr g2)] at h; exact h
  · rw [if_pos (lt34.mpr g), if_neg (fun g' => g2 (lt89.mp g'))] at h; exact h
  · rw [if_neg (fun g' => g (lt34.mp g'))] at h; exact h
def tollF (ld : Int32) : Int32 := (if kindF ld = 2 then 4 else 2) + ld / 5
theorem X3_toll_s {post : Int32 → Mem → Prop} {S : Mem} {i : Nat} {ld : Int32} (hl : S 2 i 0 = ld) (h : post (tollF ld) S) : mX3_toll post S i := by
  unfold mX3_toll
  refine X3_kind_s hl ?_
  unfold mX3_toll_b13
  rw [hl]
  unfold tollF at h
  exact ⟨fun g => by rw [if_neg g] at h; exact h, fun g => by rw [if_pos g] at h; exact h⟩
theorem X6_feeOf_s {post : Int32 → Mem → Prop} {S : Mem} {t : Nat} (ht : t < 8) (h : post (tollF (trv (S 11 0) t 0)) S) : mX6_feeOf post S (nI t) := by
  unfold mX6_feeOf
  refine X6_kind_s ht ?_
  unfold mX6_feeOf_b14
  unfold tollF at h
  exact ⟨fun g => of_s (f := 0) ht (by decide) (by rw [if_neg g] at h; exact h), fun g => of_s (f := 0) ht (by decide) (by rw [if_pos g] at h; exact h)⟩
/-- a traveller of the present ford -/
theorem found_s {post : Nat → Mem → Prop} {px : String → Mem → Prop} {S : Mem} {v : Int32} {n : Nat} (hn : n ≤ 8) (hc : S 0 0 2 = nI n) (h1 : ∀ t, t < n → v = nI t → post t S) (h0 : (v < 0 ∨ ¬ v < nI n) → px "java/lang/IndexOutOfBoundsException" S) : mX5_found post px S v := by
  unfold mX5_found
  rw [hc]
  refine ⟨fun g => h0 (Or.inl g), fun g => ⟨fun g2 => ?_, fun g2 => h0 (Or.inr g2)⟩⟩
  obtain ⟨k, hk, rfl⟩ := nI_lt_of (by omega) g g2
  refine ⟨vpN (by omega) (by decide), fun k4 e => ?_⟩
  rw [nI_clamp (by omega)] at e
  have : k4 = k := by omega
  subst this
  exact h1 _ hk rfl
theorem isTraveller_s {post : Int32 → Mem → Prop} {S : Mem} {v : Int32} {n : Nat} (hn : n ≤ 8) (hc : S 11 0 3 = nI n) (h1 : ∀ t, t < n → v = nI t → post 1 S) (h0 : (v < 0 ∨ ¬ v < nI n) → post 0 S) : mX6_isTraveller post S v := by
  unfold mX6_isTraveller
  rw [c3, hc]
  refine ⟨vpL rfl, s_in (fun g0 g1 => ⟨Or.inr rfl, ?_⟩) (fun g => ⟨Or.inl rfl, h0 ?_⟩)⟩
  · rw [nI_pred_lt (by omega) g0, Classical.not_not] at g1
    obtain ⟨k, hk, e⟩ := nI_lt_of (by omega) g0 g1
    exact h1 k hk e
  · by_cases g0 : v < 0
    · exact Or.inl g0
    · exact Or.inr ((nI_pred_lt (by omega) g0).mp (g.resolve_left g0))
