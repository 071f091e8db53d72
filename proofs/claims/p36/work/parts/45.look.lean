/-! what both sides look up -/
def stN (h fl : Nat) : Int32 := if fl ≤ h then (if fl + 2 < h then 0 else 1) else 2
/-- a stone's state at a flood -/
def stF (R : Row) (fl : Int32) (s : Nat) : Int32 := stN (R (10 + s)).toNatClampNeg fl.toNatClampNeg
def lvl (x : Int32) : Prop := ∃ a, 4 ≤ a ∧ a ≤ 38 ∧ x = nI a
theorem WFR.h {R : Row} {n s : Nat} (w : WFR R n) (hs : s < 10) : ∃ a, 1 ≤ a ∧ a ≤ 30 ∧ R (10 + s) = nI a := w.2.2.2.2.1 s hs
theorem WFR.lv {R : Row} {n : Nat} (w : WFR R n) : lvl (R 1) := w.2.2.1
theorem lt_or {v : Int32} {n : Nat} (hn : n < 2 ^ 31) : (∃ k, k < n ∧ v = nI k) ∨ v < 0 ∨ ¬ v < nI n := by
  by_cases h0 : v < 0
  · exact Or.inr (Or.inl h0)
  · by_cases h1 : v < nI n
    · exact Or.inl (nI_lt_of hn h0 h1)
    · exact Or.inr (Or.inr h1)
theorem X0_stateOf_s {post : Int32 → Mem → Prop} {S : Mem} {j s : Nat} {R : Row} {n : Nat} {fl : Int32} (hs : s < 10) (w : WFR R n) (hh : S 1 j s = R (10 + s)) (hf : lvl fl) (h : post (stF R fl s) S) : mX0_stateOf post S j (nI s) fl := by
  obtain ⟨a, a1, a2, ea⟩ := w.h hs
  obtain ⟨b, b1, b2, eb⟩ := hf
  unfold stF stN at h
  rw [ea, eb, nI_clamp (by omega), nI_clamp (by omega)] at h
  unfold mX0_stateOf
  refine ⟨vpN hs (by decide), fun x ex => ?_⟩
  rw [nI_clamp (by omega), hh, ea, eb] at ex
  have e := pk_sub_toInt (a := a) (b := b) (by omega) (by omega)
  rw [← ex] at e
  refine ⟨fun g => ⟨fun g2 => ?_, fun g2 => ?_⟩, fun g => ?_⟩
  · rw [Int32.lt_iff_toInt_lt, e] at g2
    have : (2 : Int32).toInt = 2 := rfl
    rw [if_pos (by omega), if_pos (by omega)] at h
    exact h
  · rw [Int32.le_iff_toInt_le, e] at g
    rw [Int32.lt_iff_toInt_lt, e] at g2
    have : (2 : Int32).toInt = 2 := rfl
    have : (0 : Int32).toInt = 0 := rfl
    rw [if_pos (by omega), if_neg (by omega)] at h
    exact h
  · rw [Int32.le_iff_toInt_le, e] at g
    have : (0 : Int32).toInt = 0 := rfl
    rw [if_neg (by omega)] at h
    exact h
theorem X5_isStone_s {post : Int32 → Mem → Prop} {S : Mem} {p : Int32} (h1 : ∀ a, a < 10 → p = nI a → post 1 S) (h0 : (p < 0 ∨ ¬ p < 10) → post 0 S) : mX5_isStone post S p := by
  unfold mX5_isStone
  refine ⟨fun g => h0 (Or.inl g), fun g => ⟨fun g2 => h0 (Or.inr (Int32.not_lt.mpr g2)), fun g2 => ?_⟩⟩
  obtain ⟨k, hk, e⟩ := nI_lt_of (n := 10) (by decide) g (Int32.not_le.mp g2)
  exact h1 k hk e
theorem not_lt10 {p : Int32} : (9 : Int32) < p ↔ ¬ p < 10 := by
  rw [Int32.not_lt, Int32.lt_iff_toInt_lt, Int32.le_iff_toInt_le]
  have : (9 : Int32).toInt = 9 := rfl
  have : (10 : Int32).toInt = 10 := rfl
  omega
/-- the first of n with pl t = v, from t on -/
def lowF (pl : Nat → Int32) (v : Int32) : Nat → Nat → Int32
  | 0, _ => -1
  | m + 1, t => if pl t = v then nI t else lowF pl v m (t + 1)
def cntF (q : Nat → Bool) : Nat → Nat → Int32 → Int32
  | 0, _, a => a
  | m + 1, t, a => cntF q m (t + 1) (if q t then a + 1 else a)
def sumF (g : Nat → Int32) : Nat → Nat → Int32 → Int32
  | 0, _, a => a
  | m + 1, t, a => sumF g m (t + 1) (a + g t)
theorem cntF_congr {q q' : Nat → Bool} : ∀ (m t : Nat) (a : Int32), (∀ i, t ≤ i → i < t + m → q i = q' i) → cntF q m t a = cntF q' m t a := by
  intro m
  induction m with
  | zero => intro t a _; rfl
  | succ m ih =>
    intro t a h
    unfold cntF
    rw [h t (Nat.le_refl _) (by omega)]
    exact ih _ _ (fun i h1 h2 => h i (by omega) (by omega))
theorem sumF_congr {g g' : Nat → Int32} : ∀ (m t : Nat) (a : Int32), (∀ i, t ≤ i → i < t + m → g i = g' i) → sumF g m t a = sumF g' m t a := by
  intro m
  induction m with
  | zero => intro t a _; rfl
  | succ m ih =>
    intro t a h
    unfold sumF
    rw [h t (Nat.le_refl _) (by omega)]
    exact ih _ _ (fun i h1 h2 => h i (by omega) (by omega))
def plc (R : Row) (t : Nat) : Int32 := R (20 + 8 * t + 2)
theorem RepC.tr {S : Mem} {j n t f : Nat} {R : Row} (h : RepC S j R n) (ht : t < n) (hf : f < 8) (h4 : f ≠ 4) : S 2 (8 * j + t) f = R (20 + 8 * t + f) := by
  rw [h.2.2.2.2.2.2.2.2.2.2.2.2 t ht f hf]
  unfold ctF
  rw [if_neg h4]
  rfl
theorem RepC.cnt {S : Mem} {j n : Nat} {R : Row} (h : RepC S j R n) : S 0 j 2 = nI n := h.2.1.trans h.1.2.1
theorem X0_lowestOn_s {post : Int32 → Mem → Prop} {S : Mem} {j n : Nat} {R : Row} {v : Int32} (hR : RepC S j R n) (h : post (lowF (plc R) v n 0) S) : mX0_lowestOn post S j v := by
  have loop : ∀ (m t : Nat), t + m = n → post (lowF (plc R) v m t) S → mX0_lowestOn_b2 post (m + 1) S j v (nI t) := by
    intro m
    induction m with
    | zero =>
      intro t ht h
      unfold mX0_lowestOn_b2
      rw [hR.cnt]
      have := hR.1.1
      exact ⟨fun _ => h, fun g => absurd (nI_le (by omega) (by omega)) g⟩
    | succ m ih =>
      intro t ht h
      have hn := hR.1.1
      have htn : t < n := by omega
      unfold mX0_lowestOn_b2
      rw [hR.cnt]
      refine ⟨fun g => absurd g (nI_ge htn (by omega)), fun _ => ⟨vpN (by omega) (by decide), fun k ek => ?_⟩⟩
      rw [nI_clamp (by omega)] at ek
      subst ek
      rw [hR.tr htn (by decide) (by decide)]
      unfold lowF at h
      refine ⟨fun g x ex => ?_, fun g => ?_⟩
      · rw [if_neg (show ¬ plc R t = v from g)] at h
        rw [ex, inc]
        exact ih (t + 1) (by omega) h
      · rw [if_pos (show plc R t = v from g)] at h
        exact h
  unfold mX0_lowestOn
  exact ⟨n + 1, loop n 0 (by omega) h⟩
theorem X0_countOn_s {post : Int32 → Mem → Prop} {S : Mem} {j n : Nat} {R : Row} {v : Int32} (hR : RepC S j R n) (h : post (cntF (fun t => decide (plc R t = v)) n 0 0) S) : mX0_countOn post S j v := by
  have loop : ∀ (m t : Nat) (a : Int32), t + m = n → post (cntF (fun t => decide (plc R t = v)) m t a) S → mX0_countOn_b4 post (m + 1) S j v a (nI t) := by
    intro m
    have hn := hR.1.1
    induction m with
    | zero =>
      intro t a ht h
      unfold mX0_countOn_b4
      rw [hR.cnt]
      exact ⟨fun _ => h, fun g => absurd (nI_le (by omega) (by omega)) g⟩
    | succ m ih =>
      intro t a ht h
      have htn : t < n := by omega
      unfold mX0_countOn_b4
      rw [hR.cnt]
      refine ⟨fun g => absurd g (nI_ge htn (by omega)), fun _ => ⟨vpN (by omega) (by decide), fun k ek => ?_⟩⟩
      rw [nI_clamp (by omega)] at ek
      subst ek
      rw [hR.tr htn (by decide) (by decide)]
      unfold cntF at h
      refine ⟨fun g x ex => ?_, fun g x ex y ey => ?_⟩
      · rw [if_neg (by simpa using (show ¬ plc R t = v from g))] at h
        rw [ex, inc]
        exact ih (t + 1) a (by omega) h
      · rw [if_pos (by simpa using (show plc R t = v from g))] at h
        rw [ex, ey, inc]
        exact ih (t + 1) _ (by omega) h
  unfold mX0_countOn
  exact ⟨n + 1, loop n 0 0 (by omega) h⟩
def kindF (ld : Int32) : Int32 := if 3 < ld then (if 8 < ld then 2 else 1) else 0
theorem lt34 {x : Int32} : (3 : Int32) < x ↔ 4 ≤ x := by
  rw [Int32.lt_iff_toInt_lt, Int32.le_iff_toInt_le]
  have : (3 : Int32).toInt = 3 := rfl
  have : (4 : Int32).toInt = 4 := rfl
  omega
theorem lt89 {x : Int32} : (8 : Int32) < x ↔ 9 ≤ x := by
  rw [Int32.lt_iff_toInt_lt, Int32.le_iff_toInt_le]
  have : (8 : Int32).toInt = 8 := rfl
  have : (9 : Int32).toInt = 9 := rfl
  omega
theorem X3_kind_s {post : Int32 → Mem → Prop} {S : Mem} {i : Nat} {ld : Int32} (hl : S 2 i 0 = ld) (h : post (kindF ld) S) : mX3_kind post S i := by
  unfold mX3_kind
  rw [hl]
  unfold kindF at h
  refine ⟨fun g => ⟨fun g2 => ?_, fun g2 => ?_⟩, fun g => ?_⟩
  · rw [if_pos g, if_pos g2] at h; exact h
  · rw [if_pos g, if_neg g2] at h; exact h
  · rw [if_neg g] at h; exact h
def tollF (ld : Int32) : Int32 := (if kindF ld = 2 then 4 else 2) + ld / 5
theorem X3_toll_s {post : Int32 → Mem → Prop} {S : Mem} {i : Nat} {ld : Int32} (hl : S 2 i 0 = ld) (h : post (tollF ld) S) : mX3_toll post S i := by
  unfold mX3_toll
  refine X3_kind_s hl ?_
  unfold mX3_toll_b13
  rw [hl]
  unfold tollF at h
  exact ⟨fun g => by rw [if_neg g] at h; exact h, fun g => by rw [if_pos g] at h; exact h⟩
/-- a traveller of the present ford -/
theorem found_s {post : Nat → Mem → Prop} {px : String → Mem → Prop} {S : Mem} {v : Int32} {n : Nat} (hn : n ≤ 8) (hc : S 0 0 2 = nI n) (h1 : ∀ t, t < n → v = nI t → post t S) (h0 : (v < 0 ∨ ¬ v < nI n) → px "java/lang/IndexOutOfBoundsException" S) : mX5_found post px S v := by
  unfold mX5_found
  rw [hc]
  refine ⟨fun g => h0 (Or.inl g), fun g => ⟨fun g2 => ?_, fun g2 => h0 (Or.inr g2)⟩⟩
  obtain ⟨k, hk, rfl⟩ := nI_lt_of (by omega) g g2
  refine ⟨vpN (by omega) (by decide), fun k4 e => ?_⟩
  rw [nI_clamp (by omega)] at e
  have : k4 = k := by omega
  subst this
  exact h1 _ hk rfl
