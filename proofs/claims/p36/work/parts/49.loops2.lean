/-! floodAgain, clearIn, wetSteps, kinds, type -/
def clN (a b H : Nat) : Nat := if b < 2 then max 4 (a - (2 - b) * H) else min 38 (a + (b - 2) * H)
theorem itF_cl : ∀ (H a b : Nat), 4 ≤ a → a ≤ 38 → b ≤ 9 → itF (nI b) H (nI a) = nI (clN a b H) := by
  intro H
  induction H with
  | zero =>
    intro a b h1 h2 h3
    show nI a = _
    unfold clN
    congr 1
    split <;> omega
  | succ H ih =>
    intro a b h1 h2 h3
    show itF (nI b) H (nxF (nI a) (nI b)) = _
    rw [(nx_tab a (by omega) h1 b (by omega)).1, ih _ _ (by omega) (by omega) h3]
    congr 1
    unfold clN
    rcases (show b = 0 ∨ b = 1 ∨ b = 2 ∨ b = 3 ∨ b = 4 ∨ b = 5 ∨ b = 6 ∨ b = 7 ∨ b = 8 ∨ b = 9 by omega) with rfl | rfl | rfl | rfl | rfl | rfl | rfl | rfl | rfl | rfl <;> simp <;> omega
theorem fa_tab : ∀ b, b < 2 → ∀ H, H < 61 → ∀ a, a < 39 → 4 ≤ a → (if (4 : Int32) < (nI a + ((nI b - (2 : Int32)) * nI H)) then (nI a + ((nI b - (2 : Int32)) * nI H)) else (4 : Int32)) = nI (max 4 (a - (2 - b) * H)) := by decide +kernel
theorem X0_rest_s {post : Int32 → Mem → Prop} {S : Mem} {n H : Nat} {R : Row} (hH : H ≤ 60) (hR : RepC S 0 R n) (h : post (itF (R 2) H (R 1)) S) : mX0_levelOnTheWayToRest post S 0 (nI H) := by
  obtain ⟨a, a1, a2, ea⟩ := hR.1.lv
  obtain ⟨b, b1, eb⟩ := hR.1.2.2.2.1
  rw [ea, eb, itF_cl H a b a1 a2 b1] at h
  unfold mX0_levelOnTheWayToRest
  intro x ex
  rw [hR.2.2.2.1, hR.2.2.2.2.1, ea, eb] at ex
  rw [hR.2.2.2.2.1, eb]
  unfold clN at h
  refine ⟨fun g => ?_, fun g => ?_⟩
  · have hb : 2 ≤ b := by
      have := (nI_leI (a := 2) (by decide) (by omega)).mp g
      exact this
    rw [if_neg (by omega)] at h
    have e1 : nI b - (2 : Int32) = nI (b - 2) := pk_sub (b := 2) hb
    have hbH : (b - 2) * H ≤ 7 * 60 := Nat.mul_le_mul (by omega) hH
    rw [e1, pk_mul, nI_add] at ex
    subst ex
    by_cases hl : a + (b - 2) * H < 38
    · rw [if_pos (show nI (a + (b - 2) * H) < (38 : Int32) from nI_lt (b := 38) hl (by decide))]
      rw [Nat.min_eq_right (by omega)] at h
      exact h
    · rw [if_neg (show ¬ nI (a + (b - 2) * H) < (38 : Int32) from nI_nlt (b := 38) (by omega) (by omega))]
      rw [Nat.min_eq_left (by omega)] at h
      exact h
  · have hb : b < 2 := by
      rcases Nat.lt_or_ge b 2 with q | q
      · exact q
      · exact absurd (nI_le (a := 2) q (by omega)) g
    rw [if_pos hb, ← fa_tab b hb H (by omega) a (by omega) a1, ← ex] at h
    exact h
def lowHF (hh : Nat → Int32) : Nat → Nat → Int32 → Int32
  | 0, _, a => a
  | m + 1, s, a => lowHF hh m (s + 1) (if hh s < a then hh s else a)
def clF (low : Int32) (lv : Nat → Int32) : Nat → Nat → Int32
  | 0, _ => -1
  | m + 1, k => if low < lv k then clF low lv m (k + 1) else nI k
theorem nI_nm1 {k : Nat} (hk : k < 2 ^ 31) : ¬ nI k = -1 := fun g => absurd (nI_pos' hk) (by rw [g]; decide)
theorem X5_clear_s {post : Int32 → Mem → Prop} {px : String → Mem → Prop} {S : Mem} {n : Nat} {R : Row} (hR : RepC S 0 R n) (h : if clF (lowHF (fun s => R (10 + s)) 10 0 30) (fun k => itF (R 2) k (R 1)) 61 0 = -1 then px "java/util/NoSuchElementException" S else post (clF (lowHF (fun s => R (10 + s)) 10 0 30) (fun k => itF (R 2) k (R 1)) 61 0) S) : mX5_clearIn post px S := by
  have hl : ∀ (low : Int32) (m k : Nat) (v : Int32), k + m = 61 → v = itF (R 2) k (R 1) → (if clF low (fun k => itF (R 2) k (R 1)) m k = -1 then px "java/util/NoSuchElementException" S else post (clF low (fun k => itF (R 2) k (R 1)) m k) S) → mX5_clearIn_b18 post px (m + 1) S low v (nI k) := by
    intro low m
    induction m with
    | zero =>
      intro k v hk hv h
      have hk : k = 61 := by omega
      subst hk
      unfold mX5_clearIn_b18
      exact ⟨fun _ => by rw [if_pos (show clF low (fun k => itF (R 2) k (R 1)) 0 61 = -1 from rfl)] at h; exact h, fun g => absurd (by decide) g⟩
    | succ m ih =>
      intro k v hk hv h
      unfold clF at h
      unfold mX5_clearIn_b18
      refine ⟨fun g => absurd g (fun g => by have := (nI_ltI (a := 60) (by decide) (by omega)).mp g; omega), fun _ => ⟨fun g => X0_levelAfterHour_s hR.2.2.2.2.1 (fun x ex => ?_), fun g => ?_⟩⟩
      · rw [if_pos (show low < itF (R 2) k (R 1) by rw [← hv]; exact g)] at h
        rw [ex, inc, hv, ← itF_succ]
        exact ih (k + 1) _ (by omega) rfl h
      · rw [if_neg (show ¬ low < itF (R 2) k (R 1) by rw [← hv]; exact g), if_neg (nI_nm1 (by omega))] at h
        exact h
  have h1 : ∀ (m s : Nat) (a : Int32), s + m = 10 → (lowHF (fun s => R (10 + s)) m s a = lowHF (fun s => R (10 + s)) 10 0 30) → mX0_lowestHeight_b5 (fun (r2 : Int32) (S1 : Mem) => ∀ x3 : Int32, x3 = (S1 0 0 4) → ∃ fu : Nat, mX5_clearIn_b18 post px fu S1 r2 x3 (0 : Int32)) (m + 1) S 0 a (nI s) := by
    intro m
    induction m with
    | zero =>
      intro s a hs ha
      have hs : s = 10 := by omega
      subst hs
      unfold mX0_lowestHeight_b5
      refine ⟨fun _ x3 ex => ⟨62, ?_⟩, fun g => absurd (by decide) g⟩
      have ha : a = lowHF (fun s => R (10 + s)) 10 0 30 := ha
      rw [ha]
      exact hl _ 61 0 _ (by omega) (by rw [ex, hR.2.2.2.1]; rfl) h
    | succ m ih =>
      intro s a hs ha
      have hs10 : s < 10 := by omega
      unfold mX0_lowestHeight_b5
      refine ⟨fun g => absurd g (nI_ge (b := 10) hs10 (by decide)), fun _ => ⟨vpN hs10 (by decide), fun x ex y ey => ?_⟩⟩
      rw [nI_clamp (by omega), hR.2.2.2.2.2.2.2.2.2.2.2.1 s hs10] at ex
      rw [ey, inc, ex]
      exact ih (s + 1) _ (by omega) ha
  unfold mX5_clearIn mX0_lowestHeight
  exact ⟨11, h1 10 0 30 (by omega) rfl⟩
/-- whether one of a kind can go from p onto stone s -/
def canF (R : Row) (fl kind p : Int32) (s : Nat) : Int32 :=
  if stF R fl s = 1 then (if kind = 1 then (if p < 0 ∨ ¬ p < 10 then 1 else if R (10 + s) < R (10 + p.toNatClampNeg) then 0 else 1) else if kind = 0 then 1 else 0) else if stF R fl s = 0 then 1 else 0
theorem stF_cases {R : Row} {fl : Int32} {s : Nat} : stF R fl s = 0 ∨ stF R fl s = 1 ∨ stF R fl s = 2 := by
  unfold stF stN
  split
  · split
    · exact Or.inl rfl
    · exact Or.inr (Or.inl rfl)
  · exact Or.inr (Or.inr rfl)
theorem X0_canGo_s {post : Int32 → Mem → Prop} {S : Mem} {j s n : Nat} {R : Row} {fl kind p : Int32} (hs : s < 10) (w : WFR R n) (hh : ∀ s, s < 10 → S 1 j s = R (10 + s)) (hf : lvl fl) (h : post (canF R fl kind p s) S) : mX0_canGo post S j kind p (nI s) fl := by
  unfold mX0_canGo
  refine X5_isStone_s (fun a ha ea => ⟨fun _ => X0_stateOf_s hs w (hh s hs) hf ?_, fun g => ne10 g⟩) (fun g => absurd g (by rintro (g | g); exact nI_pos (by omega) g; exact g (nI_lt (b := 10) hs (by decide))))
  unfold canF at h
  refine ⟨fun g => ⟨fun g1 => ⟨fun g0 => ?_, fun g0 => ?_⟩, fun g1 => ?_⟩, fun g => ⟨fun g0 => ?_, fun g0 => ?_⟩⟩
  · rw [if_pos g, if_neg g1, if_neg g0] at h; exact h
  · rw [if_pos g, if_neg g1, if_pos g0] at h; exact h
  · rw [if_pos g, if_pos g1] at h
    refine X5_isStone_s (fun b hb eb => ⟨fun g => ne10 g, fun _ => ⟨vpN hs (by decide), by rw [eb]; exact vpN hb (by decide), ?_⟩⟩) (fun hp => ⟨fun _ => by rw [if_pos hp] at h; exact h, fun g => absurd rfl g⟩)
    subst eb
    rw [if_neg (by rintro (g | g); exact nI_pos (by omega) g; exact g (nI_lt (b := 10) hb (by decide)))] at h
    rw [nI_clamp (by omega)] at h
    rw [nI_clamp (by omega), nI_clamp (by omega), hh s hs, hh b hb]
    exact ⟨fun g => by rw [if_pos g] at h; exact h, fun g => by rw [if_neg g] at h; exact h⟩
  · rw [if_neg g, if_neg g0] at h; exact h
  · rw [if_neg g, if_pos g0] at h; exact h
/-- the stones awash on the way of a kind, -1 if it cannot cross -/
def wsF (R : Row) (fl kind : Int32) : Nat → Nat → Int32 → Int32
  | 0, _, a => a
  | m + 1, s, a => if canF R fl kind (nI s - 1) s = 0 then -1 else wsF R fl kind m (s + 1) (if stF R fl s = 1 then a + 1 else a)
theorem X0_ws_s {post : Int32 → Mem → Prop} {S : Mem} {n : Nat} {R : Row} {kind : Int32} (hR : RepC S 0 R n) (h : post (wsF R (R 1) kind 10 0 0) S) : mX0_wetStepsOf post S 0 kind := by
  have hh := hR.2.2.2.2.2.2.2.2.2.2.2.1
  have loop : ∀ (m s : Nat) (a : Int32), s + m = 10 → post (wsF R (R 1) kind m s a) S → mX0_wetStepsOf_b4 post (m + 1) S 0 kind a (nI s) := by
    intro m
    induction m with
    | zero =>
      intro s a hs h
      have hs : s = 10 := by omega
      subst hs
      unfold mX0_wetStepsOf_b4
      exact ⟨fun _ => h, fun g => absurd (by decide) g⟩
    | succ m ih =>
      intro s a hs h
      have hs10 : s < 10 := by omega
      unfold mX0_wetStepsOf_b4
      rw [hR.2.2.2.1]
      unfold wsF at h
      refine ⟨fun g => absurd g (nI_ge (b := 10) hs10 (by decide)), fun _ => X0_canGo_s hs10 hR.1 hh hR.1.lv ⟨fun g => X0_stateOf_s hs10 hR.1 (hh s hs10) (by rw [hR.2.2.2.1]; exact hR.1.lv) ?_, fun g => ?_⟩⟩
      · rw [hR.2.2.2.1]
        refine ⟨fun g1 x ex => ?_, fun g1 x ex y ey => ?_⟩
        · rw [if_neg g, if_neg g1] at h
          rw [ex, inc]
          exact ih (s + 1) a (by omega) h
        · rw [if_neg g, if_pos g1] at h
          rw [ex, ey, inc]
          exact ih (s + 1) _ (by omega) h
      · rw [if_pos g] at h
        exact h
  unfold mX0_wetStepsOf
  exact ⟨11, loop 10 0 0 (by omega) h⟩
theorem wsF_sign {R : Row} {fl kind : Int32} : ∀ (m s c : Nat), c + m ≤ 10 → (wsF R fl kind m s (nI c) = -1 ∨ ∃ q, q ≤ 10 ∧ wsF R fl kind m s (nI c) = nI q) := by
  intro m
  induction m with
  | zero => intro s c hc; exact Or.inr ⟨c, by omega, rfl⟩
  | succ m ih =>
    intro s c hc
    unfold wsF
    split
    · exact Or.inl rfl
    · split
      · rw [inc]; exact ih _ _ (by omega)
      · exact ih _ _ (by omega)
theorem ws_neg {R : Row} {fl kind : Int32} : (wsF R fl kind 10 0 0 = -1 ∧ ¬ 0 ≤ wsF R fl kind 10 0 0 ∧ wsF R fl kind 10 0 0 < 0) ∨ (¬ wsF R fl kind 10 0 0 = -1 ∧ 0 ≤ wsF R fl kind 10 0 0 ∧ ¬ wsF R fl kind 10 0 0 < 0) := by
  rcases wsF_sign (R := R) (fl := fl) (kind := kind) 10 0 0 (by omega) with h | ⟨q, hq, h⟩
  · have h : wsF R fl kind 10 0 0 = -1 := h
    rw [h]; exact Or.inl (by decide)
  · have h : wsF R fl kind 10 0 0 = nI q := h
    rw [h]; exact Or.inr ⟨nI_nm1 (by omega), nI_pos' (by omega), nI_pos (by omega)⟩
theorem kind3 {x : Int32} (h0 : ¬ x < 0) (h1 : ¬ (2 : Int32) < x) : x = 0 ∨ x = 1 ∨ x = 2 := by
  obtain ⟨k, hk, rfl⟩ := range9 (n := 2) (by decide) h0 h1
  rcases (show k = 0 ∨ k = 1 ∨ k = 2 by omega) with rfl | rfl | rfl
  · exact Or.inl rfl
  · exact Or.inr (Or.inl rfl)
  · exact Or.inr (Or.inr rfl)
