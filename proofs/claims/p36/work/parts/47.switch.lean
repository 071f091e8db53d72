/-! numberOf, travellerOf, fee, stoneOf, account, lettersAgain -/
def regF (p : Int32) : Int32 := if p = -1 then 0 else if p = 10 then 2 else 1
def numF (r : Row) (w : Nat) : Int32 := match w with | 0 => kindF (r 0) | 1 => r 0 | 2 => r 1 | 3 => r 2 | 4 => r 3 | 5 => wayF r | 6 => r 5 | 7 => r 6 | 8 => r 7 | _ => regF (r 2)
theorem X3_region_s {post : Int32 → Mem → Prop} {S : Mem} {i : Nat} {p : Int32} (hp : S 2 i 2 = p) (h : post (regF p) S) : mX3_region post S i := by
  unfold mX3_region
  rw [hp]
  unfold regF at h
  refine ⟨fun g => ⟨fun g2 => ?_, fun g2 => ?_⟩, fun g => ?_⟩
  · rw [if_neg g, if_neg g2] at h; exact h
  · rw [if_neg g, if_pos g2] at h; exact h
  · rw [if_pos g] at h; exact h
theorem bit_s {P : Int32 → Prop} {x : Int32} (hx : x = 0 ∨ x = 1) (h : P x) : (x = 0 → P 0) ∧ (¬ x = 0 → P 1) := by
  rcases hx with rfl | rfl
  · exact ⟨fun _ => h, fun g => absurd rfl g⟩
  · exact ⟨fun g => absurd g (by decide), fun _ => h⟩
theorem wayF_bit {r : Row} (w : WFT r) : wayF r = 0 ∨ wayF r = 1 := by
  unfold wayF
  split
  · exact w.2.2.2.2.1
  · split
    · exact Or.inr rfl
    · exact Or.inl rfl
theorem X3_numberOf_s {post : Int32 → Mem → Prop} {S : Mem} {i : Nat} {r : Row} (hr : ∀ f, f < 8 → S 2 i f = ctF r f) (w : WFT r) : ∀ k : Nat, k ≤ 9 → post (numF r k) S → mX3_numberOf post S i (nI k) := by
  intro k hk h
  have a0 : S 2 i 0 = r 0 := hr 0 (by decide)
  have a1 : S 2 i 1 = r 1 := hr 1 (by decide)
  have a2 : S 2 i 2 = r 2 := hr 2 (by decide)
  have a3 : S 2 i 3 = r 3 := hr 3 (by decide)
  have a4 : S 2 i 4 = wayF r := hr 4 (by decide)
  have a5 : S 2 i 5 = r 5 := hr 5 (by decide)
  have a6 : S 2 i 6 = r 6 := hr 6 (by decide)
  have a7 : S 2 i 7 = r 7 := hr 7 (by decide)
  unfold mX3_numberOf
  rcases (show k = 0 ∨ k = 1 ∨ k = 2 ∨ k = 3 ∨ k = 4 ∨ k = 5 ∨ k = 6 ∨ k = 7 ∨ k = 8 ∨ k = 9 by omega) with rfl | rfl | rfl | rfl | rfl | rfl | rfl | rfl | rfl | rfl
  · exact ⟨fun _ => X3_kind_s a0 h, fun e9 => absurd e9 (by decide), fun e9 => absurd e9 (by decide), fun e9 => absurd e9 (by decide), fun e9 => absurd e9 (by decide), fun e9 => absurd e9 (by decide), fun e9 => absurd e9 (by decide), fun e9 => absurd e9 (by decide), fun e9 => absurd e9 (by decide), fun e9 => absurd rfl e9.1⟩
  · exact ⟨fun e9 => absurd e9 (by decide), fun _ => by rw [a0]; exact h, fun e9 => absurd e9 (by decide), fun e9 => absurd e9 (by decide), fun e9 => absurd e9 (by decide), fun e9 => absurd e9 (by decide), fun e9 => absurd e9 (by decide), fun e9 => absurd e9 (by decide), fun e9 => absurd e9 (by decide), fun e9 => absurd rfl e9.2.1⟩
  · exact ⟨fun e9 => absurd e9 (by decide), fun e9 => absurd e9 (by decide), fun _ => by rw [a1]; exact h, fun e9 => absurd e9 (by decide), fun e9 => absurd e9 (by decide), fun e9 => absurd e9 (by decide), fun e9 => absurd e9 (by decide), fun e9 => absurd e9 (by decide), fun e9 => absurd e9 (by decide), fun e9 => absurd rfl e9.2.2.1⟩
  · exact ⟨fun e9 => absurd e9 (by decide), fun e9 => absurd e9 (by decide), fun e9 => absurd e9 (by decide), fun _ => by rw [a2]; exact h, fun e9 => absurd e9 (by decide), fun e9 => absurd e9 (by decide), fun e9 => absurd e9 (by decide), fun e9 => absurd e9 (by decide), fun e9 => absurd e9 (by decide), fun e9 => absurd rfl e9.2.2.2.1⟩
  · exact ⟨fun e9 => absurd e9 (by decide), fun e9 => absurd e9 (by decide), fun e9 => absurd e9 (by decide), fun e9 => absurd e9 (by decide), fun _ => by rw [a3]; exact bit_s (P := fun z => post z S) w.2.2.2.1 h, fun e9 => absurd e9 (by decide), fun e9 => absurd e9 (by decide), fun e9 => absurd e9 (by decide), fun e9 => absurd e9 (by decide), fun e9 => absurd rfl e9.2.2.2.2.1⟩
  · exact ⟨fun e9 => absurd e9 (by decide), fun e9 => absurd e9 (by decide), fun e9 => absurd e9 (by decide), fun e9 => absurd e9 (by decide), fun e9 => absurd e9 (by decide), fun _ => by rw [a4]; exact bit_s (P := fun z => post z S) (wayF_bit w) h, fun e9 => absurd e9 (by decide), fun e9 => absurd e9 (by decide), fun e9 => absurd e9 (by decide), fun e9 => absurd rfl e9.2.2.2.2.2.1⟩
  · exact ⟨fun e9 => absurd e9 (by decide), fun e9 => absurd e9 (by decide), fun e9 => absurd e9 (by decide), fun e9 => absurd e9 (by decide), fun e9 => absurd e9 (by decide), fun e9 => absurd e9 (by decide), fun _ => by rw [a5]; exact bit_s (P := fun z => post z S) w.2.2.2.2.2.1 h, fun e9 => absurd e9 (by decide), fun e9 => absurd e9 (by decide), fun e9 => absurd rfl e9.2.2.2.2.2.2.1⟩
  · exact ⟨fun e9 => absurd e9 (by decide), fun e9 => absurd e9 (by decide), fun e9 => absurd e9 (by decide), fun e9 => absurd e9 (by decide), fun e9 => absurd e9 (by decide), fun e9 => absurd e9 (by decide), fun e9 => absurd e9 (by decide), fun _ => by rw [a6]; exact h, fun e9 => absurd e9 (by decide), fun e9 => absurd rfl e9.2.2.2.2.2.2.2.1⟩
  · exact ⟨fun e9 => absurd e9 (by decide), fun e9 => absurd e9 (by decide), fun e9 => absurd e9 (by decide), fun e9 => absurd e9 (by decide), fun e9 => absurd e9 (by decide), fun e9 => absurd e9 (by decide), fun e9 => absurd e9 (by decide), fun e9 => absurd e9 (by decide), fun _ => by rw [a7]; exact h, fun e9 => absurd rfl e9.2.2.2.2.2.2.2.2⟩
  · exact ⟨fun e9 => absurd e9 (by decide), fun e9 => absurd e9 (by decide), fun e9 => absurd e9 (by decide), fun e9 => absurd e9 (by decide), fun e9 => absurd e9 (by decide), fun e9 => absurd e9 (by decide), fun e9 => absurd e9 (by decide), fun e9 => absurd e9 (by decide), fun e9 => absurd e9 (by decide), fun _ => X3_region_s a2 h⟩
theorem RepC.trav {S : Mem} {j n t : Nat} {R : Row} (h : RepC S j R n) (ht : t < n) : ∀ f, f < 8 → S 2 (8 * j + t) f = ctF (trv R t) f := fun f hf => h.2.2.2.2.2.2.2.2.2.2.2.2 t ht f hf
theorem WFR.t {R : Row} {n t : Nat} (w : WFR R n) (ht : t < n) : WFT (trv R t) := w.2.2.2.2.2 t ht
theorem X0_sumOf_s {post : Int32 → Mem → Prop} {S : Mem} {j n k : Nat} {R : Row} (hk : k ≤ 9) (hR : RepC S j R n) (h : post (sumF (fun t => numF (trv R t) k) n 0 0) S) : mX0_sumOf post S j (nI k) := by
  have loop : ∀ (m t : Nat) (a : Int32), t + m = n → post (sumF (fun t => numF (trv R t) k) m t a) S → mX0_sumOf_b4 post (m + 1) S j (nI k) a (nI t) := by
    intro m
    have hn := hR.1.1
    induction m with
    | zero =>
      intro t a ht h
      unfold mX0_sumOf_b4
      rw [hR.cnt]
      exact ⟨fun _ => h, fun g => absurd (nI_le (by omega) (by omega)) g⟩
    | succ m ih =>
      intro t a ht h
      have htn : t < n := by omega
      unfold mX0_sumOf_b4
      rw [hR.cnt]
      refine ⟨fun g => absurd g (nI_ge htn (by omega)), fun _ => ⟨vpN (by omega) (by decide), fun q eq => ?_⟩⟩
      rw [nI_clamp (by omega)] at eq
      subst eq
      refine X3_numberOf_s (hR.trav htn) (hR.1.t htn) k hk (fun x ex y ey => ?_)
      rw [ex, ey, inc]
      unfold sumF at h
      exact ih (t + 1) _ (by omega) h
  unfold mX0_sumOf
  exact ⟨n + 1, loop n 0 0 (by omega) h⟩
theorem X0_countIn_s {post : Int32 → Mem → Prop} {S : Mem} {j n : Nat} {R : Row} {v : Int32} (hR : RepC S j R n) (h : post (cntF (fun t => decide (regF (plc R t) = v)) n 0 0) S) : mX0_countIn post S j v := by
  have loop : ∀ (m t : Nat) (a : Int32), t + m = n → post (cntF (fun t => decide (regF (plc R t) = v)) m t a) S → mX0_countIn_b4 post (m + 1) S j v a (nI t) := by
    intro m
    have hn := hR.1.1
    induction m with
    | zero =>
      intro t a ht h
      unfold mX0_countIn_b4
      rw [hR.cnt]
      exact ⟨fun _ => h, fun g => absurd (nI_le (by omega) (by omega)) g⟩
    | succ m ih =>
      intro t a ht h
      have htn : t < n := by omega
      unfold mX0_countIn_b4
      rw [hR.cnt]
      refine ⟨fun g => absurd g (nI_ge htn (by omega)), fun _ => ⟨vpN (by omega) (by decide), fun q eq => ?_⟩⟩
      rw [nI_clamp (by omega)] at eq
      subst eq
      refine X3_region_s (hR.tr htn (by decide) (by decide)) ?_
      unfold cntF at h
      refine ⟨fun g x ex => ?_, fun g x ex y ey => ?_⟩
      · rw [if_neg (fun h9 => absurd (of_decide_eq_true h9) (show ¬ regF (plc R t) = v from g))] at h
        rw [ex, inc]
        exact ih (t + 1) a (by omega) h
      · rw [if_pos (decide_eq_true (show regF (plc R t) = v from g))] at h
        rw [ex, ey, inc]
        exact ih (t + 1) _ (by omega) h
  unfold mX0_countIn
  exact ⟨n + 1, loop n 0 0 (by omega) h⟩
theorem not_lt_lt {a b : Int32} : ¬ (a < b ∨ b < a) ↔ a = b := by
  rw [← Int32.toInt_inj, Int32.lt_iff_toInt_lt, Int32.lt_iff_toInt_lt]
  omega
theorem plc_cases {R : Row} {n t : Nat} (w : WFR R n) (ht : t < n) : plc R t = -1 ∨ plc R t = 10 ∨ ∃ a, a < 10 ∧ plc R t = nI a := (w.t ht).2.2.1
theorem reg0 {p : Int32} (h : p = -1 ∨ p = 10 ∨ ∃ a, a < 10 ∧ p = nI a) : (regF p = 0 ↔ ¬ (p < -1 ∨ -1 < p)) ∧ (regF p = 1 ↔ ¬ (p < 0 ∨ 9 < p)) ∧ (regF p = 2 ↔ ¬ (p < 10 ∨ 10 < p)) := by
  rcases h with rfl | rfl | ⟨a, ha, rfl⟩
  · decide
  · decide
  · have : ∀ a, a < 10 → (regF (nI a) = 0 ↔ ¬ (nI a < -1 ∨ -1 < nI a)) ∧ (regF (nI a) = 1 ↔ ¬ (nI a < 0 ∨ 9 < nI a)) ∧ (regF (nI a) = 2 ↔ ¬ (nI a < 10 ∨ 10 < nI a)) := by decide +kernel
    exact this a ha
theorem le8 {v : Int32} (h0 : ¬ v < 0) (h1 : ¬ (8 : Int32) < v) : ∃ k, k ≤ 8 ∧ v = nI k := range9 (n := 8) (by decide) h0 h1
