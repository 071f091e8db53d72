/-! numberOf, travellerOf, fee, stoneOf, account, lettersAgain -/
def regF (p : Int32) : Int32 := if p = -1 then 0 else if p = 10 then 2 else 1
def numF (r : Row) (w : Nat) : Int32 := match w with | 0 => kindF (r 0) | 1 => r 0 | 2 => r 1 | 3 => r 2 | 4 => r 3 | 5 => wayF r | 6 => r 5 | 7 => r 6 | 8 => r 7 | _ => regF (r 2)
theorem X3_region_s {post : Int32 → Mem → Prop} {S : Mem} {i : Nat} {p : Int32} (hp : S 2 i 2 = p) (h : post (regF p) S) : mX3_region post S i := by
  unfold mX3_region
  rw [hp]
  unfold regF at h
  refine ⟨fun g => ⟨fun g2 => ?_, fun g2 => ?_⟩, fun g => ?_⟩
  · rw [if_neg g, if_neg g2] at h; exact h
  · rw [if_neg g, if_pos g2] at h; exact h
  · rw [if_pos g] at h; exact h
theorem bit_s {P : Int32 → Prop} {x : Int32} (hx : x = 0 ∨ x = 1) (h : P x) : (x = 0 → P 0) ∧ (¬ x = 0 → P 1) := by
  rcases hx with rfl | rfl
  · exact ⟨fun _ => h, fun g => absurd rfl g⟩
  · exact ⟨fun g => absurd g (by decide), fun _ => h⟩
theorem wayF_bit {r : Row} (w : WFT r) : wayF r = 0 ∨ wayF r = 1 := by
  unfold wayF
  split
  · exact w.2.2.2.2.1
  · split
    · exact Or.inr rfl
    · exact Or.inl rfl
theorem X3_numberOf_s {post : Int32 → Mem → Prop} {S : Mem} {i : Nat} {r : Row} (hr : ∀ f, f < 8 → S 2 i f = ctF r f) (w : WFT r) : ∀ k : Nat, k ≤ 9 → post (numF r k) S → mX3_numberOf post S i (nI k) := by
  intro k hk h
  have a0 : S 2 i 0 = r 0 := hr 0 (by decide)
  have a1 : S 2 i 1 = r 1 := hr 1 (by decide)
  have a2 : S 2 i 2 = r 2 := hr 2 (by decide)
  have a3 : S 2 i 3 = r 3 := hr 3 (by decide)
  have a4 : S 2 i 4 = wayF r := hr 4 (by decide)
  have a5 : S 2 i 5 = r 5 := hr 5 (by decide)
  have a6 : S 2 i 6 = r 6 := hr 6 (by decide)
  have a7 : S 2 i 7 = r 7 := hr 7 (by decide)
  unfold mX3_numberOf
  rcases (show k = 0 ∨ k = 1 ∨ k = 2 ∨ k = 3 ∨ k = 4 ∨ k = 5 ∨ k = 6 ∨ k = 7 ∨ k = 8 ∨ k = 9 by omega) with rfl | rfl | rfl | rfl | rfl | rfl | rfl | rfl | rfl | rfl
  · exact ⟨fun _ => X3_kind_s a0 h, fun e9 => absurd e9 (by decide), fun e9 => absurd e9 (by decide), fun e9 => absurd e9 (by decide), fun e9 => absurd e9 (by decide), fun e9 => absurd e9 (by decide), fun e9 => absurd e9 (by decide), fun e9 => absurd e9 (by decide), fun e9 => absurd e9 (by decide), fun e9 => absurd rfl e9.1⟩
  · exact ⟨fun e9 => absurd e9 (by decide), fun _ => by rw [a0]; exact h, fun e9 => absurd e9 (by decide), fun e9 => absurd e9 (by decide), fun e9 => absurd e9 (by decide), fun e9 => absurd e9 (by decide), fun e9 => absurd e9 (by decide), fun e9 => absurd e9 (by decide), fun e9 => absurd e9 (by decide), fun e9 => absurd rfl e9.2.1⟩
  · exact ⟨fun e9 => absurd e9 (by decide), fun e9 => absurd e9 (by decide), fun _ => by rw [a1]; exact h, fun e9 => absurd e9 (by decide), fun e9 => absurd e9 (by decide), fun e9 => absurd e9 (by decide), fun e9 => absurd e9 (by decide), fun e9 => absurd e9 (by decide), fun e9 => absurd e9 (by decide), fun e9 => absurd rfl e9.2.2.1⟩
  · exact ⟨fun e9 => absurd e9 (by decide), fun e9 => absurd e9 (by decide), fun e9 => absurd e9 (by decide), fun _ => by rw [a2]; exact h, fun e9 => absurd e9 (by decide), fun e9 => absurd e9 (by decide), fun e9 => absurd e9 (by decide), fun e9 => absurd e9 (by decide), fun e9 => absurd e9 (by decide), fun e9 => absurd rfl e9.2.2.2.1⟩
  · exact ⟨fun e9 => absurd e9 (by decide), fun e9 => absurd e9 (by decide), fun e9 => absurd e9 (by decide), fun e9 => absurd e9 (by decide), fun _ => by rw [a3]; exact bit_s (P := fun z => post z S) w.2.2.2.1 h, fun e9 => absurd e9 (by decide), fun e9 => absurd e9 (by decide), fun e9 => absurd e9 (by decide), fun e9 => absurd e9 (by decide), fun e9 => absurd rfl e9.2.2.2.2.1⟩
  · exact ⟨fun e9 => absurd e9 (by decide), fun e9 => absurd e9 (by decide), fun e9 => absurd e9 (by decide), fun e9 => absurd e9 (by decide), fun e9 => absurd e9 (by decide), fun _ => by rw [a4]; exact bit_s (P := fun z => post z S) (wayF_bit w) h, fun e9 => absurd e9 (by decide), fun e9 => absurd e9 (by decide), fun e9 => absurd e9 (by decide), fun e9 => absurd rfl e9.2.2.2.2.2.1⟩
  · exact ⟨fun e9 => absurd e9 (by decide), fun e9 => absurd e9 (by decide), fun e9 => absurd e9 (by decide), fun e9 => absurd e9 (by decide), fun e9 => absurd e9 (by decide), fun e9 => absurd e9 (by decide), fun _ => by rw [a5]; exact bit_s (P := fun z => post z S) w.2.2.2.2.2.1 h, fun e9 => absurd e9 (by decide), fun e9 => absurd e9 (by decide), fun e9 => absurd rfl e9.2.2.2.2.2.2.1⟩
  · exact ⟨fun e9 => absurd e9 (by decide), fun e9 => absurd e9 (by decide), fun e9 => absurd e9 (by decide), fun e9 => absurd e9 (by decide), fun e9 => absurd e9 (by decide), fun e9 => absurd e9 (by decide), fun e9 => absurd e9 (by decide), fun _ => by rw [a6]; exact h, fun e9 => absurd e9 (by decide), fun e9 => absurd rfl e9.2.2.2.2.2.2.2.1⟩
  · exact ⟨fun e9 => absurd e9 (by decide), fun e9 => absurd e9 (by decide), fun e9 => absurd e9 (by decide), fun e9 => absurd e9 (by decide), fun e9 => absurd e9 (by decide), fun e9 => absurd e9 (by decide), fun e9 => absurd e9 (by decide), fun e9 => absurd e9 (by decide), fun _ => by rw [a7]; exact h, fun e9 => absurd rfl e9.2.2.2.2.2.2.2.2⟩
  · exact ⟨fun e9 => absurd e9 (by decide), fun e9 => absurd e9 (by decide), fun e9 => absurd e9 (by decide), fun e9 => absurd e9 (by decide), fun e9 => absurd e9 (by decide), fun e9 => absurd e9 (by decide), fun e9 => absurd e9 (by decide), fun e9 => absurd e9 (by decide), fun e9 => absurd e9 (by decide), fun _ => X3_region_s a2 h⟩
theorem RepC.trav {S : Mem} {j n t : Nat} {R : Row} (h : RepC S j R n) (ht : t < n) : ∀ f, f < 8 → S 2 (8 * j + t) f = ctF (trv R t) f := fun f hf => h.2.2.2.2.2.2.2.2.2.2.2.2 t ht f hf
theorem WFR.t {R : Row} {n t : Nat} (w : WFR R n) (ht : t < n) : WFT (trv R t) := w.2.2.2.2.2 t ht
theorem X0_sumOf_s {post : Int32 → Mem → Prop} {S : Mem} {j n k : Nat} {R : Row} (hk : k ≤ 9) (hR : RepC S j R n) (h : post (sumF (fun t => numF (trv R t) k) n 0 0) S) : mX0_sumOf post S j (nI k) := by
  have loop : ∀ (m t : Nat) (a : Int32), t + m = n → post (sumF (fun t => numF (trv R t) k) m t a) S → mX0_sumOf_b4 post (m + 1) S j (nI k) a (nI t) := by
    intro m
    have hn := hR.1.1
    induction m with
    | zero =>
      intro t a ht h
      unfold mX0_sumOf_b4
      rw [hR.cnt]
      exact ⟨fun _ => h, fun g => absurd (nI_le (by omega) (by omega)) g⟩
    | succ m ih =>
      intro t a ht h
      have htn : t < n := by omega
      unfold mX0_sumOf_b4
      rw [hR.cnt]
      refine ⟨fun g => absurd g (nI_ge htn (by omega)), fun _ => ⟨vpN (by omega) (by decide), fun q eq => ?_⟩⟩
      rw [nI_clamp (by omega)] at eq
      subst eq
      refine X3_numberOf_s (hR.trav htn) (hR.1.t htn) k hk (fun x ex y ey => ?_)
      rw [ex, ey, inc]
      unfold sumF at h
      exact ih (t + 1) _ (by omega) h
  unfold mX0_sumOf
  exact ⟨n + 1, loop n 0 0 (by omega) h⟩
theorem X0_countIn_s {post : Int32 → Mem → Prop} {S : Mem} {j n : Nat} {R : Row} {v : Int32} (hR : RepC S j R n) (h : post (cntF (fun t => decide (regF (plc R t) = v)) n 0 0) S) : mX0_countIn post S j v := by
  have loop : ∀ (m t : Nat) (a : Int32), t + m = n → post (cntF (fun t => decide (regF (plc R t) = v)) m t a) S → mX0_countIn_b4 post (m + 1) S j v a (nI t) := by
    intro m
    have hn := hR.1.1
    induction m with
    | zero =>
      intro t a ht h
      unfold mX0_countIn_b4
      rw [hR.cnt]
      exact ⟨fun _ => h, fun g => absurd (nI_le (by omega) (by omega)) g⟩
    | succ m ih =>
      intro t a ht h
      have htn : t < n := by omega
      unfold mX0_countIn_b4
      rw [hR.cnt]
      refine ⟨fun g => absurd g (nI_ge htn (by omega)), fun _ => ⟨vpN (by omega) (by decide), fun q eq => ?_⟩⟩
      rw [nI_clamp (by omega)] at eq
      subst eq
      refine X3_region_s (hR.tr htn (by decide) (by decide)) ?_
      unfold cntF at h
      refine ⟨fun g x ex => ?_, fun g x ex y ey => ?_⟩
      · rw [if_neg (fun h9 => absurd (of_decide_eq_true h9) (show ¬ regF (plc R t) = v from g))] at h
        rw [ex, inc]
        exact ih (t + 1) a (by omega) h
      · rw [if_pos (decide_eq_true (show regF (plc R t) = v from g))] at h
        rw [ex, ey, inc]
        exact ih (t + 1) _ (by omega) h
  unfold mX0_countIn
  exact ⟨n + 1, loop n 0 0 (by omega) h⟩
theorem not_lt_lt {a b : Int32} : ¬ (a < b ∨ b < a) ↔ a = b := by
  rw [← Int32.toInt_inj, Int32.lt_iff_toInt_lt, Int32.lt_iff_toInt_lt]
  omega
theorem plc_cases {R : Row} {n t : Nat} (w : WFR R n) (ht : t < n) : plc R t = -1 ∨ plc R t = 10 ∨ ∃ a, a < 10 ∧ plc R t = nI a := (w.t ht).2.2.1
theorem reg0 {p : Int32} (h : p = -1 ∨ p = 10 ∨ ∃ a, a < 10 ∧ p = nI a) : (regF p = 0 ↔ ¬ (p < -1 ∨ -1 < p)) ∧ (regF p = 1 ↔ ¬ (p < 0 ∨ 9 < p)) ∧ (regF p = 2 ↔ ¬ (p < 10 ∨ 10 < p)) := by
  rcases h with rfl | rfl | ⟨a, ha, rfl⟩
  · decide
  · decide
  · have : ∀ a, a < 10 → (regF (nI a) = 0 ↔ ¬ (nI a < -1 ∨ -1 < nI a)) ∧ (regF (nI a) = 1 ↔ ¬ (nI a < 0 ∨ 9 < nI a)) ∧ (regF (nI a) = 2 ↔ ¬ (nI a < 10 ∨ 10 < nI a)) := by decide +kernel
    exact this a ha
theorem ofs_thr {S : Mem} {v : Int32} : (wr S 10 0 21 v) 11 = S 11 := wr_c (by decide)
theorem k_fee {S : Mem} {f : Nat → Int64} {g : Nat → UInt64} {x1 x2 : Int32} (h : Inv S) : lawC10 (fun S1 _ _ => Inv S1) S f g x1 x2 := by
  obtain ⟨n, hR⟩ := h.1
  have w := hR.1
  have hn := w.1
  unfold lawC10 mL_fee mX5_fee
  refine found_s hn hR.cnt (fun t ht et => ?_) (fun h0 => ⟨rfl, ?_⟩)
  · subst et
    have ht' := hR.tr (f := 0) ht (by decide) (by decide)
    rw [Nat.mul_zero, Nat.zero_add] at ht'
    refine X3_toll_s ht' ?_
    unfold mX6_fee
    intro S1 e
    subst e
    refine isTraveller_s hn (by rw [ofs_thr]; exact w.2.1) (fun t' _ _ => ⟨fun g => ne10 g, fun _ => X6_feeOf_s (by omega) ?_⟩) (fun h0 => absurd h0 (by rintro (g | g); exact nI_pos (by omega) g; exact g (nI_lt ht (by omega))))
    rw [ofs_thr]
    exact fin h rfl (fun _ => updL0)
  · unfold mX6_fee
    intro S1 e
    subst e
    refine isTraveller_s hn (by rw [ofs_thr]; exact w.2.1) (fun t ht et => ?_) (fun _ => ⟨fun _ => s_raises (fin (h.thr 0) rfl ne10), fun g => absurd rfl g⟩)
    subst et
    exact absurd h0 (by rintro (g | g); exact nI_pos (by omega) g; exact g (nI_lt ht (by omega)))
theorem le8 {v : Int32} (h0 : ¬ v < 0) (h1 : ¬ (8 : Int32) < v) : ∃ k, k ≤ 8 ∧ v = nI k := range9 (n := 8) (by decide) h0 h1
theorem k_travellerOf {S : Mem} {f : Nat → Int64} {g : Nat → UInt64} {x1 x2 : Int32} (h : Inv S) : lawC9 (fun S1 _ _ => Inv S1) S f g x1 x2 := by
  obtain ⟨n, hR⟩ := h.1
  have w := hR.1
  have hn := w.1
  unfold lawC9 mL_travellerOf mX5_travellerOf
  refine found_s hn hR.cnt (fun t ht et => ?_) (fun h0 => Or.inl ⟨rfl, ?_⟩)
  · subst et
    have habs : ¬ (nI t < 0 ∨ ¬ nI t < nI n) := by rintro (g | g); exact nI_pos (by omega) g; exact g (nI_lt ht (by omega))
    have hT : ∀ q, q < 8 → S 2 t q = ctF (trv (S 11 0) t) q := fun q hq => by
      have := hR.trav ht q hq
      rw [Nat.mul_zero, Nat.zero_add] at this
      exact this
    have wt := w.t ht
    have head : ∀ {post : Int32 → Mem → Prop}, (post 1 (wr S 10 0 21 0)) → mX6_isTraveller post (wr S 10 0 21 0) (nI t) := fun hp => isTraveller_s hn (by rw [ofs_thr]; exact w.2.1) (fun _ _ _ => hp) (fun h0 => absurd h0 habs)
    have tail : ∀ (kk : Int32) (f3 : Nat → Int64), ((¬ x2 < 1 ∧ ¬ (8 : Int32) < x2) → kk = 0 ∧ ∀ k, k < 8 → x2 - 1 = nI k → f3 0 = (trv (S 11 0) t k).toInt64) → ((x2 < 1 ∨ (8 : Int32) < x2) → kk = 2) → mX6_travellerOf_b62 (fun (r4 : Int32) (S5 : Mem) => mX6_thrown (fun (r6 : Int32) (S7 : Mem) => r6 = kk ∧ (kk = 0 → f3 0 = r4.toInt64) ∧ Inv S7) S5) (wr S 10 0 21 0) (nI t) x2 := by
      intro kk f3 h1 h2
      unfold mX6_travellerOf_b62
      refine s_in (fun g0 g1 => ⟨fun g => ne10 g, fun _ => ?_⟩) (fun g => ⟨fun _ => s_raises ?_, fun g => absurd rfl g⟩)
      · obtain ⟨k, hk, rfl⟩ := range9 (n := 8) (by decide) (fun g => g0 (Int32.lt_trans g (by decide))) g1
        have hk0 : k ≠ 0 := fun e => g0 (by rw [e]; decide)
        have ek : nI k - 1 = nI (k - 1) := by
          obtain ⟨q, rfl⟩ : ∃ q, k = q + 1 := ⟨k - 1, by omega⟩
          exact nI_pred q
        rw [ek]
        refine of_s (by omega) (by omega) ?_
        rw [ofs_thr]
        obtain ⟨a1, a2⟩ := h1 ⟨g0, g1⟩
        exact fin h a1.symm (fun _ => a2 _ (by omega) ek)
      · have := h2 g
        rw [this]
        exact fin (h.thr 0) rfl ne20
    refine s_checkRange (fun h0 h1 => ?_) (fun h0 => Or.inr ⟨rfl, ?_⟩)
    · obtain ⟨k, hk, rfl⟩ := le8 h0 h1
      refine X3_numberOf_s hT wt k (by omega) ?_
      unfold mX6_travellerOf
      intro S1 e
      subst e
      refine head ⟨fun _ => ⟨fun g0 => ⟨fun g5 => ?_, fun g5 => ?_⟩, fun g0 => ?_⟩, fun g => ne10 g⟩
      · refine tail 0 _ (fun _ => ⟨rfl, fun q hq eq => ?_⟩) (fun h9 => ?_)
        · rw [updL0]
          have hk0 : k ≠ 0 := fun e => g0 (by rw [e]; rfl)
          have hk5 : k ≠ 5 := fun e => g5 (by rw [e]; rfl)
          have ek : nI k - 1 = nI (k - 1) := by
            obtain ⟨q, rfl⟩ : ∃ q, k = q + 1 := ⟨k - 1, by omega⟩
            exact nI_pred q
          rw [ek] at eq
          have := (nI_eq (by omega) (by omega)).mp eq
          subst this
          rcases (show k = 1 ∨ k = 2 ∨ k = 3 ∨ k = 4 ∨ k = 6 ∨ k = 7 ∨ k = 8 by omega) with rfl | rfl | rfl | rfl | rfl | rfl | rfl <;> rfl
        · have hk0 : k ≠ 0 := fun e => g0 (by rw [e]; rfl)
          rcases h9 with h9 | h9
          · exact absurd h9 (nI_nlt (b := 1) (by omega) (by omega))
          · exact absurd h9 h1
      · have hk5 : k = 5 := (nI_eq (by omega) (by decide)).mp g5
        subst hk5
        refine of_s (f := 2) (by omega) (by decide) ?_
        rw [ofs_thr]
        refine X6_isStone_s (fun a ha ea => ⟨fun _ => ?_, fun g => ne10 g⟩) (fun hp => ⟨fun g => absurd rfl g, fun _ => of_s (f := 2) (by omega) (by decide) ?_⟩)
        · refine tail 0 _ (fun _ => ⟨rfl, fun q hq eq => ?_⟩) (fun h9 => absurd h9 (by decide))
          have := (nI_eq (a := 4) (by omega) (by omega)).mp eq
          subst this
          rw [updL0]
          have h3 : trv (S 11 0) t 3 = 1 := by
            rcases wt.2.2.2.1 with e3 | e3
            · rcases (wt.2.2.2.2.2.2.1 e3).2.2 with e2 | e2
              · rw [ea] at e2; exact absurd (nI_pos' (n := a) (by omega)) (by rw [e2]; decide)
              · rw [ea] at e2
                have := (nI_eq (a := a) (b := 10) (by omega) (by decide)).mp e2
                omega
            · exact e3
          have : numF (trv (S 11 0) t) 5 = trv (S 11 0) t 4 := by
            show wayF _ = _
            unfold wayF
            rw [if_pos h3]
          rw [this]
        · rw [ofs_thr]
          have hw : (trv (S 11 0) t 2 = -1 → wayF (trv (S 11 0) t) = 1) ∧ (¬ trv (S 11 0) t 2 = -1 → wayF (trv (S 11 0) t) = 0) := by
            unfold wayF
            constructor
            · intro e2
              by_cases e3 : trv (S 11 0) t 3 = 1
              · rw [if_pos e3]; exact (wt.2.2.2.2.2.2.2 e3).1 e2
              · rw [if_neg e3, if_pos e2]
            · intro e2
              by_cases e3 : trv (S 11 0) t 3 = 1
              · rw [if_pos e3]
                rcases wt.2.2.1 with q | q | ⟨a, ha, q⟩
                · exact absurd q e2
                · exact (wt.2.2.2.2.2.2.2 e3).2.1 q
                · rw [q] at hp
                  exact absurd hp (by rintro (g | g); exact nI_pos (by omega) g; exact g (nI_lt (b := 10) ha (by decide)))
              · rw [if_neg e3, if_neg e2]
          exact ⟨fun e2 => fin h rfl (fun _ => by rw [updL0]; show (wayF _).toInt64 = _; rw [hw.2 e2]), fun e2 => fin h rfl (fun _ => by rw [updL0]; show (wayF _).toInt64 = _; rw [hw.1 e2])⟩
      · have hk0 : k = 0 := (nI_eq (by omega) (by decide)).mp g0
        subst hk0
        refine X6_kind_s (by omega) ?_
        rw [ofs_thr]
        exact fin h rfl (fun _ => updL0)
    · unfold mX6_travellerOf
      intro S1 e
      subst e
      have hx : (x2 < 1 ∨ (8 : Int32) < x2) := h0.imp (fun g => Int32.lt_trans g (by decide)) id
      refine head ⟨fun _ => ⟨fun g0 => ⟨fun g5 => ?_, fun g5 => ?_⟩, fun g0 => ?_⟩, fun g => ne10 g⟩
      · exact tail 2 _ (fun h9 => absurd hx (by rintro (g | g); exact h9.1 g; exact h9.2 g)) (fun _ => rfl)
      · subst g5
        exact absurd h0 (by decide)
      · subst g0
        exact absurd h0 (by decide)
  · unfold mX6_travellerOf
    intro S1 e
    subst e
    refine isTraveller_s hn (by rw [ofs_thr]; exact w.2.1) (fun t ht et => ?_) (fun _ => ⟨fun g => absurd rfl g, fun _ => s_raises (fin (h.thr 0) rfl ne10)⟩)
    subst et
    exact absurd h0 (by rintro (g | g); exact nI_pos (by omega) g; exact g (nI_lt ht (by omega)))
theorem k_stoneOf {S : Mem} {f : Nat → Int64} {g : Nat → UInt64} {x1 x2 : Int32} (h : Inv S) : lawC3 (fun S1 _ _ => Inv S1) S f g x1 x2 := by
  obtain ⟨n, hR⟩ := h.1
  have w := hR.1
  unfold lawC3 mL_stoneOf mX5_stoneOf
  refine s_checkStone (fun s hs es => ?_) (fun h0 => Or.inl ⟨rfl, ?_⟩)
  · subst es
    have habs : ¬ (nI s < 0 ∨ ¬ nI s < 10) := by rintro (g | g); exact nI_pos (by omega) g; exact g (nI_lt (b := 10) hs (by decide))
    have w' : WFR ((wr S 10 0 21 0) 11 0) n := by rw [ofs_thr]; exact w
    refine s_checkRange (fun h0 h1 => ⟨fun g0 => ⟨fun g1 => ?_, fun g1 => ?_⟩, fun g0 => ?_⟩) (fun h0 => Or.inr ⟨rfl, ?_⟩)
    · have g2 : x2 = 2 := by
        obtain ⟨k, hk, rfl⟩ := range9 (n := 2) (by decide) h0 h1
        rcases (show k = 0 ∨ k = 1 ∨ k = 2 by omega) with rfl | rfl | rfl
        · exact absurd rfl g0
        · exact absurd rfl g1
        · rfl
      subst g2
      refine X0_countOn_s hR ?_
      unfold mX6_stoneOf
      intro S1 e
      subst e
      refine X6_isStone_s (fun _ _ _ => ⟨fun _ => ⟨fun e => absurd e (by decide), fun e => absurd e (by decide), fun _ => X6_countAt_s w' ?_, fun e => absurd rfl e.2.2⟩, fun g => ne10 g⟩) (fun h0 => absurd h0 habs)
      rw [ofs_thr]
      refine fin h rfl (fun _ => ?_)
      rw [updL0]
      congr 1
      refine cntF_congr _ _ _ (fun t _ ht => ?_)
      exact decide_eq_decide.mpr not_lt_lt.symm
    · subst g1
      refine X0_stateOf_s hs w (hR.2.2.2.2.2.2.2.2.2.2.2.1 s hs) (by rw [hR.2.2.2.1]; exact w.lv) ?_
      unfold mX6_stoneOf
      intro S1 e
      subst e
      refine X6_isStone_s (fun _ _ _ => ⟨fun _ => ⟨fun e => absurd e (by decide), fun _ => X6_state_s hs w' ?_, fun e => absurd e (by decide), fun e => absurd rfl e.2.1⟩, fun g => ne10 g⟩) (fun h0 => absurd h0 habs)
      rw [ofs_thr]
      exact fin h rfl (fun _ => by rw [updL0, hR.2.2.2.1])
    · subst g0
      refine ⟨vpN hs (by decide), ?_⟩
      unfold mX6_stoneOf
      intro S1 e
      subst e
      have ei : (10 : Int32) + nI s = nI (10 + s) := nI_add 10 s
      refine X6_isStone_s (fun _ _ _ => ⟨fun _ => ⟨fun _ => ⟨by rw [ei]; exact vpN (by omega) (by decide), ?_⟩, fun e => absurd e (by decide), fun e => absurd e (by decide), fun e => absurd rfl e.1⟩, fun g => ne10 g⟩) (fun h0 => absurd h0 habs)
      rw [ofs_thr, ei, nI_clamp (by omega)]
      exact fin h rfl (fun _ => by rw [updL0, nI_clamp (by omega), hR.2.2.2.2.2.2.2.2.2.2.2.1 s hs])
    · unfold mX6_stoneOf
      intro S1 e
      subst e
      refine X6_isStone_s (fun _ _ _ => ⟨fun _ => ⟨fun e => ?_, fun e => ?_, fun e => ?_, fun _ => s_raises (fin (h.thr 0) rfl ne20)⟩, fun g => ne10 g⟩) (fun h0 => absurd h0 habs) <;> (subst e; exact absurd h0 (by decide))
  · unfold mX6_stoneOf
    intro S1 e
    subst e
    refine X6_isStone_s (fun a ha ea => ?_) (fun _ => ⟨fun g => absurd rfl g, fun _ => s_raises (fin (h.thr 0) rfl ne10)⟩)
    subst ea
    exact absurd h0 (by rintro (g | g); exact nI_pos (by omega) g; exact g (nI_lt (b := 10) ha (by decide)))
theorem k_account {S : Mem} {f : Nat → Int64} {g : Nat → UInt64} {x1 x2 : Int32} (h : Inv S) : lawC26 (fun S1 _ _ => Inv S1) S f g x1 x2 := by
  obtain ⟨n, hR⟩ := h.1
  have w := hR.1
  have w' : WFR ((wr S 10 0 21 0) 11 0) n := by rw [ofs_thr]; exact w
  unfold lawC26 mL_account mX5_account
  refine s_checkRange (fun h0 h1 => ?_) (fun h0 => ⟨rfl, ?_⟩)
  · obtain ⟨k, hk, rfl⟩ := range9 (n := 18) (by decide) h0 h1
    rcases (show k = 0 ∨ k = 1 ∨ k = 2 ∨ k = 3 ∨ k = 4 ∨ k = 5 ∨ k = 6 ∨ k = 7 ∨ k = 8 ∨ k = 9 ∨ k = 10 ∨ k = 11 ∨ k = 12 ∨ k = 13 ∨ k = 14 ∨ k = 15 ∨ k = 16 ∨ k = 17 ∨ k = 18 by omega) with rfl | rfl | rfl | rfl | rfl | rfl | rfl | rfl | rfl | rfl | rfl | rfl | rfl | rfl | rfl | rfl | rfl | rfl | rfl
    · refine ⟨fun _ => (?_ : mX6_account _ _ _), fun e9 => absurd e9 (by decide), fun e9 => absurd e9 (by decide), fun e9 => absurd e9 (by decide), fun e9 => absurd e9 (by decide), fun e9 => absurd e9 (by decide), fun e9 => absurd e9 (by decide), fun e9 => absurd e9 (by decide), fun e9 => absurd e9 (by decide), fun e9 => absurd e9 (by decide), fun e9 => absurd e9 (by decide), fun e9 => absurd e9 (by decide), fun e9 => absurd e9 (by decide), fun e9 => absurd e9 (by decide), fun e9 => absurd e9 (by decide), fun e9 => absurd e9 (by decide), fun e9 => absurd e9 (by decide), fun e9 => absurd e9 (by decide), fun e9 => absurd rfl e9.1⟩
      unfold mX6_account
      intro S1 e
      subst e
      exact ⟨fun _ => ⟨vpL rfl, by rw [ofs_thr, c0]; exact fin h rfl (fun _ => by rw [updL0, hR.2.2.1])⟩, fun e9 => absurd e9 (by decide), fun e9 => absurd e9 (by decide), fun e9 => absurd e9 (by decide), fun e9 => absurd e9 (by decide), fun e9 => absurd e9 (by decide), fun e9 => absurd e9 (by decide), fun e9 => absurd e9 (by decide), fun e9 => absurd e9 (by decide), fun e9 => absurd e9 (by decide), fun e9 => absurd e9 (by decide), fun e9 => absurd e9 (by decide), fun e9 => absurd e9 (by decide), fun e9 => absurd e9 (by decide), fun e9 => absurd e9 (by decide), fun e9 => absurd e9 (by decide), fun e9 => absurd e9 (by decide), fun e9 => absurd e9 (by decide), fun e9 => absurd e9 (by decide), fun e9 => absurd rfl e9.1⟩
    · refine ⟨fun e9 => absurd e9 (by decide), fun _ => (?_ : mX6_account _ _ _), fun e9 => absurd e9 (by decide), fun e9 => absurd e9 (by decide), fun e9 => absurd e9 (by decide), fun e9 => absurd e9 (by decide), fun e9 => absurd e9 (by decide), fun e9 => absurd e9 (by decide), fun e9 => absurd e9 (by decide), fun e9 => absurd e9 (by decide), fun e9 => absurd e9 (by decide), fun e9 => absurd e9 (by decide), fun e9 => absurd e9 (by decide), fun e9 => absurd e9 (by decide), fun e9 => absurd e9 (by decide), fun e9 => absurd e9 (by decide), fun e9 => absurd e9 (by decide), fun e9 => absurd e9 (by decide), fun e9 => absurd rfl e9.2.1⟩
      unfold mX6_account
      intro S1 e
      subst e
      exact ⟨fun e9 => absurd e9 (by decide), fun _ => ⟨vpL rfl, by rw [ofs_thr, c1]; exact fin h rfl (fun _ => by rw [updL0, hR.2.2.2.1])⟩, fun e9 => absurd e9 (by decide), fun e9 => absurd e9 (by decide), fun e9 => absurd e9 (by decide), fun e9 => absurd e9 (by decide), fun e9 => absurd e9 (by decide), fun e9 => absurd e9 (by decide), fun e9 => absurd e9 (by decide), fun e9 => absurd e9 (by decide), fun e9 => absurd e9 (by decide), fun e9 => absurd e9 (by decide), fun e9 => absurd e9 (by decide), fun e9 => absurd e9 (by decide), fun e9 => absurd e9 (by decide), fun e9 => absurd e9 (by decide), fun e9 => absurd e9 (by decide), fun e9 => absurd e9 (by decide), fun e9 => absurd e9 (by decide), fun e9 => absurd rfl e9.2.1⟩
    · refine ⟨fun e9 => absurd e9 (by decide), fun e9 => absurd e9 (by decide), fun _ => (?_ : mX6_account _ _ _), fun e9 => absurd e9 (by decide), fun e9 => absurd e9 (by decide), fun e9 => absurd e9 (by decide), fun e9 => absurd e9 (by decide), fun e9 => absurd e9 (by decide), fun e9 => absurd e9 (by decide), fun e9 => absurd e9 (by decide), fun e9 => absurd e9 (by decide), fun e9 => absurd e9 (by decide), fun e9 => absurd e9 (by decide), fun e9 => absurd e9 (by decide), fun e9 => absurd e9 (by decide), fun e9 => absurd e9 (by decide), fun e9 => absurd e9 (by decide), fun e9 => absurd e9 (by decide), fun e9 => absurd rfl e9.2.2.1⟩
      unfold mX6_account
      intro S1 e
      subst e
      exact ⟨fun e9 => absurd e9 (by decide), fun e9 => absurd e9 (by decide), fun _ => ⟨vpL rfl, by rw [ofs_thr, c2]; exact fin h rfl (fun _ => by rw [updL0, hR.2.2.2.2.1])⟩, fun e9 => absurd e9 (by decide), fun e9 => absurd e9 (by decide), fun e9 => absurd e9 (by decide), fun e9 => absurd e9 (by decide), fun e9 => absurd e9 (by decide), fun e9 => absurd e9 (by decide), fun e9 => absurd e9 (by decide), fun e9 => absurd e9 (by decide), fun e9 => absurd e9 (by decide), fun e9 => absurd e9 (by decide), fun e9 => absurd e9 (by decide), fun e9 => absurd e9 (by decide), fun e9 => absurd e9 (by decide), fun e9 => absurd e9 (by decide), fun e9 => absurd e9 (by decide), fun e9 => absurd e9 (by decide), fun e9 => absurd rfl e9.2.2.1⟩
    · refine ⟨fun e9 => absurd e9 (by decide), fun e9 => absurd e9 (by decide), fun e9 => absurd e9 (by decide), fun _ => (?_ : mX6_account _ _ _), fun e9 => absurd e9 (by decide), fun e9 => absurd e9 (by decide), fun e9 => absurd e9 (by decide), fun e9 => absurd e9 (by decide), fun e9 => absurd e9 (by decide), fun e9 => absurd e9 (by decide), fun e9 => absurd e9 (by decide), fun e9 => absurd e9 (by decide), fun e9 => absurd e9 (by decide), fun e9 => absurd e9 (by decide), fun e9 => absurd e9 (by decide), fun e9 => absurd e9 (by decide), fun e9 => absurd e9 (by decide), fun e9 => absurd e9 (by decide), fun e9 => absurd rfl e9.2.2.2.1⟩
      unfold mX6_account
      intro S1 e
      subst e
      exact ⟨fun e9 => absurd e9 (by decide), fun e9 => absurd e9 (by decide), fun e9 => absurd e9 (by decide), fun _ => ⟨vpL rfl, by rw [ofs_thr, c3]; exact fin h rfl (fun _ => by rw [updL0, hR.2.1])⟩, fun e9 => absurd e9 (by decide), fun e9 => absurd e9 (by decide), fun e9 => absurd e9 (by decide), fun e9 => absurd e9 (by decide), fun e9 => absurd e9 (by decide), fun e9 => absurd e9 (by decide), fun e9 => absurd e9 (by decide), fun e9 => absurd e9 (by decide), fun e9 => absurd e9 (by decide), fun e9 => absurd e9 (by decide), fun e9 => absurd e9 (by decide), fun e9 => absurd e9 (by decide), fun e9 => absurd e9 (by decide), fun e9 => absurd e9 (by decide), fun e9 => absurd e9 (by decide), fun e9 => absurd rfl e9.2.2.2.1⟩
    · refine ⟨fun e9 => absurd e9 (by decide), fun e9 => absurd e9 (by decide), fun e9 => absurd e9 (by decide), fun e9 => absurd e9 (by decide), fun _ => X0_countIn_s hR (?_ : mX6_account _ _ _), fun e9 => absurd e9 (by decide), fun e9 => absurd e9 (by decide), fun e9 => absurd e9 (by decide), fun e9 => absurd e9 (by decide), fun e9 => absurd e9 (by decide), fun e9 => absurd e9 (by decide), fun e9 => absurd e9 (by decide), fun e9 => absurd e9 (by decide), fun e9 => absurd e9 (by decide), fun e9 => absurd e9 (by decide), fun e9 => absurd e9 (by decide), fun e9 => absurd e9 (by decide), fun e9 => absurd e9 (by decide), fun e9 => absurd rfl e9.2.2.2.2.1⟩
      unfold mX6_account
      intro S1 e
      subst e
      exact ⟨fun e9 => absurd e9 (by decide), fun e9 => absurd e9 (by decide), fun e9 => absurd e9 (by decide), fun e9 => absurd e9 (by decide), fun _ => X6_countAt_s w' (by rw [ofs_thr]; exact fin h rfl (fun _ => by rw [updL0]; congr 1; exact cntF_congr _ _ _ (fun t _ ht => decide_eq_decide.mpr (reg0 (plc_cases w (by omega))).1))), fun e9 => absurd e9 (by decide), fun e9 => absurd e9 (by decide), fun e9 => absurd e9 (by decide), fun e9 => absurd e9 (by decide), fun e9 => absurd e9 (by decide), fun e9 => absurd e9 (by decide), fun e9 => absurd e9 (by decide), fun e9 => absurd e9 (by decide), fun e9 => absurd e9 (by decide), fun e9 => absurd e9 (by decide), fun e9 => absurd e9 (by decide), fun e9 => absurd e9 (by decide), fun e9 => absurd e9 (by decide), fun e9 => absurd e9 (by decide), fun e9 => absurd rfl e9.2.2.2.2.1⟩
    · refine ⟨fun e9 => absurd e9 (by decide), fun e9 => absurd e9 (by decide), fun e9 => absurd e9 (by decide), fun e9 => absurd e9 (by decide), fun e9 => absurd e9 (by decide), fun _ => X0_countIn_s hR (?_ : mX6_account _ _ _), fun e9 => absurd e9 (by decide), fun e9 => absurd e9 (by decide), fun e9 => absurd e9 (by decide), fun e9 => absurd e9 (by decide), fun e9 => absurd e9 (by decide), fun e9 => absurd e9 (by decide), fun e9 => absurd e9 (by decide), fun e9 => absurd e9 (by decide), fun e9 => absurd e9 (by decide), fun e9 => absurd e9 (by decide), fun e9 => absurd e9 (by decide), fun e9 => absurd e9 (by decide), fun e9 => absurd rfl e9.2.2.2.2.2.1⟩
      unfold mX6_account
      intro S1 e
      subst e
      exact ⟨fun e9 => absurd e9 (by decide), fun e9 => absurd e9 (by decide), fun e9 => absurd e9 (by decide), fun e9 => absurd e9 (by decide), fun e9 => absurd e9 (by decide), fun _ => X6_countAt_s w' (by rw [ofs_thr]; exact fin h rfl (fun _ => by rw [updL0]; congr 1; exact cntF_congr _ _ _ (fun t _ ht => decide_eq_decide.mpr (reg0 (plc_cases w (by omega))).2.1))), fun e9 => absurd e9 (by decide), fun e9 => absurd e9 (by decide), fun e9 => absurd e9 (by decide), fun e9 => absurd e9 (by decide), fun e9 => absurd e9 (by decide), fun e9 => absurd e9 (by decide), fun e9 => absurd e9 (by decide), fun e9 => absurd e9 (by decide), fun e9 => absurd e9 (by decide), fun e9 => absurd e9 (by decide), fun e9 => absurd e9 (by decide), fun e9 => absurd e9 (by decide), fun e9 => absurd e9 (by decide), fun e9 => absurd rfl e9.2.2.2.2.2.1⟩
    · refine ⟨fun e9 => absurd e9 (by decide), fun e9 => absurd e9 (by decide), fun e9 => absurd e9 (by decide), fun e9 => absurd e9 (by decide), fun e9 => absurd e9 (by decide), fun e9 => absurd e9 (by decide), fun _ => X0_countIn_s hR (?_ : mX6_account _ _ _), fun e9 => absurd e9 (by decide), fun e9 => absurd e9 (by decide), fun e9 => absurd e9 (by decide), fun e9 => absurd e9 (by decide), fun e9 => absurd e9 (by decide), fun e9 => absurd e9 (by decide), fun e9 => absurd e9 (by decide), fun e9 => absurd e9 (by decide), fun e9 => absurd e9 (by decide), fun e9 => absurd e9 (by decide), fun e9 => absurd e9 (by decide), fun e9 => absurd rfl e9.2.2.2.2.2.2.1⟩
      unfold mX6_account
      intro S1 e
      subst e
      exact ⟨fun e9 => absurd e9 (by decide), fun e9 => absurd e9 (by decide), fun e9 => absurd e9 (by decide), fun e9 => absurd e9 (by decide), fun e9 => absurd e9 (by decide), fun e9 => absurd e9 (by decide), fun _ => X6_countAt_s w' (by rw [ofs_thr]; exact fin h rfl (fun _ => by rw [updL0]; congr 1; exact cntF_congr _ _ _ (fun t _ ht => decide_eq_decide.mpr (reg0 (plc_cases w (by omega))).2.2))), fun e9 => absurd e9 (by decide), fun e9 => absurd e9 (by decide), fun e9 => absurd e9 (by decide), fun e9 => absurd e9 (by decide), fun e9 => absurd e9 (by decide), fun e9 => absurd e9 (by decide), fun e9 => absurd e9 (by decide), fun e9 => absurd e9 (by decide), fun e9 => absurd e9 (by decide), fun e9 => absurd e9 (by decide), fun e9 => absurd e9 (by decide), fun e9 => absurd e9 (by decide), fun e9 => absurd rfl e9.2.2.2.2.2.2.1⟩
    · refine ⟨fun e9 => absurd e9 (by decide), fun e9 => absurd e9 (by decide), fun e9 => absurd e9 (by decide), fun e9 => absurd e9 (by decide), fun e9 => absurd e9 (by decide), fun e9 => absurd e9 (by decide), fun e9 => absurd e9 (by decide), fun _ => X0_sumOf_s (k := 4) (by decide) hR (?_ : mX6_account _ _ _), fun e9 => absurd e9 (by decide), fun e9 => absurd e9 (by decide), fun e9 => absurd e9 (by decide), fun e9 => absurd e9 (by decide), fun e9 => absurd e9 (by decide), fun e9 => absurd e9 (by decide), fun e9 => absurd e9 (by decide), fun e9 => absurd e9 (by decide), fun e9 => absurd e9 (by decide), fun e9 => absurd e9 (by decide), fun e9 => absurd rfl e9.2.2.2.2.2.2.2.1⟩
      unfold mX6_account
      intro S1 e
      subst e
      exact ⟨fun e9 => absurd e9 (by decide), fun e9 => absurd e9 (by decide), fun e9 => absurd e9 (by decide), fun e9 => absurd e9 (by decide), fun e9 => absurd e9 (by decide), fun e9 => absurd e9 (by decide), fun e9 => absurd e9 (by decide), fun _ => X6_sum_s (f := 3) (by decide) w' (by rw [ofs_thr]; exact fin h rfl (fun _ => by rw [updL0]; rfl)), fun e9 => absurd e9 (by decide), fun e9 => absurd e9 (by decide), fun e9 => absurd e9 (by decide), fun e9 => absurd e9 (by decide), fun e9 => absurd e9 (by decide), fun e9 => absurd e9 (by decide), fun e9 => absurd e9 (by decide), fun e9 => absurd e9 (by decide), fun e9 => absurd e9 (by decide), fun e9 => absurd e9 (by decide), fun e9 => absurd e9 (by decide), fun e9 => absurd rfl e9.2.2.2.2.2.2.2.1⟩
    · refine ⟨fun e9 => absurd e9 (by decide), fun e9 => absurd e9 (by decide), fun e9 => absurd e9 (by decide), fun e9 => absurd e9 (by decide), fun e9 => absurd e9 (by decide), fun e9 => absurd e9 (by decide), fun e9 => absurd e9 (by decide), fun e9 => absurd e9 (by decide), fun _ => (?_ : mX6_account _ _ _), fun e9 => absurd e9 (by decide), fun e9 => absurd e9 (by decide), fun e9 => absurd e9 (by decide), fun e9 => absurd e9 (by decide), fun e9 => absurd e9 (by decide), fun e9 => absurd e9 (by decide), fun e9 => absurd e9 (by decide), fun e9 => absurd e9 (by decide), fun e9 => absurd e9 (by decide), fun e9 => absurd rfl e9.2.2.2.2.2.2.2.2.1⟩
      unfold mX6_account
      intro S1 e
      subst e
      exact ⟨fun e9 => absurd e9 (by decide), fun e9 => absurd e9 (by decide), fun e9 => absurd e9 (by decide), fun e9 => absurd e9 (by decide), fun e9 => absurd e9 (by decide), fun e9 => absurd e9 (by decide), fun e9 => absurd e9 (by decide), fun e9 => absurd e9 (by decide), fun _ => ⟨vpL rfl, by rw [ofs_thr, c4]; exact fin h rfl (fun _ => by rw [updL0, hR.2.2.2.2.2.1])⟩, fun e9 => absurd e9 (by decide), fun e9 => absurd e9 (by decide), fun e9 => absurd e9 (by decide), fun e9 => absurd e9 (by decide), fun e9 => absurd e9 (by decide), fun e9 => absurd e9 (by decide), fun e9 => absurd e9 (by decide), fun e9 => absurd e9 (by decide), fun e9 => absurd e9 (by decide), fun e9 => absurd e9 (by decide), fun e9 => absurd rfl e9.2.2.2.2.2.2.2.2.1⟩
    · refine ⟨fun e9 => absurd e9 (by decide), fun e9 => absurd e9 (by decide), fun e9 => absurd e9 (by decide), fun e9 => absurd e9 (by decide), fun e9 => absurd e9 (by decide), fun e9 => absurd e9 (by decide), fun e9 => absurd e9 (by decide), fun e9 => absurd e9 (by decide), fun e9 => absurd e9 (by decide), fun _ => X0_sumOf_s (k := 8) (by decide) hR (?_ : mX6_account _ _ _), fun e9 => absurd e9 (by decide), fun e9 => absurd e9 (by decide), fun e9 => absurd e9 (by decide), fun e9 => absurd e9 (by decide), fun e9 => absurd e9 (by decide), fun e9 => absurd e9 (by decide), fun e9 => absurd e9 (by decide), fun e9 => absurd e9 (by decide), fun e9 => absurd rfl e9.2.2.2.2.2.2.2.2.2.1⟩
      unfold mX6_account
      intro S1 e
      subst e
      exact ⟨fun e9 => absurd e9 (by decide), fun e9 => absurd e9 (by decide), fun e9 => absurd e9 (by decide), fun e9 => absurd e9 (by decide), fun e9 => absurd e9 (by decide), fun e9 => absurd e9 (by decide), fun e9 => absurd e9 (by decide), fun e9 => absurd e9 (by decide), fun e9 => absurd e9 (by decide), fun _ => X6_sum_s (f := 7) (by decide) w' (by rw [ofs_thr]; exact fin h rfl (fun _ => by rw [updL0]; rfl)), fun e9 => absurd e9 (by decide), fun e9 => absurd e9 (by decide), fun e9 => absurd e9 (by decide), fun e9 => absurd e9 (by decide), fun e9 => absurd e9 (by decide), fun e9 => absurd e9 (by decide), fun e9 => absurd e9 (by decide), fun e9 => absurd e9 (by decide), fun e9 => absurd e9 (by decide), fun e9 => absurd rfl e9.2.2.2.2.2.2.2.2.2.1⟩
    · refine ⟨fun e9 => absurd e9 (by decide), fun e9 => absurd e9 (by decide), fun e9 => absurd e9 (by decide), fun e9 => absurd e9 (by decide), fun e9 => absurd e9 (by decide), fun e9 => absurd e9 (by decide), fun e9 => absurd e9 (by decide), fun e9 => absurd e9 (by decide), fun e9 => absurd e9 (by decide), fun e9 => absurd e9 (by decide), fun _ => (?_ : mX6_account _ _ _), fun e9 => absurd e9 (by decide), fun e9 => absurd e9 (by decide), fun e9 => absurd e9 (by decide), fun e9 => absurd e9 (by decide), fun e9 => absurd e9 (by decide), fun e9 => absurd e9 (by decide), fun e9 => absurd e9 (by decide), fun e9 => absurd rfl e9.2.2.2.2.2.2.2.2.2.2.1⟩
      unfold mX6_account
      intro S1 e
      subst e
      exact ⟨fun e9 => absurd e9 (by decide), fun e9 => absurd e9 (by decide), fun e9 => absurd e9 (by decide), fun e9 => absurd e9 (by decide), fun e9 => absurd e9 (by decide), fun e9 => absurd e9 (by decide), fun e9 => absurd e9 (by decide), fun e9 => absurd e9 (by decide), fun e9 => absurd e9 (by decide), fun e9 => absurd e9 (by decide), fun _ => ⟨vpL rfl, by rw [ofs_thr, c5]; exact fin h rfl (fun _ => by rw [updL0, hR.2.2.2.2.2.2.1])⟩, fun e9 => absurd e9 (by decide), fun e9 => absurd e9 (by decide), fun e9 => absurd e9 (by decide), fun e9 => absurd e9 (by decide), fun e9 => absurd e9 (by decide), fun e9 => absurd e9 (by decide), fun e9 => absurd e9 (by decide), fun e9 => absurd e9 (by decide), fun e9 => absurd rfl e9.2.2.2.2.2.2.2.2.2.2.1⟩
    · refine ⟨fun e9 => absurd e9 (by decide), fun e9 => absurd e9 (by decide), fun e9 => absurd e9 (by decide), fun e9 => absurd e9 (by decide), fun e9 => absurd e9 (by decide), fun e9 => absurd e9 (by decide), fun e9 => absurd e9 (by decide), fun e9 => absurd e9 (by decide), fun e9 => absurd e9 (by decide), fun e9 => absurd e9 (by decide), fun e9 => absurd e9 (by decide), fun _ => (?_ : mX6_account _ _ _), fun e9 => absurd e9 (by decide), fun e9 => absurd e9 (by decide), fun e9 => absurd e9 (by decide), fun e9 => absurd e9 (by decide), fun e9 => absurd e9 (by decide), fun e9 => absurd e9 (by decide), fun e9 => absurd rfl e9.2.2.2.2.2.2.2.2.2.2.2.1⟩
      unfold mX6_account
      intro S1 e
      subst e
      exact ⟨fun e9 => absurd e9 (by decide), fun e9 => absurd e9 (by decide), fun e9 => absurd e9 (by decide), fun e9 => absurd e9 (by decide), fun e9 => absurd e9 (by decide), fun e9 => absurd e9 (by decide), fun e9 => absurd e9 (by decide), fun e9 => absurd e9 (by decide), fun e9 => absurd e9 (by decide), fun e9 => absurd e9 (by decide), fun e9 => absurd e9 (by decide), fun _ => ⟨vpL rfl, by rw [ofs_thr, c6]; exact fin h rfl (fun _ => by rw [updL0, hR.2.2.2.2.2.2.2.1])⟩, fun e9 => absurd e9 (by decide), fun e9 => absurd e9 (by decide), fun e9 => absurd e9 (by decide), fun e9 => absurd e9 (by decide), fun e9 => absurd e9 (by decide), fun e9 => absurd e9 (by decide), fun e9 => absurd e9 (by decide), fun e9 => absurd rfl e9.2.2.2.2.2.2.2.2.2.2.2.1⟩
    · refine ⟨fun e9 => absurd e9 (by decide), fun e9 => absurd e9 (by decide), fun e9 => absurd e9 (by decide), fun e9 => absurd e9 (by decide), fun e9 => absurd e9 (by decide), fun e9 => absurd e9 (by decide), fun e9 => absurd e9 (by decide), fun e9 => absurd e9 (by decide), fun e9 => absurd e9 (by decide), fun e9 => absurd e9 (by decide), fun e9 => absurd e9 (by decide), fun e9 => absurd e9 (by decide), fun _ => (?_ : mX6_account _ _ _), fun e9 => absurd e9 (by decide), fun e9 => absurd e9 (by decide), fun e9 => absurd e9 (by decide), fun e9 => absurd e9 (by decide), fun e9 => absurd e9 (by decide), fun e9 => absurd rfl e9.2.2.2.2.2.2.2.2.2.2.2.2.1⟩
      unfold mX6_account
      intro S1 e
      subst e
      exact ⟨fun e9 => absurd e9 (by decide), fun e9 => absurd e9 (by decide), fun e9 => absurd e9 (by decide), fun e9 => absurd e9 (by decide), fun e9 => absurd e9 (by decide), fun e9 => absurd e9 (by decide), fun e9 => absurd e9 (by decide), fun e9 => absurd e9 (by decide), fun e9 => absurd e9 (by decide), fun e9 => absurd e9 (by decide), fun e9 => absurd e9 (by decide), fun e9 => absurd e9 (by decide), fun _ => ⟨vpL rfl, by rw [ofs_thr, c7]; exact fin h rfl (fun _ => by rw [updL0, hR.2.2.2.2.2.2.2.2.1])⟩, fun e9 => absurd e9 (by decide), fun e9 => absurd e9 (by decide), fun e9 => absurd e9 (by decide), fun e9 => absurd e9 (by decide), fun e9 => absurd e9 (by decide), fun e9 => absurd e9 (by decide), fun e9 => absurd rfl e9.2.2.2.2.2.2.2.2.2.2.2.2.1⟩
    · refine ⟨fun e9 => absurd e9 (by decide), fun e9 => absurd e9 (by decide), fun e9 => absurd e9 (by decide), fun e9 => absurd e9 (by decide), fun e9 => absurd e9 (by decide), fun e9 => absurd e9 (by decide), fun e9 => absurd e9 (by decide), fun e9 => absurd e9 (by decide), fun e9 => absurd e9 (by decide), fun e9 => absurd e9 (by decide), fun e9 => absurd e9 (by decide), fun e9 => absurd e9 (by decide), fun e9 => absurd e9 (by decide), fun _ => (?_ : mX6_account _ _ _), fun e9 => absurd e9 (by decide), fun e9 => absurd e9 (by decide), fun e9 => absurd e9 (by decide), fun e9 => absurd e9 (by decide), fun e9 => absurd rfl e9.2.2.2.2.2.2.2.2.2.2.2.2.2.1⟩
      unfold mX6_account
      intro S1 e
      subst e
      exact ⟨fun e9 => absurd e9 (by decide), fun e9 => absurd e9 (by decide), fun e9 => absurd e9 (by decide), fun e9 => absurd e9 (by decide), fun e9 => absurd e9 (by decide), fun e9 => absurd e9 (by decide), fun e9 => absurd e9 (by decide), fun e9 => absurd e9 (by decide), fun e9 => absurd e9 (by decide), fun e9 => absurd e9 (by decide), fun e9 => absurd e9 (by decide), fun e9 => absurd e9 (by decide), fun e9 => absurd e9 (by decide), fun _ => ⟨vpL rfl, by rw [ofs_thr, c8]; exact fin h rfl (fun _ => by rw [updL0, hR.2.2.2.2.2.2.2.2.2.1])⟩, fun e9 => absurd e9 (by decide), fun e9 => absurd e9 (by decide), fun e9 => absurd e9 (by decide), fun e9 => absurd e9 (by decide), fun e9 => absurd e9 (by decide), fun e9 => absurd rfl e9.2.2.2.2.2.2.2.2.2.2.2.2.2.1⟩
    · refine ⟨fun e9 => absurd e9 (by decide), fun e9 => absurd e9 (by decide), fun e9 => absurd e9 (by decide), fun e9 => absurd e9 (by decide), fun e9 => absurd e9 (by decide), fun e9 => absurd e9 (by decide), fun e9 => absurd e9 (by decide), fun e9 => absurd e9 (by decide), fun e9 => absurd e9 (by decide), fun e9 => absurd e9 (by decide), fun e9 => absurd e9 (by decide), fun e9 => absurd e9 (by decide), fun e9 => absurd e9 (by decide), fun e9 => absurd e9 (by decide), fun _ => (?_ : mX6_account _ _ _), fun e9 => absurd e9 (by decide), fun e9 => absurd e9 (by decide), fun e9 => absurd e9 (by decide), fun e9 => absurd rfl e9.2.2.2.2.2.2.2.2.2.2.2.2.2.2.1⟩
      unfold mX6_account
      intro S1 e
      subst e
      exact ⟨fun e9 => absurd e9 (by decide), fun e9 => absurd e9 (by decide), fun e9 => absurd e9 (by decide), fun e9 => absurd e9 (by decide), fun e9 => absurd e9 (by decide), fun e9 => absurd e9 (by decide), fun e9 => absurd e9 (by decide), fun e9 => absurd e9 (by decide), fun e9 => absurd e9 (by decide), fun e9 => absurd e9 (by decide), fun e9 => absurd e9 (by decide), fun e9 => absurd e9 (by decide), fun e9 => absurd e9 (by decide), fun e9 => absurd e9 (by decide), fun _ => ⟨vpL rfl, by rw [ofs_thr, c9]; exact fin h rfl (fun _ => by rw [updL0, hR.2.2.2.2.2.2.2.2.2.2.1])⟩, fun e9 => absurd e9 (by decide), fun e9 => absurd e9 (by decide), fun e9 => absurd e9 (by decide), fun e9 => absurd e9 (by decide), fun e9 => absurd rfl e9.2.2.2.2.2.2.2.2.2.2.2.2.2.2.1⟩
    · refine ⟨fun e9 => absurd e9 (by decide), fun e9 => absurd e9 (by decide), fun e9 => absurd e9 (by decide), fun e9 => absurd e9 (by decide), fun e9 => absurd e9 (by decide), fun e9 => absurd e9 (by decide), fun e9 => absurd e9 (by decide), fun e9 => absurd e9 (by decide), fun e9 => absurd e9 (by decide), fun e9 => absurd e9 (by decide), fun e9 => absurd e9 (by decide), fun e9 => absurd e9 (by decide), fun e9 => absurd e9 (by decide), fun e9 => absurd e9 (by decide), fun e9 => absurd e9 (by decide), fun _ => X0_sumOf_s (k := 2) (by decide) hR (?_ : mX6_account _ _ _), fun e9 => absurd e9 (by decide), fun e9 => absurd e9 (by decide), fun e9 => absurd rfl e9.2.2.2.2.2.2.2.2.2.2.2.2.2.2.2.1⟩
      unfold mX6_account
      intro S1 e
      subst e
      exact ⟨fun e9 => absurd e9 (by decide), fun e9 => absurd e9 (by decide), fun e9 => absurd e9 (by decide), fun e9 => absurd e9 (by decide), fun e9 => absurd e9 (by decide), fun e9 => absurd e9 (by decide), fun e9 => absurd e9 (by decide), fun e9 => absurd e9 (by decide), fun e9 => absurd e9 (by decide), fun e9 => absurd e9 (by decide), fun e9 => absurd e9 (by decide), fun e9 => absurd e9 (by decide), fun e9 => absurd e9 (by decide), fun e9 => absurd e9 (by decide), fun e9 => absurd e9 (by decide), fun _ => X6_sum_s (f := 1) (by decide) w' (by rw [ofs_thr]; exact fin h rfl (fun _ => by rw [updL0]; rfl)), fun e9 => absurd e9 (by decide), fun e9 => absurd e9 (by decide), fun e9 => absurd e9 (by decide), fun e9 => absurd rfl e9.2.2.2.2.2.2.2.2.2.2.2.2.2.2.2.1⟩
    · refine ⟨fun e9 => absurd e9 (by decide), fun e9 => absurd e9 (by decide), fun e9 => absurd e9 (by decide), fun e9 => absurd e9 (by decide), fun e9 => absurd e9 (by decide), fun e9 => absurd e9 (by decide), fun e9 => absurd e9 (by decide), fun e9 => absurd e9 (by decide), fun e9 => absurd e9 (by decide), fun e9 => absurd e9 (by decide), fun e9 => absurd e9 (by decide), fun e9 => absurd e9 (by decide), fun e9 => absurd e9 (by decide), fun e9 => absurd e9 (by decide), fun e9 => absurd e9 (by decide), fun e9 => absurd e9 (by decide), fun _ => (?_ : mX6_account _ _ _), fun e9 => absurd e9 (by decide), fun e9 => absurd rfl e9.2.2.2.2.2.2.2.2.2.2.2.2.2.2.2.2.1⟩
      unfold mX6_account
      intro S1 e
      subst e
      exact ⟨fun e9 => absurd e9 (by decide), fun e9 => absurd e9 (by decide), fun e9 => absurd e9 (by decide), fun e9 => absurd e9 (by decide), fun e9 => absurd e9 (by decide), fun e9 => absurd e9 (by decide), fun e9 => absurd e9 (by decide), fun e9 => absurd e9 (by decide), fun e9 => absurd e9 (by decide), fun e9 => absurd e9 (by decide), fun e9 => absurd e9 (by decide), fun e9 => absurd e9 (by decide), fun e9 => absurd e9 (by decide), fun e9 => absurd e9 (by decide), fun e9 => absurd e9 (by decide), fun e9 => absurd e9 (by decide), fun _ => (by rw [thr_k (by decide)]; exact fin h rfl (fun _ => by obtain ⟨z, _, z1, z2, _⟩ := h.2.2.2.2.1; rw [updL0, z1, z2])), fun e9 => absurd e9 (by decide), fun e9 => absurd e9 (by decide), fun e9 => absurd rfl e9.2.2.2.2.2.2.2.2.2.2.2.2.2.2.2.2.1⟩
    · refine ⟨fun e9 => absurd e9 (by decide), fun e9 => absurd e9 (by decide), fun e9 => absurd e9 (by decide), fun e9 => absurd e9 (by decide), fun e9 => absurd e9 (by decide), fun e9 => absurd e9 (by decide), fun e9 => absurd e9 (by decide), fun e9 => absurd e9 (by decide), fun e9 => absurd e9 (by decide), fun e9 => absurd e9 (by decide), fun e9 => absurd e9 (by decide), fun e9 => absurd e9 (by decide), fun e9 => absurd e9 (by decide), fun e9 => absurd e9 (by decide), fun e9 => absurd e9 (by decide), fun e9 => absurd e9 (by decide), fun e9 => absurd e9 (by decide), fun _ => (?_ : mX6_account _ _ _), fun e9 => absurd rfl e9.2.2.2.2.2.2.2.2.2.2.2.2.2.2.2.2.2⟩
      unfold mX6_account
      intro S1 e
      subst e
      exact ⟨fun e9 => absurd e9 (by decide), fun e9 => absurd e9 (by decide), fun e9 => absurd e9 (by decide), fun e9 => absurd e9 (by decide), fun e9 => absurd e9 (by decide), fun e9 => absurd e9 (by decide), fun e9 => absurd e9 (by decide), fun e9 => absurd e9 (by decide), fun e9 => absurd e9 (by decide), fun e9 => absurd e9 (by decide), fun e9 => absurd e9 (by decide), fun e9 => absurd e9 (by decide), fun e9 => absurd e9 (by decide), fun e9 => absurd e9 (by decide), fun e9 => absurd e9 (by decide), fun e9 => absurd e9 (by decide), fun e9 => absurd e9 (by decide), fun _ => (by rw [thr_k (by decide)]; exact fin h rfl (fun _ => by obtain ⟨z, _, z1, z2, _⟩ := h.2.2.2.1; rw [updL0, z1, z2])), fun e9 => absurd e9 (by decide), fun e9 => absurd rfl e9.2.2.2.2.2.2.2.2.2.2.2.2.2.2.2.2.2.1⟩
    · refine ⟨fun e9 => absurd e9 (by decide), fun e9 => absurd e9 (by decide), fun e9 => absurd e9 (by decide), fun e9 => absurd e9 (by decide), fun e9 => absurd e9 (by decide), fun e9 => absurd e9 (by decide), fun e9 => absurd e9 (by decide), fun e9 => absurd e9 (by decide), fun e9 => absurd e9 (by decide), fun e9 => absurd e9 (by decide), fun e9 => absurd e9 (by decide), fun e9 => absurd e9 (by decide), fun e9 => absurd e9 (by decide), fun e9 => absurd e9 (by decide), fun e9 => absurd e9 (by decide), fun e9 => absurd e9 (by decide), fun e9 => absurd e9 (by decide), fun e9 => absurd e9 (by decide), fun _ => (?_ : mX6_account _ _ _)⟩
      unfold mX6_account
      intro S1 e
      subst e
      exact ⟨fun e9 => absurd e9 (by decide), fun e9 => absurd e9 (by decide), fun e9 => absurd e9 (by decide), fun e9 => absurd e9 (by decide), fun e9 => absurd e9 (by decide), fun e9 => absurd e9 (by decide), fun e9 => absurd e9 (by decide), fun e9 => absurd e9 (by decide), fun e9 => absurd e9 (by decide), fun e9 => absurd e9 (by decide), fun e9 => absurd e9 (by decide), fun e9 => absurd e9 (by decide), fun e9 => absurd e9 (by decide), fun e9 => absurd e9 (by decide), fun e9 => absurd e9 (by decide), fun e9 => absurd e9 (by decide), fun e9 => absurd e9 (by decide), fun e9 => absurd e9 (by decide), fun _ => (by rw [thr_k (by decide)]; exact fin h rfl (fun _ => by obtain ⟨z, _, _, _, z1, z2, _⟩ := h.2.1; rw [updL0, z1, z2])), fun e9 => absurd rfl e9.2.2.2.2.2.2.2.2.2.2.2.2.2.2.2.2.2.2⟩
  · unfold mX6_account
    intro S1 e
    subst e
    refine ⟨?_, ?_, ?_, ?_, ?_, ?_, ?_, ?_, ?_, ?_, ?_, ?_, ?_, ?_, ?_, ?_, ?_, ?_, ?_, fun _ => s_raises (fin (h.thr 0) rfl ne10)⟩ <;> (intro e; subst e; exact absurd h0 (by decide))
theorem k_lettersAgain {S : Mem} {f : Nat → Int64} {g : Nat → UInt64} {x1 x2 : Int32} (h : Inv S) : lawC27 (fun S1 _ _ => Inv S1) S f g x1 x2 := by
  obtain ⟨n, hR⟩ := h.1
  have w := hR.1
  unfold lawC27 mX5_lettersAgain
  refine X0_sumOf_s (k := 8) (by decide) hR ?_
  unfold mX6_lettersAgain
  intro S1 e
  subst e
  refine ⟨vpL rfl, vpL rfl, X6_sum_s (f := 7) (n := n) (by decide) (by rw [ofs_thr]; exact w) ⟨?_, h.thr 0⟩⟩
  rw [ofs_thr, c6, c5, hR.2.2.2.2.2.2.2.1, hR.2.2.2.2.2.2.1]
  rfl
