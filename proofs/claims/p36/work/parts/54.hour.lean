/-! an hour, a traveller at a time: what changes one traveller -/
theorem trv_upd {R : Row} {t f g : Nat} {v : Int32} : trv (upd R (20 + 8 * t + g) v) t f = if f = g then v else trv R t f := by
  unfold trv upd
  by_cases h : f = g
  · rw [if_pos (by omega), if_pos h]
  · rw [if_neg (by omega), if_neg h]
theorem trv_updS {R : Row} {t f k : Nat} {v : Int32} (hk : k < 20) : trv (upd R k v) t f = trv R t f := upd_ne (by omega)
theorem updT {R : Row} {t g k : Nat} {v : Int32} (hk : k < 20) : upd R (20 + 8 * t + g) v k = R k := upd_ne (by omega)
theorem updS {R : Row} {j k : Nat} {v : Int32} : upd R k v j = if j = k then v else R j := by unfold upd; rfl
theorem trv_lo {R R' : Row} {t f : Nat} (h : R' (20 + 8 * t + f) = R (20 + 8 * t + f)) : trv R' t f = trv R t f := h
def OneT (R R' : Row) (t : Nat) : Prop := ∀ k, (k = 1 ∨ k = 2 ∨ k = 3 ∨ 10 ≤ k) → ¬ (20 + 8 * t ≤ k ∧ k < 28 + 8 * t) → R' k = R k
theorem OneT.refl {R : Row} {t : Nat} : OneT R R t := fun _ _ _ => rfl
theorem OneT.T {R R' : Row} {t f : Nat} {v : Int32} (hf : f < 8) (h : OneT R R' t) : OneT R (upd R' (20 + 8 * t + f) v) t := fun k h1 h2 => by rw [upd_ne (by omega)]; exact h k h1 h2
theorem OneT.S {R R' : Row} {t j : Nat} {v : Int32} (hj : j = 0 ∨ 4 ≤ j ∧ j < 10) (h : OneT R R' t) : OneT R (upd R' j v) t := fun k h1 h2 => by rw [upd_ne (by omega)]; exact h k h1 h2
theorem WFR.one {R R' : Row} {n t : Nat} (w : WFR R n) (o : OneT R R' t) (hw : WFT (trv R' t)) : WFR R' n := by
  obtain ⟨w1, w2, w3, w4, w5, w6⟩ := w
  refine ⟨w1, by rw [o 3 (by omega) (by omega)]; exact w2, by rw [o 1 (by omega) (by omega)]; exact w3, by rw [o 2 (by omega) (by omega)]; exact w4, fun s hs => by rw [o _ (by omega) (by omega)]; exact w5 s hs, fun i hi => ?_⟩
  by_cases hit : i = t
  · subst hit; exact hw
  · exact (w6 i hi).congr (fun f hf => o _ (by omega) (by omega))
def Scal (S : Mem) (R : Row) : Prop := S 0 0 2 = R 3 ∧ S 0 0 3 = R 0 ∧ S 0 0 4 = R 1 ∧ S 0 0 5 = R 2 ∧ S 0 0 6 = R 4 ∧ S 0 0 7 = R 5 ∧ S 0 0 8 = R 6 ∧ S 0 0 9 = R 7 ∧ S 0 0 10 = R 8 ∧ S 0 0 11 = R 9
theorem RepC.sc {S : Mem} {R : Row} {n : Nat} (h : RepC S 0 R n) : Scal S R := by
  obtain ⟨w, b1, b2, b3, b4, b5, b6, b7, b8, b9, b10, b11, b12⟩ := h
  exact ⟨b1, b2, b3, b4, b5, b6, b7, b8, b9, b10⟩
theorem ctF_ne {r : Row} {f : Nat} (h : f ≠ 4) : ctF r f = r f := if_neg h
theorem RepC.fld {S : Mem} {R : Row} {n t f : Nat} (h : RepC S 0 R n) (ht : t < n) (hf : f < 8) (h4 : f ≠ 4) : S 2 t f = trv R t f := (h.trv0 ht f hf).trans (ctF_ne h4)
theorem RepC.way {S : Mem} {R : Row} {n t : Nat} (h : RepC S 0 R n) (ht : t < n) : S 2 t 4 = wayF (trv R t) := h.trv0 ht 4 (by decide)
theorem RepC.one {S S' : Mem} {R R' : Row} {n t : Nat} (h : RepC S 0 R n) (o : OneT R R' t) (hw : WFT (trv R' t)) (h1 : S' 1 0 = S 1 0) (hs : Scal S' R') (h2 : ∀ i, i ≠ t → S' 2 i = S 2 i) (h4 : S' 2 t 4 = wayF (trv R' t)) (hc : ∀ f, f < 8 → f ≠ 4 → S' 2 t f = trv R' t f) : RepC S' 0 R' n := by
  obtain ⟨s1, s2, s3, s4, s5, s6, s7, s8, s9, s10⟩ := hs
  refine ⟨h.1.one o hw, s1, s2, s3, s4, s5, s6, s7, s8, s9, s10, fun s hs => ?_, fun i hi f hf => ?_⟩
  · rw [h1, o _ (by omega) (by omega)]
    exact h.2.2.2.2.2.2.2.2.2.2.2.1 s hs
  · rw [Nat.mul_zero, Nat.zero_add]
    by_cases hit : i = t
    · subst hit
      by_cases hf4 : f = 4
      · subst hf4; exact h4
      · rw [ctF_ne hf4]; exact hc f hf hf4
    · rw [h2 i hit, h.trv0 hi f hf]
      exact (ctF.congr (fun f hf => o _ (by omega) (by omega)) hf).symm
theorem seven {P : Nat → Prop} (h0 : P 0) (h1 : P 1) (h2 : P 2) (h3 : P 3) (h5 : P 5) (h6 : P 6) (h7 : P 7) : ∀ f, f < 8 → f ≠ 4 → P f := by
  intro f hf h4
  rcases (show f = 0 ∨ f = 1 ∨ f = 2 ∨ f = 3 ∨ f = 5 ∨ f = 6 ∨ f = 7 by omega) with rfl | rfl | rfl | rfl | rfl | rfl | rfl <;> assumption
/-- a place: 0 the near bank, 1 .. 10 a stone, 11 the far bank -/
def pl (q : Nat) : Int32 := nI q - 1
theorem pl_s (a : Nat) : pl (a + 1) = nI a := nI_pred a
theorem pl_0 : pl 0 = -1 := rfl
theorem pl_11 : pl 11 = 10 := rfl
theorem pl_up {q : Nat} : pl q + 1 = pl (q + 1) := by rw [pl_s]; unfold pl; exact Int32.sub_add_cancel _ _
theorem pl_inj {a b : Nat} (ha : a ≤ 11) (hb : b ≤ 11) (h : pl a = pl b) : a = b := by
  have e : nI a = nI b := by rw [← pl_s a, ← pl_s b, ← pl_up, ← pl_up, h]
  exact (nI_eq (by omega) (by omega)).mp e
theorem pl_dn {q : Nat} : pl (q + 1) - 1 = pl q := by rw [pl_s]; rfl
theorem pl_dn' {q : Nat} : pl (q + 1) + (-1) = pl q := by rw [pl_s]; cases q with
  | zero => rfl
  | succ q => rw [pk_m1, pl_s]
theorem pl_cases {q : Nat} (h : q ≤ 11) : (q = 0 ∧ pl q = -1) ∨ (∃ a, a < 10 ∧ q = a + 1 ∧ pl q = nI a) ∨ (q = 11 ∧ pl q = 10) := by
  by_cases h0 : q = 0
  · subst h0; exact Or.inl ⟨rfl, rfl⟩
  · by_cases h1 : q = 11
    · subst h1; exact Or.inr (Or.inr ⟨rfl, rfl⟩)
    · obtain ⟨a, rfl⟩ : ∃ a, q = a + 1 := ⟨q - 1, by omega⟩
      exact Or.inr (Or.inl ⟨a, by omega, rfl, pl_s a⟩)
theorem pl_of {x : Int32} (h : x = -1 ∨ x = 10 ∨ ∃ a, a < 10 ∧ x = nI a) : ∃ q, q ≤ 11 ∧ x = pl q := by
  rcases h with h | h | ⟨a, ha, h⟩
  · exact ⟨0, by decide, h⟩
  · exact ⟨11, by decide, h⟩
  · exact ⟨a + 1, by omega, h.trans (pl_s a).symm⟩
theorem pl_to {q : Nat} (h : q ≤ 11) : pl q = -1 ∨ pl q = 10 ∨ ∃ a, a < 10 ∧ pl q = nI a := by
  rcases pl_cases h with ⟨_, h⟩ | ⟨a, ha, _, h⟩ | ⟨_, h⟩
  · exact Or.inl h
  · exact Or.inr (Or.inr ⟨a, ha, h⟩)
  · exact Or.inr (Or.inl h)
def plN (x : Int32) : Nat := (x + 1).toNatClampNeg
theorem plN_pl {q : Nat} (h : q ≤ 11) : plN (pl q) = q := by
  unfold plN
  rw [pl_up, pl_s, nI_clamp (by omega)]
theorem X5_stone_pl {post : Int32 → Mem → Prop} {S : Mem} {q : Nat} (hq : q ≤ 11) (h1 : ∀ a, a < 10 → q = a + 1 → post 1 S) (h0 : (q = 0 ∨ q = 11) → post 0 S) : mX5_isStone post S (pl q) := by
  refine X5_isStone_s (fun a ha e => h1 a ha ?_) (fun g => h0 ?_)
  · exact pl_inj hq (by omega) (e.trans (pl_s a).symm)
  · rcases pl_cases hq with ⟨h, _⟩ | ⟨a, ha, h, e⟩ | ⟨h, _⟩
    · exact Or.inl h
    · rw [e] at g
      exact absurd g (by rintro (g | g); exact nI_pos (by omega) g; exact g (nI_lt (b := 10) ha (by decide)))
    · exact Or.inr h
/-- whether a place is a stone that is under -/
def undP (R : Row) (fl : Int32) (q : Nat) : Prop := 1 ≤ q ∧ q ≤ 10 ∧ stF R fl (q - 1) = 2
def goB (R : Row) (fl : Int32) (far : Bool) : Nat → Nat → Nat
  | 0, q => q
  | m + 1, q => if 1 ≤ q ∧ q ≤ 10 ∧ stF R fl (q - 1) = 2 then goB R fl far m (if far = true then q - 1 else q + 1) else q
theorem goB_le {R : Row} {fl : Int32} {far : Bool} : ∀ (m q : Nat), q ≤ 11 → goB R fl far m q ≤ 11 := by
  intro m
  induction m with
  | zero => intro q h; exact h
  | succ m ih =>
    intro q h
    unfold goB
    split
    · rename_i g
      refine ih _ ?_
      split <;> omega
    · exact h
theorem goB_far {R : Row} {fl : Int32} : ∀ (m q : Nat), goB R fl true m q ≤ q := by
  intro m
  induction m with
  | zero => intro q; exact Nat.le_refl q
  | succ m ih =>
    intro q
    unfold goB
    split
    · rw [if_pos rfl]
      have := ih (q - 1)
      omega
    · exact Nat.le_refl q
theorem goB_near {R : Row} {fl : Int32} : ∀ (m q : Nat), q ≤ goB R fl false m q := by
  intro m
  induction m with
  | zero => intro q; exact Nat.le_refl q
  | succ m ih =>
    intro q
    unfold goB
    split
    · rw [if_neg (by decide)]
      have := ih (q + 1)
      omega
    · exact Nat.le_refl q
theorem goB_end {R : Row} {fl : Int32} {far : Bool} : ∀ (m q : Nat), q ≤ 11 → (far = true → q ≤ m) → (far = false → 11 - q ≤ m) → ¬ undP R fl (goB R fl far m q) := by
  intro m
  induction m with
  | zero =>
    intro q h h1 h2 hu
    unfold goB at hu
    have := hu.1
    have := hu.2.1
    cases far
    · have := h2 rfl; omega
    · have := h1 rfl; omega
  | succ m ih =>
    intro q h h1 h2
    unfold goB
    split
    · rename_i g
      refine ih _ ?_ (fun hf => ?_) (fun hf => ?_)
      · split <;> omega
      · rw [if_pos hf]; have := h1 hf; omega
      · rw [hf, if_neg (by decide)]; have := h2 hf; omega
    · rename_i g
      exact g
theorem goB_ne {R : Row} {fl : Int32} {far : Bool} {q : Nat} (h : undP R fl q) : goB R fl far 10 q ≠ q := by
  have := goB_end (R := R) (fl := fl) (far := far) 10 q (by have := h.2.1; omega) (fun _ => h.2.1) (fun _ => by have := h.1; omega)
  intro e
  rw [e] at this
  exact this h
theorem goB_stay {R : Row} {fl : Int32} {far : Bool} {m q : Nat} (h : ¬ undP R fl q) : goB R fl far m q = q := by
  cases m with
  | zero => rfl
  | succ m => exact if_neg h
theorem X0_back_s {post : Int32 → Mem → Prop} {S : Mem} {n q : Nat} {R : Row} {way fl : Int32} (hq : q ≤ 11) (w : WFR R n) (hh : ∀ s, s < 10 → S 1 0 s = R (10 + s)) (hf : lvl fl) (h : post (pl (goB R fl (decide (¬ way = 0)) 10 q)) S) : mX0_placeAfterGoingBack post S 0 (pl q) way fl := by
  have loop : ∀ (m k q : Nat), k + m = 10 → q ≤ 11 → post (pl (goB R fl (decide (¬ way = 0)) m q)) S → mX0_placeAfterGoingBack_b6 post (m + 1) S 0 way fl (pl q) (nI k) := by
    intro m
    induction m with
    | zero =>
      intro k q hk hq h
      have hk : k = 10 := by omega
      subst hk
      unfold mX0_placeAfterGoingBack_b6
      exact ⟨fun _ => h, fun g => absurd (by decide) g⟩
    | succ m ih =>
      intro k q hk hq h
      unfold mX0_placeAfterGoingBack_b6
      refine ⟨fun g => absurd g (nI_ge (b := 10) (by omega) (by decide)), fun _ => X5_stone_pl hq (fun a ha ea => ⟨fun g => ne10 g, fun _ => ?_⟩) (fun g => ⟨fun _ => ?_, fun g => absurd rfl g⟩)⟩
      · subst ea
        rw [pl_s]
        refine X0_stateOf_s ha w (hh a ha) hf ⟨fun g2 => ?_, fun g2 => ?_⟩
        · unfold goB at h
          rw [if_pos ⟨by omega, by omega, g2⟩] at h
          rw [← pl_s]
          refine ⟨fun gw x9 e9 x10 e10 => ?_, fun gw x9 e9 x10 e10 => ?_⟩
          · rw [if_neg (by simp [gw])] at h
            subst e9 e10
            rw [pl_up, inc]
            exact ih (k + 1) (a + 1 + 1) (by omega) (by omega) h
          · rw [if_pos (by simp [gw])] at h
            subst e9 e10
            rw [pl_dn, inc]
            exact ih (k + 1) a (by omega) (by omega) h
        · rw [goB_stay (fun u => g2 u.2.2), pl_s] at h
          exact h
      · rw [goB_stay (fun u => by have := u.1; have := u.2.1; omega)] at h
        exact h
  unfold mX0_placeAfterGoingBack
  exact ⟨11, loop 10 0 q (by omega) hq h⟩
