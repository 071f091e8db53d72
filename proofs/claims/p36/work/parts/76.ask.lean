/-! ask -/
def acF (g : Nat → Bool) : Nat → Nat
  | 0 => 0
  | t + 1 => acF g t + (if g t = true then 1 else 0)
theorem acF_le {g : Nat → Bool} : ∀ t, acF g t ≤ t := by
  intro t
  induction t with
  | zero => exact Nat.le_refl 0
  | succ t ih =>
    unfold acF
    split <;> omega
theorem acF_mono {g : Nat → Bool} {i : Nat} : ∀ m, acF g i ≤ acF g (i + m) := by
  intro m
  induction m with
  | zero => exact Nat.le_refl _
  | succ m ih =>
    show acF g i ≤ acF g (i + m + 1)
    have e : acF g (i + m + 1) = acF g (i + m) + (if g (i + m) = true then 1 else 0) := rfl
    rw [e]
    omega
theorem acF_lt {g : Nat → Bool} {i t : Nat} (h : i < t) (hg : g i = true) : acF g i < acF g t := by
  have e : acF g (i + 1) = acF g i + (if g i = true then 1 else 0) := rfl
  rw [if_pos hg] at e
  have := acF_mono (g := g) (i := i + 1) (t - (i + 1))
  rw [show i + 1 + (t - (i + 1)) = t by omega] at this
  omega
theorem acF_on {g : Nat → Bool} : ∀ t j, j < acF g t → ∃ i, i < t ∧ g i = true ∧ acF g i = j := by
  intro t
  induction t with
  | zero => intro j h; exact absurd h (by unfold acF; omega)
  | succ t ih =>
    intro j h
    have e : acF g (t + 1) = acF g t + (if g t = true then 1 else 0) := rfl
    rw [e] at h
    by_cases hj : j < acF g t
    · obtain ⟨i, h1, h2, h3⟩ := ih j hj
      exact ⟨i, by omega, h2, h3⟩
    · by_cases hg : g t = true
      · rw [if_pos hg] at h
        exact ⟨t, by omega, hg, by omega⟩
      · rw [if_neg hg] at h
        omega
theorem acF_end {g : Nat → Bool} {n : Nat} (h : ∀ i, n ≤ i → g i = false) : ∀ m, acF g (n + m) = acF g n := by
  intro m
  induction m with
  | zero => rfl
  | succ m ih =>
    have e : acF g (n + (m + 1)) = acF g (n + m) + (if g (n + m) = true then 1 else 0) := rfl
    rw [e, h (n + m) (by omega), ih]
    rfl
theorem X5_keep_s {post : Mem → Prop} {S : Mem} {B : Int32} {g : Nat → Bool} (hB : ∀ t, t < 8 → bt B t = g t) (h : ∀ S' : Mem, (∀ c, c ≠ 3 → c ≠ 8 → S' c = S c) → (∀ k, k ≠ 7 → S' 3 0 k = S 3 0 k) → S' 3 0 7 = nI (acF g 8) → (∀ i, i < 8 → g i = true → S' 8 0 (acF g i) = nI i) → post S') : mX5_keepAnswer post S B := by
  have loop : ∀ (m t : Nat) (T : Mem), t + m = 8 → (∀ c, c ≠ 3 → c ≠ 8 → T c = S c) → (∀ k, k ≠ 7 → T 3 0 k = S 3 0 k) → T 3 0 7 = nI (acF g t) → (∀ i, i < t → g i = true → T 8 0 (acF g i) = nI i) → mX5_keepAnswer_b7 post (m + 1) T B (nI t) := by
    intro m
    induction m with
    | zero =>
      intro t T ht h1 h2 h3 h4
      have ht : t = 8 := by omega
      subst ht
      unfold mX5_keepAnswer_b7
      exact ⟨fun _ => h T h1 h2 h3 h4, fun g => absurd (by decide) g⟩
    | succ m ih =>
      intro t T ht h1 h2 h3 h4
      have t8 : t < 8 := by omega
      have e : acF g (t + 1) = acF g t + (if g t = true then 1 else 0) := rfl
      have le := acF_le (g := g) t
      unfold mX5_keepAnswer_b7
      rw [bt_test t8, hB t t8, h3]
      refine ⟨fun g => absurd g (nI_ge (b := 8) t8 (by decide)), fun _ => ⟨fun z x ex => ?_, fun z => ⟨vpN (by omega) (by decide), fun S5 e5 S6 e6 x ex => ?_⟩⟩⟩
      · rw [if_neg (by rw [z]; decide)] at e
        rw [ex, inc]
        refine ih (t + 1) T (by omega) h1 h2 (by rw [e]; exact h3) (fun i hi hg => ?_)
        by_cases q : i = t
        · subst q; exact absurd (hg.symm.trans z) (by decide)
        · exact h4 i (by omega) hg
      · have z : g t = true := by cases q : g t with | false => exact absurd q z | true => rfl
        rw [if_pos z] at e
        rw [nI_clamp (by omega)] at e5
        have k7 : S5 3 0 7 = nI (acF g t) := by rw [e5, wr_c (by decide)]; exact h3
        rw [k7, inc] at e6
        rw [ex, inc]
        refine ih (t + 1) S6 (by omega) (fun c c3 c8 => by rw [e6, wr_c c3, e5, wr_c c8]; exact h1 c c3 c8) (fun k hk => by rw [e6, wr_k hk, e5, wr_c (by decide)]; exact h2 k hk) (by rw [e6, wr_same, e]) (fun i hi hg => ?_)
        rw [e6, wr_c (by decide), e5]
        by_cases q : i = t
        · subst q; exact wr_same
        · have := acF_lt (g := g) (i := i) (t := t) (by omega) hg
          rw [wr_k (by omega)]
          exact h4 i (by omega) hg
  unfold mX5_keepAnswer
  intro S1 e1
  exact ⟨9, loop 8 0 S1 (by omega) (fun c c3 _ => by rw [e1, wr_c c3]) (fun k hk => by rw [e1, wr_k hk]) (by rw [e1, wr_same]; rfl) (fun i hi => absurd hi (by omega))⟩
/-- what is asked, if it is well-formed -/
def outP (L : Nat) (r : Res) : Option (List Int32 × (Nat → Bool)) := match r.2 with | none => none | some x => if r.1 = L then some x else none
def askP (T : Txt) (L : Nat) (R : Row) : Res := queP (oneP T L R 8 0) T L 0
theorem ask_good {T : Txt} {L : Nat} {R : Row} : Good L R 0 (askP T L R) := good_binP op_or (fun p hp => good_binP op_and (fun p hp => good_one 8 0 p hp) hp) (Nat.zero_le L)
theorem X5_ask_s {post : Int32 → Mem → Prop} {px : String → Mem → Prop} {T : Txt} {L n : Nat} {R : Row} {S : Mem} (hL : L ≤ 60) (h1 : S 6 0 1 = nI L) (hT : ∀ i, i < L → S 7 0 i = T i) (hR : RepC S 0 R n)
    (h0 : outP L (askP T L R) = none → ∀ S' : Mem, (∀ c, c ≠ 3 → c ≠ 6 → S' c = S c) → (∀ k, k ≠ 5 → S' 3 0 k = S 3 0 k) → S' 3 0 5 = nI (askP T L R).1 → S' 6 0 1 = 0 → px "java/lang/IllegalArgumentException" S')
    (hx : ∀ x, outP L (askP T L R) = some x → ∀ S' : Mem, (∀ c, c ≠ 3 → c ≠ 6 → c ≠ 8 → S' c = S c) → (∀ k, k ≠ 7 → S' 3 0 k = S 3 0 k) → S' 3 0 7 = nI (acF (fun t => decide (t < n) && x.2 t) 8) → (∀ i, i < 8 → (decide (i < n) && x.2 i) = true → S' 8 0 (acF (fun t => decide (t < n) && x.2 t) i) = nI i) → S' 6 0 1 = 0 → post (nI (acF (fun t => decide (t < n) && x.2 t) 8)) S') : mX5_ask post px S := by
  have gd := ask_good (T := T) (L := L) (R := R)
  unfold mX5_ask mX2_readFor
  intro S1 e1 S2 e2
  have c2 : ChgQ S S2 := by rw [e2, e1]; exact ChgQ.w2.trans ChgQ.w3
  have f2 : S2 6 0 3 = -1 := by rw [e2, wr_same]
  have a2 : S2 6 0 2 = nI 0 := by rw [e2, wr_k (by decide), e1, wr_same]; rfl
  have hq2 : HQ T L n R S2 0 := ⟨Nat.zero_le L, hL, by rw [c2.2 1 (by decide) (by decide)]; exact h1, a2, fun i hi => by rw [c2.1 7 (by decide)]; exact hT i hi, Rep_now (by rw [c2.1 0 (by decide)]) (by rw [c2.1 1 (by decide)]) (fun t _ => by rw [c2.1 2 (by decide)]) hR⟩
  refine (X2_que_c (X2_one_c 8 0 (by decide) (by decide)) (fun p hp => good_one 8 0 p hp)).1 _ S2 0 hq2 f2 ?_
  have bad : ∀ (p : Nat), p ≤ L → p = (askP T L R).1 → outP L (askP T L R) = none → ∀ (r2 : Int32) (S3 : Mem), ChgQ S2 S3 → S3 6 0 3 = nI p → mX2_empty (fun (S3 : Mem) => (((S3 6 0 3) = (-1 : Int32) → (mX5_keepAnswer (fun (S6 : Mem) => post (S6 3 0 7) S6) S3 r2)) ∧ (¬ (S3 6 0 3) = (-1 : Int32) → (∀ S8 : Mem, S8 = wr S3 3 0 5 (S3 6 0 3) → px "java/lang/IllegalArgumentException" S8)))) S3 := by
    intro p hp ep eo r2 S3 c3 f3
    unfold mX2_empty
    intro S4 e4
    have f4 : S4 6 0 3 = nI p := by rw [e4, wr_k (by decide)]; exact f3
    rw [f4]
    refine ⟨fun z => absurd z (nI_nm1 (by omega)), fun _ S8 e8 => h0 eo S8 (fun c c3' c6 => ?_) (fun k hk => ?_) ?_ ?_⟩
    · rw [e8, wr_c c3', e4, wr_c c6, c3.1 c c6, c2.1 c c6]
    · rw [e8, wr_k hk, e4, wr_c (by decide), c3.1 3 (by decide), c2.1 3 (by decide)]
    · rw [e8, wr_same, ep]
    · rw [e8, wr_c (by decide), e4, wr_same]
  revert bad h0 hx gd
  show _ → _ → _ → _ → CQ _ T L n R S2 (askP T L R)
  generalize askP T L R = r
  intro h0 hx gd bad
  obtain ⟨p, o⟩ := r
  have hp : p ≤ L := gd.1
  cases o with
  | none =>
    intro B a' S3 c3 hq f3
    have f3 : S3 6 0 3 = nI p := f3
    have nf : ¬ S3 6 0 3 = -1 := by rw [f3]; exact nI_nm1 (by omega)
    exact ⟨fun _ => bad p hp rfl rfl B S3 c3 f3, fun _ => X2_fail_f nf (bad p hp rfl rfl B S3 c3 f3)⟩
  | some x =>
    intro B S3 c3 hq f3 hB
    have hq : HQ T L n R S3 p := hq
    rw [hq.2.2.1, hq.2.2.2.1]
    refine ⟨fun z => ?_, fun z => ?_⟩
    · have pL : p = L := by
        have := (nI_leI (by omega) (by omega)).mp z
        omega
      have eo : outP L (p, some x) = some x := if_pos pL
      unfold mX2_empty
      intro S4 e4
      have f4 : S4 6 0 3 = -1 := by rw [e4, wr_k (by decide)]; exact f3
      rw [f4]
      refine ⟨fun _ => X5_keep_s (g := fun t => decide (t < n) && x.2 t) hB (fun S6 k1 k2 k3 k4 => ?_), fun z => absurd rfl z⟩
      rw [k3]
      refine hx x eo S6 (fun c z3 z6 z8 => ?_) (fun k hk => ?_) k3 k4 ?_
      · rw [k1 c z3 z8, e4, wr_c z6, c3.1 c z6, c2.1 c z6]
      · rw [k2 k hk, e4, wr_c (by decide), c3.1 3 (by decide), c2.1 3 (by decide)]
      · rw [k1 6 (by decide) (by decide), e4, wr_same]
    · have pL : ¬ p = L := fun y => z (by rw [y]; exact nI_le (Nat.le_refl _) (by omega))
      have eo : outP L (p, some x) = none := if_neg pL
      exact X2_fail_s f3 (bad p hp rfl eo B _ (c3.trans ChgQ.w3) wr_same)
