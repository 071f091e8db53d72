/-! ask -/
def acF (g : Nat → Bool) : Nat → Nat
  | 0 => 0
  | t + 1 => acF g t + (if g t = true then 1 else 0)
theorem acF_le {g : Nat → Bool} : ∀ t, acF g t ≤ t := by
  intro t
  induction t with
  | zero => exact Nat.le_refl 0
  | succ t ih =>
    unfold acF
    split <;> omega
theorem acF_mono {g : Nat → Bool} {i : Nat} : ∀ m, acF g i ≤ acF g (i + m) := by
  intro m
  induction m with
  | zero => exact Nat.le_refl _
  | succ m ih =>
    show acF g i ≤ acF g (i + m + 1)
    have e : acF g (i + m + 1) = acF g (i + m) + (if g (i + m) = true then 1 else 0) := rfl
    rw [e]
    omega
theorem acF_lt {g : Nat → Bool} {i t : Nat} (h : i < t) (hg : g i = true) : acF g i < acF g t := by
  have e : acF g (i + 1) = acF g i + (if g i = true then 1 else 0) := rfl
  rw [if_pos hg] at e
  have := acF_mono (g := g) (i := i + 1) (t - (i + 1))
  rw [show i + 1 + (t - (i + 1)) = t by omega] at this
  omega
theorem acF_on {g : Nat → Bool} : ∀ t j, j < acF g t → ∃ i, i < t ∧ g i = true ∧ acF g i = j := by
  intro t
  induction t with
  | zero => intro j h; exact absurd h (by unfold acF; omega)
  | succ t ih =>
    intro j h
    have e : acF g (t + 1) = acF g t + (if g t = true then 1 else 0) := rfl
    rw [e] at h
    by_cases hj : j < acF g t
    · obtain ⟨i, h1, h2, h3⟩ := ih j hj
      exact ⟨i, by omega, h2, h3⟩
    · by_cases hg : g t = true
      · rw [if_pos hg] at h
        exact ⟨t, by omega, hg, by omega⟩
      · rw [if_neg hg] at h
        omega
theorem acF_end {g : Nat → Bool} {n : Nat} (h : ∀ i, n ≤ i → g i = false) : ∀ m, acF g (n + m) = acF g n := by
  intro m
  induction m with
  | zero => rfl
  | succ m ih =>
    have e : acF g (n + (m + 1)) = acF g (n + m) + (if g (n + m) = true then 1 else 0) := rfl
    rw [e, h (n + m) (by omega), ih]
    rfl
theorem X5_keep_s {post : Mem → Prop} {S : Mem} {B : Int32} {g : Nat → Bool} (hB : ∀ t, t < 8 → bt B t = g t) (h : ∀ S' : Mem, (∀ c, c ≠ 3 → c ≠ 8 → S' c = S c) → (∀ k, k ≠ 7 → S' 3 0 k = S 3 0 k) → S' 3 0 7 = nI (acF g 8) → (∀ i, i < 8 → g i = true → S' 8 0 (acF g i) = nI i) → post S') : mX5_keepAnswer post S B := by
  have loop : ∀ (m t : Nat) (T : Mem), t + m = 8 → (∀ c, c ≠ 3 → c ≠ 8 → T c = S c) → (∀ k, k ≠ 7 → T 3 0 k = S 3 0 k) → T 3 0 7 = nI (acF g t) → (∀ i, i < t → g i = true → T 8 0 (acF g i) = nI i) → mX5_keepAnswer_b7 post (m + 1) T B (nI t) := by
    intro m
    induction m with
    | zero =>
      intro t T ht h1 h2 h3 h4
      have ht : t = 8 := by omega
      subst ht
      unfold mX5_keepAnswer_b7
      exact ⟨fun _ => h T h1 h2 h3 h4, fun g => absurd (by decide) g⟩
    | succ m ih =>
      intro t T ht h1 h2 h3 h4
      have t8 : t < 8 := by omega
      have e : acF g (t + 1) = acF g t + (if g t = true then 1 else 0) := rfl
      have le := acF_le (g := g) t
      unfold mX5_keepAnswer_b7
      rw [bt_test t8, hB t t8, h3]
      refine ⟨fun g => absurd g (nI_ge (b := 8) t8 (by decide)), fun _ => ⟨fun z x ex => ?_, fun z => ⟨vpN (by omega) (by decide), fun S5 e5 S6 e6 x ex => ?_⟩⟩⟩
      · rw [if_neg (by rw [z]; decide)] at e
        rw [ex, inc]
        refine ih (t + 1) T (by omega) h1 h2 (by rw [e]; exact h3) (fun i hi hg => ?_)
        by_cases q : i = t
        · subst q; exact absurd (hg.symm.trans z) (by decide)
        · exact h4 i (by omega) hg
      · have z : g t = true := by cases q : g t with | false => exact absurd q z | true => rfl
        rw [if_pos z] at e
        rw [nI_clamp (by omega)] at e5
        have k7 : S5 3 0 7 = nI (acF g t) := by rw [e5, wr_c (by decide)]; exact h3
        rw [k7, inc] at e6
        rw [ex, inc]
        refine ih (t + 1) S6 (by omega) (fun c c3 c8 => by rw [e6, wr_c c3, e5, wr_c c8]; exact h1 c c3 c8) (fun k hk => by rw [e6, wr_k hk, e5, wr_c (by decide)]; exact h2 k hk) (by rw [e6, wr_same, e]) (fun i hi hg => ?_)
        rw [e6, wr_c (by decide), e5]
        by_cases q : i = t
        · subst q; exact wr_same
        · have := acF_lt (g := g) (i := i) (t := t) (by omega) hg
          rw [wr_k (by omega)]
          exact h4 i (by omega) hg
  unfold mX5_keepAnswer
  intro S1 e1
  exact ⟨9, loop 8 0 S1 (by omega) (fun c c3 _ => by rw [e1, wr_c c3]) (fun k hk => by rw [e1, wr_k hk]) (by rw [e1, wr_same]; rfl) (fun i hi => absurd hi (by omega))⟩
/-- what is asked, if it is well-formed -/
def outP (L : Nat) (r : Res) : Option (List Int32 × (Nat → Bool)) := match r.2 with | none => none | some x => if r.1 = L then some x else none
def askP (T : Txt) (L : Nat) (R : Row) : Res := queP (oneP T L R 8 0) T L 0
theorem ask_good {T : Txt} {L : Nat} {R : Row} : Good L R 0 (askP T L R) := good_binP op_or (fun p hp => good_binP op_and (fun p hp => good_one 8 0 p hp) hp) (Nat.zero_le L)
theorem X5_ask_s {post : Int32 → Mem → Prop} {px : String → Mem → Prop} {T : Txt} {L n : Nat} {R : Row} {S : Mem} (hL : L ≤ 60) (h1 : S 6 0 1 = nI L) (hT : ∀ i, i < L → S 7 0 i = T i) (hR : RepC S 0 R n)
    (h0 : outP L (askP T L R) = none → ∀ S' : Mem, (∀ c, c ≠ 3 → c ≠ 6 → S' c = S c) → (∀ k, k ≠ 5 → S' 3 0 k = S 3 0 k) → S' 3 0 5 = nI (askP T L R).1 → S' 6 0 1 = 0 → px "java/lang/IllegalArgumentException" S')
    (hx : ∀ x, outP L (askP T L R) = some x → ∀ S' : Mem, (∀ c, c ≠ 3 → c ≠ 6 → c ≠ 8 → S' c = S c) → (∀ k, k ≠ 7 → S' 3 0 k = S 3 0 k) → S' 3 0 7 = nI (acF (fun t => decide (t < n) && x.2 t) 8) → (∀ i, i < 8 → (decide (i < n) && x.2 i) = true → S' 8 0 (acF (fun t => decide (t < n) && x.2 t) i) = nI i) → S' 6 0 1 = 0 → post (nI (acF (fun t => decide (t < n) && x.2 t) 8)) S') : mX5_ask post px S := by
  have gd := ask_good (T := T) (L := L) (R := R)
  unfold mX5_ask mX2_readFor
  intro S1 e1 S2 e2
  have c2 : ChgQ S S2 := by rw [e2, e1]; exact ChgQ.w2.trans ChgQ.w3
  have f2 : S2 6 0 3 = -1 := by rw [e2, wr_same]
  have a2 : S2 6 0 2 = nI 0 := by rw [e2, wr_k (by decide), e1, wr_same]; rfl
  have hq2 : HQ T L n R S2 0 := ⟨Nat.zero_le L, hL, by rw [c2.2 1 (by decide) (by decide)]; exact h1, a2, fun i hi => by rw [c2.1 7 (by decide)]; exact hT i hi, Rep_now (by rw [c2.1 0 (by decide)]) (by rw [c2.1 1 (by decide)]) (fun t _ => by rw [c2.1 2 (by decide)]) hR⟩
  refine (X2_que_c (X2_one_c 8 0 (by decide) (by decide)) (fun p hp => good_one 8 0 p hp)).1 _ S2 0 hq2 f2 ?_
  have bad : ∀ (p : Nat), p ≤ L → p = (askP T L R).1 → outP L (askP T L R) = none → ∀ (r2 : Int32) (S3 : Mem), ChgQ S2 S3 → S3 6 0 3 = nI p → mX2_empty (fun (S3 : Mem) => (((S3 6 0 3) = (-1 : Int32) → (mX5_keepAnswer (fun (S6 : Mem) => post (S6 3 0 7) S6) S3 r2)) ∧ (¬ (S3 6 0 3) = (-1 : Int32) → (∀ S8 : Mem, S8 = wr S3 3 0 5 (S3 6 0 3) → px "java/lang/IllegalArgumentException" S8)))) S3 := by
    intro p hp ep eo r2 S3 c3 f3
    unfold mX2_empty
    intro S4 e4
    have f4 : S4 6 0 3 = nI p := by rw [e4, wr_k (by decide)]; exact f3
    rw [f4]
    refine ⟨fun z => absurd z (nI_nm1 (by omega)), fun _ S8 e8 => h0 eo S8 (fun c c3' c6 => ?_) (fun k hk => ?_) ?_ ?_⟩
    · rw [e8, wr_c c3', e4, wr_c c6, c3.1 c c6, c2.1 c c6]
    · rw [e8, wr_k hk, e4, wr_c (by decide), c3.1 3 (by decide), c2.1 3 (by decide)]
    · rw [e8, wr_same, ep]
    · rw [e8, wr_c (by decide), e4, wr_same]
  revert bad h0 hx gd
  show _ → _ → _ → _ → CQ _ T L n R S2 (askP T L R)
  generalize askP T L R = r
  intro h0 hx gd bad
  obtain ⟨p, o⟩ := r
  have hp : p ≤ L := gd.1
  cases o with
  | none =>
    intro B a' S3 c3 hq f3
    have f3 : S3 6 0 3 = nI p := f3
    have nf : ¬ S3 6 0 3 = -1 := by rw [f3]; exact nI_nm1 (by omega)
    exact ⟨fun _ => bad p hp rfl rfl B S3 c3 f3, fun _ => X2_fail_f nf (bad p hp rfl rfl B S3 c3 f3)⟩
  | some x =>
    intro B S3 c3 hq f3 hB
    have hq : HQ T L n R S3 p := hq
    rw [hq.2.2.1, hq.2.2.2.1]
    refine ⟨fun z => ?_, fun z => ?_⟩
    · have pL : p = L := by
        have := (nI_leI (by omega) (by omega)).mp z
        omega
      have eo : outP L (p, some x) = some x := if_pos pL
      unfold mX2_empty
      intro S4 e4
      have f4 : S4 6 0 3 = -1 := by rw [e4, wr_k (by decide)]; exact f3
      rw [f4]
      refine ⟨fun _ => X5_keep_s (g := fun t => decide (t < n) && x.2 t) hB (fun S6 k1 k2 k3 k4 => ?_), fun z => absurd rfl z⟩
      rw [k3]
      refine hx x eo S6 (fun c z3 z6 z8 => ?_) (fun k hk => ?_) k3 k4 ?_
      · rw [k1 c z3 z8, e4, wr_c z6, c3.1 c z6, c2.1 c z6]
      · rw [k2 k hk, e4, wr_c (by decide), c3.1 3 (by decide), c2.1 3 (by decide)]
      · rw [k1 6 (by decide) (by decide), e4, wr_same]
    · have pL : ¬ p = L := fun y => z (by rw [y]; exact nI_le (Nat.le_refl _) (by omega))
      have eo : outP L (p, some x) = none := if_neg pL
      exact X2_fail_s f3 (bad p hp rfl eo B _ (c3.trans ChgQ.w3) wr_same)
theorem X6_b74_s {post : Int32 → Mem → Prop} {S0 : Mem} {n : Nat} {cs : List Int32} {f g : Nat → Bool} (w : WFR (S0 11 0) n) (hN : S0 10 0 14 = nI cs.length) (hC : ∀ i, i < cs.length → S0 18 0 i = cs.getD i 0) (h60 : cs.length ≤ 60) (hE : Ev (S0 11 0) cs f) (hg : ∀ i, i < n → g i = f i) (hp : ∀ S' : Mem, (∀ c, c ≠ 10 → c ≠ 19 → c ≠ 20 → S' c = S0 c) → (∀ k, k ≠ 17 → S' 10 0 k = S0 10 0 k) → S' 10 0 17 = nI (acF g n) → (∀ i, i < n → g i = true → S' 20 0 (acF g i) = nI i) → post (nI (acF g n)) S') :
    ∀ (m t : Nat) (S : Mem), t + m = n → (∀ c, c ≠ 10 → c ≠ 19 → c ≠ 20 → S c = S0 c) → (∀ k, k ≠ 17 → S 10 0 k = S0 10 0 k) → S 10 0 17 = nI (acF g t) → (∀ i, i < t → g i = true → S 20 0 (acF g i) = nI i) → mX6_ask_b74 post (m + 1) S (nI t) := by
  have hn := w.1
  intro m
  induction m with
  | zero =>
    intro t S ht h1 h2 h3 h4
    have ht : t = n := by omega
    subst ht
    unfold mX6_ask_b74
    rw [c3, h1 11 (by decide) (by decide) (by decide), w.2.1, h3]
    exact ⟨vpL rfl, fun _ => hp S h1 h2 h3 h4, fun g => absurd (nI_le (Nat.le_refl _) (by omega)) g⟩
  | succ m ih =>
    intro t S ht h1 h2 h3 h4
    have htn : t < n := by omega
    have e11 : S 11 = S0 11 := h1 11 (by decide) (by decide) (by decide)
    have e : acF g (t + 1) = acF g t + (if g t = true then 1 else 0) := rfl
    have le := acF_le (g := g) t
    unfold mX6_ask_b74
    rw [c3, e11, w.2.1]
    refine ⟨vpL rfl, fun g => absurd g (nI_ge htn (by omega)), fun _ => X6_fulfils_s (f := f) (cs := cs) (by rw [e11]; exact w) htn (by rw [h2 14 (by decide)]; exact hN) (fun i hi => by rw [h1 18 (by decide) (by decide) (by decide)]; exact hC i hi) h60 (by rw [e11]; exact hE) (fun S3 k3 => ⟨fun z x ex => ?_, fun z x7 e7 S8 e8 => ?_⟩)⟩
    · rw [b2i_0, ← hg t htn] at z
      rw [if_neg (by rw [z]; decide)] at e
      rw [ex, inc]
      refine ih (t + 1) S3 (by omega) (fun c z1 z2 z3 => (k3 c z2).trans (h1 c z1 z2 z3)) (fun k hk => by rw [k3 10 (by decide)]; exact h2 k hk) (by rw [k3 10 (by decide), e]; exact h3) (fun i hi hgi => ?_)
      rw [k3 20 (by decide)]
      by_cases q : i = t
      · subst q; exact absurd (hgi.symm.trans z) (by decide)
      · exact h4 i (by omega) hgi
    · rw [b2i_0, ← hg t htn, Bool.not_eq_false] at z
      rw [if_pos z] at e
      rw [k3 10 (by decide), h3] at e7
      subst e7
      rw [inc] at e8
      refine ⟨vpN (by omega) (by decide), fun S10 e10 x ex => ?_⟩
      rw [nI_clamp (by omega)] at e10
      rw [ex, inc]
      refine ih (t + 1) S10 (by omega) (fun c z1 z2 z3 => by rw [e10, wr_c z3, e8, wr_c z1, k3 c z2]; exact h1 c z1 z2 z3) (fun k hk => by rw [e10, wr_c (by decide), e8, wr_k hk, k3 10 (by decide)]; exact h2 k hk) (by rw [e10, wr_c (by decide), e8, wr_same, e]) (fun i hi hgi => ?_)
      rw [e10]
      by_cases q : i = t
      · subst q; exact wr_same
      · have := acF_lt (g := g) (i := i) (t := t) (by omega) hgi
        rw [wr_k (by omega), e8, wr_c (by decide), k3 20 (by decide)]
        exact h4 i (by omega) hgi
theorem X6_ask_s {post : Int32 → Mem → Prop} {T : Txt} {L n : Nat} {S : Mem} {g : Nat → Bool} (hL : L ≤ 60) (h1 : S 10 0 10 = nI L) (hT : ∀ i, i < L → S 17 0 i = T i) (w : WFR (S 11 0) n)
    (h0 : outP L (askP T L (S 11 0)) = none → ∀ S' : Mem, (∀ c, c ≠ 10 → c ≠ 18 → S' c = S c) → (∀ k, k ≠ 10 → k ≠ 11 → k ≠ 12 → k ≠ 14 → k ≠ 18 → k ≠ 21 → S' 10 0 k = S 10 0 k) → S' 10 0 10 = 0 → S' 10 0 18 = nI (askP T L (S 11 0)).1 → S' 10 0 21 = 1 → post 0 S')
    (hx : ∀ x, outP L (askP T L (S 11 0)) = some x → (∀ i, i < n → g i = x.2 i) ∧ (∀ S' : Mem, (∀ c, c ≠ 10 → c ≠ 18 → c ≠ 19 → c ≠ 20 → S' c = S c) → (∀ k, k ≠ 10 → k ≠ 11 → k ≠ 12 → k ≠ 14 → k ≠ 17 → k ≠ 21 → S' 10 0 k = S 10 0 k) → S' 10 0 10 = 0 → S' 10 0 17 = nI (acF g n) → (∀ i, i < n → g i = true → S' 20 0 (acF g i) = nI i) → S' 10 0 21 = 0 → post (nI (acF g n)) S')) : mX6_ask post S := by
  have gd := ask_good (T := T) (L := L) (R := S 11 0)
  unfold mX6_ask
  intro S1 e1 S2 e2 S3 e3 S4 e4
  have q4 : ∀ c, c ≠ 10 → S4 c = S c := fun c z => by rw [e4, wr_c z, e3, wr_c z, e2, wr_c z, e1, wr_c z]
  have k4 : ∀ k, k ≠ 11 → k ≠ 12 → k ≠ 14 → k ≠ 21 → S4 10 0 k = S 10 0 k := fun k z1 z2 z3 z4 => by rw [e4, wr_k z3, e3, wr_k z2, e2, wr_k z1, e1, wr_k z4]
  have t4 : S4 10 0 21 = 0 := by rw [e4, wr_k (by decide), e3, wr_k (by decide), e2, wr_k (by decide), e1, wr_same]
  have hm4 : HM T L S4 0 0 [] := ⟨Nat.zero_le L, hL, by rw [k4 10 (by decide) (by decide) (by decide) (by decide)]; exact h1, by rw [e4, wr_k (by decide), e3, wr_k (by decide), e2, wr_same]; rfl, by rw [e4, wr_k (by decide), e3, wr_same]; rfl, by rw [e4, wr_same]; rfl, Nat.le_refl 0, fun i hi => by rw [q4 17 (by decide)]; exact hT i hi, fun i hi => absurd hi (by show ¬ i < 0; omega)⟩
  refine X6_que_c (X6_one_c 8 0 (by decide) (by decide)) (fun p hp => good_one (R := S 11 0) 8 0 p hp) _ S4 0 [] hm4 ?_
  have bad : ∀ (p : Nat), p = (askP T L (S 11 0)).1 → outP L (askP T L (S 11 0)) = none → ∀ S5 : Mem, ChgM S4 S5 → S5 10 0 11 = nI p → mX6_ask_b43 post S5 0 := by
    intro p ep eo S5 c5 a5
    unfold mX6_ask_b43
    intro S6 e6
    refine ⟨fun z => absurd rfl z, fun _ S7 e7 => s_raises ?_⟩
    have a6 : S6 10 0 11 = nI p := by rw [e6, wr_k (by decide)]; exact a5
    rw [a6] at e7
    refine h0 eo _ (fun c z1 z2 => ?_) (fun k y1 y2 y3 y4 y5 y6 => ?_) ?_ ?_ thr_get
    · rw [wr_c z1, e7, wr_c z1, e6, wr_c z1, c5.1 c z1 z2, q4 c z1]
    · rw [wr_k y6, e7, wr_k y5, e6, wr_k y1, c5.2 k y2 y3 y4, k4 k y2 y3 y4 y6]
    · rw [wr_k (by decide), e7, wr_k (by decide), e6, wr_same]
    · rw [wr_k (by decide), e7, wr_same, ep]
  have ok : ∀ x : List Int32 × (Nat → Bool), x.1.length ≤ 60 → Ev (S 11 0) x.1 x.2 → outP L (askP T L (S 11 0)) = some x → ∀ S5 : Mem, ChgM S4 S5 → S5 10 0 14 = nI x.1.length → (∀ i, i < x.1.length → S5 18 0 i = x.1.getD i 0) → mX6_ask_b43 post S5 1 := by
    intro x x60 hE eo S5 c5 n5 d5
    obtain ⟨hg, hx⟩ := hx x eo
    unfold mX6_ask_b43
    intro S6 e6
    refine ⟨fun _ S7 e7 => ⟨n + 1, ?_⟩, fun z => ne10 z⟩
    have e11 : S7 11 = S 11 := by rw [e7, wr_c (by decide), e6, wr_c (by decide), c5.1 11 (by decide) (by decide), q4 11 (by decide)]
    refine X6_b74_s (S0 := S7) (n := n) (cs := x.1) (f := x.2) (g := g) (by rw [e11]; exact w) (by rw [e7, wr_k (by decide), e6, wr_k (by decide)]; exact n5) (fun i hi => by rw [e7, wr_c (by decide), e6, wr_c (by decide)]; exact d5 i hi) x60 (by rw [e11]; exact hE) hg (fun S' y1 y2 y3 y4 => ?_) n 0 S7 (by omega) (fun _ _ _ _ => rfl) (fun _ _ => rfl) (by rw [e7, wr_same]; rfl) (fun i hi => absurd hi (by omega))
    refine hx S' (fun c z1 z2 z3 z4 => ?_) (fun k z1 z2 z3 z4 z5 z6 => ?_) ?_ y3 y4 ?_
    · rw [y1 c z1 z3 z4, e7, wr_c z1, e6, wr_c z1, c5.1 c z1 z2, q4 c z1]
    · rw [y2 k z5, e7, wr_k z5, e6, wr_k z1, c5.2 k z2 z3 z4, k4 k z2 z3 z4 z6]
    · rw [y2 10 (by decide), e7, wr_k (by decide), e6, wr_same]
    · rw [y2 21 (by decide), e7, wr_k (by decide), e6, wr_k (by decide), c5.2 21 (by decide) (by decide) (by decide)]; exact t4
  revert bad ok gd
  show _ → _ → _ → RQ _ T L S4 0 [] (askP T L (S 11 0))
  generalize askP T L (S 11 0) = r
  intro gd bad ok
  obtain ⟨p, o⟩ := r
  have hp : p ≤ L := gd.1
  cases o with
  | none => exact fun S5 c5 a5 => ⟨fun _ => bad p rfl rfl S5 c5 a5, fun z => absurd rfl z⟩
  | some x =>
    intro S5 c5 hq
    have hq : HM T L S5 p 0 x.1 := hq
    obtain ⟨y1, y2, y3⟩ := gd.2 x rfl
    have y1 : 0 + x.1.length ≤ p := y1
    refine ⟨fun z => ne10 z, fun _ => ?_⟩
    rw [hq.2.2.1, hq.2.2.2.1]
    refine ⟨fun z => ?_, fun z => ?_⟩
    · have eo : outP L (p, some x) = none := if_neg (fun y => z (by have y : p = L := y; rw [y]))
      exact bad p rfl eo S5 c5 hq.2.2.2.1
    · have eo : outP L (p, some x) = some x := if_pos ((nI_eq (by omega) (by omega)).mp z)
      exact ok x (by omega) y3 eo S5 c5 hq.2.2.2.2.2.1 hq.2.2.2.2.2.2.2.2
theorem Inv.q {S S' : Mem} (h : Inv S) (hc : ∀ c, c ≠ 3 → c ≠ 6 → c ≠ 8 → c ≠ 10 → c ≠ 18 → c ≠ 19 → c ≠ 20 → S' c = S c) (h3 : ∀ k, k ≠ 5 → k ≠ 7 → S' 3 0 k = S 3 0 k) (hk : ∀ k, k = 4 ∨ k = 6 ∨ k = 8 ∨ k = 19 ∨ k = 20 → S' 10 0 k = S 10 0 k) (t6 : S' 6 0 1 = 0) (t10 : S' 10 0 10 = 0) (ha : Answ S') (hf : Fault S') : Inv S' := by
  obtain ⟨i1, ⟨u, nx, a1, a2, a3, a4, a5, a6⟩, i3, i4, i5, i6, i7, i8⟩ := h
  have e := fun c (h0 : c ≠ 3 ∧ c ≠ 6 ∧ c ≠ 8 ∧ c ≠ 10 ∧ c ≠ 18 ∧ c ≠ 19 ∧ c ≠ 20) => hc c h0.1 h0.2.1 h0.2.2.1 h0.2.2.2.1 h0.2.2.2.2.1 h0.2.2.2.2.2.1 h0.2.2.2.2.2.2
  have hX : ∀ j R, RepX S j R → RepX S' j R := fun j R r => r.c3 (e 0 (by decide)) (e 1 (by decide)) (e 2 (by decide))
  refine ⟨by rw [e 11 (by decide)]; exact hX 0 _ i1, ⟨u, nx, a1, a2, ?_, ?_, ?_, fun i hi => ?_⟩, ⟨?_, ?_⟩, ⟨0, by decide, t6, t10, fun i hi => absurd hi (by omega)⟩, ha, hf, ?_, ?_⟩
  · rw [hk 4 (by decide)]; exact a3
  · rw [e 4 (by decide)]; exact a4
  · rw [e 4 (by decide)]; exact a5
  · have := hX _ _ (a6 i hi)
    unfold keptR at this ⊢
    rw [e 14 (by decide)]
    exact this
  · rw [h3 3 (by decide) (by decide), hk 6 (by decide)]; exact i3.1
  · rw [hk 6 (by decide), e 15 (by decide)]
    exact i3.2.imp id (fun r => ⟨r.1, hX 9 _ r.2⟩)
  · exact i7.c (h3 8 (by decide) (by decide)) (h3 9 (by decide) (by decide)) (hk 19 (by decide)) (hk 20 (by decide))
  · exact i8.c (h3 11 (by decide) (by decide)) (e 9 (by decide)) (e 16 (by decide)) (hk 8 (by decide))
theorem k_ask {S : Mem} {f : Nat → Int64} {g : Nat → UInt64} {x1 x2 : Int32} (h : Inv S) : lawC20 (fun S1 _ _ => Inv S1) S f g x1 x2 := by
  obtain ⟨n, hR⟩ := h.1
  obtain ⟨L, hL, l1, l2, l3⟩ := h.2.2.2.1
  have hn := hR.1.1
  have gd := ask_good (T := S 17 0) (L := L) (R := S 11 0)
  have gp : (askP (S 17 0) L (S 11 0)).1 ≤ 60 := Nat.le_trans gd.1 hL
  unfold lawC20 mL_ask
  refine X5_ask_s (T := S 17 0) hL l1 l3 hR (fun eo S1 a1 a2 a3 a4 => ⟨rfl, ?_⟩) (fun x eo S1 a1 a2 a3 a4 a5 => ?_)
  · have e11 : S1 11 = S 11 := a1 11 (by decide) (by decide)
    have e17 : S1 17 = S 17 := a1 17 (by decide) (by decide)
    have e10 : S1 10 = S 10 := a1 10 (by decide) (by decide)
    refine X6_ask_s (T := S 17 0) (L := L) (n := n) (g := fun _ => false) hL (by rw [e10]; exact l2) (fun i _ => by rw [e17]) (by rw [e11]; exact hR.1) (fun _ S2 b1 b2 b3 b4 b5 => ?_) (fun x ex => ?_)
    · rw [e11] at b4
      unfold mX6_thrown
      have s3 : ∀ k, S2 3 0 k = S1 3 0 k := fun k => by rw [b1 3 (by decide) (by decide)]
      refine ⟨b5, ne10, h.q (fun c z3 z6 z8 z10 z18 z19 z20 => (b1 c z10 z18).trans (a1 c z3 z6)) (fun k k5 k7 => (s3 k).trans (a2 k k5)) (fun k hk => ?_) (by rw [b1 6 (by decide) (by decide)]; exact a4) b3 ?_ ⟨?_, Or.inr ⟨_, gp, b4⟩⟩⟩
      · rw [b2 k (by omega) (by omega) (by omega) (by omega) (by omega) (by omega), e10]
      · exact h.2.2.2.2.1.c ((s3 7).trans (a2 7 (by decide))) (by rw [b1 8 (by decide) (by decide), a1 8 (by decide) (by decide)]) (by rw [b1 20 (by decide) (by decide), a1 20 (by decide) (by decide)]) (by rw [b2 17 (by decide) (by decide) (by decide) (by decide) (by decide) (by decide), e10])
      · rw [s3 5, a3, b4]
    · rw [e11, eo] at ex
      exact absurd ex (by simp)
  · have e11 : S1 11 = S 11 := a1 11 (by decide) (by decide) (by decide)
    have e17 : S1 17 = S 17 := a1 17 (by decide) (by decide) (by decide)
    have e10 : S1 10 = S 10 := a1 10 (by decide) (by decide) (by decide)
    have e8n : acF (fun t => decide (t < n) && x.2 t) 8 = acF (fun t => decide (t < n) && x.2 t) n := by
      have := acF_end (g := fun t => decide (t < n) && x.2 t) (n := n) (fun i hi => by show (decide (i < n) && x.2 i) = false; rw [decide_eq_false (by omega)]; rfl) (8 - n)
      rw [show n + (8 - n) = 8 by omega] at this
      exact this
    refine X6_ask_s (T := S 17 0) (L := L) (n := n) (g := fun t => decide (t < n) && x.2 t) hL (by rw [e10]; exact l2) (fun i _ => by rw [e17]) (by rw [e11]; exact hR.1) (fun eo2 => ?_) (fun y ey => ?_)
    · rw [e11, eo] at eo2
      exact absurd eo2 (by simp)
    · rw [e11, eo] at ey
      cases ey
      refine ⟨fun i hi => by show (decide (i < n) && x.2 i) = x.2 i; rw [decide_eq_true hi]; rfl, fun S2 b1 b2 b3 b4 b5 b6 => ?_⟩
      unfold mX6_thrown
      have s3 : ∀ k, S2 3 0 k = S1 3 0 k := fun k => by rw [b1 3 (by decide) (by decide) (by decide) (by decide)]
      refine ⟨b6, fun _ => by rw [updL0, e8n], h.q (fun c z3 z6 z8 z10 z18 z19 z20 => (b1 c z10 z18 z19 z20).trans (a1 c z3 z6 z8)) (fun k k5 k7 => (s3 k).trans (a2 k k7)) (fun k hk => ?_) (by rw [b1 6 (by decide) (by decide) (by decide) (by decide)]; exact a5) b3 ⟨acF (fun t => decide (t < n) && x.2 t) 8, acF_le 8, (s3 7).trans a3, by rw [b4, e8n], fun i hi => ?_⟩ ?_⟩
      · rw [b2 k (by omega) (by omega) (by omega) (by omega) (by omega) (by omega), e10]
      · obtain ⟨j, hj, gj, ej⟩ := acF_on 8 i hi
        have jn : j < n := by
          have gj : (decide (j < n) && x.2 j) = true := gj
          rw [Bool.and_eq_true, decide_eq_true_eq] at gj
          exact gj.1
        rw [← ej, b1 8 (by decide) (by decide) (by decide) (by decide), a4 j hj gj, b5 j jn gj]
      · exact h.2.2.2.2.2.1.c ((s3 5).trans (a2 5 (by decide))) (by rw [b2 18 (by decide) (by decide) (by decide) (by decide) (by decide) (by decide), e10])
