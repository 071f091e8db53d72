/-! p36: the law's second part: the day with a script, its undoing -/
theorem nI_sub {a b : Nat} (h : b ≤ a) : nI a - nI b = nI (a - b) := by
  have q : nI a = nI (a - b) + nI b := by rw [nI_add]; congr 1; omega
  rw [q, Int32.add_sub_cancel]
theorem RepC.uniq {S S' : Mem} {R : Row} {n n' : Nat} (h : RepC S 0 R n) (h' : RepC S' 0 R n') : n' = n := by
  have a := h.1.1
  have b := h'.1.1
  exact (nI_eq (by omega) (by omega)).mp (h'.1.2.1.symm.trans h.1.2.1)
theorem set_o {R : Row} {t i f : Nat} (hi : i ≠ t) (hf : f < 8) : trv (setR R t) i f = trv R i f := by
  have o : trv (outR R t) i f = trv R i f := outR_o (by omega) (by omega) (by omega)
  unfold setR
  split
  · refine (trv_updS (by decide)).trans ((trv_updS (by decide)).trans (Eq.trans ?_ o))
    exact upd_ne (by omega)
  · exact (trv_updS (by decide)).trans o
theorem law_862 {ex : Nat → Nat → Nat} {f : Nat → Int64} {R0 : Row} {d m' : Nat} {hs : Nat → Row} (hd : d ≤ 12) (hm : m' = min d 8) (hf : ∀ j, j < m' → ∀ n', n' ≤ 8 → hs (7 - j) 3 = nI n' → f (d - 1 - j) = toldF (hs (7 - j)) n') (h03 : R0 3 = nI 7) : ∀ (q k : Nat) (S : Mem) (R : Row) (n : Nat), q + k = m' + 1 → 1 ≤ k → KK S R n (8 - (k - 1)) hs (some R0) → mL_lawC_b862 ex (q + 1) S f (toldF R0 7) (R0 0) (nI d) (nI m') (nI k) := by
  intro q
  induction q with
  | zero =>
    intro k S R n hk h1 hK
    unfold mL_lawC_b862
    refine ⟨fun _ => Q_restore hK (fun e => absurd e (by simp)) (fun Q eQ S1 n1 k1 _ => ?_), fun g => absurd (nI_lt (by omega) (by omega)) g⟩
    cases eQ
    have n7 : ∀ n', n' ≤ 8 → R0 3 = nI n' → n' = 7 := fun n' hn' e => (nI_eq (by omega) (by decide)).mp (e.symm.trans h03)
    have e1 := n7 n1 k1.1.1.1 k1.1.1.2.1
    subst e1
    refine eqv rfl (Q_undo k1 (fun _ => eqv rfl (Q_told k1.1 (fun S2 l2 _ => ⟨rfl, Q_restore (l2.kk k1) (fun e => absurd e (by simp)) (fun Q eQ S3 n3 k3 _ => ?_)⟩))) (fun v e => absurd e (by omega)))
    cases eQ
    have e3 := n7 n3 k3.1.1.1 k3.1.1.2.1
    subst e3
    exact eqv rfl (Q_told k3.1 (fun S4 _ _ => ⟨rfl, trivial⟩))
  | succ q ih =>
    intro k S R n hk h1 hK
    unfold mL_lawC_b862
    refine ⟨fun g => absurd ((nI_ltI (by omega) (by omega)).mp g) (by omega), fun _ => Q_undo hK (fun e => absurd e (by omega)) (fun v ev S1 n1 k1 _ => ?_)⟩
    have hv : v = 8 - k := by omega
    subst hv
    rw [nI_sub (by omega), show (8 : Int32) - nI k = nI (8 - k) from nI_sub (a := 8) (by omega), nI_sub (show k ≤ d by omega), nI_clamp (by omega), inc]
    refine ⟨fun g => absurd ((nI_ltI (by omega) (by omega)).mp g) (by omega), fun _ => ⟨fun g => absurd g Int32.lt_irrefl, fun _ => Q_told k1.1 (fun S2 l2 _ => ⟨vpN (by omega) (by decide), ?_, fun x ex => ?_⟩)⟩⟩
    · have := hf (k - 1) (by omega) n1 k1.1.1.1 (by rw [show 7 - (k - 1) = 8 - k by omega]; exact k1.1.1.2.1)
      rw [show 7 - (k - 1) = 8 - k by omega, show d - 1 - (k - 1) = d - k by omega] at this
      exact this.symm
    · rw [ex]
      refine ih (k + 1) S2 (hs (8 - k)) n1 (by omega) (by omega) ?_
      rw [show 8 - (k + 1 - 1) = 8 - k by omega]
      exact l2.kk k1
theorem law_783 {ex : Nat → Nat → Nat} (hL : ex 4 1 ≤ 260) {R0 : Row} (h03 : R0 3 = nI 7) : ∀ (q i d : Nat) (S : Mem) (R : Row) (n : Nat) (hs : Nat → Row) (f : Nat → Int64), q + i = 12 → d ≤ i → KK S R n 8 hs (some R0) → Bnd R n (5000 + 4800 * i) → (∀ j, j < min d 8 → ∀ n', n' ≤ 8 → hs (7 - j) 3 = nI n' → f (d - 1 - j) = toldF (hs (7 - j)) n') → mL_lawC_b783 ex (q + 1) S f (toldF R0 7) (R0 0) (nI d) (nI i) := by
  intro q
  induction q with
  | zero =>
    intro i d S R n hs f hi hd hK hb hf
    unfold mL_lawC_b783
    refine ⟨fun _ x ex => ?_, fun g => absurd (nI_le (a := 12) (by omega) (by omega)) g⟩
    have e : x = nI (min d 8) := by
      rw [ex]
      show (if nI d < nI 8 then nI d else nI 8) = nI (min d 8)
      by_cases g : d < 8
      · rw [if_pos (nI_lt (b := 8) g (by decide)), show min d 8 = d by omega]
      · rw [if_neg (fun z => g ((nI_ltI (b := 8) (by omega) (by decide)).mp z)), show min d 8 = 8 by omega]
    rw [e]
    exact ⟨min d 8 + 1, by omega, law_862 (by omega) rfl hf h03 (min d 8) 1 S R n (by omega) (by omega) hK⟩
  | succ q ih =>
    intro i d S R n hs f hi hd hK hb hf
    unfold mL_lawC_b783
    refine ⟨fun g => absurd g (nI_ge (b := 12) (by omega) (by decide)), fun _ => Q_told hK.1 (fun S1 l1 _ => ?_)⟩
    rw [show (20 : Int32) + nI i = nI (20 + i) from nI_add 20 i]
    refine Q_at hL (by omega) (fun r => Q_changes (l1.kk hK) hb (by omega) ⟨fun S2 k2 => ?_, fun S2 R2 n2 k2 b2 => ?_⟩)
    · refine eqw rfl (Q_told k2.1 (fun S3 l3 _ => ⟨rfl, fun x ex => ?_⟩))
      rw [ex, inc]
      exact ih (i + 1) d S3 R n hs f (by omega) (by omega) (l3.kk k2) (hb.mono (by omega)) hf
    · refine ⟨fun g => absurd g (by decide), fun _ x ex => ⟨vpN (by omega) (by decide), fun f17 e17 x18 ex18 => ?_⟩⟩
      rw [ex, inc, ex18, inc]
      rw [nI_clamp (by omega)] at e17
      refine ih (i + 1) (d + 1) S2 R2 n2 (newH hs R 8) f17 (by omega) (by omega) k2 (b2.mono (by omega)) (fun j hj n' hn' e3 => ?_)
      rw [e17]
      unfold vp_updL
      by_cases hj0 : j = 0
      · subst hj0
        have e : newH hs R 8 7 = R := by unfold newH; rw [if_pos (by decide)]
        have e3 : R 3 = nI n' := by rw [← e]; exact e3
        have hn := hK.1.1.1
        have en : n' = n := (nI_eq (by omega) (by omega)).mp (e3.symm.trans hK.1.1.2.1)
        subst en
        show (if d + 1 - 1 - 0 = d then toldF R n' else f (d + 1 - 1 - 0)) = toldF (newH hs R 8 7) n'
        rw [if_pos (by omega), e]
      · have e : newH hs R 8 (7 - j) = hs (7 - (j - 1)) := by
          unfold newH
          rw [if_neg (by omega), if_neg (by decide), show 7 - j + 1 = 7 - (j - 1) by omega]
        rw [e] at e3 ⊢
        rw [if_neg (by omega), show d + 1 - 1 - j = d - 1 - (j - 1) by omega]
        exact hf (j - 1) (by omega) n' hn' e3
theorem law_C {ex : Nat → Nat → Nat} (hL : ex 4 1 ≤ 260) {R0 : Row} {S : Mem} {hs : Nat → Row} (hK : KK S R0 7 8 hs (some R0)) (hb : Bnd R0 7 5000) : mL_lawC ex S (fun _ => 0) (toldF R0 7) (R0 0) := by
  unfold mL_lawC
  exact ⟨13, Nat.le_refl 13, law_783 hL hK.1.1.2.1 12 0 0 S R0 7 hs _ rfl (Nat.le_refl 0) hK hb (fun j hj => absurd hj (by omega))⟩
theorem law_678 {ex : Nat → Nat → Nat} (hL : ex 4 1 ≤ 260) : ∀ (q t : Nat) (S : Mem) (R : Row) (hs : Nat → Row), q + t = 5 → KK S R 7 8 hs none → Bnd R 7 50 → (∀ i, t ≤ i → i < 7 → trv R i 3 = 0 ∧ trv R i 1 = 0) → Tg S → mL_lawB_b678 ex (fun S l3 v5 => mL_lawC ex S (fun _ => 0) l3 v5) (q + 1) S (nI t) := by
  intro q
  induction q with
  | zero =>
    intro t S R hs hq hK hb _ tg
    unfold mL_lawB_b678
    refine ⟨fun _ => Q_at (k := 12) hL (by decide) (fun r => Q_some (m := 9) (by decide) (by decide) (fun w hw => ?_)), fun g => absurd (nI_le (a := 5) (by omega) (by omega)) g⟩
    rw [show (1 : Int32) + nI w = nI (1 + w) from nI_add 1 w]
    refine Q_pass hK (fun g => absurd g (not_rng (a := 1) (b := 24) (k := 1 + w) (by omega) (by omega) (by decide))) (fun H _ hH _ S1 k1 c1 => ?_)
    obtain ⟨hb', k, hk, e⟩ := pass_b (m := H) hK.1.1.1 hH hb
    have k1 : KK S1 (hoursR 7 H R) 7 8 (newH hs R 8) none := k1
    have tg1 := c1.tg tg
    generalize hoursR 7 H R = R1 at k1 hb' e ⊢
    rw [e]
    refine ⟨fun _ => Q_told k1.1 (fun S2 l2 _ => Q_told (l2.kk k1).1 (fun S3 l3 _ => ⟨rfl, Q_refused (l3.kk (l2.kk k1)) (by decide) ?_ ?_ (fun S4 k4 => ?_)⟩)), fun g => absurd (nI_ge0 (by omega)) g⟩
    · rw [l3.1 6 (by decide) (by decide), l2.1 6 (by decide) (by decide)]
      exact tg1.1
    · rw [l3.2 7 (by decide), l2.2 7 (by decide)]
      exact tg1.2
    · refine ⟨fun _ => Q_save k4 (fun S5 k5 _ _ => Q_acc (k := 0) k5.1 (by decide) (eqv rfl (Q_told k5.1 (fun S6 l6 _ => ⟨rfl, law_C hL (l6.kk k5) (hb'.mono (by omega))⟩)))), fun g => absurd g (by decide)⟩
  | succ q ih =>
    intro t S R hs hq hK hb hT tg
    unfold mL_lawB_b678
    obtain ⟨t3, t1⟩ := hT t (Nat.le_refl t) (by omega)
    refine ⟨fun g => absurd g (nI_ge (b := 5) (by omega) (by decide)), fun _ => Q_setOut hK (fun g => absurd g (not_in (by omega) (by decide))) (fun t' ht' e g => ?_) (fun t' ht' e _ g => ?_) (fun t' ht' e _ _ S1 k1 c1 => ?_)⟩ <;> (have := (nI_eq (by omega) (by omega)).mp e; subst this)
    · exact absurd (g.symm.trans t3) (by decide)
    · exact absurd (show trv R t 1 < 12 by rw [t1]; decide) g
    · have wt := hK.1.1.t ht'
      obtain ⟨a, ha, ea⟩ := wt.1
      obtain ⟨c, hc, ec⟩ := toll_tab a (by omega)
      rw [show tollF (trv R t 0) = nI c by rw [ea]; exact ec]
      refine ⟨fun _ x ex => ?_, fun g => absurd (nI_ge0 (by omega)) g⟩
      rw [ex, inc]
      exact ih (t + 1) S1 _ _ (by omega) k1 (set_b hb (by omega) wt) (fun i hi hi7 => by rw [set_o (by omega) (by decide), set_o (by omega) (by decide)]; exact hT i (by omega) hi7) (c1.tg tg)
theorem law_B {ex : Nat → Nat → Nat} (hL : ex 4 1 ≤ 260) {f : Nat → Nat → Int32} (hf : ∀ j k, j < 10 → k < 10 → f j k = 10) : mL_lawB ex (fun S l3 v5 => mL_lawC ex S (fun _ => 0) l3 v5) (S0 f) := by
  unfold mL_lawB
  refine Q_makes hL (start_kk hf) (fun S1 R hs k1 hb hT c1 => ⟨fun _ => ⟨6, Nat.le_refl 6, law_678 hL 5 0 S1 R hs rfl k1 hb (fun i _ hi => hT i hi) (c1.tg start_tg)⟩, fun g => absurd g (by decide)⟩)
