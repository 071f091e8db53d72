/-! p36: the law's first part, with one ford: the row behind every call -/
def KE (S : Mem) (R : Row) (n : Nat) : Prop := ∃ hs : Nat → Row, KK S R n 8 hs (some r0)
theorem KE.row {S : Mem} {R R' : Row} {n : Nat} (h : ∀ k, k < 84 → R' k = R k) (hK : KE S R n) : KE S R' n := hK.elim (fun hs k => ⟨hs, k.row h⟩)
theorem KE.rep {S : Mem} {R : Row} {n : Nat} (hK : KE S R n) : RepC S 0 R n := hK.elim (fun _ k => k.1)
theorem KE.rf {S : Mem} {R : Row} {n : Nat} {a b : Int32} (hK : KE S R n) : KE (rfS S a b) R n := hK.elim (fun hs k => ⟨hs, k.rf⟩)
theorem E_pass {post : Int32 → Mem → Prop} {S : Mem} {R : Row} {n : Nat} {R' : Row} {H : Nat} (h1 : 1 ≤ H) (h2 : H ≤ 24) (hR' : ∀ k, k < 84 → R' k = hoursR n H R k) (hK : KE S R n) (h : ∀ S' : Mem, KE S' R' n → post (R' 8 - R 8) S') : mL_pass post S (nI H) := by
  obtain ⟨hs, hK⟩ := hK
  refine Q_pass hK (fun g => absurd g (not_rng (a := 1) (b := 24) h1 h2 (by decide))) (fun H' _ _ e S' k' _ => ?_)
  have := (nI_eq (by omega) (by omega)).mp e
  subst this
  rw [← hR' 8 (by decide)]
  exact h S' ⟨_, k'.row hR'⟩
theorem E_setOut {post : Int32 → Mem → Prop} {S : Mem} {R : Row} {n : Nat} {t : Nat} (ht : t < n) (h3 : trv R t 3 = 0) (h1 : trv R t 1 < 12) (hK : KE S R n) (h : ∀ S' : Mem, KE S' (setR R t) n → post (tollF (trv R t 0)) S') : mL_setOut post S (nI t) := by
  obtain ⟨hs, hK⟩ := hK
  have hn := hK.1.1.1
  refine Q_setOut hK (fun g => absurd g (not_in ht hn)) (fun t' ht' e g => ?_) (fun t' ht' e _ g => ?_) (fun t' ht' e _ _ S' k' _ => ?_) <;> (have := (nI_eq (by omega) (by omega)).mp e; subst this)
  · exact absurd (g.symm.trans h3) (by decide)
  · exact absurd h1 g
  · exact h S' ⟨_, k'⟩
theorem E_setWet {post : Int32 → Mem → Prop} {S : Mem} {R : Row} {n : Nat} {t : Nat} (ht : t < n) (h3 : trv R t 3 = 0) (h1 : ¬ trv R t 1 < 12) (hK : KE S R n) (h : post (-1002) (rfS S 4 (trv R t 1))) : mL_setOut post S (nI t) := by
  obtain ⟨hs, hK⟩ := hK
  have hn := hK.1.1.1
  refine Q_setOut hK (fun g => absurd g (not_in ht hn)) (fun t' ht' e g => ?_) (fun t' ht' e _ g => ?_) (fun t' ht' e _ g S' k' _ => ?_) <;> (have := (nI_eq (by omega) (by omega)).mp e; subst this)
  · exact absurd (g.symm.trans h3) (by decide)
  · exact h
  · exact absurd g h1
theorem E_stop {post : Int32 → Mem → Prop} {S : Mem} {R : Row} {n : Nat} {t : Nat} (ht : t < n) (h3 : trv R t 3 = 1) (h5 : ¬ trv R t 5 = 1) (hK : KE S R n) (h : ∀ S' : Mem, KE S' (upd R (20 + 8 * t + 5) 1) n → post (trv R t 2) S') : mL_stop post S (nI t) := by
  obtain ⟨hs, hK⟩ := hK
  have hn := hK.1.1.1
  refine Q_stop hK (fun g => absurd g (not_in ht hn)) (fun t' ht' e g => ?_) (fun t' ht' e _ g => ?_) (fun t' ht' e _ _ S' k' _ => ?_) <;> (have := (nI_eq (by omega) (by omega)).mp e; subst this)
  · exact absurd (g.symm.trans h3) (by decide)
  · exact absurd g h5
  · exact h S' ⟨_, k'⟩
theorem E_go {post : Int32 → Mem → Prop} {S : Mem} {R : Row} {n : Nat} {t : Nat} (ht : t < n) (h3 : trv R t 3 = 1) (h5 : ¬ trv R t 5 = 0) (hK : KE S R n) (h : ∀ S' : Mem, KE S' (upd R (20 + 8 * t + 5) 0) n → post (trv R t 2) S') : mL_go post S (nI t) := by
  obtain ⟨hs, hK⟩ := hK
  have hn := hK.1.1.1
  refine Q_go hK (fun g => absurd g (not_in ht hn)) (fun t' ht' e g => ?_) (fun t' ht' e _ g => ?_) (fun t' ht' e _ _ S' k' _ => ?_) <;> (have := (nI_eq (by omega) (by omega)).mp e; subst this)
  · exact absurd (g.symm.trans h3) (by decide)
  · exact absurd g h5
  · exact h S' ⟨_, k'⟩
theorem E_goNo {post : Int32 → Mem → Prop} {S : Mem} {R : Row} {n : Nat} {t : Nat} (ht : t < n) (h3 : trv R t 3 = 0) (hK : KE S R n) (h : post (-1002) (rfS S 3 (trv R t 2))) : mL_go post S (nI t) := by
  obtain ⟨hs, hK⟩ := hK
  have hn := hK.1.1.1
  refine Q_go hK (fun g => absurd g (not_in ht hn)) (fun t' ht' e g => ?_) (fun t' ht' e g _ => ?_) (fun t' ht' e g _ S' k' _ => ?_) <;> (have := (nI_eq (by omega) (by omega)).mp e; subst this)
  · exact h
  · exact absurd (g.symm.trans h3) (by decide)
  · exact absurd (g.symm.trans h3) (by decide)
theorem E_leaveNo {post : Int32 → Mem → Prop} {S : Mem} {R : Row} {n : Nat} {t : Nat} (ht : t < n) (h3 : trv R t 3 = 1) (hK : KE S R n) (h : post (-1002) (rfS S 2 (trv R t 2))) : mL_leave post S (nI t) := by
  obtain ⟨hs, hK⟩ := hK
  have hn := hK.1.1.1
  refine Q_leave hK (fun g => absurd g (not_in ht hn)) (fun t' ht' e g => ?_) (fun t' k en ht' e g S' k' _ => ?_) <;> (have := (nI_eq (by omega) (by omega)).mp e; subst this)
  · exact h
  · exact absurd (g.symm.trans h3) (by decide)
theorem E_leave {post : Int32 → Mem → Prop} {S : Mem} {R : Row} {n : Nat} {t : Nat} (ht : t < n + 1) (h3 : trv R t 3 = 0) (hK : KE S R (n + 1)) (h : ∀ S' : Mem, KE S' (levR R t n) n → post (trv R t 6) S') : mL_leave post S (nI t) := by
  obtain ⟨hs, hK⟩ := hK
  have hn := hK.1.1.1
  refine Q_leave hK (fun g => absurd g (not_in ht hn)) (fun t' ht' e g => ?_) (fun t' k en ht' e g S' k' _ => ?_) <;> (have := (nI_eq (by omega) (by omega)).mp e; subst this)
  · exact absurd (g.symm.trans h3) (by decide)
  · have : k = n := by omega
    subst this
    exact h S' ⟨_, k'⟩
theorem E_is {post : Int32 → Mem → Prop} {S : Mem} {a b : Int32} (ha : ¬ a = 0) (h : post 1 (rfS S a b)) : mL_is post (rfS S a b) a b := by
  have e8 : rfS S a b 3 0 8 = a := by
    unfold rfS
    rw [wr_k (by decide), wr_same]
  have e9 : rfS S a b 3 0 9 = b := by
    unfold rfS
    rw [wr_same]
  unfold mL_is mL_refusal mX5_refusal
  rw [e8, e9]
  exact ⟨fun _ => ⟨fun _ => eqv rfl ⟨fun _ => ⟨fun g => absurd g (by decide), fun _ => eqv rfl h⟩, fun g => absurd g ha⟩, fun g => absurd rfl g⟩, fun g => absurd g ha⟩
theorem ne1 {Q : Prop} (h : Q) : ((1 : Int32) = 0 → False) ∧ (¬ (1 : Int32) = 0 → Q) := ⟨fun g => absurd g (by decide), fun _ => h⟩
def RA1 : Row := lst [24, 4, 0, 0, 0, 0, 0, 0, 0, 0, 10, 10, 10, 10, 10, 10, 10, 10, 10, 10]
def RA2 : Row := lst [24, 4, 0, 8, 0, 0, 0, 0, 0, 0, 10, 10, 10, 10, 10, 10, 10, 10, 10, 10, 0, 0, -1, 0, 1, 0, 0, 0, 0, 0, -1, 0, 1, 0, 0, 0, 0, 0, -1, 0, 1, 0, 0, 0, 0, 0, -1, 0, 1, 0, 0, 0, 20, 0, -1, 0, 1, 0, 0, 0, 20, 0, -1, 0, 1, 0, 0, 0, 20, 0, -1, 0, 1, 0, 0, 0, 20, 0, -1, 0, 1, 0, 0, 0]
def RA3 : Row := lst [24, 4, 0, 8, 0, 0, 0, 8, 0, 0, 10, 10, 10, 10, 10, 10, 10, 10, 10, 10, 0, 0, -1, 0, 1, 0, 0, 0, 0, 0, -1, 0, 1, 0, 0, 0, 0, 0, -1, 0, 1, 0, 0, 0, 0, 0, -1, 0, 1, 0, 0, 0, 20, 0, -1, 0, 1, 0, 0, 0, 20, 0, -1, 0, 1, 0, 0, 0, 20, 0, -1, 0, 1, 0, 0, 0, 20, 0, -1, 1, 1, 0, 0, 0]
def RA6 : Row := lst [35, 4, 0, 8, 0, 0, 0, 8, 1, 0, 10, 10, 10, 10, 10, 10, 10, 10, 10, 10, 0, 0, -1, 0, 1, 0, 0, 0, 0, 0, -1, 0, 1, 0, 0, 0, 0, 0, -1, 0, 1, 0, 0, 0, 0, 0, -1, 0, 1, 0, 0, 0, 20, 0, -1, 0, 1, 0, 0, 0, 20, 0, -1, 0, 1, 0, 0, 0, 20, 0, -1, 0, 1, 0, 0, 0, 20, 0, 10, 0, 1, 0, 1, 0]
def RA7 : Row := lst [35, 4, 0, 7, 0, 0, 0, 8, 1, 0, 10, 10, 10, 10, 10, 10, 10, 10, 10, 10, 0, 0, -1, 0, 1, 0, 0, 0, 0, 0, -1, 0, 1, 0, 0, 0, 0, 0, -1, 0, 1, 0, 0, 0, 20, 0, -1, 0, 1, 0, 0, 0, 20, 0, -1, 0, 1, 0, 0, 0, 20, 0, -1, 0, 1, 0, 0, 0, 20, 0, 10, 0, 1, 0, 1, 0, 20, 0, 10, 0, 1, 0, 1, 0]
def RA8 : Row := lst [35, 4, 0, 7, 0, 0, 0, 8, 1, 0, 6, 6, 6, 6, 6, 6, 6, 6, 6, 6, 0, 0, -1, 0, 1, 0, 0, 0, 0, 0, -1, 0, 1, 0, 0, 0, 0, 0, -1, 0, 1, 0, 0, 0, 20, 0, -1, 0, 1, 0, 0, 0, 20, 0, -1, 0, 1, 0, 0, 0, 20, 0, -1, 0, 1, 0, 0, 0, 20, 0, 10, 0, 1, 0, 1, 0, 20, 0, 10, 0, 1, 0, 1, 0]
def RA9 : Row := lst [35, 4, 0, 7, 0, 0, 0, 14, 1, 0, 6, 6, 6, 6, 6, 6, 6, 6, 6, 6, 0, 0, -1, 1, 1, 0, 0, 0, 0, 0, -1, 1, 1, 0, 0, 0, 0, 0, -1, 1, 1, 0, 0, 0, 20, 0, -1, 0, 1, 0, 0, 0, 20, 0, -1, 0, 1, 0, 0, 0, 20, 0, -1, 0, 1, 0, 0, 0, 20, 0, 10, 0, 1, 0, 1, 0, 20, 0, 10, 0, 1, 0, 1, 0]
def RB1 : Row := lst [45, 4, 0, 7, 0, 0, 0, 14, 1, 0, 6, 6, 6, 6, 6, 6, 6, 6, 6, 6, 0, 20, 9, 1, 1, 0, 0, 0, 0, 20, 9, 1, 1, 0, 0, 0, 0, 20, 9, 1, 1, 0, 0, 0, 20, 0, -1, 0, 1, 0, 0, 0, 20, 0, -1, 0, 1, 0, 0, 0, 20, 0, -1, 0, 1, 0, 0, 0, 20, 0, 10, 0, 1, 0, 1, 0, 20, 0, 10, 0, 1, 0, 1, 0]
def RB2 : Row := lst [46, 4, 0, 7, 0, 0, 0, 14, 4, 0, 6, 6, 6, 6, 6, 6, 6, 6, 6, 6, 0, 17, 10, 0, 1, 0, 1, 0, 0, 17, 10, 0, 1, 0, 1, 0, 0, 20, 10, 0, 1, 0, 1, 0, 20, 0, -1, 0, 1, 0, 0, 0, 20, 0, -1, 0, 1, 0, 0, 0, 20, 0, -1, 0, 1, 0, 0, 0, 20, 0, 10, 0, 1, 0, 1, 0, 20, 0, 10, 0, 1, 0, 1, 0]
def RB3 : Row := lst [47, 4, 0, 7, 0, 0, 0, 14, 4, 0, 6, 6, 6, 6, 6, 6, 6, 6, 6, 6, 0, 14, 10, 0, 1, 0, 1, 0, 0, 17, 10, 0, 1, 0, 1, 0, 0, 17, 10, 0, 1, 0, 1, 0, 20, 0, -1, 0, 1, 0, 0, 0, 20, 0, -1, 0, 1, 0, 0, 0, 20, 0, -1, 0, 1, 0, 0, 0, 20, 0, 10, 0, 1, 0, 1, 0, 20, 0, 10, 0, 1, 0, 1, 0]
theorem A_end {ex : Nat → Nat → Nat} {S : Mem} (hK : KE S RB3 7) : mL_crossingShare (fun (r48 : UInt32) (S47 : Mem) => Op.cmpValue (FP.fcmp r48 FP.fconst1) .l = 0 ∧ mL_account (fun (r51 : Int32) (S50 : Mem) => ((r51 = (4 : Int32) → (mL_restore (fun (r54 : Int32) (S53 : Mem) => ((¬ r54 = 0 → (False)) ∧ (r54 = 0 → (mL_account (fun (r57 : Int32) (S56 : Mem) => ((¬ r57 = 0 → (False)) ∧ (r57 = 0 → (mL_account (fun (r60 : Int32) (S59 : Mem) => ((¬ r60 = 0 → (False)) ∧ (r60 = 0 → (mL_undo (fun (r63 : Int32) (S62 : Mem) => ((r63 = (-1001 : Int32) → ((fun _ : Mem => True) S62)) ∧ (¬ r63 = (-1001 : Int32) → (False)))) S59)))) S56 (3 : Int32))))) S53 (0 : Int32))))) S50)) ∧ (¬ r51 = (4 : Int32) → (False)))) S47 (13 : Int32)) S := by
  refine Q_crossingShare hK.rep (fun _ => ⟨by decide +kernel, Q_acc (k := 13) hK.rep (by decide) (eqw rfl ?_)⟩)
  obtain ⟨hs, hK⟩ := hK
  refine Q_restore hK (fun e => absurd e (by simp)) (fun Q eQ S1 n1 k1 _ => ?_)
  cases eQ
  exact eqv rfl (Q_acc (k := 0) k1.1 (by decide) (eqv rfl (Q_acc (k := 3) k1.1 (by decide) (eqv rfl (Q_undo k1 (fun _ => eqw rfl trivial) (fun v e => absurd e (by omega)))))))
def souR : Nat → Row
  | 0 => RA8
  | t + 1 => setR (souR t) t
theorem so_tab : ∀ t, t < 3 → trv (souR t) t 3 = 0 ∧ trv (souR t) t 1 < 12 ∧ tollF (trv (souR t) t 0) = 2 := by decide +kernel
theorem so_3 : ∀ k, k < 84 → RA9 k = souR 3 k := by decide +kernel
theorem hr_1 : ∀ k, k < 84 → RB1 k = hoursR 7 10 RA9 k := by decide +kernel
theorem hr_2 : ∀ k, k < 84 → RB2 k = hoursR 7 1 RB1 k := by decide +kernel
theorem hr_3 : ∀ k, k < 84 → RB3 k = hoursR 7 1 RB2 k := by decide +kernel
theorem kin_9 : kinF RA9 = 3 := by decide +kernel
theorem A_426 {ex : Nat → Nat → Nat} : ∀ (m t : Nat) (S : Mem), m + t = 3 → KE S (souR t) 7 → mL_lawA_b426 ex (fun _ => True) (m + 1) S (nI t) := by
  intro m
  induction m with
  | zero =>
    intro t S ht hK
    have ht : t = 3 := by omega
    subst ht
    have k0 := hK.row so_3
    unfold mL_lawA_b426
    refine ⟨fun _ => ?_, fun g => absurd (by decide) g⟩
    unfold mL_o9
    refine Q_kinds k0.rep (eqv kin_9 (E_pass (H := 10) (by decide) (by decide) hr_1 k0 (fun S1 k1 => eqv (by decide +kernel) ?_)))
    refine Q_num (t := 0) (w := 2) k1.rep (by decide) (by decide) (eqv (by decide +kernel) (Q_num (t := 2) (w := 2) k1.rep (by decide) (by decide) (eqv (by decide +kernel) (E_pass (H := 1) (by decide) (by decide) hr_2 k1 (fun S2 k2 => eqv (by decide +kernel) ?_)))))
    refine Q_num (t := 0) (w := 2) k2.rep (by decide) (by decide) (eqv (by decide +kernel) (Q_num (t := 1) (w := 2) k2.rep (by decide) (by decide) (eqv (by decide +kernel) (Q_num (t := 2) (w := 2) k2.rep (by decide) (by decide) (eqv (by decide +kernel) ?_)))))
    refine E_setWet (t := 2) (by decide) (by decide +kernel) (by decide +kernel) k2 (eqv rfl ?_)
    rw [show trv RB2 2 1 = 20 by decide +kernel]
    refine E_is (by decide) (ne1 ?_)
    have k3 : KE (rfS S2 4 20) RB2 7 := k2.rf
    refine Q_acc (k := 15) k3.rep (by decide) (eqv (by decide +kernel) (E_pass (H := 1) (by decide) (by decide) hr_3 k3 (fun S4 k4 => eqv (by decide +kernel) ?_)))
    refine Q_num (t := 2) (w := 2) k4.rep (by decide) (by decide) (eqv (by decide +kernel) (Q_num (t := 0) (w := 2) k4.rep (by decide) (by decide) (eqv (by decide +kernel) (Q_num (t := 1) (w := 2) k4.rep (by decide) (by decide) (eqv (by decide +kernel) ?_)))))
    exact A_end (ex := ex) k4
  | succ m ih =>
    intro t S ht hK
    unfold mL_lawA_b426
    obtain ⟨e3, e1, e0⟩ := so_tab t (by omega)
    refine ⟨fun g => absurd g (nI_ge (b := 3) (by omega) (by decide)), fun _ => E_setOut (by omega) e3 e1 hK (fun S1 k1 => eqw e0 (fun x ex => ?_))⟩
    rw [ex, inc]
    exact ih (t + 1) S1 (by omega) k1
def hgR : Nat → Row
  | 0 => RA7
  | s + 1 => upd (hgR s) (10 + s) 6
theorem hg_tab : ∀ s, s < 10 → lowF (plc (hgR s)) (nI s) 7 0 = -1 ∧ hgR s (10 + s) = 10 := by decide +kernel
theorem hg_10 : ∀ k, k < 84 → souR 0 k = hgR 10 k := by decide +kernel
theorem A_398 {ex : Nat → Nat → Nat} : ∀ (m s : Nat) (S : Mem), m + s = 10 → KE S (hgR s) 7 → mL_lawA_b398 ex (fun _ => True) (m + 1) S (nI s) := by
  intro m
  induction m with
  | zero =>
    intro s S hs hK
    have hs : s = 10 := by omega
    subst hs
    unfold mL_lawA_b398
    exact ⟨fun _ => ⟨4, Nat.le_refl 4, A_426 3 0 S rfl (hK.row hg_10)⟩, fun g => absurd (by decide) g⟩
  | succ m ih =>
    intro s S hs hK
    unfold mL_lawA_b398
    obtain ⟨e1, e2⟩ := hg_tab s (by omega)
    obtain ⟨hq, hK⟩ := hK
    refine ⟨fun g => absurd g (nI_ge (b := 10) (by omega) (by decide)), fun _ => Q_height hK (fun g => absurd g (not10 (by omega))) (fun _ _ _ g => absurd g (by decide)) (fun s' hs' e _ _ g => ?_) (fun s' hs' e _ _ _ S1 k1 _ => ?_)⟩ <;> (have := (nI_eq (by omega) (by omega)).mp e; subst this)
    · exact absurd e1 g
    · refine eqw e2 (fun x ex => ?_)
      rw [ex, inc]
      exact ih (s + 1) S1 (by omega) ⟨_, k1⟩
theorem se_3 : ∀ k, k < 84 → RA3 k = setR RA2 7 k := by decide +kernel
theorem go_3 : ∀ k, k < 84 → RA3 k = upd (upd RA3 (20 + 8 * 7 + 5) 1) (20 + 8 * 7 + 5) 0 k := by decide +kernel
theorem hr_6 : ∀ k, k < 84 → RA6 k = hoursR 8 11 RA3 k := by decide +kernel
theorem le_7 : ∀ k, k < 84 → hgR 0 k = levR RA6 0 7 k := by decide +kernel
theorem cr_3 : crG RA3 7 = 11 := by decide +kernel
def arR : Nat → Row
  | 0 => RA1
  | t + 1 => arrR (arR t) t (if t < 4 then 0 else 20)
theorem ar_8 : ∀ k, k < 84 → RA2 k = arR 8 k := by decide +kernel
theorem A_162 {ex : Nat → Nat → Nat} : ∀ (m t : Nat) (S : Mem) (hs : Nat → Row), m + t = 8 → KK S (arR t) t (min 8 (t + 1)) hs (some r0) → mL_lawA_b162 ex (fun _ => True) (m + 1) S (nI t) := by
  intro m
  induction m with
  | zero =>
    intro t S hs ht hK
    have ht : t = 8 := by omega
    subst ht
    have k0 : KE S RA2 8 := KE.row ar_8 ⟨hs, hK⟩
    unfold mL_lawA_b162
    refine ⟨fun _ => Q_traveller hK (fun g => absurd g (by decide)) (fun _ _ _ => eqv rfl ?_) (fun _ _ g => absurd g (by decide)), fun g => absurd (by decide) g⟩
    refine E_is (by decide) (ne1 ?_)
    have k1 : KE (rfS S 1 (nI 8)) RA2 8 := k0.rf
    refine Q_fe (t := 0) k1.rep (by decide) (eqv (by decide +kernel) (Q_fe (t := 7) k1.rep (by decide) (eqv (by decide +kernel) ?_)))
    refine E_setOut (t := 7) (by decide) (by decide +kernel) (by decide +kernel) k1 (fun S2 k2 => eqv (by decide +kernel) ?_)
    have k2 := k2.row se_3
    refine Q_num (t := 7) (w := 8) k2.rep (by decide) (by decide) (eqv (by decide +kernel) ?_)
    refine E_stop (t := 7) (by decide) (by decide +kernel) (by decide +kernel) k2 (fun S3 k3 => eqv (by decide +kernel) ?_)
    refine E_go (t := 7) (by decide) (by decide +kernel) (by decide +kernel) k3 (fun S4 k4 => eqv (by decide +kernel) ?_)
    have k4 := k4.row go_3
    refine E_leaveNo (t := 7) (by decide) (by decide +kernel) k4 (eqv rfl ?_)
    rw [show trv RA3 7 2 = -1 by decide +kernel]
    refine E_is (by decide) (ne1 ?_)
    have k5 : KE (rfS S4 2 (-1)) RA3 8 := k4.rf
    refine E_goNo (t := 0) (by decide) (by decide +kernel) k5 (eqv rfl ?_)
    rw [show trv RA3 0 2 = -1 by decide +kernel]
    refine E_is (by decide) (ne1 ?_)
    have k6 : KE (rfS (rfS S4 2 (-1)) 3 (-1)) RA3 8 := k5.rf
    refine Q_cr (t := 7) k6.rep (by decide) (eqv cr_3 (E_pass (H := 11) (by decide) (by decide) hr_6 k6 (fun S7 k7 => eqv (by decide +kernel) ?_)))
    refine Q_num (t := 7) (w := 3) k7.rep (by decide) (by decide) (eqv (by decide +kernel) (Q_acc (k := 12) k7.rep (by decide) (eqv (by decide +kernel) ?_)))
    refine E_leave (t := 0) (n := 7) (by decide) (by decide +kernel) k7 (fun S8 k8 => eqv (by decide +kernel) ?_)
    have k8 := k8.row le_7
    refine Q_num (t := 6) (w := 3) k8.rep (by decide) (by decide) (eqv (by decide +kernel) ?_)
    refine Q_account k8.rep (fun k hk e => absurd ((nI_eq (a := 18) (by decide) (by omega)).mp e) (by omega)) (fun e => absurd e (by decide)) (fun e => absurd e (by decide)) (fun _ => ?_) (fun g => absurd g (by decide))
    have e18 : S8 4 0 2 = 8 := k8.elim (fun _ k => k.2.1.2.1)
    exact eqw e18 ⟨11, Nat.le_refl 11, A_398 10 0 S8 rfl k8⟩
  | succ m ih =>
    intro t S hs ht hK
    unfold mL_lawA_b162
    have nx : ∀ (S1 : Mem) (hs1 : Nat → Row) (x : Int32), x = nI t + 1 → KK S1 (arR (t + 1)) (t + 1) (min 8 (min 8 (t + 1) + 1)) hs1 (some r0) → mL_lawA_b162 ex (fun _ => True) (m + 1) S1 x := fun S1 hs1 x ex k1 => by
      rw [ex, inc]
      refine ih (t + 1) S1 hs1 (by omega) ?_
      rw [show min 8 (t + 1 + 1) = min 8 (min 8 (t + 1) + 1) by omega]
      exact k1
    refine ⟨fun g => absurd g (nI_ge (b := 8) (by omega) (by decide)), fun _ => ⟨fun g => ?_, fun g => ?_⟩⟩
    · unfold mL_lawA_b180
      refine Q_traveller hK (fun g => absurd g (by decide)) (fun _ _ e => absurd e (by omega)) (fun _ _ _ S1 k1 _ => eqw rfl (fun x ex => nx S1 (newH hs (arR t) (min 8 (t + 1))) x ex ?_))
      have e : arR (t + 1) = arrR (arR t) t 20 := by
        show arrR (arR t) t (if t < 4 then 0 else 20) = _
        rw [if_neg (fun z => absurd g (nI_ge (b := 4) z (by decide)))]
      rw [e]
      exact k1
    · unfold mL_lawA_b180
      refine Q_traveller hK (fun g => absurd g (by decide)) (fun _ _ e => absurd e (by omega)) (fun _ _ _ S1 k1 _ => eqw rfl (fun x ex => nx S1 (newH hs (arR t) (min 8 (t + 1))) x ex ?_))
      have e : arR (t + 1) = arrR (arR t) t 0 := by
        show arrR (arR t) t (if t < 4 then 0 else 20) = _
        rw [if_pos (Decidable.byContradiction (fun z => g (nI_le (a := 4) (by omega) (by omega))))]
      rw [e]
      exact k1
abbrev tT (i : Nat) : Int32 := nI (300 + i)
theorem ty_tab : ∀ k, k < 60 → (((300 : Int32) + nI k).toUInt32 % 65536).toInt32 = tT k ∧ isC (tT k) := by unfold isC; decide +kernel
theorem tT_ask {R : Row} : askP tT 60 R = (0, none) := ask_bad (by decide +kernel) (by decide +kernel) (by decide +kernel)
theorem A_90 {ex : Nat → Nat → Nat} {Sb : Mem} {hs : Nat → Row} (hK : KK Sb RA1 0 1 hs (some r0)) : ∀ (m k : Nat) (S : Mem), m + k = 60 → (∀ c, c ≠ 6 → c ≠ 7 → S c = Sb c) → S 6 0 1 = nI k → (∀ i, i < k → S 7 0 i = tT i) → mL_lawA_b90 ex (fun _ => True) (m + 1) S (nI k) := by
  intro m
  induction m with
  | zero =>
    intro k S hk hc h6 h7
    have hk : k = 60 := by omega
    subst hk
    have k0 : KK S RA1 0 1 hs (some r0) := hK.frame (hc 0 (by decide) (by decide)) (hc 1 (by decide) (by decide)) (hc 2 (by decide) (by decide)) (hc 4 (by decide) (by decide)) (by rw [hc 3 (by decide) (by decide)])
    unfold mL_lawA_b90
    refine ⟨fun _ => Q_type (k := 60) (by decide) h6 (by unfold isC; decide) (fun _ => eqv rfl ?_) (fun g => absurd g (by decide)), fun g => absurd (by decide) g⟩
    refine Q_ask (T := tT) (L := 60) (by decide) h6 h7 k0.1 (fun _ S1 b1 b2 b3 b4 => eqv rfl ?_) (fun x hx => ?_)
    · rw [tT_ask] at b3
      refine Q_errorAt b3 (eqv rfl ?_)
      have k1 : KK S1 RA1 0 1 hs (some r0) := k0.frame (b1 0 (by decide) (by decide)) (b1 1 (by decide) (by decide)) (b1 2 (by decide) (by decide)) (b1 4 (by decide) (by decide)) (b2 3 (by decide))
      refine Q_account k1.1 (fun k hk e => absurd ((nI_eq (a := 17) (by decide) (by omega)).mp e) (by omega)) (fun e => absurd e (by decide)) (fun _ => ?_) (fun e => absurd e (by decide)) (fun g => absurd g (by decide))
      exact eqw b4 ⟨9, Nat.le_refl 9, A_162 8 0 S1 hs rfl k1⟩
    · rw [tT_ask] at hx
      exact absurd hx (by simp [outP])
  | succ m ih =>
    intro k S hk hc h6 h7
    unfold mL_lawA_b90
    obtain ⟨e1, e2⟩ := ty_tab k (by omega)
    rw [e1]
    refine ⟨fun g => absurd g (nI_ge (b := 60) (by omega) (by decide)), fun _ => Q_type (k := k) (by omega) h6 e2 (fun e => absurd e (by omega)) (fun _ S1 c1 c2 c3 c4 => eqw (inc k).symm (fun x ex => ?_))⟩
    rw [ex, inc]
    refine ih (k + 1) S1 (by omega) (fun c z6 z7 => (c1 c z6 z7).trans (hc c z6 z7)) c2 (fun i hi => ?_)
    by_cases hik : i = k
    · subst hik
      exact c4
    · rw [c3 i (by omega)]
      exact h7 i (by omega)
theorem hr_A : ∀ k, k < 84 → RA1 k = hoursR 0 24 r0 k := by decide +kernel
theorem law_A {ex : Nat → Nat → Nat} {f : Nat → Nat → Int32} (hf : ∀ j k, j < 10 → k < 10 → f j k = 10) : mL_lawA ex (fun _ => True) (S0 f) := by
  have k0 := start_kk hf
  have t0 : Tg (S0 f) := start_tg
  unfold mL_lawA
  refine Q_undo k0 (fun _ => eqv rfl (Q_restore k0 (fun _ => eqv rfl (Q_save k0 (fun S1 k1 c1 _ => eqv rfl ?_))) (fun Q e => absurd e (by simp)))) (fun v e => absurd e (by omega))
  refine Q_pass k1 (fun g => absurd g (by decide)) (fun H _ hH e S2 k2 c2 => ?_)
  have hH24 : H = 24 := ((nI_eq (a := 24) (by decide) (by omega)).mp e).symm
  subst hH24
  have e8 : hoursR 0 24 r0 8 - r0 8 = 0 := by rw [← hr_A 8 (by decide)]; decide +kernel
  refine eqv e8 ?_
  have k2 : KK S2 RA1 0 1 _ (some r0) := k2.row hr_A
  refine Q_acc (k := 0) k2.1 (by decide) (eqv (by decide +kernel) (Q_acc (k := 1) k2.1 (by decide) (eqv (by decide +kernel) (X5_under_s k2.1 (eqv (by decide +kernel) (Q_clearIn k2.1 (eqv (by decide +kernel) (Q_kinds k2.1 (eqw (by decide +kernel) ?_)))))))))
  refine ⟨61, Nat.le_refl 61, A_90 k2 60 0 S2 rfl (fun _ _ _ => rfl) ?_ (fun i hi => absurd hi (by omega))⟩
  rw [c2 6 (by decide) (by decide) (by decide) (by decide), c1 6 (by decide) (by decide) (by decide) (by decide)]
  exact t0.1
