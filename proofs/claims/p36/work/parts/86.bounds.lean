/-! p36: bounds that a change keeps; a change of the script -/
def Bnd (R : Row) (n B : Nat) : Prop := (∃ b, b ≤ B ∧ R 4 = nI b) ∧ ∀ t, t < n → (∃ a, a ≤ 12 ∧ trv R t 7 = nI a) ∧ (∃ a, a ≤ B ∧ trv R t 6 = nI a)
theorem Bnd.mono {R : Row} {n B B' : Nat} (h : Bnd R n B) (hB : B ≤ B') : Bnd R n B' := by
  obtain ⟨⟨b, hb, e⟩, h2⟩ := h
  refine ⟨⟨b, by omega, e⟩, fun t ht => ⟨(h2 t ht).1, ?_⟩⟩
  obtain ⟨a, ha, e⟩ := (h2 t ht).2
  exact ⟨a, by omega, e⟩
theorem Bnd.cg {R R' : Row} {n B : Nat} (h4 : R' 4 = R 4) (h7 : ∀ t, t < n → trv R' t 7 = trv R t 7) (h6 : ∀ t, t < n → trv R' t 6 = trv R t 6) (h : Bnd R n B) : Bnd R' n B :=
  ⟨by rw [h4]; exact h.1, fun t ht => by rw [h7 t ht, h6 t ht]; exact h.2 t ht⟩
theorem Bnd.step {R R' : Row} {n t B : Nat} (h : Bnd R n B) (o : OneT R R' t) (h4 : R' 4 = R 4 ∨ R' 4 = R 4 + trv R t 7) (h7 : trv R' t 7 = 0 ∨ trv R' t 7 = trv R t 7) (h6 : trv R' t 6 = trv R t 6 ∨ trv R' t 6 = trv R t 6 + 1) (ht : t < n) : Bnd R' n (B + 12) := by
  obtain ⟨⟨b, hb, e⟩, h2⟩ := h
  obtain ⟨⟨m, hm, em⟩, ⟨c, hc, ec⟩⟩ := h2 t ht
  refine ⟨?_, fun i hi => ?_⟩
  · rcases h4 with q | q
    · exact ⟨b, by omega, q.trans e⟩
    · exact ⟨b + m, by omega, by rw [q, e, em, nI_add]⟩
  · by_cases hit : i = t
    · subst hit
      refine ⟨?_, ?_⟩
      · rcases h7 with q | q
        · exact ⟨0, by omega, q⟩
        · exact ⟨m, hm, q.trans em⟩
      · rcases h6 with q | q
        · exact ⟨c, by omega, q.trans ec⟩
        · exact ⟨c + 1, by omega, by rw [q, ec, inc]⟩
    · have q := fun f (hf : f < 8) => (o.same hit).2 f hf
      obtain ⟨⟨m', hm', em'⟩, ⟨c', hc', ec'⟩⟩ := h2 i hi
      exact ⟨⟨m', hm', (q 7 (by decide)).trans em'⟩, ⟨c', by omega, (q 6 (by decide)).trans ec'⟩⟩
theorem backR_b {R : Row} {t : Nat} : (backR R t 4 = R 4 ∨ backR R t 4 = R 4 + trv R t 7) ∧ (trv (backR R t) t 7 = 0 ∨ trv (backR R t) t 7 = trv R t 7) ∧ trv (backR R t) t 6 = trv R t 6 := by
  unfold backR
  split
  · unfold goneR
    split
    · refine ⟨?_, Or.inl (by rw [bankR_f, if_pos rfl]), by rw [bankR_f, if_neg (by decide), if_neg (by decide), if_neg (by decide), if_neg (by decide), goneA_f, if_neg (by decide)]⟩
      rw [bankR_s (by decide)]
      split
      · exact Or.inr (by rw [if_pos rfl, goneA_s (by decide), if_neg (by decide), goneA_f, if_neg (by decide)])
      · exact Or.inl (by rw [if_neg (by decide), goneA_s (by decide), if_neg (by decide)])
    · exact ⟨Or.inl (by rw [updT (by decide), goneA_s (by decide), if_neg (by decide)]), Or.inr (by rw [trv_upd, if_neg (by decide), goneA_f, if_neg (by decide)]), by rw [trv_upd, if_neg (by decide), goneA_f, if_neg (by decide)]⟩
  · exact ⟨Or.inl rfl, Or.inr rfl, rfl⟩
theorem onR_b {R : Row} {t : Nat} : (onR R t 4 = R 4 ∨ onR R t 4 = R 4 + trv R t 7) ∧ (trv (onR R t) t 7 = 0 ∨ trv (onR R t) t 7 = trv R t 7) ∧ (trv (onR R t) t 6 = trv R t 6 ∨ trv (onR R t) t 6 = trv R t 6 + 1) := by
  unfold onR
  split
  · split
    · refine ⟨?_, Or.inl (by rw [bankR_f, if_pos rfl]), Or.inr (by rw [bankR_f, if_neg (by decide), if_neg (by decide), if_neg (by decide), if_neg (by decide), overA_f, if_pos rfl])⟩
      rw [bankR_s (by decide)]
      split
      · exact Or.inr (by rw [if_pos rfl, overA_s (by decide), if_neg (by decide), overA_f, if_neg (by decide)])
      · exact Or.inl (by rw [if_neg (by decide), overA_s (by decide), if_neg (by decide)])
    · exact ⟨Or.inl (updT (by decide)), Or.inr (by rw [trv_upd, if_neg (by decide)]), Or.inl (by rw [trv_upd, if_neg (by decide)])⟩
  · exact ⟨Or.inl rfl, Or.inr rfl, Or.inl rfl⟩
theorem foldT_b {step : Row → Nat → Row} {n : Nat} (h : ∀ R t B, t < n → Bnd R n B → Bnd (step R t) n (B + 12)) : ∀ (m t : Nat) (R : Row) (B : Nat), t + m = n → Bnd R n B → Bnd (foldT step m t R) n (B + 12 * m) := by
  intro m
  induction m with
  | zero => intro t R B _ hb; exact hb
  | succ m ih =>
    intro t R B ht hb
    rw [foldT_s]
    exact (ih (t + 1) _ (B + 12) (by omega) (h R t B (by omega) hb)).mono (by omega)
theorem hourR_b {R : Row} {n B : Nat} (hn : n ≤ 8) (h : Bnd R n B) : Bnd (hourR R n) n (B + 192) := by
  have hA : Bnd (hourA R) n B := h.cg (upd_ne (by decide)) (fun t _ => trv_updS (by decide)) (fun t _ => trv_updS (by decide))
  have hBk : Bnd (hourB R n) n (B + 12 * n) := foldT_b (fun R t B ht hb => hb.step backR_o backR_b.1 backR_b.2.1 (Or.inl backR_b.2.2) ht) n 0 (hourA R) B (by omega) hA
  have hOn := foldT_b (fun R t B ht hb => hb.step onR_o onR_b.1 onR_b.2.1 onR_b.2.2 ht) n 0 (hourB R n) _ (by omega) hBk
  refine (Bnd.cg (R' := hourR R n) (rest_n (by omega) (by decide)) (fun t _ => (show hourR R n (20 + 8 * t + 7) = foldT onR n 0 (hourB R n) (20 + 8 * t + 7) from rest_n (by omega) (by omega))) (fun t _ => (show hourR R n (20 + 8 * t + 6) = foldT onR n 0 (hourB R n) (20 + 8 * t + 6) from rest_n (by omega) (by omega))) hOn).mono (by omega)
theorem foldC_b : ∀ (m t : Nat) (R : Row) (c : Nat), ∃ k, k ≤ c + m ∧ foldC m t R (nI c) = nI k := by
  intro m
  induction m with
  | zero => intro t R c; exact ⟨c, by omega, rfl⟩
  | succ m ih =>
    intro t R c
    rw [foldC_s]
    split
    · obtain ⟨k, hk, e⟩ := ih (t + 1) (onR R t) c
      exact ⟨k, by omega, e⟩
    · rw [inc]
      obtain ⟨k, hk, e⟩ := ih (t + 1) (onR R t) (c + 1)
      exact ⟨k, by omega, e⟩
theorem hoursR_b {n : Nat} (hn : n ≤ 8) : ∀ (m : Nat) (R : Row) (B : Nat), Bnd R n B → Bnd (hoursR n m R) n (B + 192 * m) ∧ ∃ k, k ≤ 8 * m ∧ hoursR n m R 8 = R 8 + nI k := by
  intro m
  induction m with
  | zero => intro R B h; exact ⟨h, 0, by omega, (Int32.add_zero _).symm⟩
  | succ m ih =>
    intro R B h
    obtain ⟨h1, k, hk, e⟩ := ih (hourR R n) (B + 192) (hourR_b hn h)
    obtain ⟨c, hc, ec⟩ := foldC_b n 0 (hourB R n) 0
    refine ⟨h1.mono (by omega), c + k, by omega, ?_⟩
    show hoursR n m (hourR R n) 8 = _
    have ec : hourC R n = nI c := ec
    rw [e, hourR_8, ec, Int32.add_assoc, nI_add]
theorem pass_b {n m : Nat} {R : Row} {B : Nat} (hn : n ≤ 8) (hm : m ≤ 24) (h : Bnd R n B) : Bnd (hoursR n m R) n (B + 4800) ∧ ∃ k, k ≤ 192 ∧ hoursR n m R 8 - R 8 = nI k := by
  obtain ⟨h1, k, hk, e⟩ := hoursR_b hn m R B h
  refine ⟨h1.mono (by omega), k, by omega, ?_⟩
  rw [e, Int32.add_comm, Int32.add_sub_cancel]
theorem arr_b {R : Row} {n B : Nat} {x : Int32} (h : Bnd R n B) : Bnd (arrR R n x) (n + 1) B := by
  refine ⟨by rw [arrR_o (by decide) (by omega)]; exact h.1, fun t ht => ?_⟩
  by_cases e : t = n
  · subst e
    rw [arrR_n (by decide), arrR_n (by decide)]
    exact ⟨⟨0, by omega, rfl⟩, ⟨0, by omega, rfl⟩⟩
  · have q : ∀ f, f < 8 → trv (arrR R n x) t f = trv R t f := fun f hf => arrR_o (by omega) (by omega)
    rw [q 7 (by decide), q 6 (by decide)]
    exact h.2 t (by omega)
theorem lev_b {R : Row} {t k B : Nat} (h : Bnd R (k + 1) B) : Bnd (levR R t k) k B := by
  refine ⟨?_, fun i hi => ?_⟩
  · have e : levR R t k 4 = R 4 := by unfold levR; rw [if_neg (by omega), if_neg (by decide)]
    rw [e]
    exact h.1
  · by_cases g : t ≤ i
    · have q : ∀ f, f < 8 → trv (levR R t k) i f = trv R (i + 1) f := fun f hf => by
        show levR R t k (20 + 8 * i + f) = R (20 + 8 * (i + 1) + f)
        unfold levR
        rw [if_pos (by omega)]
        congr 1
        omega
      rw [q 7 (by decide), q 6 (by decide)]
      exact h.2 (i + 1) (by omega)
    · have q : ∀ f, f < 8 → trv (levR R t k) i f = trv R i f := fun f hf => by
        show levR R t k (20 + 8 * i + f) = R (20 + 8 * i + f)
        unfold levR
        rw [if_neg (by omega), if_neg (by omega)]
      rw [q 7 (by decide), q 6 (by decide)]
      exact h.2 i (by omega)
theorem load_tab : ∀ a, a < 21 → kindF (nI a) = 0 → a ≤ 3 ∧ 12 - 3 * nI a = nI (12 - 3 * a) := by decide +kernel
theorem toll_tab : ∀ a, a < 21 → ∃ c, c < 20 ∧ tollF (nI a) = nI c := by decide +kernel
theorem take_b {R : Row} {n t B : Nat} (h : Bnd R n B) (hB : B < 2000000) (w : WFT (trv R t)) (hk : kindF (trv R t 0) = 0) : ∃ x b, x ≤ 12 ∧ b ≤ B ∧ takeX R t = nI x ∧ R 4 - takeX R t = nI b := by
  obtain ⟨⟨b, hb, e⟩, _⟩ := h
  obtain ⟨a, ha, ea⟩ := w.1
  rw [ea] at hk
  obtain ⟨ha3, e2⟩ := load_tab a (by omega) hk
  have sub : ∀ x, x ≤ b → nI b - nI x = nI (b - x) := fun x hx => by
    have q : nI b = nI (b - x) + nI x := by rw [nI_add]; congr 1; omega
    rw [q, Int32.add_sub_cancel]
  unfold takeX
  rw [ea, e2, e]
  split
  · next g =>
    have := (nI_ltI (by omega) (by omega)).mp g
    exact ⟨b, b - b, by omega, by omega, rfl, sub b (by omega)⟩
  · next g =>
    have g2 : ¬ b < 12 - 3 * a := fun z => g (nI_lt z (by omega))
    exact ⟨12 - 3 * a, b - (12 - 3 * a), by omega, by omega, rfl, sub _ (by omega)⟩
theorem set_b {R : Row} {n t B : Nat} (h : Bnd R n B) (hB : B < 2000000) (w : WFT (trv R t)) : Bnd (setR R t) n B := by
  have o : ∀ i f, f < 8 → f ≠ 3 → f ≠ 4 → f ≠ 5 → trv (outR R t) i f = trv R i f := fun i f hf a b c => outR_o (by omega) (by omega) (by omega)
  have o4 : outR R t 4 = R 4 := outR_o (by omega) (by omega) (by omega)
  unfold setR
  split
  · next g =>
    obtain ⟨x, b, hx, hb, ex, eb⟩ := take_b h hB w g.1
    refine ⟨⟨b, hb, ?_⟩, fun i hi => ?_⟩
    · rw [updS, if_neg (by decide), updS, if_pos rfl]
      exact eb
    · have z : ∀ (X : Row) (a b : Int32) (i f : Nat), trv (upd (upd X 4 a) 7 b) i f = trv X i f := fun X a b i f => (trv_updS (by decide)).trans (trv_updS (by decide))
      rw [z, z]
      by_cases hit : i = t
      · subst hit
        rw [trv_upd, if_pos rfl, trv_upd, if_neg (by decide), o i 6 (by decide) (by decide) (by decide) (by decide)]
        exact ⟨⟨x, hx, ex⟩, (h.2 i hi).2⟩
      · have q : ∀ f, f < 8 → trv (upd (outR R t) (20 + 8 * t + 7) (takeX R t)) i f = trv (outR R t) i f := fun f hf => upd_ne (by omega)
        rw [q 7 (by decide), q 6 (by decide), o i 7 (by decide) (by decide) (by decide) (by decide), o i 6 (by decide) (by decide) (by decide) (by decide)]
        exact h.2 i hi
  · refine ⟨?_, fun i hi => ?_⟩
    · rw [updS, if_neg (by decide), o4]
      exact h.1
    · rw [show trv (upd (outR R t) 7 (R 7 + tollF (trv R t 0))) i 7 = trv (outR R t) i 7 from trv_updS (by decide), show trv (upd (outR R t) 7 (R 7 + tollF (trv R t 0))) i 6 = trv (outR R t) i 6 from trv_updS (by decide), o i 7 (by decide) (by decide) (by decide) (by decide), o i 6 (by decide) (by decide) (by decide) (by decide)]
      exact h.2 i hi
/-- Java's remainder, made one of 0 … m-1 -/
theorem nI_int {m : Nat} (h : m < 2 ^ 31) : (nI m).toInt = m := Int32.toInt_ofNat_of_lt h
theorem some_int {v : Int32} {m : Nat} (hm : 0 < m) (hm2 : m < 1000) : (v - v / nI m * nI m).toInt = v.toInt.tmod m ∧ (v.toInt.tmod m).natAbs < m := by
  have em : (nI m).toInt = m := nI_int (by omega)
  have hv1 := Int32.le_toInt v
  have hv2 := Int32.toInt_lt v
  have d0 := Int.mul_tdiv_add_tmod v.toInt m
  have d1 : (v.toInt.tdiv m).natAbs ≤ v.toInt.natAbs := Int.natAbs_tdiv_le_natAbs _ _
  have d2 : (v.toInt.tmod m).natAbs < m := by
    rw [Int.natAbs_tmod]
    exact Nat.mod_lt _ hm
  have d3 : 0 ≤ v.toInt → 0 ≤ v.toInt.tmod m := fun g => Int.tmod_nonneg _ g
  have d4 : v.toInt ≤ 0 → v.toInt.tmod m ≤ 0 := fun g => by
    have := Int.tmod_nonneg (a := - v.toInt) (m : Int) (by omega)
    rw [Int.neg_tmod] at this
    omega
  have d5 : v.toInt ≤ 0 → v.toInt.tdiv m ≤ 0 := fun g => by
    have := Int.tdiv_nonneg (a := - v.toInt) (b := (m : Int)) (by omega) (by omega)
    rw [Int.neg_tdiv] at this
    omega
  generalize v.toInt.tmod m = r at d0 d2 d3 d4 ⊢
  refine ⟨?_, d2⟩
  have e1 : (v / nI m).toInt = v.toInt.tdiv m := by
    rw [Int32.toInt_div, em]
    exact Int.bmod_eq_of_le (by omega) (by omega)
  have e0 : v.toInt.tdiv m * m = v.toInt - r := by rw [Int.mul_comm]; omega
  have e2 : (v / nI m * nI m).toInt = v.toInt - r := by
    rw [Int32.toInt_mul, e1, em, e0]
    exact Int.bmod_eq_of_le (by omega) (by omega)
  rw [Int32.toInt_sub, e2]
  rw [show v.toInt - (v.toInt - r) = r by omega]
  exact Int.bmod_eq_of_le (by omega) (by omega)
theorem nI_made {x : Int32} {m : Nat} (hm2 : m < 1000) (h0 : 0 ≤ x.toInt) (h1 : x.toInt < m) : ∃ r, r < m ∧ x = nI r := by
  refine ⟨x.toInt.toNat, by omega, ?_⟩
  apply Int32.toInt_inj.mp
  rw [nI_int (by omega)]
  omega
theorem Q_some {post : Int32 → Mem → Prop} {S : Mem} {v : Int32} {m : Nat} (hm : 0 < m) (hm2 : m < 1000) (h : ∀ r, r < m → post (nI r) S) : mL_some post S v (nI m) := by
  have em : (nI m).toInt = m := nI_int (by omega)
  obtain ⟨s1, s2⟩ := some_int (v := v) hm hm2
  unfold mL_some
  refine ⟨fun g => ?_, fun x ex => ?_⟩
  · have := congrArg Int32.toInt g
    rw [em] at this
    have z : (0 : Int32).toInt = 0 := rfl
    omega
  rw [← ex] at s1
  refine ⟨fun g => ?_, fun g => ?_⟩
  · rw [Int32.le_iff_toInt_le] at g
    have z : (0 : Int32).toInt = 0 := rfl
    obtain ⟨r, hr, e⟩ := nI_made (x := x) (m := m) hm2 (by omega) (by omega)
    rw [e]
    exact h r hr
  · rw [Int32.le_iff_toInt_le] at g
    have z : (0 : Int32).toInt = 0 := rfl
    have e5 : (x + nI m).toInt = x.toInt + m := by
      rw [Int32.toInt_add, em]
      exact Int.bmod_eq_of_le (by omega) (by omega)
    obtain ⟨r, hr, e⟩ := nI_made (x := x + nI m) (m := m) hm2 (by omega) (by omega)
    rw [e]
    exact h r hr
/-- a change is made, or refused -/
def C0 (post : Int32 → Mem → Prop) : Int32 → Mem → Prop := fun r S => (r < 0 → post 0 S) ∧ (¬ r < 0 → post 1 S)
def Cm (post : Int32 → Mem → Prop) : Int32 → Mem → Prop := fun r S => (r < -1 → post 0 S) ∧ (¬ r < -1 → post 1 S)
def Outs (post : Int32 → Mem → Prop) (R : Row) (n u B : Nat) (hs : Nat → Row) (sn : Option Row) : Prop :=
  (∀ S' : Mem, KK S' R n u hs sn → post 0 S') ∧ ∀ (S' : Mem) (R' : Row) (n' : Nat), KK S' R' n' (min 8 (u + 1)) (newH hs R u) sn → Bnd R' n' (B + 4800) → post 1 S'
theorem c0_no {post : Int32 → Mem → Prop} {S : Mem} {r : Int32} (hr : r < 0) (h : post 0 S) : C0 post r S := ⟨fun _ => h, fun g => absurd hr g⟩
theorem c0_yes {post : Int32 → Mem → Prop} {S : Mem} {a : Nat} {r : Int32} (e : r = nI a) (ha : a < 2 ^ 31) (h : post 1 S) : C0 post r S := by
  subst e
  exact ⟨fun g => absurd g (nI_pos ha), fun _ => h⟩
theorem cm_no {post : Int32 → Mem → Prop} {S : Mem} {r : Int32} (hr : r < -1) (h : post 0 S) : Cm post r S := ⟨fun _ => h, fun g => absurd hr g⟩
theorem cm_yes {post : Int32 → Mem → Prop} {S : Mem} {r : Int32} (e : r = -1 ∨ r = 10 ∨ ∃ a, a < 10 ∧ r = nI a) (h : post 1 S) : Cm post r S := by
  refine ⟨fun g => absurd g ?_, fun _ => h⟩
  rcases e with e | e | ⟨a, ha, e⟩
  · rw [e]; decide
  · rw [e]; decide
  · rw [e]
    intro g
    exact nI_pos (n := a) (by omega) (Int32.lt_trans g (by decide))
theorem ch_height {post : Int32 → Mem → Prop} {S : Mem} {R : Row} {n u B : Nat} {hs : Nat → Row} {sn : Option Row} {v1 v2 : Int32} (hK : KK S R n u hs sn) (hb : Bnd R n B) (o : Outs post R n u B hs sn) : mL_height (C0 post) S v1 v2 := by
  refine Q_height hK (fun _ => c0_no (by decide) (o.1 S hK)) (fun _ _ _ _ => c0_no (by decide) (o.1 S hK)) (fun _ _ _ _ _ _ => c0_no (by decide) (o.1 _ hK.rf)) (fun s hs' e g1 g2 g3 S' k' c' => ?_)
  obtain ⟨a, _, ha, ea⟩ := hK.1.1.2.2.2.2.1 s hs'
  exact c0_yes ea (by omega) (o.2 S' _ n k' ((hb.cg (upd_ne (by omega)) (fun t _ => upd_ne (by omega)) (fun t _ => upd_ne (by omega))).mono (by omega)))
theorem ch_rain {post : Int32 → Mem → Prop} {S : Mem} {R : Row} {n u B : Nat} {hs : Nat → Row} {sn : Option Row} {v : Int32} (hK : KK S R n u hs sn) (hb : Bnd R n B) (o : Outs post R n u B hs sn) : mL_rain (C0 post) S v := by
  refine Q_rain hK (fun _ => c0_no (by decide) (o.1 S hK)) (fun _ _ S' k' c' => ?_)
  obtain ⟨a, ha, ea⟩ := hK.1.1.2.2.2.1
  exact c0_yes ea (by omega) (o.2 S' _ n k' ((hb.cg (upd_ne (by decide)) (fun t _ => upd_ne (by omega)) (fun t _ => upd_ne (by omega))).mono (by omega)))
theorem let_b {R : Row} {n B : Nat} {v : Int32} (hb : Bnd R n B) (g1 : ¬ v < 1) (g2 : ¬ 50 < v) : ∃ x, x ≤ B + 50 ∧ R 4 + v = nI x ∧ 0 < x ∧ Bnd (upd (upd R 4 (R 4 + v)) 6 (R 6 + v)) n (B + 50) := by
  obtain ⟨b, hb1, e⟩ := hb.1
  obtain ⟨w, hw, rfl⟩ := range9 (n := 50) (by decide) (fun g => g1 (Int32.lt_trans g (by decide))) g2
  have hw1 : 0 < w := by
    rcases Nat.eq_zero_or_pos w with q | q
    · subst q; exact absurd (show (0 : Int32) < 1 by decide) g1
    · exact q
  have e2 : R 4 + nI w = nI (b + w) := by rw [e, nI_add]
  refine ⟨b + w, by omega, e2, by omega, ⟨b + w, by omega, ?_⟩, fun t ht => ?_⟩
  · rw [updS, if_neg (by decide), updS, if_pos rfl, e2]
  · have z : ∀ f, trv (upd (upd R 4 (R 4 + nI w)) 6 (R 6 + nI w)) t f = trv R t f := fun f => (trv_updS (by decide)).trans (trv_updS (by decide))
    rw [z, z]
    exact ((hb.mono (show B ≤ B + 50 by omega)).2 t ht)
theorem ch_letters {post : Int32 → Mem → Prop} {S : Mem} {R : Row} {n u B : Nat} {hs : Nat → Row} {sn : Option Row} {v : Int32} (hK : KK S R n u hs sn) (hb : Bnd R n B) (hB : B < 1000000) (o : Outs post R n u B hs sn) : mL_letters (C0 post) S v := by
  refine Q_letters hK (fun _ => c0_no (by decide) (o.1 S hK)) (fun _ _ _ => c0_no (by decide) (o.1 _ hK.rf)) (fun g1 g2 _ S' k' c' => ?_)
  obtain ⟨x, hx, ex, _, hb'⟩ := let_b hb g1 g2
  exact c0_yes ex (by omega) (o.2 S' _ n k' (hb'.mono (by omega)))
theorem ch_traveller {post : Int32 → Mem → Prop} {S : Mem} {R : Row} {n u B : Nat} {hs : Nat → Row} {sn : Option Row} {v : Int32} (hK : KK S R n u hs sn) (hb : Bnd R n B) (o : Outs post R n u B hs sn) : mL_traveller (C0 post) S v :=
  Q_traveller hK (fun _ => c0_no (by decide) (o.1 S hK)) (fun _ _ _ => c0_no (by decide) (o.1 _ hK.rf)) (fun _ _ hn S' k' _ => c0_yes rfl (by omega) (o.2 S' _ (n + 1) k' ((arr_b hb).mono (by omega))))
theorem ch_leave {post : Int32 → Mem → Prop} {S : Mem} {R : Row} {n u B : Nat} {hs : Nat → Row} {sn : Option Row} {v : Int32} (hK : KK S R n u hs sn) (hb : Bnd R n B) (hB : B < 1000000) (o : Outs post R n u B hs sn) : mL_leave (C0 post) S v := by
  refine Q_leave hK (fun _ => c0_no (by decide) (o.1 S hK)) (fun _ _ _ _ => c0_no (by decide) (o.1 _ hK.rf)) (fun t k hn ht _ _ S' k' _ => ?_)
  subst hn
  obtain ⟨a, ha, ea⟩ := (hb.2 t ht).2
  exact c0_yes ea (by omega) (o.2 S' _ k k' ((lev_b hb).mono (by omega)))
theorem ch_setOut {post : Int32 → Mem → Prop} {S : Mem} {R : Row} {n u B : Nat} {hs : Nat → Row} {sn : Option Row} {v : Int32} (hK : KK S R n u hs sn) (hb : Bnd R n B) (hB : B < 1000000) (o : Outs post R n u B hs sn) : mL_setOut (C0 post) S v := by
  refine Q_setOut hK (fun _ => c0_no (by decide) (o.1 S hK)) (fun _ _ _ _ => c0_no (by decide) (o.1 _ hK.rf)) (fun _ _ _ _ _ => c0_no (by decide) (o.1 _ hK.rf)) (fun t ht _ _ _ S' k' _ => ?_)
  have wt := hK.1.1.t ht
  obtain ⟨a, ha, ea⟩ := wt.1
  obtain ⟨c, hc, ec⟩ := toll_tab a (by omega)
  exact c0_yes (by rw [ea]; exact ec) (by omega) (o.2 S' _ n k' ((set_b hb (by omega) wt).mono (by omega)))
theorem ch_halt {R : Row} {n B t : Nat} {b : Int32} (hb : Bnd R n B) : Bnd (upd R (20 + 8 * t + 5) b) n (B + 4800) :=
  (hb.cg (upd_ne (by omega)) (fun i _ => upd_ne (by omega)) (fun i _ => upd_ne (by omega))).mono (by omega)
theorem ch_stop {post : Int32 → Mem → Prop} {S : Mem} {R : Row} {n u B : Nat} {hs : Nat → Row} {sn : Option Row} {v : Int32} (hK : KK S R n u hs sn) (hb : Bnd R n B) (o : Outs post R n u B hs sn) : mL_stop (Cm post) S v ∧ mL_go (Cm post) S v :=
  ⟨Q_stop hK (fun _ => cm_no (by decide) (o.1 S hK)) (fun _ _ _ _ => cm_no (by decide) (o.1 _ hK.rf)) (fun _ _ _ _ _ => cm_no (by decide) (o.1 _ hK.rf)) (fun t ht _ _ _ S' k' _ => cm_yes (hK.1.1.t ht).2.2.1 (o.2 S' _ n k' (ch_halt hb))),
   Q_go hK (fun _ => cm_no (by decide) (o.1 S hK)) (fun _ _ _ _ => cm_no (by decide) (o.1 _ hK.rf)) (fun _ _ _ _ _ => cm_no (by decide) (o.1 _ hK.rf)) (fun t ht _ _ _ S' k' _ => cm_yes (hK.1.1.t ht).2.2.1 (o.2 S' _ n k' (ch_halt hb)))⟩
theorem ch_pass {post : Int32 → Mem → Prop} {S : Mem} {R : Row} {n u B : Nat} {hs : Nat → Row} {sn : Option Row} {v : Int32} (hK : KK S R n u hs sn) (hb : Bnd R n B) (o : Outs post R n u B hs sn) : mL_pass (C0 post) S v := by
  refine Q_pass hK (fun _ => c0_no (by decide) (o.1 S hK)) (fun H _ hH _ S' k' _ => ?_)
  obtain ⟨hb', k, hk, e⟩ := pass_b hK.1.1.1 hH hb
  exact c0_yes e (by omega) (o.2 S' _ n k' hb')
theorem Q_changes {post : Int32 → Mem → Prop} {S : Mem} {R : Row} {n u B : Nat} {hs : Nat → Row} {sn : Option Row} {v : Int32} (hK : KK S R n u hs sn) (hb : Bnd R n B) (hB : B < 1000000) (o : Outs post R n u B hs sn) : mL_changes post S v := by
  have hn := hK.1.1.1
  unfold mL_changes
  refine Q_acc (k := 3) hK.1 (by decide) ?_
  show mL_some _ S _ (R 3 + 1)
  rw [hK.1.1.2.1, inc]
  refine Q_some (by omega) (by omega) (fun w hw => Q_some (m := 13) (by decide) (by decide) (fun r hr => ?_))
  have a0 : mL_some (fun (r9 : Int32) (S8 : Mem) => mL_some (fun (r11 : Int32) (S10 : Mem) => mL_height (C0 post) S10 r9 r11) S8 (v >>> ((6 : Int32) &&& 31)) (32 : Int32)) S (v >>> ((4 : Int32) &&& 31)) (11 : Int32) := Q_some (m := 11) (by decide) (by decide) (fun a ha => Q_some (m := 32) (by decide) (by decide) (fun c hc => ch_height hK hb o))
  have a1 : mL_some (fun (r16 : Int32) (S15 : Mem) => mL_rain (C0 post) S15 r16) S (v >>> ((4 : Int32) &&& 31)) (11 : Int32) := Q_some (m := 11) (by decide) (by decide) (fun a ha => ch_rain hK hb o)
  have a2 : mL_some (fun (r16 : Int32) (S15 : Mem) => mL_letters (C0 post) S15 r16) S (v >>> ((4 : Int32) &&& 31)) (52 : Int32) := Q_some (m := 52) (by decide) (by decide) (fun a ha => ch_letters hK hb hB o)
  have a3 : mL_some (fun (r16 : Int32) (S15 : Mem) => mL_traveller (C0 post) S15 r16) S (v >>> ((4 : Int32) &&& 31)) (23 : Int32) := Q_some (m := 23) (by decide) (by decide) (fun a ha => ch_traveller hK hb o)
  have a4 : mL_leave (C0 post) S (nI w) := ch_leave hK hb hB o
  have a5 : mL_setOut (C0 post) S (nI w) := ch_setOut hK hb hB o
  have a8 : mL_stop (Cm post) S (nI w) := (ch_stop hK hb o).1
  have a9 : mL_go (Cm post) S (nI w) := (ch_stop hK hb o).2
  have ad : mL_some (fun (r16 : Int32) (S15 : Mem) => mL_pass (C0 post) S15 r16) S (v >>> ((4 : Int32) &&& 31)) (9 : Int32) := Q_some (m := 9) (by decide) (by decide) (fun a ha => ch_pass hK hb o)
  have ne : ∀ {P : Prop} (k : Nat), k < 13 → r ≠ k → (nI r = nI k → P) := fun k hk q e => absurd ((nI_eq (by omega) (by omega)).mp e) q
  by_cases hr9 : r ≤ 9
  · rcases (show r = 0 ∨ r = 1 ∨ r = 2 ∨ r = 3 ∨ r = 4 ∨ r = 5 ∨ r = 6 ∨ r = 7 ∨ r = 8 ∨ r = 9 by omega) with rfl | rfl | rfl | rfl | rfl | rfl | rfl | rfl | rfl | rfl
    · exact ⟨fun _ => a0, fun e => absurd e (by decide), fun e => absurd e (by decide), fun e => absurd e (by decide), fun e => absurd e (by decide), fun e => absurd e (by decide), fun e => absurd e (by decide), fun e => absurd e (by decide), fun e => absurd e (by decide), fun e => absurd e (by decide), fun z => absurd rfl z.1⟩
    · exact ⟨fun e => absurd e (by decide), fun _ => a1, fun e => absurd e (by decide), fun e => absurd e (by decide), fun e => absurd e (by decide), fun e => absurd e (by decide), fun e => absurd e (by decide), fun e => absurd e (by decide), fun e => absurd e (by decide), fun e => absurd e (by decide), fun z => absurd rfl z.2.1⟩
    · exact ⟨fun e => absurd e (by decide), fun e => absurd e (by decide), fun _ => a2, fun e => absurd e (by decide), fun e => absurd e (by decide), fun e => absurd e (by decide), fun e => absurd e (by decide), fun e => absurd e (by decide), fun e => absurd e (by decide), fun e => absurd e (by decide), fun z => absurd rfl z.2.2.1⟩
    · exact ⟨fun e => absurd e (by decide), fun e => absurd e (by decide), fun e => absurd e (by decide), fun _ => a3, fun e => absurd e (by decide), fun e => absurd e (by decide), fun e => absurd e (by decide), fun e => absurd e (by decide), fun e => absurd e (by decide), fun e => absurd e (by decide), fun z => absurd rfl z.2.2.2.1⟩
    · exact ⟨fun e => absurd e (by decide), fun e => absurd e (by decide), fun e => absurd e (by decide), fun e => absurd e (by decide), fun _ => a4, fun e => absurd e (by decide), fun e => absurd e (by decide), fun e => absurd e (by decide), fun e => absurd e (by decide), fun e => absurd e (by decide), fun z => absurd rfl z.2.2.2.2.1⟩
    · exact ⟨fun e => absurd e (by decide), fun e => absurd e (by decide), fun e => absurd e (by decide), fun e => absurd e (by decide), fun e => absurd e (by decide), fun _ => a5, fun e => absurd e (by decide), fun e => absurd e (by decide), fun e => absurd e (by decide), fun e => absurd e (by decide), fun z => absurd rfl z.2.2.2.2.2.1⟩
    · exact ⟨fun e => absurd e (by decide), fun e => absurd e (by decide), fun e => absurd e (by decide), fun e => absurd e (by decide), fun e => absurd e (by decide), fun e => absurd e (by decide), fun _ => a5, fun e => absurd e (by decide), fun e => absurd e (by decide), fun e => absurd e (by decide), fun z => absurd rfl z.2.2.2.2.2.2.1⟩
    · exact ⟨fun e => absurd e (by decide), fun e => absurd e (by decide), fun e => absurd e (by decide), fun e => absurd e (by decide), fun e => absurd e (by decide), fun e => absurd e (by decide), fun e => absurd e (by decide), fun _ => a5, fun e => absurd e (by decide), fun e => absurd e (by decide), fun z => absurd rfl z.2.2.2.2.2.2.2.1⟩
    · exact ⟨fun e => absurd e (by decide), fun e => absurd e (by decide), fun e => absurd e (by decide), fun e => absurd e (by decide), fun e => absurd e (by decide), fun e => absurd e (by decide), fun e => absurd e (by decide), fun e => absurd e (by decide), fun _ => a8, fun e => absurd e (by decide), fun z => absurd rfl z.2.2.2.2.2.2.2.2.1⟩
    · exact ⟨fun e => absurd e (by decide), fun e => absurd e (by decide), fun e => absurd e (by decide), fun e => absurd e (by decide), fun e => absurd e (by decide), fun e => absurd e (by decide), fun e => absurd e (by decide), fun e => absurd e (by decide), fun e => absurd e (by decide), fun _ => a9, fun z => absurd rfl z.2.2.2.2.2.2.2.2.2⟩
  · exact ⟨ne 0 (by decide) (by omega), ne 1 (by decide) (by omega), ne 2 (by decide) (by omega), ne 3 (by decide) (by omega), ne 4 (by decide) (by omega), ne 5 (by decide) (by omega), ne 6 (by decide) (by omega), ne 7 (by decide) (by omega), ne 8 (by decide) (by omega), ne 9 (by decide) (by omega), fun _ => ad⟩
