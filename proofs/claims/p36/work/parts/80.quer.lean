/-! p36, THE CLASS ALONE: queries, by the row of the present ford -/
theorem Q_fee {post : Int32 → Mem → Prop} {S : Mem} {R : Row} {n : Nat} {v : Int32} (hR : RepC S 0 R n) (h1 : ∀ t, t < n → v = nI t → post (tollF (trv R t 0)) S) (h0 : (v < 0 ∨ ¬ v < nI n) → post (-1001) S) : mL_fee post S v := by
  unfold mL_fee mX5_fee
  refine found_s hR.1.1 hR.cnt (fun t ht et => ?_) (fun g => ⟨rfl, h0 g⟩)
  exact X3_toll_s (hR.fld ht (by decide) (by decide)) (h1 t ht et)
theorem Q_travellerOf {post : Int32 → Mem → Prop} {S : Mem} {R : Row} {n : Nat} {v k : Int32} (hR : RepC S 0 R n) (h1 : ∀ t j, t < n → v = nI t → j ≤ 8 → k = nI j → post (numF (trv R t) j) S) (h2 : ∀ t, t < n → v = nI t → (k < 0 ∨ 8 < k) → post (-1002) S) (h0 : (v < 0 ∨ ¬ v < nI n) → post (-1001) S) : mL_travellerOf post S v k := by
  unfold mL_travellerOf mX5_travellerOf
  refine found_s hR.1.1 hR.cnt (fun t ht et => ?_) (fun g => Or.inl ⟨rfl, h0 g⟩)
  refine s_checkRange (fun g0 g1 => ?_) (fun g => Or.inr ⟨rfl, h2 t ht et g⟩)
  obtain ⟨j, hj, rfl⟩ := le8 g0 g1
  exact X3_numberOf_s (hR.trv0 ht) (hR.1.t ht) j (by omega) (h1 t j ht et hj rfl)
def stoF (R : Row) (n s w : Nat) : Int32 := match w with | 0 => R (10 + s) | 1 => stF R (R 1) s | _ => cntF (fun t => decide (plc R t = nI s)) n 0 0
theorem RepC.hh {S : Mem} {j n s : Nat} {R : Row} (h : RepC S j R n) (hs : s < 10) : S 1 j s = R (10 + s) := h.2.2.2.2.2.2.2.2.2.2.2.1 s hs
theorem Q_stoneOf {post : Int32 → Mem → Prop} {S : Mem} {R : Row} {n : Nat} {v k : Int32} (hR : RepC S 0 R n) (h1 : ∀ s w, s < 10 → v = nI s → w ≤ 2 → k = nI w → post (stoF R n s w) S) (h2 : ∀ s, s < 10 → v = nI s → (k < 0 ∨ 2 < k) → post (-1002) S) (h0 : (v < 0 ∨ ¬ v < 10) → post (-1001) S) : mL_stoneOf post S v k := by
  unfold mL_stoneOf mX5_stoneOf
  refine s_checkStone (fun s hs es => ?_) (fun g => Or.inl ⟨rfl, h0 g⟩)
  subst es
  refine s_checkRange (fun g0 g1 => ?_) (fun g => Or.inr ⟨rfl, h2 s hs rfl g⟩)
  obtain ⟨w, hw, rfl⟩ := range9 (n := 2) (by decide) g0 g1
  have h := h1 s w hs rfl hw rfl
  rcases (show w = 0 ∨ w = 1 ∨ w = 2 by omega) with rfl | rfl | rfl
  · exact ⟨fun g => absurd rfl g, fun _ => ⟨vpN hs (by decide), by rw [nI_clamp (by omega), hR.hh hs]; exact h⟩⟩
  · exact ⟨fun _ => ⟨fun g => absurd rfl g, fun _ => X0_stateOf_s hs hR.1 (hR.hh hs) (by rw [hR.2.2.2.1]; exact hR.1.lv) (by rw [hR.2.2.2.1]; exact h)⟩, fun g => absurd g (by decide)⟩
  · exact ⟨fun _ => ⟨fun _ => X0_countOn_s hR h, fun g => absurd g (by decide)⟩, fun g => absurd g (by decide)⟩
theorem Q_flood {post : Int32 → Mem → Prop} {S : Mem} {R : Row} {n : Nat} {v : Int32} (hR : RepC S 0 R n) (h1 : ∀ H, H ≤ 60 → v = nI H → post (itF (R 2) H (R 1)) S) (h0 : (v < 0 ∨ 60 < v) → post (-1001) S) : mL_flood post S v := by
  unfold mL_flood mX5_flood
  refine s_checkRange (fun g0 g1 => fun x ex => ?_) (fun g => ⟨rfl, h0 g⟩)
  obtain ⟨H, hH, rfl⟩ := range9 (n := 60) (by decide) g0 g1
  rw [hR.2.2.2.1] at ex
  subst ex
  exact ⟨H + 1, X5_flood_b17_s hR.2.2.2.2.1 H 0 H _ (by omega) (by omega) (h1 H hH rfl)⟩
theorem Q_floodAgain {post : Int32 → Mem → Prop} {S : Mem} {R : Row} {n : Nat} {v : Int32} (hR : RepC S 0 R n) (h1 : ∀ H, H ≤ 60 → v = nI H → post (itF (R 2) H (R 1)) S) (h0 : (v < 0 ∨ 60 < v) → post (-1001) S) : mL_floodAgain post S v := by
  unfold mL_floodAgain mX5_floodAgain
  refine s_checkRange (fun g0 g1 => ?_) (fun g => ⟨rfl, h0 g⟩)
  obtain ⟨H, hH, rfl⟩ := range9 (n := 60) (by decide) g0 g1
  exact X0_rest_s hH hR (h1 H hH rfl)
/-- the hours until no stone is under, -1: never -/
def claF (R : Row) : Int32 := clF (lowHF (fun s => R (10 + s)) 10 0 30) (fun k => itF (R 2) k (R 1)) 61 0
theorem Q_clearIn {post : Int32 → Mem → Prop} {S : Mem} {R : Row} {n : Nat} (hR : RepC S 0 R n) (h : post (if claF R = -1 then -1001 else claF R) S) : mL_clearIn post S := by
  unfold mL_clearIn
  refine X5_clear_s hR ?_
  unfold claF at h
  split
  · next hc =>
    rw [if_pos hc] at h
    exact ⟨rfl, h⟩
  · next hc =>
    rw [if_neg hc] at h
    exact h
theorem Q_crossedIn {post : Int32 → Mem → Prop} {S : Mem} {R : Row} {n : Nat} {v : Int32} (hR : RepC S 0 R n) (h1 : ∀ t, t < n → v = nI t → post (if crF R t = -1 then -1002 else crF R t) S) (h0 : (v < 0 ∨ ¬ v < nI n) → post (-1001) S) : mL_crossedIn post S v := by
  unfold mL_crossedIn mX5_crossedIn
  refine found_s hR.1.1 hR.cnt (fun t ht et => ?_) (fun g => Or.inl ⟨rfl, h0 g⟩)
  have h := h1 t ht et
  refine X0_cross_s hR ht ⟨fun g => ?_, fun g => Or.inr ⟨rfl, ?_⟩⟩
  · rw [if_neg g] at h
    exact h
  · rw [if_pos g] at h
    exact h
theorem Q_wetSteps {post : Int32 → Mem → Prop} {S : Mem} {R : Row} {n : Nat} {v : Int32} (hR : RepC S 0 R n) (h1 : ¬ v < 0 → ¬ 2 < v → post (if wsF R (R 1) v 10 0 0 = -1 then -1002 else wsF R (R 1) v 10 0 0) S) (h0 : (v < 0 ∨ 2 < v) → post (-1001) S) : mL_wetSteps post S v := by
  unfold mL_wetSteps mX5_wetSteps
  refine s_checkRange (fun g0 g1 => X0_ws_s hR ?_) (fun g => Or.inl ⟨rfl, h0 g⟩)
  have h := h1 g0 g1
  refine ⟨fun g => ?_, fun g => Or.inr ⟨rfl, ?_⟩⟩
  · rw [if_neg g] at h
    exact h
  · rw [if_pos g] at h
    exact h
def kinF (R : Row) : Int32 := underF (fun k => if wsF R (R 1) (nI k) 10 0 0 = -1 then 0 else 2) 3 0 0
theorem Q_kinds {post : Int32 → Mem → Prop} {S : Mem} {R : Row} {n : Nat} (hR : RepC S 0 R n) (h : post (kinF R) S) : mX5_kinds post S := by
  have cls : ∀ (m k : Nat) (a : Int32), k + m = 3 → underF (fun k => if wsF R (R 1) (nI k) 10 0 0 = -1 then 0 else 2) m k a = kinF R → mX5_kinds_b4 post (m + 1) S a (nI k) := by
    intro m
    induction m with
    | zero =>
      intro k a hk ha
      have hk : k = 3 := by omega
      subst hk
      unfold mX5_kinds_b4
      refine ⟨fun _ => ?_, fun g => absurd (by decide) g⟩
      have ha : a = kinF R := ha
      rw [ha]
      exact h
    | succ m ih =>
      intro k a hk ha
      have hk3 : k < 3 := by omega
      unfold underF at ha
      unfold mX5_kinds_b4
      refine ⟨fun g => absurd g (fun g => by have := (nI_ltI (a := 2) (by decide) (by omega)).mp g; omega), fun _ => X0_ws_s hR ⟨fun g x ex => ?_, fun g x ex y ey => ?_⟩⟩
      · rw [ex, inc]
        refine ih (k + 1) a (by omega) ?_
        rw [if_neg (by rw [if_pos g]; decide)] at ha
        exact ha
      · rw [ex, ey, inc]
        refine ih (k + 1) _ (by omega) ?_
        rw [if_pos (by rw [if_neg g])] at ha
        exact ha
  unfold mX5_kinds
  exact ⟨4, cls 3 0 0 (by omega) rfl⟩
def lagF (R : Row) (n : Nat) : Int32 := (R 6 - R 5) - sumF (fun t => numF (trv R t) 8) n 0 0
theorem Q_lettersAgain {post : Int32 → Mem → Prop} {S : Mem} {R : Row} {n : Nat} (hR : RepC S 0 R n) (h : post (lagF R n) S) : mX5_lettersAgain post S := by
  unfold mX5_lettersAgain
  refine X0_sumOf_s (k := 8) (by decide) hR ?_
  rw [hR.2.2.2.2.2.2.2.1, hR.2.2.2.2.2.2.1]
  exact h
theorem fl_self32 {x : UInt32} (h : vf_n32 x) : Op.cmpValue (FP.fcmp x x) .l = 0 := by
  have e : FP.fcmp x x = some .eq := FP.Core.fcmp_self ((FP.Core.notNaN_iff32 x).mp (fl_n32.mp h))
  rw [e]
  rfl
def meaF (R : Row) (n : Nat) : UInt64 := if n = 0 then 13875388141788987392 else FP.ddiv (FP.i2d (sumF (fun t => numF (trv R t) 2) n 0 0)) (FP.i2d (nI n))
theorem Q_meanWet {post : UInt64 → Mem → Prop} {S : Mem} {R : Row} {n : Nat} (hR : RepC S 0 R n) (h : Op.cmpValue (FP.dcmp (meaF R n) (meaF R n)) .l = 0 → post (meaF R n) S) : mL_meanWet post S := by
  have hn := hR.1.1
  unfold mL_meanWet mX5_meanWet
  rw [hR.cnt]
  refine ⟨fun g0 => X0_sumOf_s (k := 2) (by decide) hR ?_, fun g0 => ⟨rfl, ?_⟩⟩
  · rw [hR.cnt]
    have e : ¬ n = 0 := fun e => g0 (by rw [e]; rfl)
    unfold meaF at h
    rw [if_neg e] at h
    exact ⟨fl_mean g0, h (fl_self (fl_mean g0))⟩
  · have e : n = 0 := (nI_eq (b := 0) (by omega) (by decide)).mp g0
    unfold meaF at h
    rw [if_pos e] at h
    exact h (fl_self (by unfold vf_n64; decide))
def shaF (R : Row) : UInt32 := if R 8 + R 9 = 0 then 3296346112 else FP.fdiv (FP.i2f (R 8)) (FP.i2f (R 8 + R 9))
theorem Q_crossingShare {post : UInt32 → Mem → Prop} {S : Mem} {R : Row} {n : Nat} (hR : RepC S 0 R n) (h : Op.cmpValue (FP.fcmp (shaF R) (shaF R)) .l = 0 → post (shaF R) S) : mL_crossingShare post S := by
  obtain ⟨s1, s2, s3, s4, s5, s6, s7, s8, s9, s10⟩ := hR.sc
  unfold mL_crossingShare mX5_crossingShare
  rw [s9, s10]
  intro x1 ex
  subst ex
  unfold shaF at h
  refine ⟨fun g0 => ⟨fl_share g0, ?_⟩, fun g0 => ⟨rfl, ?_⟩⟩
  · rw [if_neg g0] at h
    exact h (fl_self32 (fl_share g0))
  · rw [if_pos g0] at h
    exact h (fl_self32 (by unfold vf_n32; decide))
def accF (R : Row) (n k : Nat) : Int32 := match k with | 0 => R 0 | 1 => R 1 | 2 => R 2 | 3 => R 3 | 4 => cntF (fun t => decide (regF (plc R t) = 0)) n 0 0 | 5 => cntF (fun t => decide (regF (plc R t) = 1)) n 0 0 | 6 => cntF (fun t => decide (regF (plc R t) = 2)) n 0 0 | 7 => sumF (fun t => numF (trv R t) 4) n 0 0 | 8 => R 4 | 9 => sumF (fun t => numF (trv R t) 8) n 0 0 | 10 => R 5 | 11 => R 6 | 12 => R 7 | 13 => R 8 | 14 => R 9 | _ => sumF (fun t => numF (trv R t) 2) n 0 0
theorem Q_account {post : Int32 → Mem → Prop} {S : Mem} {R : Row} {n : Nat} {v : Int32} (hR : RepC S 0 R n) (h1 : ∀ k, k ≤ 15 → v = nI k → post (accF R n k) S) (h16 : v = 16 → post (S 3 0 7) S) (h17 : v = 17 → post (S 6 0 1) S) (h18 : v = 18 → post (S 4 0 2) S) (h0 : (v < 0 ∨ 18 < v) → post (-1001) S) : mL_account post S v := by
  obtain ⟨s1, s2, s3, s4, s5, s6, s7, s8, s9, s10⟩ := hR.sc
  unfold mL_account mX5_account
  refine s_checkRange (fun g0 g1 => ?_) (fun g => ⟨rfl, h0 g⟩)
  obtain ⟨k, hk, rfl⟩ := range9 (n := 18) (by decide) g0 g1
  rcases (show k = 0 ∨ k = 1 ∨ k = 2 ∨ k = 3 ∨ k = 4 ∨ k = 5 ∨ k = 6 ∨ k = 7 ∨ k = 8 ∨ k = 9 ∨ k = 10 ∨ k = 11 ∨ k = 12 ∨ k = 13 ∨ k = 14 ∨ k = 15 ∨ k = 16 ∨ k = 17 ∨ k = 18 by omega) with rfl | rfl | rfl | rfl | rfl | rfl | rfl | rfl | rfl | rfl | rfl | rfl | rfl | rfl | rfl | rfl | rfl | rfl | rfl
  · exact ⟨fun _ => (by rw [s2]; exact h1 0 (by decide) rfl), fun e9 => absurd e9 (by decide), fun e9 => absurd e9 (by decide), fun e9 => absurd e9 (by decide), fun e9 => absurd e9 (by decide), fun e9 => absurd e9 (by decide), fun e9 => absurd e9 (by decide), fun e9 => absurd e9 (by decide), fun e9 => absurd e9 (by decide), fun e9 => absurd e9 (by decide), fun e9 => absurd e9 (by decide), fun e9 => absurd e9 (by decide), fun e9 => absurd e9 (by decide), fun e9 => absurd e9 (by decide), fun e9 => absurd e9 (by decide), fun e9 => absurd e9 (by decide), fun e9 => absurd e9 (by decide), fun e9 => absurd e9 (by decide), fun e9 => absurd rfl e9.1⟩
  · exact ⟨fun e9 => absurd e9 (by decide), fun _ => (by rw [s3]; exact h1 1 (by decide) rfl), fun e9 => absurd e9 (by decide), fun e9 => absurd e9 (by decide), fun e9 => absurd e9 (by decide), fun e9 => absurd e9 (by decide), fun e9 => absurd e9 (by decide), fun e9 => absurd e9 (by decide), fun e9 => absurd e9 (by decide), fun e9 => absurd e9 (by decide), fun e9 => absurd e9 (by decide), fun e9 => absurd e9 (by decide), fun e9 => absurd e9 (by decide), fun e9 => absurd e9 (by decide), fun e9 => absurd e9 (by decide), fun e9 => absurd e9 (by decide), fun e9 => absurd e9 (by decide), fun e9 => absurd e9 (by decide), fun e9 => absurd rfl e9.2.1⟩
  · exact ⟨fun e9 => absurd e9 (by decide), fun e9 => absurd e9 (by decide), fun _ => (by rw [s4]; exact h1 2 (by decide) rfl), fun e9 => absurd e9 (by decide), fun e9 => absurd e9 (by decide), fun e9 => absurd e9 (by decide), fun e9 => absurd e9 (by decide), fun e9 => absurd e9 (by decide), fun e9 => absurd e9 (by decide), fun e9 => absurd e9 (by decide), fun e9 => absurd e9 (by decide), fun e9 => absurd e9 (by decide), fun e9 => absurd e9 (by decide), fun e9 => absurd e9 (by decide), fun e9 => absurd e9 (by decide), fun e9 => absurd e9 (by decide), fun e9 => absurd e9 (by decide), fun e9 => absurd e9 (by decide), fun e9 => absurd rfl e9.2.2.1⟩
  · exact ⟨fun e9 => absurd e9 (by decide), fun e9 => absurd e9 (by decide), fun e9 => absurd e9 (by decide), fun _ => (by rw [s1]; exact h1 3 (by decide) rfl), fun e9 => absurd e9 (by decide), fun e9 => absurd e9 (by decide), fun e9 => absurd e9 (by decide), fun e9 => absurd e9 (by decide), fun e9 => absurd e9 (by decide), fun e9 => absurd e9 (by decide), fun e9 => absurd e9 (by decide), fun e9 => absurd e9 (by decide), fun e9 => absurd e9 (by decide), fun e9 => absurd e9 (by decide), fun e9 => absurd e9 (by decide), fun e9 => absurd e9 (by decide), fun e9 => absurd e9 (by decide), fun e9 => absurd e9 (by decide), fun e9 => absurd rfl e9.2.2.2.1⟩
  · exact ⟨fun e9 => absurd e9 (by decide), fun e9 => absurd e9 (by decide), fun e9 => absurd e9 (by decide), fun e9 => absurd e9 (by decide), fun _ => X0_countIn_s hR (h1 4 (by decide) rfl), fun e9 => absurd e9 (by decide), fun e9 => absurd e9 (by decide), fun e9 => absurd e9 (by decide), fun e9 => absurd e9 (by decide), fun e9 => absurd e9 (by decide), fun e9 => absurd e9 (by decide), fun e9 => absurd e9 (by decide), fun e9 => absurd e9 (by decide), fun e9 => absurd e9 (by decide), fun e9 => absurd e9 (by decide), fun e9 => absurd e9 (by decide), fun e9 => absurd e9 (by decide), fun e9 => absurd e9 (by decide), fun e9 => absurd rfl e9.2.2.2.2.1⟩
  · exact ⟨fun e9 => absurd e9 (by decide), fun e9 => absurd e9 (by decide), fun e9 => absurd e9 (by decide), fun e9 => absurd e9 (by decide), fun e9 => absurd e9 (by decide), fun _ => X0_countIn_s hR (h1 5 (by decide) rfl), fun e9 => absurd e9 (by decide), fun e9 => absurd e9 (by decide), fun e9 => absurd e9 (by decide), fun e9 => absurd e9 (by decide), fun e9 => absurd e9 (by decide), fun e9 => absurd e9 (by decide), fun e9 => absurd e9 (by decide), fun e9 => absurd e9 (by decide), fun e9 => absurd e9 (by decide), fun e9 => absurd e9 (by decide), fun e9 => absurd e9 (by decide), fun e9 => absurd e9 (by decide), fun e9 => absurd rfl e9.2.2.2.2.2.1⟩
  · exact ⟨fun e9 => absurd e9 (by decide), fun e9 => absurd e9 (by decide), fun e9 => absurd e9 (by decide), fun e9 => absurd e9 (by decide), fun e9 => absurd e9 (by decide), fun e9 => absurd e9 (by decide), fun _ => X0_countIn_s hR (h1 6 (by decide) rfl), fun e9 => absurd e9 (by decide), fun e9 => absurd e9 (by decide), fun e9 => absurd e9 (by decide), fun e9 => absurd e9 (by decide), fun e9 => absurd e9 (by decide), fun e9 => absurd e9 (by decide), fun e9 => absurd e9 (by decide), fun e9 => absurd e9 (by decide), fun e9 => absurd e9 (by decide), fun e9 => absurd e9 (by decide), fun e9 => absurd e9 (by decide), fun e9 => absurd rfl e9.2.2.2.2.2.2.1⟩
  · exact ⟨fun e9 => absurd e9 (by decide), fun e9 => absurd e9 (by decide), fun e9 => absurd e9 (by decide), fun e9 => absurd e9 (by decide), fun e9 => absurd e9 (by decide), fun e9 => absurd e9 (by decide), fun e9 => absurd e9 (by decide), fun _ => X0_sumOf_s (k := 4) (by decide) hR (h1 7 (by decide) rfl), fun e9 => absurd e9 (by decide), fun e9 => absurd e9 (by decide), fun e9 => absurd e9 (by decide), fun e9 => absurd e9 (by decide), fun e9 => absurd e9 (by decide), fun e9 => absurd e9 (by decide), fun e9 => absurd e9 (by decide), fun e9 => absurd e9 (by decide), fun e9 => absurd e9 (by decide), fun e9 => absurd e9 (by decide), fun e9 => absurd rfl e9.2.2.2.2.2.2.2.1⟩
  · exact ⟨fun e9 => absurd e9 (by decide), fun e9 => absurd e9 (by decide), fun e9 => absurd e9 (by decide), fun e9 => absurd e9 (by decide), fun e9 => absurd e9 (by decide), fun e9 => absurd e9 (by decide), fun e9 => absurd e9 (by decide), fun e9 => absurd e9 (by decide), fun _ => (by rw [s5]; exact h1 8 (by decide) rfl), fun e9 => absurd e9 (by decide), fun e9 => absurd e9 (by decide), fun e9 => absurd e9 (by decide), fun e9 => absurd e9 (by decide), fun e9 => absurd e9 (by decide), fun e9 => absurd e9 (by decide), fun e9 => absurd e9 (by decide), fun e9 => absurd e9 (by decide), fun e9 => absurd e9 (by decide), fun e9 => absurd rfl e9.2.2.2.2.2.2.2.2.1⟩
  · exact ⟨fun e9 => absurd e9 (by decide), fun e9 => absurd e9 (by decide), fun e9 => absurd e9 (by decide), fun e9 => absurd e9 (by decide), fun e9 => absurd e9 (by decide), fun e9 => absurd e9 (by decide), fun e9 => absurd e9 (by decide), fun e9 => absurd e9 (by decide), fun e9 => absurd e9 (by decide), fun _ => X0_sumOf_s (k := 8) (by decide) hR (h1 9 (by decide) rfl), fun e9 => absurd e9 (by decide), fun e9 => absurd e9 (by decide), fun e9 => absurd e9 (by decide), fun e9 => absurd e9 (by decide), fun e9 => absurd e9 (by decide), fun e9 => absurd e9 (by decide), fun e9 => absurd e9 (by decide), fun e9 => absurd e9 (by decide), fun e9 => absurd rfl e9.2.2.2.2.2.2.2.2.2.1⟩
  · exact ⟨fun e9 => absurd e9 (by decide), fun e9 => absurd e9 (by decide), fun e9 => absurd e9 (by decide), fun e9 => absurd e9 (by decide), fun e9 => absurd e9 (by decide), fun e9 => absurd e9 (by decide), fun e9 => absurd e9 (by decide), fun e9 => absurd e9 (by decide), fun e9 => absurd e9 (by decide), fun e9 => absurd e9 (by decide), fun _ => (by rw [s6]; exact h1 10 (by decide) rfl), fun e9 => absurd e9 (by decide), fun e9 => absurd e9 (by decide), fun e9 => absurd e9 (by decide), fun e9 => absurd e9 (by decide), fun e9 => absurd e9 (by decide), fun e9 => absurd e9 (by decide), fun e9 => absurd e9 (by decide), fun e9 => absurd rfl e9.2.2.2.2.2.2.2.2.2.2.1⟩
  · exact ⟨fun e9 => absurd e9 (by decide), fun e9 => absurd e9 (by decide), fun e9 => absurd e9 (by decide), fun e9 => absurd e9 (by decide), fun e9 => absurd e9 (by decide), fun e9 => absurd e9 (by decide), fun e9 => absurd e9 (by decide), fun e9 => absurd e9 (by decide), fun e9 => absurd e9 (by decide), fun e9 => absurd e9 (by decide), fun e9 => absurd e9 (by decide), fun _ => (by rw [s7]; exact h1 11 (by decide) rfl), fun e9 => absurd e9 (by decide), fun e9 => absurd e9 (by decide), fun e9 => absurd e9 (by decide), fun e9 => absurd e9 (by decide), fun e9 => absurd e9 (by decide), fun e9 => absurd e9 (by decide), fun e9 => absurd rfl e9.2.2.2.2.2.2.2.2.2.2.2.1⟩
  · exact ⟨fun e9 => absurd e9 (by decide), fun e9 => absurd e9 (by decide), fun e9 => absurd e9 (by decide), fun e9 => absurd e9 (by decide), fun e9 => absurd e9 (by decide), fun e9 => absurd e9 (by decide), fun e9 => absurd e9 (by decide), fun e9 => absurd e9 (by decide), fun e9 => absurd e9 (by decide), fun e9 => absurd e9 (by decide), fun e9 => absurd e9 (by decide), fun e9 => absurd e9 (by decide), fun _ => (by rw [s8]; exact h1 12 (by decide) rfl), fun e9 => absurd e9 (by decide), fun e9 => absurd e9 (by decide), fun e9 => absurd e9 (by decide), fun e9 => absurd e9 (by decide), fun e9 => absurd e9 (by decide), fun e9 => absurd rfl e9.2.2.2.2.2.2.2.2.2.2.2.2.1⟩
  · exact ⟨fun e9 => absurd e9 (by decide), fun e9 => absurd e9 (by decide), fun e9 => absurd e9 (by decide), fun e9 => absurd e9 (by decide), fun e9 => absurd e9 (by decide), fun e9 => absurd e9 (by decide), fun e9 => absurd e9 (by decide), fun e9 => absurd e9 (by decide), fun e9 => absurd e9 (by decide), fun e9 => absurd e9 (by decide), fun e9 => absurd e9 (by decide), fun e9 => absurd e9 (by decide), fun e9 => absurd e9 (by decide), fun _ => (by rw [s9]; exact h1 13 (by decide) rfl), fun e9 => absurd e9 (by decide), fun e9 => absurd e9 (by decide), fun e9 => absurd e9 (by decide), fun e9 => absurd e9 (by decide), fun e9 => absurd rfl e9.2.2.2.2.2.2.2.2.2.2.2.2.2.1⟩
  · exact ⟨fun e9 => absurd e9 (by decide), fun e9 => absurd e9 (by decide), fun e9 => absurd e9 (by decide), fun e9 => absurd e9 (by decide), fun e9 => absurd e9 (by decide), fun e9 => absurd e9 (by decide), fun e9 => absurd e9 (by decide), fun e9 => absurd e9 (by decide), fun e9 => absurd e9 (by decide), fun e9 => absurd e9 (by decide), fun e9 => absurd e9 (by decide), fun e9 => absurd e9 (by decide), fun e9 => absurd e9 (by decide), fun e9 => absurd e9 (by decide), fun _ => (by rw [s10]; exact h1 14 (by decide) rfl), fun e9 => absurd e9 (by decide), fun e9 => absurd e9 (by decide), fun e9 => absurd e9 (by decide), fun e9 => absurd rfl e9.2.2.2.2.2.2.2.2.2.2.2.2.2.2.1⟩
  · exact ⟨fun e9 => absurd e9 (by decide), fun e9 => absurd e9 (by decide), fun e9 => absurd e9 (by decide), fun e9 => absurd e9 (by decide), fun e9 => absurd e9 (by decide), fun e9 => absurd e9 (by decide), fun e9 => absurd e9 (by decide), fun e9 => absurd e9 (by decide), fun e9 => absurd e9 (by decide), fun e9 => absurd e9 (by decide), fun e9 => absurd e9 (by decide), fun e9 => absurd e9 (by decide), fun e9 => absurd e9 (by decide), fun e9 => absurd e9 (by decide), fun e9 => absurd e9 (by decide), fun _ => X0_sumOf_s (k := 2) (by decide) hR (h1 15 (by decide) rfl), fun e9 => absurd e9 (by decide), fun e9 => absurd e9 (by decide), fun e9 => absurd rfl e9.2.2.2.2.2.2.2.2.2.2.2.2.2.2.2.1⟩
  · exact ⟨fun e9 => absurd e9 (by decide), fun e9 => absurd e9 (by decide), fun e9 => absurd e9 (by decide), fun e9 => absurd e9 (by decide), fun e9 => absurd e9 (by decide), fun e9 => absurd e9 (by decide), fun e9 => absurd e9 (by decide), fun e9 => absurd e9 (by decide), fun e9 => absurd e9 (by decide), fun e9 => absurd e9 (by decide), fun e9 => absurd e9 (by decide), fun e9 => absurd e9 (by decide), fun e9 => absurd e9 (by decide), fun e9 => absurd e9 (by decide), fun e9 => absurd e9 (by decide), fun e9 => absurd e9 (by decide), fun _ => h16 rfl, fun e9 => absurd e9 (by decide), fun e9 => absurd rfl e9.2.2.2.2.2.2.2.2.2.2.2.2.2.2.2.2.1⟩
  · exact ⟨fun e9 => absurd e9 (by decide), fun e9 => absurd e9 (by decide), fun e9 => absurd e9 (by decide), fun e9 => absurd e9 (by decide), fun e9 => absurd e9 (by decide), fun e9 => absurd e9 (by decide), fun e9 => absurd e9 (by decide), fun e9 => absurd e9 (by decide), fun e9 => absurd e9 (by decide), fun e9 => absurd e9 (by decide), fun e9 => absurd e9 (by decide), fun e9 => absurd e9 (by decide), fun e9 => absurd e9 (by decide), fun e9 => absurd e9 (by decide), fun e9 => absurd e9 (by decide), fun e9 => absurd e9 (by decide), fun e9 => absurd e9 (by decide), fun _ => h17 rfl, fun e9 => absurd rfl e9.2.2.2.2.2.2.2.2.2.2.2.2.2.2.2.2.2⟩
  · exact ⟨fun e9 => absurd e9 (by decide), fun e9 => absurd e9 (by decide), fun e9 => absurd e9 (by decide), fun e9 => absurd e9 (by decide), fun e9 => absurd e9 (by decide), fun e9 => absurd e9 (by decide), fun e9 => absurd e9 (by decide), fun e9 => absurd e9 (by decide), fun e9 => absurd e9 (by decide), fun e9 => absurd e9 (by decide), fun e9 => absurd e9 (by decide), fun e9 => absurd e9 (by decide), fun e9 => absurd e9 (by decide), fun e9 => absurd e9 (by decide), fun e9 => absurd e9 (by decide), fun e9 => absurd e9 (by decide), fun e9 => absurd e9 (by decide), fun e9 => absurd e9 (by decide), fun _ => h18 rfl⟩
/-- behind describe: the line alone -/
def Lin (S S' : Mem) : Prop := (∀ c, c ≠ 3 → c ≠ 9 → S' c = S c) ∧ (∀ k, k ≠ 11 → S' 3 0 k = S 3 0 k)
theorem Lin.refl {S : Mem} : Lin S S := ⟨fun _ _ _ => rfl, fun _ _ => rfl⟩
theorem Lin.rep {S S' : Mem} {R : Row} {n : Nat} (h : Lin S S') (hR : RepC S 0 R n) : RepC S' 0 R n := Rep_now (by rw [h.1 0 (by decide) (by decide)]) (by rw [h.1 1 (by decide) (by decide)]) (fun t _ => by rw [h.1 2 (by decide) (by decide)]) hR
theorem Q_describe {post : Int32 → Mem → Prop} {S : Mem} {R : Row} {n : Nat} (hR : RepC S 0 R n) (h : ∀ S' : Mem, Lin S S' → S' 3 0 11 = nI (lnL R) → (∀ k, k < lnL R → S' 9 0 k = chF R n k) → post (nI (lnL R)) S') : mX5_describe post S :=
  X5_describe_s hR (fun S' h1 h2 h3 h4 => h S' ⟨h1, h2⟩ h3 h4)
theorem Q_written {post : Int32 → Mem → Prop} {S : Mem} {R : Row} {n i : Nat} (w : WFR R n) (hl : S 3 0 11 = nI (lnL R)) (hc : ∀ k, k < lnL R → S 9 0 k = chF R n k) (hi : i < lnL R) (h : post (chF R n i) S) : mL_written post S (nI i) := by
  have hL : lnL R ≤ 13 := by rcases lnL_c w with ⟨_, z⟩ | ⟨_, z⟩ <;> omega
  unfold mL_written mX5_written
  rw [hl]
  refine ⟨fun g => absurd g (nI_pos (by omega)), fun _ => ⟨fun _ => ⟨vpN (by omega) (by decide), ?_, ?_⟩, fun g => absurd (nI_lt hi (by omega)) g⟩⟩
  · rw [nI_clamp (by omega), hc i hi]
    exact chF_c w
  · rw [nI_clamp (by omega), hc i hi]
    exact h
