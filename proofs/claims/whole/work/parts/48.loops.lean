/-! under, flood, floodAgain, clearIn, wetSteps, kinds, type -/
def underF (st : Nat → Int32) : Nat → Nat → Int32 → Int32
  | 0, _, a => a
  | m + 1, s, a => underF st m (s + 1) (if st s = 2 then a ||| ((1 : Int32) <<< (nI s &&& 31)) else a)
theorem X5_under_s {post : Int32 → Mem → Prop} {S : Mem} {n : Nat} {R : Row} (hR : RepC S 0 R n) (h : post (underF (stF R (R 1)) 10 0 0) S) : mX5_under post S := by
  have loop : ∀ (m s : Nat) (a : Int32), s + m = 10 → post (underF (stF R (R 1)) m s a) S → mX5_under_b4 post (m + 1) S a (nI s) := by
    intro m
    induction m with
    | zero =>
      intro s a hs h
      have hs : s = 10 := by omega
      subst hs
      unfold mX5_under_b4
      exact ⟨fun _ => h, fun g => absurd (by decide) g⟩
    | succ m ih =>
      intro s a hs h
      have hs10 : s < 10 := by omega
      unfold mX5_under_b4
      refine ⟨fun g => absurd g (nI_ge (b := 10) hs10 (by decide)), fun _ => X0_stateOf_s hs10 hR.1 (hR.2.2.2.2.2.2.2.2.2.2.2.1 s hs10) (by rw [hR.2.2.2.1]; exact hR.1.lv) ?_⟩
      rw [hR.2.2.2.1]
      unfold underF at h
      refine ⟨fun g x ex => ?_, fun g x ex y ey => ?_⟩
      · rw [if_neg g] at h
        rw [ex, inc]
        exact ih (s + 1) a (by omega) h
      · rw [if_pos g] at h
        rw [ex, ey, inc]
        exact ih (s + 1) _ (by omega) h
  unfold mX5_under
  exact ⟨11, loop 10 0 0 (by omega) h⟩
theorem X6_underNow_s {post : Int32 → Mem → Prop} {S : Mem} {n : Nat} (w : WFR (S 11 0) n) (h : post (underF (stF (S 11 0) (S 11 0 1)) 10 0 0) S) : mX6_underNow post S := by
  have loop : ∀ (m s : Nat) (a : Int32), s + m = 10 → post (underF (stF (S 11 0) (S 11 0 1)) m s a) S → mX6_underNow_b4 post (m + 1) S a (nI s) := by
    intro m
    induction m with
    | zero =>
      intro s a hs h
      have hs : s = 10 := by omega
      subst hs
      unfold mX6_underNow_b4
      exact ⟨fun _ => h, fun g => absurd (by decide) g⟩
    | succ m ih =>
      intro s a hs h
      have hs10 : s < 10 := by omega
      unfold mX6_underNow_b4
      refine ⟨fun g => absurd g (nI_ge (b := 10) hs10 (by decide)), fun _ => X6_state_s hs10 w ?_⟩
      unfold underF at h
      refine ⟨fun g x ex => ?_, fun g x ex y ey => ?_⟩
      · rw [if_neg g] at h
        rw [ex, inc]
        exact ih (s + 1) a (by omega) h
      · rw [if_pos g] at h
        rw [ex, ey, inc]
        exact ih (s + 1) _ (by omega) h
  unfold mX6_underNow
  exact ⟨11, loop 10 0 0 (by omega) h⟩
theorem k_under {S : Mem} {f : Nat → Int64} {g : Nat → UInt64} {x1 x2 : Int32} (h : Inv S) : lawC4 (fun S1 _ _ => Inv S1) S f g x1 x2 := by
  obtain ⟨n, hR⟩ := h.1
  unfold lawC4
  refine X5_under_s hR ?_
  unfold mX6_under
  intro S1 e
  subst e
  refine X6_underNow_s (n := n) (by rw [ofs_thr]; exact hR.1) ⟨?_, h.thr 0⟩
  rw [ofs_thr]
/-- the flood an hour on -/
def nxF (v r : Int32) : Int32 := if (4 : Int32) < ((if (v + r) < (40 : Int32) then (v + r) else (40 : Int32)) - (2 : Int32)) then ((if (v + r) < (40 : Int32) then (v + r) else (40 : Int32)) - (2 : Int32)) else (4 : Int32)
theorem nx_tab : ∀ a, a < 39 → 4 ≤ a → ∀ b, b < 10 → nxF (nI a) (nI b) = nI (max 4 (min 40 (a + b) - 2)) ∧ ((if (nI a + nI b) < (40 : Int32) then (nI a + nI b) else (40 : Int32)) ≤ 4 → (if (nI a + nI b) < (40 : Int32) then (nI a + nI b) else (40 : Int32)) = nxF (nI a) (nI b)) := by decide +kernel
theorem nx_lvl {v r : Int32} (hv : lvl v) (hr : ∃ b, b ≤ 9 ∧ r = nI b) : lvl (nxF v r) := by
  obtain ⟨a, a1, a2, rfl⟩ := hv
  obtain ⟨b, b1, rfl⟩ := hr
  rw [(nx_tab a (by omega) a1 b (by omega)).1]
  exact ⟨_, by omega, by omega, rfl⟩
theorem X0_levelAfterHour_s {post : Int32 → Mem → Prop} {S : Mem} {j : Nat} {v r : Int32} (hr : S 0 j 5 = r) (h : post (nxF v r) S) : mX0_levelAfterHour post S j v := by
  unfold mX0_levelAfterHour
  intro x ex
  rw [hr] at ex
  subst ex
  exact h
theorem X6_next_s {post : Int32 → Mem → Prop} {S : Mem} {v : Int32} (hv : lvl v) (hr : ∃ b, b ≤ 9 ∧ S 11 0 2 = nI b) (h : post (nxF v (S 11 0 2)) S) : mX6_next post S v := by
  obtain ⟨a, a1, a2, rfl⟩ := hv
  obtain ⟨b, b1, eb⟩ := hr
  have t := (nx_tab a (by omega) a1 b (by omega)).2
  unfold mX6_next
  rw [c2]
  rw [eb] at h ⊢
  refine ⟨vpL rfl, fun x ex => ⟨fun g => ?_, fun g => ?_⟩⟩
  · rw [ex] at g ⊢
    rw [t g]
    exact h
  · subst ex
    exact h
def itF (r : Int32) : Nat → Int32 → Int32
  | 0, v => v
  | m + 1, v => itF r m (nxF v r)
theorem itF_succ {r : Int32} : ∀ (m : Nat) (v : Int32), itF r (m + 1) v = nxF (itF r m v) r := by
  intro m
  induction m with
  | zero => intro v; rfl
  | succ m ih => intro v; exact ih (nxF v r)
theorem itF_lvl {r : Int32} (hr : ∃ b, b ≤ 9 ∧ r = nI b) : ∀ (m : Nat) (v : Int32), lvl v → lvl (itF r m v) := by
  intro m
  induction m with
  | zero => intro v hv; exact hv
  | succ m ih => intro v hv; exact ih _ (nx_lvl hv hr)
theorem X5_flood_b17_s {post : Int32 → Mem → Prop} {px : String → Mem → Prop} {S : Mem} {r : Int32} (hr : S 0 0 5 = r) : ∀ (m k H : Nat) (v : Int32), k + m = H → H < 2 ^ 31 → post (itF r m v) S → mX5_flood_b17 post px (m + 1) S (nI H) v (nI k) := by
  intro m
  induction m with
  | zero =>
    intro k H v hk hH h
    unfold mX5_flood_b17
    exact ⟨fun _ => h, fun g => absurd (nI_le (by omega) (by omega)) g⟩
  | succ m ih =>
    intro k H v hk hH h
    unfold mX5_flood_b17
    refine ⟨fun g => absurd g (nI_ge (by omega) hH), fun _ => X0_levelAfterHour_s hr (fun x ex => ?_)⟩
    rw [ex, inc]
    exact ih (k + 1) H _ (by omega) hH h
theorem X6_floodIn_s {post : Int32 → Mem → Prop} {S : Mem} {n H : Nat} (hH : H < 2 ^ 31) (w : WFR (S 11 0) n) (h : post (itF (S 11 0 2) H (S 11 0 1)) S) : mX6_floodIn post S (nI H) := by
  have loop : ∀ (m k : Nat) (v : Int32), lvl v → k + m = H → post (itF (S 11 0 2) m v) S → mX6_floodIn_b9 post (m + 1) S (nI H) v (nI k) := by
    intro m
    induction m with
    | zero =>
      intro k v hv hk h
      unfold mX6_floodIn_b9
      exact ⟨fun _ => h, fun g => absurd (nI_le (by omega) (by omega)) g⟩
    | succ m ih =>
      intro k v hv hk h
      unfold mX6_floodIn_b9
      refine ⟨fun g => absurd g (nI_ge (by omega) hH), fun _ => X6_next_s hv w.2.2.2.1 (fun x ex => ?_)⟩
      rw [ex, inc]
      exact ih (k + 1) _ (nx_lvl hv w.2.2.2.1) (by omega) h
  unfold mX6_floodIn
  exact ⟨vpL rfl, fun x ex => ⟨H + 1, by rw [ex, c1]; exact loop H 0 _ w.lv (by omega) h⟩⟩
theorem X6_flood_s {S : Mem} {x1 kk : Int32} {f3 : Nat → Int64} {n : Nat} (h : Inv S) (w : WFR (S 11 0) n) (h1 : ∀ H, H ≤ 60 → x1 = nI H → kk = 0 ∧ f3 0 = (itF (S 11 0 2) H (S 11 0 1)).toInt64) (h0 : (x1 < 0 ∨ (60 : Int32) < x1) → kk = 1) : mX6_flood (fun (r4 : Int32) (S5 : Mem) => mX6_thrown (fun (r6 : Int32) (S7 : Mem) => r6 = kk ∧ (kk = 0 → f3 0 = r4.toInt64) ∧ Inv S7) S5) S x1 := by
  unfold mX6_flood
  intro S1 e
  subst e
  refine s_in (fun g0 g1 => ⟨fun g => ne10 g, fun _ => ?_⟩) (fun g => ⟨fun _ => s_raises ?_, fun g => absurd rfl g⟩)
  · obtain ⟨H, hH, rfl⟩ := range9 (n := 60) (by decide) g0 g1
    refine X6_floodIn_s (n := n) (by omega) (by rw [ofs_thr]; exact w) ?_
    rw [ofs_thr]
    obtain ⟨a1, a2⟩ := h1 H hH rfl
    exact fin h a1.symm (fun _ => a2)
  · rw [h0 g]
    exact fin (h.thr 0) rfl ne10
theorem not_out {H n : Nat} (hH : H ≤ n) (hn : n < 2 ^ 31) : ¬ (nI H < 0 ∨ nI n < nI H) := by
  rintro (g | g)
  · exact nI_pos (by omega) g
  · have := (nI_ltI hn (by omega)).mp g
    omega
theorem k_flood {S : Mem} {f : Nat → Int64} {g : Nat → UInt64} {x1 x2 : Int32} (h : Inv S) : lawC5 (fun S1 _ _ => Inv S1) S f g x1 x2 := by
  obtain ⟨n, hR⟩ := h.1
  unfold lawC5 mL_flood mX5_flood
  refine s_checkRange (fun h0 h1 => fun x ex => ?_) (fun h0 => ⟨rfl, X6_flood_s h hR.1 (fun H hH e => ?_) (fun _ => rfl)⟩)
  · obtain ⟨H, hH, rfl⟩ := range9 (n := 60) (by decide) h0 h1
    rw [hR.2.2.2.1] at ex
    subst ex
    refine ⟨H + 1, X5_flood_b17_s hR.2.2.2.2.1 H 0 H _ (by omega) (by omega) (X6_flood_s h hR.1 (fun H' hH' e => ?_) (fun g => absurd g (by rintro (g | g); exact h0 g; exact h1 g)))⟩
    have := (nI_eq (by omega) (by omega)).mp e
    subst this
    exact ⟨rfl, updL0⟩
  · subst e
    exact absurd h0 (not_out hH (by decide))
