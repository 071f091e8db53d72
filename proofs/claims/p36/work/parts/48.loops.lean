/-! under, flood, floodAgain, clearIn, wetSteps, kinds, type -/
def underF (st : Nat → Int32) : Nat → Nat → Int32 → Int32
  | 0, _, a => a
  | m + 1, s, a => underF st m (s + 1) (if st s = 2 then a ||| ((1 : Int32) <<< (nI s &&& 31)) else a)
theorem X5_under_s {post : Int32 → Mem → Prop} {S : Mem} {n : Nat} {R : Row} (hR : RepC S 0 R n) (h : post (underF (stF R (R 1)) 10 0 0) S) : mX5_under post S := by
  have loop : ∀ (m s : Nat) (a : Int32), s + m = 10 → post (underF (stF R (R 1)) m s a) S → mX5_under_b4 post (m + 1) S a (nI s) := by
    intro m
    induction m with
    | zero =>
      intro s a hs h
      have hs : s = 10 := by omega
      subst hs
      unfold mX5_under_b4
      exact ⟨fun _ => h, fun g => absurd (by decide) g⟩
    | succ m ih =>
      intro s a hs h
      have hs10 : s < 10 := by omega
      unfold mX5_under_b4
      refine ⟨fun g => absurd g (nI_ge (b := 10) hs10 (by decide)), fun _ => X0_stateOf_s hs10 hR.1 (hR.2.2.2.2.2.2.2.2.2.2.2.1 s hs10) (by rw [hR.2.2.2.1]; exact hR.1.lv) ?_⟩
      rw [hR.2.2.2.1]
      unfold underF at h
      refine ⟨fun g x ex => ?_, fun g x ex y ey => ?_⟩
      · rw [if_neg g] at h
        rw [ex, inc]
        exact ih (s + 1) a (by omega) h
      · rw [if_pos g] at h
        rw [ex, ey, inc]
        exact ih (s + 1) _ (by omega) h
  unfold mX5_under
  exact ⟨11, loop 10 0 0 (by omega) h⟩
/-- the flood an hour on -/
def nxF (v r : Int32) : Int32 := if (4 : Int32) < ((if (v + r) < (40 : Int32) then (v + r) else (40 : Int32)) - (2 : Int32)) then ((if (v + r) < (40 : Int32) then (v + r) else (40 : Int32)) - (2 : Int32)) else (4 : Int32)
theorem nx_tab : ∀ a, a < 39 → 4 ≤ a → ∀ b, b < 10 → nxF (nI a) (nI b) = nI (max 4 (min 40 (a + b) - 2)) ∧ ((if (nI a + nI b) < (40 : Int32) then (nI a + nI b) else (40 : Int32)) ≤ 4 → (if (nI a + nI b) < (40 : Int32) then (nI a + nI b) else (40 : Int32)) = nxF (nI a) (nI b)) := by decide +kernel
theorem nx_lvl {v r : Int32} (hv : lvl v) (hr : ∃ b, b ≤ 9 ∧ r = nI b) : lvl (nxF v r) := by
  obtain ⟨a, a1, a2, rfl⟩ := hv
  obtain ⟨b, b1, rfl⟩ := hr
  rw [(nx_tab a (by omega) a1 b (by omega)).1]
  exact ⟨_, by omega, by omega, rfl⟩
theorem X0_levelAfterHour_s {post : Int32 → Mem → Prop} {S : Mem} {j : Nat} {v r : Int32} (hr : S 0 j 5 = r) (h : post (nxF v r) S) : mX0_levelAfterHour post S j v := by
  unfold mX0_levelAfterHour
  intro x ex
  rw [hr] at ex
  subst ex
  exact h
def itF (r : Int32) : Nat → Int32 → Int32
  | 0, v => v
  | m + 1, v => itF r m (nxF v r)
theorem itF_succ {r : Int32} : ∀ (m : Nat) (v : Int32), itF r (m + 1) v = nxF (itF r m v) r := by
  intro m
  induction m with
  | zero => intro v; rfl
  | succ m ih => intro v; exact ih (nxF v r)
theorem itF_lvl {r : Int32} (hr : ∃ b, b ≤ 9 ∧ r = nI b) : ∀ (m : Nat) (v : Int32), lvl v → lvl (itF r m v) := by
  intro m
  induction m with
  | zero => intro v hv; exact hv
  | succ m ih => intro v hv; exact ih _ (nx_lvl hv hr)
theorem X5_flood_b17_s {post : Int32 → Mem → Prop} {px : String → Mem → Prop} {S : Mem} {r : Int32} (hr : S 0 0 5 = r) : ∀ (m k H : Nat) (v : Int32), k + m = H → H < 2 ^ 31 → post (itF r m v) S → mX5_flood_b17 post px (m + 1) S (nI H) v (nI k) := by
  intro m
  induction m with
  | zero =>
    intro k H v hk hH h
    unfold mX5_flood_b17
    exact ⟨fun _ => h, fun g => absurd (nI_le (by omega) (by omega)) g⟩
  | succ m ih =>
    intro k H v hk hH h
    unfold mX5_flood_b17
    refine ⟨fun g => absurd g (nI_ge (by omega) hH), fun _ => X0_levelAfterHour_s hr (fun x ex => ?_)⟩
    rw [ex, inc]
    exact ih (k + 1) H _ (by omega) hH h
theorem not_out {H n : Nat} (hH : H ≤ n) (hn : n < 2 ^ 31) : ¬ (nI H < 0 ∨ nI n < nI H) := by
  rintro (g | g)
  · exact nI_pos (by omega) g
  · have := (nI_ltI hn (by omega)).mp g
    omega
