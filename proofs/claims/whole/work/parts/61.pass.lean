/-! pass -/
def hoursR (n : Nat) : Nat → Row → Row
  | 0, R => R
  | m + 1, R => hoursR n m (hourR R n)
theorem X5_b28_s {post : Int32 → Mem → Prop} {px : String → Mem → Prop} {S0 : Mem} {n H : Nat} {d : Int32} (hH : H ≤ 24) : ∀ (m k : Nat) (S : Mem) (R : Row), k + m = H → RepC S 0 R n → SameBut 0 S0 S → (∀ S' : Mem, SameBut 0 S0 S' → RepC S' 0 (hoursR n m R) n → post (hoursR n m R 8 - d) S') → mX5_pass_b28 post px (m + 1) S (nI H) d (nI k) := by
  intro m
  induction m with
  | zero =>
    intro k S R hk hR hS h
    unfold mX5_pass_b28
    rw [hR.sc.2.2.2.2.2.2.2.2.1]
    exact ⟨fun _ => h S hS hR, fun g => absurd (nI_le (by omega) (by omega)) g⟩
  | succ m ih =>
    intro k S R hk hR hS h
    unfold mX5_pass_b28
    refine ⟨fun g => absurd g (nI_ge (by omega) (by omega)), fun _ => X0_hour_s hR (fun S1 n1 r1 x ex => ?_)⟩
    rw [ex, inc]
    exact ih (k + 1) S1 _ (by omega) r1 (hS.trans n1) h
theorem X6_b24_s {post : Int32 → Mem → Prop} {S0 : Mem} {n H : Nat} {d : Int32} (hH : H ≤ 24) : ∀ (m k : Nat) (S : Mem) (v : Int32), k + m = H → WFR (S 11 0) n → (S 11 0) 8 = d + v → (∀ c, c ≠ 11 → S c = S0 c) → (∀ (S' : Mem) (v' : Int32), (∀ c, c ≠ 11 → S' c = S0 c) → S' 11 0 = hoursR n m (S 11 0) → S' 11 0 8 = d + v' → mX6_keeps (fun (r3 : Int32) (S2 : Mem) => post r3 S2) S' v') → mX6_pass_b24 post (m + 1) S (nI H) v (nI k) := by
  intro m
  induction m with
  | zero =>
    intro k S v hk w h8 hS h
    unfold mX6_pass_b24
    exact ⟨fun _ => h S v hS rfl h8, fun g => absurd (nI_le (by omega) (by omega)) g⟩
  | succ m ih =>
    intro k S v hk w h8 hS h
    unfold mX6_pass_b24
    refine ⟨fun g => absurd g (nI_ge (by omega) (by omega)), fun _ => X6_goes_s w (fun S1 q1 r1 x ex y ey => ?_)⟩
    rw [ey, ex, inc]
    refine ih (k + 1) S1 _ (by omega) (by rw [r1]; exact hourR_wf w) ?_ (fun c hc => (q1 c hc).trans (hS c hc)) (by rw [r1]; exact h)
    rw [r1, hourR_8, h8, Int32.add_assoc]
theorem k_pass {S : Mem} {f : Nat → Int64} {g : Nat → UInt64} {x1 x2 : Int32} (h : Inv S) : lawC15 (fun S1 _ _ => Inv S1) S f g x1 x2 := by
  obtain ⟨n, hR⟩ := h.1
  have w := hR.1
  unfold lawC15 mL_pass mX5_pass
  refine s_checkRange (fun h0 h1 => ?_) (fun h0 => ⟨rfl, ?_⟩)
  · obtain ⟨H, hH, rfl⟩ := range9 (n := 24) (by decide) (fun g => h0 (Int32.lt_trans g (by decide))) h1
    refine keep_s h (fun S1 u hu h4 hK e0 e1 e2 x5 ex5 => ?_)
    have hR1 := Rep_now e0 e1 e2 hR
    have ex : x5 = S 11 0 8 := ex5.trans hR1.sc.2.2.2.2.2.2.2.2.1
    refine ⟨H + 1, X5_b28_s hH H 0 S1 (S 11 0) (by omega) hR1 SameBut.refl (fun S4 n4 r4 => ?_)⟩
    have hK4 : Kept S S4 u := hK.now n4
    unfold mX6_pass
    refine tries_t (fun S' hTr => s_in (fun _ _ => ⟨fun _ => ⟨H + 1, ?_⟩, fun g => ne10 g⟩) (fun g0 => absurd g0 (by rintro (g | g); exact h0 g; exact h1 g)))
    have e11 : S' 11 = S 11 := by rw [hTr.1 11 (by decide) (by decide), hK4.1 11 (by decide) (by decide) (by decide) (by decide)]
    refine X6_b24_s (S0 := S') (d := S 11 0 8) hH H 0 S' 0 (by omega) (by rw [e11]; exact w) (by rw [e11, Int32.add_zero]) (fun _ _ => rfl) (fun S9 v' q9 r9 e9 => ?_)
    rw [e11] at r9
    refine ref_end (S9 := S9) (E := fun r => (vp_updL f 0 (hoursR n H (S 11 0) 8 - x5).toInt64) 0 = r.toInt64) h hu h4 hK4 hTr q9 ⟨n, by rw [r9]; exact r4⟩ ?_
    show vp_updL f 0 (hoursR n H (S 11 0) 8 - x5).toInt64 0 = v'.toInt64
    rw [updL0, ← r9, e9, ex, Int32.add_comm, Int32.add_sub_cancel]
  · unfold mX6_pass
    refine tries_t (fun S' hT => s_in (fun g0 g1 => absurd h0 (by rintro (g | g); exact g0 g; exact g1 g)) (fun g0 => ⟨fun h => absurd rfl h, fun _ => s_raises (fin (hT.inv h) rfl ne10)⟩))
