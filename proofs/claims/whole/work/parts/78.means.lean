/-! meanWet, crossingShare -/
theorem vf_same {α : Type} {f : Nat → α} {k : Nat} {x : α} : vf_upd f k x k = x := if_pos rfl
theorem k_meanWet {S : Mem} {f : Nat → Int64} {g : Nat → UInt64} {x1 x2 : Int32} (h : Inv S) : lawC28 (fun S1 _ _ => Inv S1) S f g x1 x2 := by
  obtain ⟨n, hR⟩ := h.1
  have w := hR.1
  unfold lawC28 mL_meanWet mX5_meanWet
  rw [hR.cnt]
  refine ⟨fun g0 => X0_sumOf_s (k := 2) (by decide) hR ?_, fun g0 => ⟨rfl, ?_⟩⟩
  · rw [hR.cnt]
    refine ⟨fl_mean g0, ?_⟩
    unfold mX6_meanWet
    intro S1 e1
    have e11 : S1 11 = S 11 := by rw [e1]; exact ofs_thr
    rw [c3, e11, w.2.1]
    refine ⟨vpL rfl, fun _ => X6_sum_s (f := 1) (n := n) (by decide) (by rw [e11]; exact w) ?_, fun z => absurd z g0⟩
    rw [e11, w.2.1]
    refine ⟨vpL rfl, fl_mean g0, ?_⟩
    unfold mX6_thrown
    refine ⟨by rw [e1]; exact thr_get, fun _ => ?_, by rw [e1]; exact h.thr 0⟩
    rw [vf_same]
    exact fl_self (fl_mean g0)
  · unfold mX6_meanWet
    intro S1 e1
    have e11 : S1 11 = S 11 := by rw [e1]; exact ofs_thr
    rw [c3, e11, w.2.1]
    refine ⟨vpL rfl, fun z => absurd g0 z, fun _ => s_raises ?_⟩
    unfold mX6_thrown
    exact ⟨thr_get, ne10, by rw [e1]; exact (h.thr 0).thr 1⟩
theorem k_crossingShare {S : Mem} {f : Nat → Int64} {g : Nat → UInt64} {x1 x2 : Int32} (h : Inv S) : lawC29 (fun S1 _ _ => Inv S1) S f g x1 x2 := by
  obtain ⟨n, hR⟩ := h.1
  obtain ⟨s1, s2, s3, s4, s5, s6, s7, s8, s9, s10⟩ := hR.sc
  unfold lawC29 mL_crossingShare mX5_crossingShare
  rw [s9, s10]
  intro x1 ex
  refine ⟨fun g0 => ⟨fl_share g0, fl_wide (fl_share g0), ?_⟩, fun g0 => ⟨rfl, ?_⟩⟩
  · unfold mX6_crossingShare
    intro S1 e1
    have e11 : S1 11 = S 11 := by rw [e1]; exact ofs_thr
    rw [c8, c9, e11]
    refine ⟨vpL rfl, vpL rfl, fun x4 e4 => ?_⟩
    rw [e4, ← ex]
    refine ⟨fun _ => ⟨vpL rfl, fl_share g0, ?_⟩, fun z => absurd z g0⟩
    unfold mX6_thrown
    refine ⟨by rw [e1]; exact thr_get, fun _ => ⟨fl_wide (fl_share g0), ?_⟩, by rw [e1]; exact h.thr 0⟩
    rw [vf_same]
    exact fl_self (fl_wide (fl_share g0))
  · unfold mX6_crossingShare
    intro S1 e1
    have e11 : S1 11 = S 11 := by rw [e1]; exact ofs_thr
    rw [c8, c9, e11]
    refine ⟨vpL rfl, vpL rfl, fun x4 e4 => ?_⟩
    rw [e4, ← ex]
    refine ⟨fun z => absurd g0 z, fun _ => s_raises ?_⟩
    unfold mX6_thrown
    exact ⟨thr_get, ne10, by rw [e1]; exact (h.thr 0).thr 1⟩
