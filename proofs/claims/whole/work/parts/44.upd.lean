/-! changes: rain, letters, height -/
def Tried (S S' : Mem) : Prop := (∀ c, c ≠ 10 → c ≠ 12 → S' c = S c) ∧ (∀ k, k ≠ 21 → S' 10 0 k = S 10 0 k) ∧ S' 10 0 21 = 0 ∧ (∀ k, k < 84 → S' 12 0 k = S 11 0 k)
theorem tries_t {post : Mem → Prop} {S : Mem} (h : ∀ S' : Mem, Tried S S' → post S') : mX6_tries post S := tries_s (fun S' h1 h2 h3 h4 => h S' ⟨h1, h2, h3, h4⟩)
theorem Tried.inv {S S' : Mem} (h : Tried S S') (hI : Inv S) : Inv S' := by
  refine hI.congr (fun c h1 h2 _ _ _ => h.1 c h1 h2) (fun k hk => h.2.1 k ?_)
  omega
theorem newK_congr {S S' : Mem} {R R' : Row} {u i k : Nat} (h : S' 14 = S 14) (hR : ∀ k, k < 84 → R' k = R k) (hk : k < 84) : newK S' R' u i k = newK S R u i k := by
  unfold newK keptR
  rw [h]
  split
  · exact hR k hk
  · rfl
/-- the end of a change in the reference -/
theorem ref_end {S S1 S' S9 : Mem} {u : Nat} {v : Int32} {E : Int32 → Prop} (hI : Inv S) (hu : u ≤ 8) (h4 : S 10 0 4 = nI u) (hK : Kept S S1 u) (hT : Tried S1 S') (h9 : ∀ c, c ≠ 11 → S9 c = S' c) (h0 : RepX S1 0 (S9 11 0)) (he : E v) : mX6_keeps (fun (r : Int32) (S5 : Mem) => mX6_thrown (fun (r6 : Int32) (S7 : Mem) => r6 = 0 ∧ ((0 : Int32) = 0 → E r) ∧ Inv S7) S5) S9 v := by
  have b1 := hK.1
  obtain ⟨t1, t2, t3, t4⟩ := hT
  have e10 : S1 10 = S 10 := b1 10 (by decide) (by decide) (by decide) (by decide)
  have e11 : S1 11 = S 11 := b1 11 (by decide) (by decide) (by decide) (by decide)
  have e14 : S1 14 = S 14 := b1 14 (by decide) (by decide) (by decide) (by decide)
  refine keeps_s hu (by rw [h9 10 (by decide), t2 4 (by decide), e10]; exact h4) (fun S2 g1 g2 g3 g4 => ?_)
  unfold mX6_thrown
  refine ⟨by rw [g2 21 (by decide), h9 10 (by decide), t3], fun _ => he, ?_⟩
  have e11' : S2 11 = S9 11 := g1 11 (by decide) (by decide)
  refine upd_inv hI hK (fun c c10 c11 c12 c14 => ?_) (fun k k4 k21 => ?_) g3 (fun i hi k hk => ?_) (by rw [e11']; exact h0)
  · rw [g1 c c10 c14, h9 c c11, t1 c c10 c12]
  · rw [g2 k k4, h9 10 (by decide), t2 k k21]
  · rw [g4 i hi k hk]
    refine newK_congr ?_ (fun k hk => ?_) hk
    · rw [h9 14 (by decide), t1 14 (by decide) (by decide), e14]
    · rw [h9 12 (by decide), t4 k hk, e11]
theorem refuses_s {post : Int32 → Mem → Prop} {S : Mem} {a b d : Int32} (h : post 0 (wr (wr (wr S 10 0 19 b) 10 0 20 d) 10 0 21 a)) : mX6_refuses post S a b d := by
  unfold mX6_refuses
  intro S1 e1 S2 e2
  subst e2 e1
  exact s_raises h
theorem refuse_s {post : Mem → Prop} {px : String → Mem → Prop} {S : Mem} {a b : Int32} (h : px "java/lang/UnsupportedOperationException" (wr (wr S 3 0 8 a) 3 0 9 b)) : mX5_refuse post px S a b := by
  unfold mX5_refuse
  intro S1 e1 S2 e2
  subst e2 e1
  exact h
theorem refuse_inv {S S' : Mem} {a b v : Int32} (hI : Inv S) (hT : Tried (wr (wr S 3 0 8 a) 3 0 9 b) S') : Inv (wr (wr (wr S' 10 0 19 a) 10 0 20 b) 10 0 21 v) := by
  obtain ⟨t1, t2, t3, t4⟩ := hT
  obtain ⟨i1, ⟨u, nx, a1, a2, a3, a4, a5, a6⟩, i3, i4, i5, i6, i7, i8⟩ := hI
  refine Inv.thr ?_ v
  have e : ∀ c, c ≠ 3 → c ≠ 10 → c ≠ 12 → (wr (wr S' 10 0 19 a) 10 0 20 b) c = S c := fun c c3 c10 c12 => by rw [wr_c c10, wr_c c10, t1 c c10 c12, wr_c c3, wr_c c3]
  have f : ∀ k, k ≠ 19 → k ≠ 20 → k ≠ 21 → (wr (wr S' 10 0 19 a) 10 0 20 b) 10 0 k = S 10 0 k := fun k k1 k2 k3 => by rw [wr_k k2, wr_k k1, t2 k k3, wr_c (by decide), wr_c (by decide)]
  have g3 : ∀ k, k ≠ 8 → k ≠ 9 → (wr (wr S' 10 0 19 a) 10 0 20 b) 3 0 k = S 3 0 k := fun k k1 k2 => by rw [wr_c (by decide), wr_c (by decide), t1 3 (by decide) (by decide), wr_k k2, wr_k k1]
  have hX : ∀ j R, RepX S j R → RepX (wr (wr S' 10 0 19 a) 10 0 20 b) j R := fun j R h => RepX.congr (by rw [e 0 (by decide) (by decide) (by decide)]) (by rw [e 1 (by decide) (by decide) (by decide)]) (fun t _ => by rw [e 2 (by decide) (by decide) (by decide)]) h
  refine ⟨?_, ⟨u, nx, a1, a2, ?_, ?_, ?_, fun i hi => ?_⟩, ⟨?_, ?_⟩, ?_, ?_, ?_, ⟨?_, ?_⟩, ?_⟩
  · rw [e 11 (by decide) (by decide) (by decide)]; exact hX _ _ i1
  · rw [f 4 (by decide) (by decide) (by decide)]; exact a3
  · rw [e 4 (by decide) (by decide) (by decide)]; exact a4
  · rw [e 4 (by decide) (by decide) (by decide)]; exact a5
  · have := hX _ _ (a6 i hi)
    unfold keptR at this ⊢
    rw [e 14 (by decide) (by decide) (by decide)]
    exact this
  · rw [g3 3 (by decide) (by decide), f 6 (by decide) (by decide) (by decide)]; exact i3.1
  · rw [f 6 (by decide) (by decide) (by decide), e 15 (by decide) (by decide) (by decide)]
    exact i3.2.imp id (fun h => ⟨h.1, hX _ _ h.2⟩)
  · unfold Text
    rw [e 6 (by decide) (by decide) (by decide), f 10 (by decide) (by decide) (by decide), e 7 (by decide) (by decide) (by decide), e 17 (by decide) (by decide) (by decide)]
    exact i4
  · unfold Answ
    rw [g3 7 (by decide) (by decide), f 17 (by decide) (by decide) (by decide), e 8 (by decide) (by decide) (by decide), e 20 (by decide) (by decide) (by decide)]
    exact i5
  · unfold Fault
    rw [g3 5 (by decide) (by decide), f 18 (by decide) (by decide) (by decide)]
    exact i6
  · rw [wr_c (by decide), wr_c (by decide), t1 3 (by decide) (by decide), wr_k (by decide), wr_same, wr_k (by decide), wr_same]
  · rw [wr_c (by decide), wr_c (by decide), t1 3 (by decide) (by decide), wr_same, wr_same]
  · unfold Line
    rw [g3 11 (by decide) (by decide), f 8 (by decide) (by decide) (by decide), e 9 (by decide) (by decide) (by decide), e 16 (by decide) (by decide) (by decide)]
    exact i8
/-- the present ford behind the class's keep -/
theorem Rep_now {S S1 : Mem} {R : Row} {n : Nat} (h0 : S1 0 0 = S 0 0) (h1 : S1 1 0 = S 1 0) (h2 : ∀ t, t < 8 → S1 2 t = S 2 t) (h : RepC S 0 R n) : RepC S1 0 R n := by
  obtain ⟨a, b1, b2, b3, b4, b5, b6, b7, b8, b9, b10, b11, b12⟩ := h
  refine ⟨a, ?_⟩
  rw [h0, h1]
  exact ⟨b1, b2, b3, b4, b5, b6, b7, b8, b9, b10, b11, fun t ht f hf => by rw [Nat.mul_zero, Nat.zero_add, h2 t (Nat.lt_of_lt_of_le ht a.1)]; have := b12 t ht f hf; rw [Nat.mul_zero, Nat.zero_add] at this; exact this⟩
theorem wr0_now {S : Mem} {k : Nat} {v : Int32} : SameBut 0 S (wr S 0 0 k v) := ⟨fun c c0 _ _ => wr_c c0, fun j hj => ⟨wr_i hj, by rw [wr_c (by decide)]⟩, fun j t hj ht => by rw [wr_c (by decide)]⟩
theorem wr1_now {S : Mem} {k : Nat} {v : Int32} : SameBut 0 S (wr S 1 0 k v) := ⟨fun c _ c1 _ => wr_c c1, fun j hj => ⟨by rw [wr_c (by decide)], wr_i hj⟩, fun j t hj ht => by rw [wr_c (by decide)]⟩
theorem SameBut.trans {j : Nat} {S S1 S2 : Mem} (h : SameBut j S S1) (h2 : SameBut j S1 S2) : SameBut j S S2 := ⟨fun c c0 c1 c2 => (h2.1 c c0 c1 c2).trans (h.1 c c0 c1 c2), fun i hi => ⟨(h2.2.1 i hi).1.trans (h.2.1 i hi).1, (h2.2.1 i hi).2.trans (h.2.1 i hi).2⟩, fun i t hi ht => (h2.2.2 i t hi ht).trans (h.2.2 i t hi ht)⟩
theorem upd_same {R : Row} {k : Nat} {v : Int32} : upd R k v k = v := by simp [upd]
theorem upd_ne {R : Row} {k i : Nat} {v : Int32} (h : i ≠ k) : upd R k v i = R i := by simp [upd, h]
theorem range9 {v : Int32} {n : Nat} (hn : n < 2 ^ 31) (h0 : ¬ v < 0) (h1 : ¬ nI n < v) : ∃ a, a ≤ n ∧ v = nI a := by
  obtain ⟨j, hj, rfl⟩ := nI_of h0
  rw [nI_ltI hn hj] at h1
  exact ⟨j, by omega, rfl⟩
theorem k_rain {S : Mem} {f : Nat → Int64} {g : Nat → UInt64} {x1 x2 : Int32} (h : Inv S) : lawC1 (fun S1 _ _ => Inv S1) S f g x1 x2 := by
  unfold lawC1 mL_rain mX5_rain
  refine s_checkRange (fun h0 h1 => ?_) (fun h0 => ⟨rfl, ?_⟩)
  · refine keep_s h (fun S1 u hu h4 hK e0 e1 e2 => ?_)
    intro x5 ex5 S6 e6
    obtain ⟨n, hR⟩ := h.1
    have hR1 := Rep_now e0 e1 e2 hR
    subst e6
    have hK6 := hK.now (wr0_now (k := 5) (v := x1))
    unfold mX6_rain
    refine tries_t (fun S' hT => s_in (fun g0 g1 => ⟨fun _ => ?_, fun h => ne10 h⟩) (fun g0 => absurd g0 (by rintro (g | g); exact h0 g; exact h1 g)))
    refine ⟨vpL rfl, fun x7 ex7 => ⟨vpL rfl, fun S9 e9 => ?_⟩⟩
    have e11 : S' 11 = S 11 := by rw [hT.1 11 (by decide) (by decide), wr_c (by decide), hK.1 11 (by decide) (by decide) (by decide) (by decide)]
    subst e9
    have e119 : (wr S' 11 0 (2 : Int32).toNatClampNeg x1) 11 0 = upd (S 11 0) 2 x1 := by rw [wr_row, e11]; rfl
    refine ref_end (E := fun r => (vp_updL f 0 x5.toInt64) 0 = r.toInt64) h hu h4 hK6 hT (fun c hc => wr_c hc) ?_ ?_
    · rw [e119]
      obtain ⟨⟨w1, w2, w3, w4, w5, w6⟩, b1, b2, b3, b4, b5, b6, b7, b8, b9, b10, b11, b12⟩ := hR1
      refine ⟨n, ⟨w1, w2, w3, range9 (n := 9) (by decide) h0 h1, fun s hs => by rw [upd_ne (by omega)]; exact w5 s hs, fun t ht => ?_⟩, ?_⟩
      · have : trv (upd (S 11 0) 2 x1) t = trv (S 11 0) t := by funext q; exact upd_ne (by omega)
        rw [this]; exact w6 t ht
      · refine ⟨b1, b2, b3, wr_same, b5, b6, b7, b8, b9, b10, fun s hs => ?_, fun t ht q hq => ?_⟩
        · rw [wr_c (by decide), upd_ne (by omega)]; exact b11 s hs
        · have : trv (upd (S 11 0) 2 x1) t = trv (S 11 0) t := by funext q; exact upd_ne (by omega)
          rw [wr_c (by decide), this]; exact b12 t ht q hq
    · show vp_updL f 0 x5.toInt64 0 = x7.toInt64
      rw [updL0, ex5, ex7, e11, hR1.2.2.2.2.1]
      rfl
  · unfold mX6_rain
    refine tries_t (fun S' hT => s_in (fun g0 g1 => absurd h0 (by rintro (g | g); exact g0 g; exact g1 g)) (fun g0 => ⟨fun h => absurd rfl h, fun _ => s_raises (fin (hT.inv h) rfl ne10)⟩))
