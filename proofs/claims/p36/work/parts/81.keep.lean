/-! p36, THE CLASS ALONE: the history, the snapshot -/
def HistK (S : Mem) (u : Nat) (hs : Nat → Row) : Prop := u ≤ 8 ∧ S 4 0 2 = nI u ∧ ∃ nx, nx < 8 ∧ S 4 0 1 = nI nx ∧ ∀ i, i < u → RepX S (ringJ nx u i) (hs i)
def SnapK (S : Mem) (sn : Option Row) : Prop := match sn with
  | none => S 3 0 3 = 0
  | some Q => S 3 0 3 = 1 ∧ RepX S 9 Q
/-- the present ford is the row R with n travellers, u changes can be undone, hs are the rows before them, sn is the snapshot -/
def KK (S : Mem) (R : Row) (n u : Nat) (hs : Nat → Row) (sn : Option Row) : Prop := RepC S 0 R n ∧ HistK S u hs ∧ SnapK S sn
def newH (hs : Nat → Row) (R : Row) (u i : Nat) : Row := if i + 1 = min 8 (u + 1) then R else if u < 8 then hs i else hs (i + 1)
/-- what a change leaves as it was -/
def Chg (S S' : Mem) : Prop := ∀ c, c ≠ 0 → c ≠ 1 → c ≠ 2 → c ≠ 4 → S' c = S c
theorem Chg.trans {S S1 S2 : Mem} (h : Chg S S1) (h2 : Chg S1 S2) : Chg S S2 := fun c c0 c1 c2 c4 => (h2 c c0 c1 c2 c4).trans (h c c0 c1 c2 c4)
theorem Chg.refl {S : Mem} : Chg S S := fun _ _ _ _ _ => rfl
theorem SameBut.chg {S S1 : Mem} (h : SameBut 0 S S1) : Chg S S1 := fun c c0 c1 c2 _ => h.1 c c0 c1 c2
/-- a frame that all of KK stands on -/
theorem KK.frame {S S' : Mem} {R : Row} {n u : Nat} {hs : Nat → Row} {sn : Option Row} (h0 : S' 0 = S 0) (h1 : S' 1 = S 1) (h2 : S' 2 = S 2) (h4 : S' 4 = S 4) (h3 : S' 3 0 3 = S 3 0 3) (h : KK S R n u hs sn) : KK S' R n u hs sn := by
  obtain ⟨hR, ⟨a1, a2, nx, a3, a4, a5⟩, hS⟩ := h
  refine ⟨Rep_now (by rw [h0]) (by rw [h1]) (fun t _ => by rw [h2]) hR, ⟨a1, by rw [h4]; exact a2, nx, a3, by rw [h4]; exact a4, fun i hi => (a5 i hi).c3 h0 h1 h2⟩, ?_⟩
  cases sn with
  | none => exact h3.trans hS
  | some Q => exact ⟨h3.trans hS.1, hS.2.c3 h0 h1 h2⟩
theorem Lin.kk {S S' : Mem} {R : Row} {n u : Nat} {hs : Nat → Row} {sn : Option Row} (l : Lin S S') (h : KK S R n u hs sn) : KK S' R n u hs sn :=
  h.frame (l.1 0 (by decide) (by decide)) (l.1 1 (by decide) (by decide)) (l.1 2 (by decide) (by decide)) (l.1 4 (by decide) (by decide)) (l.2 3 (by decide))
/-- a change of the present ford alone -/
theorem KK.now {S S' : Mem} {R R' : Row} {n n' u : Nat} {hs : Nat → Row} {sn : Option Row} (h : KK S R n u hs sn) (h2 : SameBut 0 S S') (hr : RepC S' 0 R' n') : KK S' R' n' u hs sn := by
  obtain ⟨-, ⟨a1, a2, nx, a3, a4, a5⟩, hS⟩ := h
  have e4 := h2.1 4 (by decide) (by decide) (by decide)
  have e3 := h2.1 3 (by decide) (by decide) (by decide)
  refine ⟨hr, ⟨a1, by rw [e4]; exact a2, nx, a3, by rw [e4]; exact a4, fun i hi => h2.rep (by unfold ringJ; omega) (a5 i hi)⟩, ?_⟩
  cases sn with
  | none =>
    show S' 3 0 3 = 0
    rw [e3]
    exact hS
  | some Q => exact ⟨by rw [e3]; exact hS.1, h2.rep (by decide) hS.2⟩
theorem KK.row {S : Mem} {R R' : Row} {n u : Nat} {hs : Nat → Row} {sn : Option Row} (h : ∀ k, k < 84 → R' k = R k) (hK : KK S R n u hs sn) : KK S R' n u hs sn := by
  obtain ⟨n', h1⟩ := RepX.row h ⟨n, hK.1⟩
  have e : nI n' = nI n := by rw [← h1.1.2.1, ← hK.1.1.2.1]; exact h 3 (by decide)
  have e := (nI_eq (by have := h1.1.1; omega) (by have := hK.1.1.1; omega)).mp e
  subst e
  exact ⟨h1, hK.2⟩
theorem keep_k {post : Mem → Prop} {S : Mem} {R : Row} {n u : Nat} {hs : Nat → Row} {sn : Option Row} (hK : KK S R n u hs sn) (h : ∀ S1 : Mem, KK S1 R n (min 8 (u + 1)) (newH hs R u) sn → Chg S S1 → post S1) : mX1_keep post S 0 := by
  obtain ⟨hR, ⟨a1, a4, nx, a2, a5, a6⟩, hsn⟩ := hK
  unfold mX1_keep
  rw [a5]
  refine ⟨vpN a2 (by decide), fun k e => ?_⟩
  rw [nI_clamp (by omega)] at e
  subst e
  refine copyFrom_s (R := R) (by omega) S ⟨n, hR⟩ (fun S1 hS h1 => ?_)
  have e41 : S1 4 0 1 = nI nx := by rw [hS.1 4 (by decide) (by decide) (by decide)]; exact a5
  have e42 : S1 4 0 2 = nI u := by rw [hS.1 4 (by decide) (by decide) (by decide)]; exact a4
  have fin1 : ∀ nx' : Nat, nx' < 8 → nx' = (nx + 1) % 8 → mX1_keep_b33 post S1 (nI nx') := by
    intro nx' hx' ex'
    unfold mX1_keep_b33
    intro S2 e2 S3 e3
    have e5 : (if (S2 4 0 2) + (1 : Int32) < (8 : Int32) then (S2 4 0 2) + (1 : Int32) else (8 : Int32)) = nI (min 8 (u + 1)) := by
      rw [e2, wr_k (by decide), e42, inc]
      by_cases hu : u + 1 < 8
      · rw [if_pos (show nI (u + 1) < (8 : Int32) from nI_lt (b := 8) hu (by decide)), Nat.min_eq_right (by omega)]
      · rw [if_neg (show ¬ nI (u + 1) < (8 : Int32) from nI_nlt (b := 8) (by omega) (by omega)), Nat.min_eq_left (by omega)]
        rfl
    rw [e5] at e3
    have hX : ∀ j R, RepX S1 j R → RepX S3 j R := fun j R hr => by
      subst e3 e2
      exact RepX.congr (by rw [wr_c (by decide), wr_c (by decide)]) (by rw [wr_c (by decide), wr_c (by decide)]) (fun t _ => by rw [wr_c (by decide), wr_c (by decide)]) hr
    have hC : ∀ c, c ≠ 4 → S3 c = S1 c := fun c c4 => by
      subst e3 e2
      rw [wr_c c4, wr_c c4]
    refine h S3 ⟨Rep_now (S := S) ?_ ?_ ?_ hR, ⟨by omega, ?_, nx', hx', ?_, fun i hi => ?_⟩, ?_⟩ (fun c c0 c1 c2 c4 => ?_)
    · rw [hC 0 (by decide)]
      exact (hS.2.1 0 (by omega)).1
    · rw [hC 1 (by decide)]
      exact (hS.2.1 0 (by omega)).2
    · intro t ht
      rw [hC 2 (by decide)]
      have := hS.2.2 0 t (by omega) ht
      rw [Nat.mul_zero, Nat.zero_add] at this
      exact this
    · subst e3
      exact wr_same
    · subst e3 e2
      rw [wr_k (by decide)]
      exact wr_same
    · refine hX _ _ ?_
      unfold newH
      by_cases hl : i + 1 = min 8 (u + 1)
      · rw [if_pos hl]
        have : ringJ nx' (min 8 (u + 1)) i = nx + 1 := by unfold ringJ; omega
        rw [this]
        exact h1
      · rw [if_neg hl]
        by_cases hu : u < 8
        · rw [if_pos hu]
          have : ringJ nx' (min 8 (u + 1)) i = ringJ nx u i := by unfold ringJ; omega
          rw [this]
          exact hS.rep (by unfold ringJ; omega) (a6 i (by omega))
        · rw [if_neg hu]
          have : ringJ nx' (min 8 (u + 1)) i = ringJ nx u (i + 1) := by unfold ringJ; omega
          rw [this]
          exact hS.rep (by unfold ringJ; omega) (a6 (i + 1) (by omega))
    · have e3' : S3 3 = S 3 := by rw [hC 3 (by decide)]; exact hS.1 3 (by decide) (by decide) (by decide)
      cases sn with
      | none =>
        show S3 3 0 3 = 0
        rw [e3']
        exact hsn
      | some Q => exact ⟨by rw [e3']; exact hsn.1, hX 9 _ (hS.rep (by omega) hsn.2)⟩
    · rw [hC c c4]
      exact hS.1 c c0 c1 c2
  rw [e41, inc]
  refine ⟨fun g => ?_, fun g => ?_⟩
  · have hn : nx = 7 := by
      rcases Nat.lt_or_ge nx 7 with h | h
      · exact absurd g (nI_ge (b := 7) h (by decide))
      · omega
    exact fin1 0 (by decide) (by omega)
  · have hn : nx ≠ 7 := fun e => g (by rw [e]; decide)
    exact fin1 (nx + 1) (by omega) (by omega)
theorem Q_undo {post : Int32 → Mem → Prop} {S : Mem} {R : Row} {n u : Nat} {hs : Nat → Row} {sn : Option Row} (hK : KK S R n u hs sn) (h0 : u = 0 → post (-1001) S) (h1 : ∀ v, u = v + 1 → ∀ (S' : Mem) (n' : Nat), KK S' (hs v) n' v hs sn → Chg S S' → post (nI v) S') : mL_undo post S := by
  obtain ⟨hR, ⟨a1, a4, nx, a2, a5, a6⟩, hsn⟩ := hK
  unfold mL_undo mX5_undo
  rw [a4]
  refine ⟨fun g => ?_, fun g => ⟨rfl, h0 ((nI_eq (b := 0) (by omega) (by decide)).mp g)⟩⟩
  obtain ⟨v, rfl⟩ : ∃ v, u = v + 1 := ⟨u - 1, by have : u ≠ 0 := fun e => g (by rw [e]; rfl); omega⟩
  have h := h1 v rfl
  have body : ∀ nx' : Nat, nx' < 8 → nx = (nx' + 1) % 8 → mX1_takeBack_b19 (fun (S2 : Mem) => post (S2 4 0 2) S2) S 0 (nI nx') := by
    intro nx' hx ex
    unfold mX1_takeBack_b19
    intro S1 e1
    rw [e1, wr_same]
    refine ⟨vpN hx (by decide), fun k3 ek => ?_⟩
    rw [nI_clamp (by omega)] at ek
    subst ek
    have hX1 : ∀ j R, RepX S j R → RepX (wr S 4 0 1 (nI nx')) j R := fun j R q => q.c3 (wr_c (by decide)) (wr_c (by decide)) (wr_c (by decide))
    have hlast : RepX (wr S 4 0 1 (nI nx')) (nx' + 1) (hs v) := by
      have := hX1 _ _ (a6 v (by omega))
      have e : ringJ nx (v + 1) v = nx' + 1 := by unfold ringJ; omega
      rw [e] at this
      exact this
    refine copyFrom_s (R := hs v) (by omega) _ hlast (fun S4 hS hR' => ?_)
    intro S6 e6
    have e42 : S4 4 0 2 = nI (v + 1) := by rw [hS.1 4 (by decide) (by decide) (by decide), wr_k (by decide)]; exact a4
    rw [e42, nI_pred] at e6
    have hX : ∀ j R, RepX S4 j R → RepX S6 j R := fun j R r => by rw [e6]; exact r.c3 (wr_c (by decide)) (wr_c (by decide)) (wr_c (by decide))
    have hX0 : ∀ j R, j ≠ 0 → RepX S j R → RepX S6 j R := fun j R hj r => hX j R (hS.rep hj (hX1 j R r))
    have hC : Chg S S6 := fun c c0 c1 c2 c4 => by rw [e6, wr_c c4, hS.1 c c0 c1 c2, wr_c c4]
    obtain ⟨n', hR6⟩ := hX 0 _ hR'
    have eA : S6 4 0 2 = nI v := by rw [e6, wr_same]
    rw [eA]
    refine h S6 n' ⟨hR6, ⟨by omega, eA, nx', hx, ?_, fun i hi => ?_⟩, ?_⟩ hC
    · rw [e6, wr_k (by decide), hS.1 4 (by decide) (by decide) (by decide), wr_same]
    · have e : ringJ nx' v i = ringJ nx (v + 1) i := by unfold ringJ; omega
      rw [e]
      exact hX0 _ _ (by unfold ringJ; omega) (a6 i (by omega))
    · have e3 := hC 3 (by decide) (by decide) (by decide) (by decide)
      cases sn with
      | none =>
        show S6 3 0 3 = 0
        rw [e3]
        exact hsn
      | some Q => exact ⟨by rw [e3]; exact hsn.1, hX0 9 _ (by decide) hsn.2⟩
  unfold mX1_takeBack
  rw [a5]
  refine ⟨fun g2 => ?_, fun g2 => ?_⟩
  · have hn : nx = 0 := by
      rcases Nat.eq_zero_or_pos nx with q | q
      · exact q
      · exact absurd g2 (nI_ge (a := 0) q (by omega))
    exact body 7 (by decide) (by omega)
  · obtain ⟨w, rfl⟩ : ∃ w, nx = w + 1 := ⟨nx - 1, by have : nx ≠ 0 := fun e => g2 (by rw [e]; decide); omega⟩
    rw [nI_pred]
    exact body w (by omega) (by omega)
theorem Q_save {post : Int32 → Mem → Prop} {S : Mem} {R : Row} {n u : Nat} {hs : Nat → Row} {sn : Option Row} (hK : KK S R n u hs sn) (h : ∀ S' : Mem, KK S' R n u hs (some R) → (∀ c, c ≠ 0 → c ≠ 1 → c ≠ 2 → c ≠ 3 → S' c = S c) → (∀ k, k ≠ 3 → S' 3 0 k = S 3 0 k) → post (R 0) S') : mX5_save post S := by
  obtain ⟨hR, ⟨a1, a4, nx, a2, a5, a6⟩, hsn⟩ := hK
  unfold mX5_save
  refine copyFrom_s (by decide) S ⟨n, hR⟩ (fun S1 hS hR1 => ?_)
  intro S3 e3
  have q : ∀ c, c ≠ 0 → c ≠ 1 → c ≠ 2 → c ≠ 3 → S3 c = S c := fun c z0 z1 z2 z3 => by rw [e3, wr_c z3, hS.1 c z0 z1 z2]
  have e3k : ∀ k, k ≠ 3 → S3 3 0 k = S 3 0 k := fun k hk => by rw [e3, wr_k hk, hS.1 3 (by decide) (by decide) (by decide)]
  have hX : ∀ j R, RepX S1 j R → RepX S3 j R := fun j R r => by rw [e3]; exact r.c3 (wr_c (by decide)) (wr_c (by decide)) (wr_c (by decide))
  have hX0 : ∀ j R, j ≠ 9 → RepX S j R → RepX S3 j R := fun j R hj r => hX j R (hS.rep hj r)
  have e00 : S3 0 0 = S 0 0 := by rw [e3, wr_c (by decide)]; exact (hS.2.1 0 (by decide)).1
  have e10 : S3 1 0 = S 1 0 := by rw [e3, wr_c (by decide)]; exact (hS.2.1 0 (by decide)).2
  have e4 := q 4 (by decide) (by decide) (by decide) (by decide)
  rw [show S3 0 0 3 = R 0 by rw [e00]; exact hR.2.2.1]
  refine h S3 ⟨Rep_now e00 e10 (fun t ht => ?_) hR, ⟨a1, by rw [e4]; exact a4, nx, a2, by rw [e4]; exact a5, fun i hi => hX0 _ _ (by unfold ringJ; omega) (a6 i hi)⟩, ⟨?_, hX 9 _ hR1⟩⟩ q e3k
  · rw [e3, wr_c (by decide)]
    have := hS.2.2 0 t (by decide) ht
    rw [Nat.mul_zero, Nat.zero_add] at this
    exact this
  · rw [e3, wr_same]
theorem Q_restore {post : Int32 → Mem → Prop} {S : Mem} {R : Row} {n u : Nat} {hs : Nat → Row} {sn : Option Row} (hK : KK S R n u hs sn) (h0 : sn = none → post (-1001) S) (h1 : ∀ Q, sn = some Q → ∀ (S' : Mem) (n' : Nat), KK S' Q n' 0 hs sn → Chg S S' → post (Q 0) S') : mL_restore post S := by
  obtain ⟨hR, ⟨a1, a4, nx, a2, a5, a6⟩, hsn⟩ := hK
  unfold mL_restore mX5_restore
  cases sn with
  | none =>
    have e : S 3 0 3 = 0 := hsn
    rw [e]
    exact ⟨fun g => absurd rfl g, fun _ => ⟨rfl, h0 rfl⟩⟩
  | some Q =>
    obtain ⟨e, hQ⟩ : S 3 0 3 = 1 ∧ RepX S 9 Q := hsn
    rw [e]
    refine ⟨fun _ => ?_, fun g => absurd g (by decide)⟩
    refine copyFrom_s (by decide) S hQ (fun S1 hS hR1 => ?_)
    unfold mX1_forget
    intro S3 e3
    have hC : Chg S S3 := fun c c0 c1 c2 c4 => by rw [e3, wr_c c4, hS.1 c c0 c1 c2]
    have hX : ∀ j R, RepX S1 j R → RepX S3 j R := fun j R r => by rw [e3]; exact r.c3 (wr_c (by decide)) (wr_c (by decide)) (wr_c (by decide))
    obtain ⟨n', hR3⟩ := hX 0 _ hR1
    have e33 := hC 3 (by decide) (by decide) (by decide) (by decide)
    rw [hR3.2.2.1]
    refine h1 Q rfl S3 n' ⟨hR3, ⟨by omega, ?_, nx, a2, ?_, fun i hi => absurd hi (by omega)⟩, ⟨by rw [e33]; exact e, hX 9 _ (hS.rep (by decide) hQ)⟩⟩ hC
    · rw [e3, wr_same]
      rfl
    · rw [e3, wr_k (by decide), hS.1 4 (by decide) (by decide) (by decide)]
      exact a5
