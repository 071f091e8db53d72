/-! p36: calls that are refused leave all as it was -/
theorem eqv {P Q : Prop} {a b : Int32} (e : a = b) (h : Q) : (¬ a = b → P) ∧ (a = b → Q) := ⟨fun g => absurd e g, fun _ => h⟩
theorem eqw {P Q : Prop} {a b : Int32} (e : a = b) (h : Q) : (a = b → Q) ∧ (¬ a = b → P) := ⟨fun _ => h, fun g => absurd e g⟩
theorem not10 {s : Nat} (hs : s < 10) : ¬ (nI s < 0 ∨ ¬ nI s < 10) := by rintro (g | g); exact nI_pos (by omega) g; exact g (nI_lt (b := 10) hs (by decide))
theorem nIout {n : Nat} : nI n < 0 ∨ ¬ nI n < nI n := Or.inr Int32.lt_irrefl
theorem F_height1 {post : Int32 → Mem → Prop} {S : Mem} {R : Row} {n u : Nat} {hs : Nat → Row} {sn : Option Row} {v1 v2 : Int32} (hK : KK S R n u hs sn) (g : v1 < 0 ∨ ¬ v1 < 10) (h : post (-1001) S) : mL_height post S v1 v2 := by
  refine Q_height hK (fun _ => h) ?_ ?_ ?_ <;> (intro s hs e; exact absurd g (by rw [e]; exact not10 hs))
theorem F_height2 {post : Int32 → Mem → Prop} {S : Mem} {R : Row} {n u : Nat} {hs : Nat → Row} {sn : Option Row} {s : Nat} {v2 : Int32} (hK : KK S R n u hs sn) (hs' : s < 10) (g : v2 < 1 ∨ 30 < v2) (h : post (-1002) S) : mL_height post S (nI s) v2 :=
  Q_height hK (fun g' => absurd g' (not10 hs')) (fun _ _ _ _ => h) (fun _ _ _ a b => absurd g (fun q => q.elim a b)) (fun _ _ _ a b => absurd g (fun q => q.elim a b))
theorem F_rain {post : Int32 → Mem → Prop} {S : Mem} {R : Row} {n u : Nat} {hs : Nat → Row} {sn : Option Row} {v : Int32} (hK : KK S R n u hs sn) (g : v < 0 ∨ 9 < v) (h : post (-1001) S) : mL_rain post S v :=
  Q_rain hK (fun _ => h) (fun a b => absurd g (fun q => q.elim a b))
theorem F_letters {post : Int32 → Mem → Prop} {S : Mem} {R : Row} {n u : Nat} {hs : Nat → Row} {sn : Option Row} {v : Int32} (hK : KK S R n u hs sn) (g : v < 1 ∨ 50 < v) (h : post (-1001) S) : mL_letters post S v :=
  Q_letters hK (fun _ => h) (fun a b => absurd g (fun q => q.elim a b)) (fun a b => absurd g (fun q => q.elim a b))
theorem F_stone1 {post : Int32 → Mem → Prop} {S : Mem} {R : Row} {n u : Nat} {hs : Nat → Row} {sn : Option Row} {v k : Int32} (hK : KK S R n u hs sn) (g : v < 0 ∨ ¬ v < 10) (h : post (-1001) S) : mL_stoneOf post S v k :=
  Q_stoneOf hK.1 (fun s w hs e => absurd g (by rw [e]; exact not10 hs)) (fun s hs e => absurd g (by rw [e]; exact not10 hs)) (fun _ => h)
theorem F_stone2 {post : Int32 → Mem → Prop} {S : Mem} {R : Row} {n u : Nat} {hs : Nat → Row} {sn : Option Row} {s : Nat} {k : Int32} (hK : KK S R n u hs sn) (hs' : s < 10) (g : k < 0 ∨ 2 < k) (h : post (-1002) S) : mL_stoneOf post S (nI s) k :=
  Q_stoneOf hK.1 (fun s w _ _ hw e => absurd g (by rw [e]; exact not_out (n := 2) hw (by decide))) (fun _ _ _ _ => h) (fun g' => absurd g' (not10 hs'))
theorem F_flood {post : Int32 → Mem → Prop} {S : Mem} {R : Row} {n u : Nat} {hs : Nat → Row} {sn : Option Row} {v : Int32} (hK : KK S R n u hs sn) (g : v < 0 ∨ 60 < v) (h : post (-1001) S) : mL_flood post S v ∧ mL_floodAgain post S v :=
  ⟨Q_flood hK.1 (fun H hH e => absurd g (by rw [e]; exact not_out (n := 60) hH (by decide))) (fun _ => h), Q_floodAgain hK.1 (fun H hH e => absurd g (by rw [e]; exact not_out (n := 60) hH (by decide))) (fun _ => h)⟩
theorem F_traveller {post : Int32 → Mem → Prop} {S : Mem} {R : Row} {n u : Nat} {hs : Nat → Row} {sn : Option Row} {v : Int32} (hK : KK S R n u hs sn) (g : v < 0 ∨ 20 < v) (h : post (-1001) S) : mL_traveller post S v :=
  Q_traveller hK (fun _ => h) (fun a b => absurd g (fun q => q.elim a b)) (fun a b => absurd g (fun q => q.elim a b))
theorem F_num1 {post : Int32 → Mem → Prop} {S : Mem} {R : Row} {n u : Nat} {hs : Nat → Row} {sn : Option Row} {v k : Int32} (hK : KK S R n u hs sn) (g : v < 0 ∨ ¬ v < nI n) (h : post (-1001) S) : mL_travellerOf post S v k :=
  Q_travellerOf hK.1 (fun t j ht e => absurd g (by rw [e]; exact not_in ht hK.1.1.1)) (fun t ht e => absurd g (by rw [e]; exact not_in ht hK.1.1.1)) (fun _ => h)
theorem F_num2 {post : Int32 → Mem → Prop} {S : Mem} {R : Row} {n u : Nat} {hs : Nat → Row} {sn : Option Row} {t : Nat} {k : Int32} (hK : KK S R n u hs sn) (ht : t < n) (g : k < 0 ∨ 8 < k) (h : post (-1002) S) : mL_travellerOf post S (nI t) k :=
  Q_travellerOf hK.1 (fun _ j _ _ hj e => absurd g (by rw [e]; exact not_out (n := 8) hj (by decide))) (fun _ _ _ _ => h) (fun g' => absurd g' (not_in ht hK.1.1.1))
theorem F_fee {post : Int32 → Mem → Prop} {S : Mem} {R : Row} {n u : Nat} {hs : Nat → Row} {sn : Option Row} {v : Int32} (hK : KK S R n u hs sn) (g : v < 0 ∨ ¬ v < nI n) (h : post (-1001) S) : mL_fee post S v :=
  Q_fee hK.1 (fun t ht e => absurd g (by rw [e]; exact not_in ht hK.1.1.1)) (fun _ => h)
theorem F_out {post : Int32 → Mem → Prop} {S : Mem} {R : Row} {n u : Nat} {hs : Nat → Row} {sn : Option Row} {v : Int32} (hK : KK S R n u hs sn) (g : v < 0 ∨ ¬ v < nI n) (h : post (-1001) S) : mL_setOut post S v ∧ mL_stop post S v ∧ mL_go post S v ∧ mL_leave post S v ∧ mL_crossedIn post S v := by
  have c : ∀ t, t < n → v = nI t → False := fun t ht e => absurd g (by rw [e]; exact not_in ht hK.1.1.1)
  refine ⟨Q_setOut hK (fun _ => h) ?_ ?_ ?_, Q_stop hK (fun _ => h) ?_ ?_ ?_, Q_go hK (fun _ => h) ?_ ?_ ?_, Q_leave hK (fun _ => h) ?_ (fun t k _ ht e => (c t ht e).elim), Q_crossedIn hK.1 ?_ (fun _ => h)⟩ <;> exact fun t ht e => (c t ht e).elim
theorem F_pass {post : Int32 → Mem → Prop} {S : Mem} {R : Row} {n u : Nat} {hs : Nat → Row} {sn : Option Row} {v : Int32} (hK : KK S R n u hs sn) (g : v < 1 ∨ 24 < v) (h : post (-1001) S) : mL_pass post S v :=
  Q_pass hK (fun _ => h) (fun H h1 h2 e => absurd g (by rw [e]; rintro (q | q); exact absurd ((nI_ltI (b := 1) (by omega) (by decide)).mp q) (by omega); exact absurd ((nI_ltI (a := 24) (by decide) (by omega)).mp q) (by omega)))
theorem F_wet {post : Int32 → Mem → Prop} {S : Mem} {R : Row} {n u : Nat} {hs : Nat → Row} {sn : Option Row} {v : Int32} (hK : KK S R n u hs sn) (g : v < 0 ∨ 2 < v) (h : post (-1001) S) : mL_wetSteps post S v :=
  Q_wetSteps hK.1 (fun a b => absurd g (fun q => q.elim a b)) (fun _ => h)
theorem F_account {post : Int32 → Mem → Prop} {S : Mem} {R : Row} {n u : Nat} {hs : Nat → Row} {sn : Option Row} {v : Int32} (hK : KK S R n u hs sn) (g : v < 0 ∨ 18 < v) (h : post (-1001) S) : mL_account post S v := by
  have c : ∀ k, k ≤ 18 → v = nI k → False := fun k hk e => absurd g (by rw [e]; exact not_out (n := 18) hk (by decide))
  exact Q_account hK.1 (fun k hk e => (c k (by omega) e).elim) (fun e => (c 16 (by decide) e).elim) (fun e => (c 17 (by decide) e).elim) (fun e => (c 18 (by decide) e).elim) (fun _ => h)
theorem F_answer {post : Int32 → Mem → Prop} {S : Mem} (h7 : S 3 0 7 = 0) (h : post (-1001) S) : mL_answer post S (-1) ∧ mL_answer post S 8 := by
  unfold mL_answer mX5_answer
  rw [h7]
  exact ⟨⟨fun _ => ⟨rfl, h⟩, fun g => absurd (by decide) g⟩, ⟨fun g => absurd g (by decide), fun _ => ⟨fun g => absurd g (by decide), fun _ => ⟨rfl, h⟩⟩⟩⟩
theorem F_written {post : Int32 → Mem → Prop} {S : Mem} (hL : LnK S) (h : post (-1001) S) : mL_written post S (-1) ∧ mL_written post S 13 := by
  obtain ⟨k, hk, e⟩ := hL
  unfold mL_written mX5_written
  rw [e]
  exact ⟨⟨fun _ => ⟨rfl, h⟩, fun g => absurd (by decide) g⟩, ⟨fun g => absurd g (by decide), fun _ => ⟨fun g => absurd ((nI_ltI (a := 13) (by decide) (by omega)).mp g) (by omega), fun _ => ⟨rfl, h⟩⟩⟩⟩
theorem Q_answer0 {post : Int32 → Mem → Prop} {S : Mem} {n : Nat} (h0 : 0 < n) (hn : n ≤ 8) (h7 : S 3 0 7 = nI n) (h8 : S 8 0 0 = 0) (h : post 0 S) : mL_answer post S 0 := by
  unfold mL_answer mX5_answer
  rw [h7]
  refine ⟨fun g => absurd g (by decide), fun _ => ⟨fun _ => ⟨by unfold vp_in; decide, ?_⟩, fun g => absurd (nI_lt (a := 0) (b := n) h0 (by omega)) g⟩⟩
  have e : S 8 0 ((0 : Int32).toNatClampNeg) = 0 := h8
  rw [e]
  exact h
theorem Q_errorAt {post : Int32 → Mem → Prop} {S : Mem} (h5 : S 3 0 5 = 0) (h : post 0 S) : mL_errorPosition post S := by
  unfold mL_errorPosition mX5_errorPosition
  rw [h5]
  exact ⟨fun _ => h, fun g => absurd g (by decide)⟩
theorem refused_449 {post : Int32 → Mem → Prop} {S : Mem} {R : Row} {n u : Nat} {hs : Nat → Row} {sn : Option Row} (hK : KK S R n u hs sn) (hn : 0 < n) (h6 : S 6 0 1 = 0) (h : ∀ S' : Mem, KK S' R n u hs sn → post 1 S') : mL_refused_b449 post S (toldF R n) (nI n) 1 := by
  unfold mL_refused_b449
  refine ⟨fun g => absurd g (by decide), fun _ => Q_asks_q hK.1 h6 (fun S1 l1 e1 => eqv rfl ?_)⟩
  have k1 := l1.kk hK
  refine Q_errorAt e1 (eqv rfl (Q_asks_n k1.1 l1.2.2 (fun S2 l2 e2 e8 => eqv rfl ?_)))
  have k2 := l2.kk k1
  exact Q_answer0 hn hK.1.1.1 e2 (e8 hn) (eqv rfl (Q_told k2.1 (fun S3 l3 _ => ⟨rfl, h S3 (l3.kk k2)⟩)))
theorem refused_312 {post : Int32 → Mem → Prop} {S : Mem} {R : Row} {n u : Nat} {hs : Nat → Row} {sn : Option Row} (hK : KK S R n u hs sn) (hn : 0 < n) (h6 : S 6 0 1 = 0) (h7 : S 3 0 7 = 0) (hL : LnK S) (h : ∀ S' : Mem, KK S' R n u hs sn → post 1 S') : mL_refused_b312 post S (toldF R n) (nI n) 1 := by
  unfold mL_refused_b312
  refine ⟨fun g => absurd g (by decide), fun _ => F_pass hK (by decide) (eqv rfl (F_pass hK (by decide) (eqv rfl ((F_out hK nIout (eqv rfl (F_wet hK (by decide) (eqv rfl (F_wet hK (by decide) (eqv rfl ((F_answer h7 (eqv rfl ((F_answer h7 (eqv rfl ((F_written hL (eqv rfl ((F_written hL (eqv rfl (F_account hK (by decide) (eqv rfl (F_account hK (by decide) (eqv rfl ?_)))))).2))).1))).2))).1))))))).2.2.2.2))))⟩
  exact refused_449 hK hn h6 h
theorem Q_refused {post : Int32 → Mem → Prop} {S : Mem} {R : Row} {n u : Nat} {hs : Nat → Row} {sn : Option Row} (hK : KK S R n u hs sn) (hn : 0 < n) (h6 : S 6 0 1 = 0) (h7 : S 3 0 7 = 0) (h : ∀ S' : Mem, KK S' R n u hs sn → post 1 S') : mL_refused post S := by
  unfold mL_refused
  refine Q_told hK.1 (fun S1 l1 hL => ?_)
  have k1 := l1.kk hK
  have h6 : S1 6 0 1 = 0 := by rw [l1.1 6 (by decide) (by decide)]; exact h6
  have h7 : S1 3 0 7 = 0 := by rw [l1.2 7 (by decide)]; exact h7
  refine Q_acc (k := 3) k1.1 (by decide) ?_
  show mL_height _ S1 10 0
  simp only [show accF R n 3 = nI n from k1.1.1.2.1]
  refine F_height1 k1 (by decide) (eqv rfl ?_)
  refine F_height1 k1 (by decide) (eqv rfl ?_)
  refine F_height2 (s := 0) k1 (by decide) (by decide) (eqv rfl ?_)
  refine F_height2 (s := 0) k1 (by decide) (by decide) (eqv rfl ?_)
  refine F_rain k1 (by decide) (eqv rfl ?_)
  refine F_rain k1 (by decide) (eqv rfl ?_)
  refine F_letters k1 (by decide) (eqv rfl ?_)
  refine F_letters k1 (by decide) (eqv rfl ?_)
  refine F_stone1 k1 (by decide) (eqv rfl ?_)
  refine F_stone2 (s := 0) k1 (by decide) (by decide) (eqv rfl ?_)
  refine F_stone2 (s := 0) k1 (by decide) (by decide) (eqv rfl ?_)
  refine (F_flood k1 (by decide) (eqv rfl ?_)).1
  refine (F_flood k1 (by decide) (eqv rfl ?_)).1
  refine (F_flood k1 (by decide) (eqv rfl ?_)).2
  refine (F_flood k1 (by decide) (eqv rfl ?_)).2
  refine F_traveller k1 (by decide) (eqv rfl ?_)
  refine F_traveller k1 (by decide) (eqv rfl ?_)
  refine F_num1 k1 nIout (eqv rfl ?_)
  refine F_num2 (t := 0) k1 hn (by decide) (eqv rfl ?_)
  refine F_num2 (t := 0) k1 hn (by decide) (eqv rfl ?_)
  refine F_fee k1 nIout (eqv rfl ?_)
  refine (F_out k1 nIout (eqv rfl ?_)).1
  refine (F_out k1 nIout (eqv rfl ?_)).2.1
  refine (F_out k1 (Or.inl (by decide)) (eqv rfl ?_)).2.2.1
  refine (F_out k1 nIout (eqv rfl ?_)).2.2.2.1
  exact refused_312 k1 hn h6 h7 hL h
