/-! p36: told, a number of the row of the present ford alone -/
theorem Q_acc {post : Int32 → Mem → Prop} {S : Mem} {R : Row} {n k : Nat} (hR : RepC S 0 R n) (hk : k ≤ 15) (h : post (accF R n k) S) : mL_account post S (nI k) :=
  Q_account hR (fun k' hk' e => by have := (nI_eq (by omega) (by omega)).mp e; subst this; exact h) (fun e => absurd ((nI_eq (b := 16) (by omega) (by decide)).mp e) (by omega)) (fun e => absurd ((nI_eq (b := 17) (by omega) (by decide)).mp e) (by omega)) (fun e => absurd ((nI_eq (b := 18) (by omega) (by decide)).mp e) (by omega)) (fun g => absurd g (not_out (n := 18) (by omega) (by decide)))
theorem Q_sto {post : Int32 → Mem → Prop} {S : Mem} {R : Row} {n s w : Nat} (hR : RepC S 0 R n) (hs : s < 10) (hw : w ≤ 2) (h : post (stoF R n s w) S) : mL_stoneOf post S (nI s) (nI w) :=
  Q_stoneOf hR (fun s' w' hs' e hw' e' => by have := (nI_eq (by omega) (by omega)).mp e; subst this; have := (nI_eq (by omega) (by omega)).mp e'; subst this; exact h) (fun _ _ _ g => absurd g (not_out (n := 2) hw (by decide))) (fun g => absurd g (by rintro (g | g); exact nI_pos (by omega) g; exact g (nI_lt (b := 10) hs (by decide))))
theorem Q_num {post : Int32 → Mem → Prop} {S : Mem} {R : Row} {n t w : Nat} (hR : RepC S 0 R n) (ht : t < n) (hw : w ≤ 8) (h : post (numF (trv R t) w) S) : mL_travellerOf post S (nI t) (nI w) :=
  Q_travellerOf hR (fun t' w' ht' e hw' e' => by have := hR.1.1; have := (nI_eq (by omega) (by omega)).mp e; subst this; have := (nI_eq (by omega) (by omega)).mp e'; subst this; exact h) (fun _ _ _ g => absurd g (not_out (n := 8) hw (by decide))) (fun g => absurd g (not_in ht hR.1.1))
theorem Q_fe {post : Int32 → Mem → Prop} {S : Mem} {R : Row} {n t : Nat} (hR : RepC S 0 R n) (ht : t < n) (h : post (tollF (trv R t 0)) S) : mL_fee post S (nI t) :=
  Q_fee hR (fun t' ht' e => by have := hR.1.1; have := (nI_eq (by omega) (by omega)).mp e; subst this; exact h) (fun g => absurd g (not_in ht hR.1.1))
def crG (R : Row) (t : Nat) : Int32 := if crF R t = -1 then -1002 else crF R t
theorem Q_cr {post : Int32 → Mem → Prop} {S : Mem} {R : Row} {n t : Nat} (hR : RepC S 0 R n) (ht : t < n) (h : post (crG R t) S) : mL_crossedIn post S (nI t) :=
  Q_crossedIn hR (fun t' ht' e => by have := hR.1.1; have := (nI_eq (by omega) (by omega)).mp e; subst this; exact h) (fun g => absurd g (not_in ht hR.1.1))
def wsG (R : Row) (k : Nat) : Int32 := if wsF R (R 1) (nI k) 10 0 0 = -1 then -1002 else wsF R (R 1) (nI k) 10 0 0
theorem Q_ws {post : Int32 → Mem → Prop} {S : Mem} {R : Row} {n k : Nat} (hR : RepC S 0 R n) (hk : k ≤ 2) (h : post (wsG R k) S) : mL_wetSteps post S (nI k) :=
  Q_wetSteps hR (fun _ _ => h) (fun g => absurd g (not_out (n := 2) hk (by decide)))
def claG (R : Row) : Int32 := if claF R = -1 then -1001 else claF R
theorem Q_fl {post : Int32 → Mem → Prop} {S : Mem} {R : Row} {n : Nat} (hR : RepC S 0 R n) (h : post (itF (R 2) 17 (R 1)) S) : mL_flood post S 17 ∧ mL_floodAgain post S 17 :=
  ⟨Q_flood hR (fun H hH e => by have := (nI_eq (a := 17) (by decide) (by omega)).mp e; subst this; exact h) (fun g => absurd g (by decide)), Q_floodAgain hR (fun H hH e => by have := (nI_eq (a := 17) (by decide) (by omega)).mp e; subst this; exact h) (fun g => absurd g (by decide))⟩
/-- numbers told one after another -/
def foF (g : Nat → Int32) : Nat → Nat → Int64 → Int64
  | 0, _, a => a
  | m + 1, k, a => foF g m (k + 1) (((31 : Int64) * a) + (g k).toInt64)
def foS (R : Row) (n : Nat) : Nat → Nat → Int64 → Int64
  | 0, _, a => a
  | m + 1, s, a => foS R n m (s + 1) (foF (stoF R n s) 3 0 a)
def foT (R : Row) : Nat → Nat → Int64 → Int64
  | 0, _, a => a
  | m + 1, t, a => foT R m (t + 1) (((31 : Int64) * (((31 : Int64) * (foF (numF (trv R t)) 9 0 a)) + (tollF (trv R t 0)).toInt64)) + (crG R t).toInt64)
def undF (R : Row) : Int32 := underF (stF R (R 1)) 10 0 0
def endA (R : Row) (a : Int64) : Int64 := (((31 : Int64) * (((31 : Int64) * (((31 : Int64) * a) + (undF R).toInt64)) + (kinF R).toInt64)) + (claG R).toInt64)
def endB (R : Row) (n : Nat) (y : Int64) : Int64 := (((31 : Int64) * (((31 : Int64) * (((31 : Int64) * y) + (itF (R 2) 17 (R 1)).toInt64)) + (itF (R 2) 17 (R 1)).toInt64)) + (lagF R n).toInt64)
def endC (R : Row) (n : Nat) (a : Int64) : Int64 := endB R n (endA R (foF (wsG R) 3 0 (foF (chF R n) (lnL R) 0 a)))
def toldF (R : Row) (n : Nat) : Int64 := endC R n (foT R n 0 (foS R n 10 0 (foF (accF R n) 16 0 (((31 : Int64) * (meaF R n).toInt64) + ((shaF R).toInt32).toInt64))))
/-- no more letters than 13 in the line -/
def LnK (S : Mem) : Prop := ∃ k, k ≤ 13 ∧ S 3 0 11 = nI k
theorem told_201 {post : Int64 → Mem → Prop} {S : Mem} {R : Row} {n : Nat} (hR : RepC S 0 R n) : ∀ (m k : Nat) (a : Int64), k + m = 3 → post (endB R n (endA R (foF (wsG R) m k a))) S → mL_told_b201 post (m + 1) S a (nI k) := by
  intro m
  induction m with
  | zero =>
    intro k a hk h
    have hk : k = 3 := by omega
    subst hk
    unfold mL_told_b201
    refine ⟨fun _ => X5_under_s hR (Q_kinds hR (Q_clearIn hR (fun y ey => (Q_fl hR ((Q_fl hR (Q_lettersAgain hR ?_)).2)).1))), fun g => absurd (by decide) g⟩
    subst ey
    exact h
  | succ m ih =>
    intro k a hk h
    unfold mL_told_b201
    refine ⟨fun g => absurd g (nI_ge (b := 3) (by omega) (by decide)), fun _ => Q_ws hR (by omega) (fun y ey x ex => ?_)⟩
    rw [ex, inc, ey]
    exact ih (k + 1) _ (by omega) h
theorem told_172 {post : Int64 → Mem → Prop} {S : Mem} {R : Row} {n : Nat} (hR : RepC S 0 R n) (hl : S 3 0 11 = nI (lnL R)) (hc : ∀ k, k < lnL R → S 9 0 k = chF R n k) : ∀ (m k : Nat) (a : Int64), k + m = lnL R → post (endB R n (endA R (foF (wsG R) 3 0 (foF (chF R n) m k a)))) S → mL_told_b172 post (m + 1) S a (nI (lnL R)) (nI k) := by
  have hL : lnL R ≤ 13 := by rcases lnL_c hR.1 with ⟨_, z⟩ | ⟨_, z⟩ <;> omega
  intro m
  induction m with
  | zero =>
    intro k a hk h
    unfold mL_told_b172
    exact ⟨fun _ => ⟨4, Nat.le_refl 4, told_201 hR 3 0 a (by omega) h⟩, fun g => absurd (nI_le (by omega) (by omega)) g⟩
  | succ m ih =>
    intro k a hk h
    unfold mL_told_b172
    refine ⟨fun g => absurd g (nI_ge (by omega) (by omega)), fun _ => Q_written hR.1 hl hc (by omega) (fun y ey x ex => ?_)⟩
    rw [ex, inc, ey]
    exact ih (k + 1) _ (by omega) h
theorem told_106 {post : Int64 → Mem → Prop} {K : Mem → Int64 → Int32 → Prop} {S : Mem} {R : Row} {n t : Nat} (hR : RepC S 0 R n) (ht : t < n) : ∀ (m k : Nat) (a : Int64), k + m = 9 → K S (((31 : Int64) * (((31 : Int64) * (foF (numF (trv R t)) m k a)) + (tollF (trv R t 0)).toInt64)) + (crG R t).toInt64) (nI (t + 1)) → mL_told_b106 post K (m + 1) S a (nI t) (nI k) := by
  intro m
  induction m with
  | zero =>
    intro k a hk h
    have hk : k = 9 := by omega
    subst hk
    unfold mL_told_b106
    refine ⟨fun _ => Q_fe hR ht (Q_cr hR ht (fun y ey x ex => ?_)), fun g => absurd (by decide) g⟩
    rw [ex, inc, ey]
    exact h
  | succ m ih =>
    intro k a hk h
    unfold mL_told_b106
    refine ⟨fun g => absurd g (nI_ge (b := 9) (by omega) (by decide)), fun _ => Q_num hR ht (by omega) (fun y ey x ex => ?_)⟩
    rw [ex, inc, ey]
    exact ih (k + 1) _ (by omega) h
theorem told_94 {post : Int64 → Mem → Prop} {S : Mem} {R : Row} {n : Nat} (hR : RepC S 0 R n) : ∀ (m t : Nat) (a : Int64), t + m = n → (∀ S' : Mem, Lin S S' → LnK S' → post (endC R n (foT R m t a)) S') → mL_told_b94 post (m + 1) S a (nI t) := by
  have hn := hR.1.1
  intro m
  induction m with
  | zero =>
    intro t a ht h
    unfold mL_told_b94
    refine Q_acc (k := 3) hR (by decide) ?_
    show (R 3 ≤ nI t → _) ∧ (¬ R 3 ≤ nI t → _)
    rw [hR.1.2.1]
    refine ⟨fun _ => Q_describe hR (fun S' hl h1 h2 => ?_), fun g => absurd (nI_le (by omega) (by omega)) g⟩
    have hL : lnL R ≤ 13 := by rcases lnL_c hR.1 with ⟨_, z⟩ | ⟨_, z⟩ <;> omega
    exact ⟨lnL R + 1, by omega, told_172 (hl.rep hR) h1 h2 (lnL R) 0 a (by omega) (h S' hl ⟨lnL R, hL, h1⟩)⟩
  | succ m ih =>
    intro t a ht h
    unfold mL_told_b94
    refine Q_acc (k := 3) hR (by decide) ?_
    show (R 3 ≤ nI t → _) ∧ (¬ R 3 ≤ nI t → _)
    rw [hR.1.2.1]
    refine ⟨fun g => absurd g (nI_ge (by omega) (by omega)), fun _ => ⟨10, Nat.le_refl 10, told_106 hR (by omega) 9 0 a (by omega) ?_⟩⟩
    exact ih (t + 1) _ (by omega) h
theorem told_59 {post : Int64 → Mem → Prop} {K : Mem → Int64 → Int32 → Prop} {S : Mem} {R : Row} {n s : Nat} (hR : RepC S 0 R n) (hs : s < 10) : ∀ (m k : Nat) (a : Int64), k + m = 3 → K S (foF (stoF R n s) m k a) (nI (s + 1)) → mL_told_b59 post K (m + 1) S a (nI s) (nI k) := by
  intro m
  induction m with
  | zero =>
    intro k a hk h
    have hk : k = 3 := by omega
    subst hk
    unfold mL_told_b59
    refine ⟨fun _ => fun x ex => ?_, fun g => absurd (by decide) g⟩
    rw [ex, inc]
    exact h
  | succ m ih =>
    intro k a hk h
    unfold mL_told_b59
    refine ⟨fun g => absurd g (nI_ge (b := 3) (by omega) (by decide)), fun _ => Q_sto hR hs (by omega) (fun y ey x ex => ?_)⟩
    rw [ex, inc, ey]
    exact ih (k + 1) _ (by omega) h
theorem told_50 {post : Int64 → Mem → Prop} {S : Mem} {R : Row} {n : Nat} (hR : RepC S 0 R n) : ∀ (m s : Nat) (a : Int64), s + m = 10 → (∀ S' : Mem, Lin S S' → LnK S' → post (endC R n (foT R n 0 (foS R n m s a))) S') → mL_told_b50 post (m + 1) S a (nI s) := by
  have hn := hR.1.1
  intro m
  induction m with
  | zero =>
    intro s a hs h
    have hs : s = 10 := by omega
    subst hs
    unfold mL_told_b50
    exact ⟨fun _ => ⟨n + 1, by omega, told_94 hR n 0 a (by omega) h⟩, fun g => absurd (by decide) g⟩
  | succ m ih =>
    intro s a hs h
    unfold mL_told_b50
    exact ⟨fun g => absurd g (nI_ge (b := 10) (by omega) (by decide)), fun _ => ⟨4, Nat.le_refl 4, told_59 hR (by omega) 3 0 a (by omega) (ih (s + 1) _ (by omega) h)⟩⟩
theorem told_23 {post : Int64 → Mem → Prop} {S : Mem} {R : Row} {n : Nat} (hR : RepC S 0 R n) : ∀ (m k : Nat) (a : Int64), k + m = 16 → (∀ S' : Mem, Lin S S' → LnK S' → post (endC R n (foT R n 0 (foS R n 10 0 (foF (accF R n) m k a)))) S') → mL_told_b23 post (m + 1) S a (nI k) := by
  intro m
  induction m with
  | zero =>
    intro k a hk h
    have hk : k = 16 := by omega
    subst hk
    unfold mL_told_b23
    exact ⟨fun _ => ⟨11, Nat.le_refl 11, told_50 hR 10 0 a (by omega) h⟩, fun g => absurd (by decide) g⟩
  | succ m ih =>
    intro k a hk h
    unfold mL_told_b23
    refine ⟨fun g => absurd g (nI_ge (b := 16) (by omega) (by decide)), fun _ => Q_acc hR (by omega) (fun y ey x ex => ?_)⟩
    rw [ex, inc, ey]
    exact ih (k + 1) _ (by omega) h
theorem Q_told {post : Int64 → Mem → Prop} {S : Mem} {R : Row} {n : Nat} (hR : RepC S 0 R n) (h : ∀ S' : Mem, Lin S S' → LnK S' → post (toldF R n) S') : mL_told post S := by
  unfold mL_told
  refine Q_meanWet hR (fun g1 => ⟨g1, Q_crossingShare hR (fun g2 => ⟨g2, fun y ey => ?_⟩)⟩)
  rw [ey]
  exact ⟨17, Nat.le_refl 17, told_23 hR 16 0 _ (by omega) h⟩
