/-! what a run is: rows and counts, handles, values by kinds -/
abbrev eS : Type := (Nat × Nat × Nat × Int32) × (Nat → Int32) × (Nat → Nat) × (Nat → Nat → Int64)
def e_R (ρ : eS) : Nat := ρ.1.1
def e_T (ρ : eS) : Nat := ρ.1.2.1
def e_F (ρ : eS) : Nat := ρ.1.2.2.1
def e_b (ρ : eS) : Int32 := ρ.1.2.2.2
def e_ln (ρ : eS) : Nat → Int32 := ρ.2.1
def e_sz (ρ : eS) : Nat → Nat := ρ.2.2.1
def e_it (ρ : eS) : Nat → Nat → Int64 := ρ.2.2.2
def e_tick (ρ : eS) : eS := ((e_R ρ, e_T ρ + 1, e_F ρ, e_b ρ), ρ.2)
def e_blame (h : Nat) (ρ : eS) : eS := ((e_R ρ, e_T ρ, e_F ρ, nI h), ρ.2)
def e_fail (h : Nat) (ρ : eS) : eS := ((e_R ρ, e_T ρ, (if e_F ρ = 24 then 24 else e_F ρ + 1), nI h), ρ.2)
def e_set (ρ : eS) (r j : Nat) (v : Int64) : eS := (ρ.1, e_ln ρ, e_sz ρ, fun i k => if i = r ∧ k = j then v else e_it ρ i k)
def e_new (ρ : eS) (l : Int32) (n : Nat) : eS := ((e_R ρ + 1, e_T ρ, e_F ρ, e_b ρ), (fun i => if i = e_R ρ then l else e_ln ρ i), (fun i => if i = e_R ρ then n else e_sz ρ i), fun i k => if i = e_R ρ then 0 else e_it ρ i k)
/-- the handles: how many, sorts, a, b, c, v, how many parameters, their kinds, the result's -/
abbrev hS : Type := Nat × (Nat → Int32) × (Nat → Int32) × (Nat → Int32) × (Nat → Int32) × (Nat → Int64) × (Nat → Nat) × (Nat → Nat → Int32) × (Nat → Int32)
def h_n (C : hS) : Nat := C.1
def h_so (C : hS) : Nat → Int32 := C.2.1
def h_a (C : hS) : Nat → Int32 := C.2.2.1
def h_b (C : hS) : Nat → Int32 := C.2.2.2.1
def h_c (C : hS) : Nat → Int32 := C.2.2.2.2.1
def h_v (C : hS) : Nat → Int64 := C.2.2.2.2.2.1
def h_m (C : hS) : Nat → Nat := C.2.2.2.2.2.2.1
def h_k (C : hS) : Nat → Nat → Int32 := C.2.2.2.2.2.2.2.1
def h_r (C : hS) : Nat → Int32 := C.2.2.2.2.2.2.2.2
abbrev nt (x : Int32) : Nat := x.toNatClampNeg
abbrev ix (x : Int64) : Nat := x.toInt.toNat
def inR (ρ : eS) (x : Int64) : Prop := 0 ≤ x.toInt ∧ x.toInt < (e_R ρ : Int)
def inI (ρ : eS) (x y : Int64) : Prop := 0 ≤ y.toInt ∧ y.toInt < (e_sz ρ (ix x) : Int)
abbrev eO : Type := Int32 × Int64 × eS
def e_ret (v : Int64) (ρ : eS) : eO := (0, v, ρ)
def e_fl (h : Nat) (c : Int32) (ρ : eS) : eO := (if e_F ρ = 24 then 7 else c, 0, e_fail h ρ)
def e_bind (o : eO) (f : Int64 → eS → eO) : eO := if o.1 = 0 then f o.2.1 o.2.2 else o
abbrev eP : Type := Nat → (Nat → Int64) → eS → eO
def tr_rd (h : Nat) (x y : Int64) (ρ : eS) : eO := if 0 ≤ x.toInt ∧ x.toInt < (e_R ρ : Int) then (if 0 ≤ y.toInt ∧ y.toInt < (e_sz ρ (ix x) : Int) then e_ret (e_it ρ (ix x) (ix y)) ρ else e_fl h 2 ρ) else e_fl h 1 ρ
def tr_wr (h : Nat) (x y v : Int64) (ρ : eS) : eO := if 0 ≤ x.toInt ∧ x.toInt < (e_R ρ : Int) then (if 0 ≤ y.toInt ∧ y.toInt < (e_sz ρ (ix x) : Int) then e_ret (e_it ρ (ix x) (ix y)) (e_set ρ (ix x) (ix y) v) else e_fl h 2 ρ) else e_fl h 1 ρ
def t_sz (h : Nat) (x : Int64) (ρ : eS) : eO := if 0 ≤ x.toInt ∧ x.toInt < (e_R ρ : Int) then e_ret (lN (e_sz ρ (ix x))) ρ else e_fl h 1 ρ
def t_new (h : Nat) (a : Int32) (x : Int64) (ρ : eS) : eO := if x < 0 then e_fl h 4 ρ else if 8 < x ∨ e_R ρ = 16 then e_fl h 6 ρ else e_ret (lN (e_R ρ)) (e_new ρ a (ix x))
def t_cast (h : Nat) (a : Int32) (x : Int64) (ρ : eS) : eO := if x = -1 ∨ ((0 ≤ x.toInt ∧ x.toInt < (e_R ρ : Int)) ∧ e_ln ρ (ix x) = a) then e_ret x ρ else e_fl h 5 ρ
def t_sum (a : Int32) (x y : Int64) (ρ : eS) : eO := e_ret ((f_X7_sum a x y).getD 0) ρ
def t_quo (h : Nat) (a : Int32) (x y : Int64) (ρ : eS) : eO := if a = 6 then e_ret ((f_X4_quotientOf 0 x y).getD 0) ρ else if a = 7 then e_ret ((f_X4_quotientOf 1 x y).getD 0) ρ else if y = 0 then e_fl h 3 ρ else e_ret (if a = 4 then (x / y).toInt32.toInt64 else x / y) ρ
def t_abv (a : Int32) (x y : Int64) (ρ : eS) : eO := e_ret (if (f_X7_isAbove a x y).getD 0 = 0 then 0 else 1) ρ
def g_drop (b : Nat) (p : Nat → Int64) : Nat → Int64 := fun j => if j < b then p j else p (j + 1)
def g_swap (b : Nat) (p : Nat → Int64) : Nat → Int64 := fun j => if j = b then p (b + 1) else if j = b + 1 then p b else p j
def g_cons (v : Int64) (p : Nat → Int64) : Nat → Int64 := fun j => if j = 0 then v else p (j - 1)
def g_at (b : Nat) (v : Int64) (p : Nat → Int64) : Nat → Int64 := fun j => if j = b then v else p j
def g_as (C : hS) (h g : Nat) (p : Nat → Int64) : Nat → Int64 := fun j => (f_X2_widened (h_k C h j) (h_k C g j) (p j)).getD 0
def t_guard (P : eP) (a b c : Nat) (p : Nat → Int64) (ρ : eS) : eO := e_bind (P a p ρ) fun v ρ1 => P (if v = 0 then c else b) p ρ1
def t_catch (P : eP) (a : Nat) (b : Int32) (c : Nat) (p : Nat → Int64) (ρ : eS) : eO :=
  if (P a p ρ).1 = 0 ∨ (P a p ρ).1 = 7 ∨ ¬ (b = -1 ∨ b = (P a p ρ).1) then P a p ρ else P c (g_cons (P a p ρ).1.toInt64 p) (P a p ρ).2.2
def t_none (k : Int32) : Int64 := if k < 8 then 0 else -1
def t_last (P : eP) (a b : Nat) (k : Int32) (p : Nat → Int64) (ρ : eS) : eO :=
  if (P a p ρ).1 = 7 then P a p ρ else
  if (P b (g_cons (P a p ρ).1.toInt64 (g_cons (if (P a p ρ).1 = 0 then (P a p ρ).2.1 else t_none k) p)) (P a p ρ).2.2).1 = 0
  then ((P a p ρ).1, (P b (g_cons (P a p ρ).1.toInt64 (g_cons (if (P a p ρ).1 = 0 then (P a p ρ).2.1 else t_none k) p)) (P a p ρ).2.2).2.1, (P b (g_cons (P a p ρ).1.toInt64 (g_cons (if (P a p ρ).1 = 0 then (P a p ρ).2.1 else t_none k) p)) (P a p ρ).2.2).2.2)
  else P b (g_cons (P a p ρ).1.toInt64 (g_cons (if (P a p ρ).1 = 0 then (P a p ρ).2.1 else t_none k) p)) (P a p ρ).2.2
def t_loop (P : eP) (a : Nat) (N : Int64) (p : Nat → Int64) : Nat → Nat → Int64 → eS → eO
  | 0, _, _, ρ => (7, 0, ρ)
  | n + 1, i, g, ρ => if N ≤ lN i then e_ret g ρ else e_bind (P a (g_cons g (g_cons (lN i) (fun j => p (j + 2)))) ρ) fun v ρ1 => t_loop P a N p n (i + 1) v ρ1
def t_as (P : eP) (C : hS) (h g : Nat) (p : Nat → Int64) (ρ : eS) : eO := e_bind (P g (g_as C h g p) ρ) fun v ρ1 => e_ret ((f_X2_widened (h_r C g) (h_r C h) v).getD 0) ρ1
def e_act (C : hS) (P : eP) (h : Nat) (p : Nat → Int64) (ρ : eS) : eO :=
  if h_so C h = 0 then e_ret (h_v C h) ρ else if h_so C h = 1 then e_ret (p 0) ρ else if h_so C h = 2 then tr_rd h (p 0) (p 1) ρ else if h_so C h = 3 then tr_wr h (p 0) (p 1) (p 2) ρ else
  if h_so C h = 4 then t_sz h (p 0) ρ else if h_so C h = 5 then t_new h (h_a C h) (p 0) ρ else if h_so C h = 6 then t_sum (h_a C h) (p 0) (p 1) ρ else if h_so C h = 7 then t_quo h (h_a C h) (p 0) (p 1) ρ else
  if h_so C h = 8 then t_abv (h_a C h) (p 0) (p 1) ρ else if h_so C h = 9 then e_fl h (20 + h_b C h) ρ else if h_so C h = 10 then t_cast h (h_a C h) (p 0) ρ else
  if h_so C h = 11 then P (nt (h_a C h)) (g_drop (nt (h_b C h)) p) ρ else if h_so C h = 12 then P (nt (h_a C h)) (g_swap (nt (h_b C h)) p) ρ else
  if h_so C h = 13 then P (nt (h_a C h)) (g_cons (p 0) p) ρ else if h_so C h = 14 then P (nt (h_a C h)) (g_cons (h_v C h) p) ρ else
  if h_so C h = 15 then e_bind (P (nt (h_c C h)) (fun _ => p (nt (h_b C h))) ρ) (fun v ρ1 => P (nt (h_a C h)) (g_at (nt (h_b C h)) v p) ρ1) else
  if h_so C h = 16 then e_bind (P (nt (h_b C h)) p ρ) (fun v ρ1 => P (nt (h_a C h)) (g_cons v p) ρ1) else
  if h_so C h = 17 then e_bind (P (nt (h_a C h)) p ρ) (fun v ρ1 => P (nt (h_b C h)) (g_cons v p) ρ1) else
  if h_so C h = 18 then t_guard P (nt (h_a C h)) (nt (h_b C h)) (nt (h_c C h)) p ρ else
  if h_so C h = 19 then t_catch P (nt (h_a C h)) (h_b C h) (nt (h_c C h)) p ρ else
  if h_so C h = 20 then t_last P (nt (h_a C h)) (nt (h_b C h)) (h_r C h) p ρ else
  if h_so C h = 21 then t_loop P (nt (h_a C h)) (if 2001 < p 0 then 2001 else p 0) p 3000 0 (p 1) ρ else t_as P C h (nt (h_a C h)) p ρ
def eE (C : hS) : Nat → eP
  | 0, _, _, ρ => (7, 0, ρ)
  | d + 1, h, p, ρ => if e_T ρ = 2000 then (7, 0, e_blame h ρ) else e_act C (eE C d) h p (e_tick ρ)
/-- values of kinds -/
def okv (ρ : eS) (k : Int32) (x : Int64) : Prop := (k = 0 → x = 0 ∨ x = 1) ∧ (k = 6 → fw 23 127 31 x) ∧ (k = 7 → fw 52 1023 63 x) ∧ (8 ≤ k → x = -1 ∨ ((0 ≤ x.toInt ∧ x.toInt < (e_R ρ : Int)) ∧ (k = 16 ∨ e_ln ρ (ix x) = k - 8)))
def okS (ρ : eS) : Prop := e_R ρ ≤ 16 ∧ e_T ρ ≤ 2000 ∧ e_F ρ ≤ 24 ∧ ∀ i, i < e_R ρ → e_sz ρ i ≤ 8 ∧ (0 ≤ e_ln ρ i ∧ e_ln ρ i ≤ 7) ∧ ∀ j, j < e_sz ρ i → okv ρ (e_ln ρ i) (e_it ρ i j)
def e_le (ρ ρ1 : eS) : Prop := e_R ρ ≤ e_R ρ1 ∧ e_T ρ ≤ e_T ρ1 ∧ e_F ρ ≤ e_F ρ1 ∧ ∀ i, i < e_R ρ → e_ln ρ1 i = e_ln ρ i ∧ e_sz ρ1 i = e_sz ρ i
theorem e_le.refl (ρ : eS) : e_le ρ ρ := ⟨Nat.le_refl _, Nat.le_refl _, Nat.le_refl _, fun _ _ => ⟨rfl, rfl⟩⟩
theorem e_le.trans {a b c : eS} (h : e_le a b) (k : e_le b c) : e_le a c :=
  ⟨Nat.le_trans h.1 k.1, Nat.le_trans h.2.1 k.2.1, Nat.le_trans h.2.2.1 k.2.2.1, fun i hi => ⟨((k.2.2.2 i (Nat.lt_of_lt_of_le hi h.1)).1).trans (h.2.2.2 i hi).1, ((k.2.2.2 i (Nat.lt_of_lt_of_le hi h.1)).2).trans (h.2.2.2 i hi).2⟩⟩
theorem okv.mono {ρ ρ1 : eS} {k : Int32} {x : Int64} (h : okv ρ k x) (le : e_le ρ ρ1) : okv ρ1 k x := by
  refine ⟨h.1, h.2.1, h.2.2.1, fun hk => ?_⟩
  rcases h.2.2.2 hk with e | ⟨⟨e1, e2⟩, e3⟩
  · exact Or.inl e
  · refine Or.inr ⟨⟨e1, by have := le.1; omega⟩, ?_⟩
    rcases e3 with e3 | e3
    · exact Or.inl e3
    · exact Or.inr (((le.2.2.2 (ix x) (by show x.toInt.toNat < _; omega)).1).trans e3)
theorem okv.num (ρ : eS) {k : Int32} (x : Int64) (h : k = 1 ∨ k = 2 ∨ k = 3 ∨ k = 4 ∨ k = 5) : okv ρ k x := by
  rcases h with rfl | rfl | rfl | rfl | rfl <;> exact ⟨fun h => absurd h (by decide), fun h => absurd h (by decide), fun h => absurd h (by decide), fun h => absurd h (by decide)⟩
theorem okv.truth (ρ : eS) {x : Int64} (h : x = 0 ∨ x = 1) : okv ρ 0 x := ⟨fun _ => h, fun h => absurd h (by decide), fun h => absurd h (by decide), fun h => absurd h (by decide)⟩
theorem okv.fl (ρ : eS) {x : Int64} (h : fw 23 127 31 x) : okv ρ 6 x := ⟨fun h => absurd h (by decide), fun _ => h, fun h => absurd h (by decide), fun h => absurd h (by decide)⟩
theorem okv.db (ρ : eS) {x : Int64} (h : fw 52 1023 63 x) : okv ρ 7 x := ⟨fun h => absurd h (by decide), fun h => absurd h (by decide), fun _ => h, fun h => absurd h (by decide)⟩
theorem fw_zero {k F B W : Nat} (hk : kk k F B W) : fw F B W 0 := ⟨false, 0, Cs.zero W, Or.inl (Nat.zero_le _)⟩
theorem okv.zero (ρ : eS) {k : Int32} (h : k < 8) : okv ρ k 0 := ⟨fun _ => Or.inl rfl, fun _ => fw_zero k0, fun _ => fw_zero k1, fun z => absurd z (by
  rw [Int32.lt_iff_toInt_lt] at h; rw [Int32.le_iff_toInt_le]; omega)⟩
theorem okv.none (ρ : eS) {k : Int32} (h : 8 ≤ k) : okv ρ k (-1) := ⟨fun e => by subst e; exact absurd h (by decide), fun e => by subst e; exact absurd h (by decide), fun e => by subst e; exact absurd h (by decide), fun _ => Or.inl rfl⟩
theorem okv.tnone (ρ : eS) (k : Int32) : okv ρ k (t_none k) := by
  unfold t_none
  by_cases h : k < 8
  · rw [if_pos h]; exact okv.zero ρ h
  · rw [if_neg h]; exact okv.none ρ (by rw [Int32.lt_iff_toInt_lt] at h; rw [Int32.le_iff_toInt_le]; omega)
theorem okv.row (ρ : eS) {k : Int32} {x : Int64} (h : 8 ≤ k) (h2 : x = -1 ∨ ((0 ≤ x.toInt ∧ x.toInt < (e_R ρ : Int)) ∧ (k = 16 ∨ e_ln ρ (ix x) = k - 8))) : okv ρ k x := ⟨fun e => by subst e; exact absurd h (by decide), fun e => by subst e; exact absurd h (by decide), fun e => by subst e; exact absurd h (by decide), fun _ => h2⟩
