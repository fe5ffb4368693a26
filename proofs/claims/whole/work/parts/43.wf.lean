/-! handles that are rightly made; a run keeps to the kinds -/
def q_drop (B : Nat) (c : Int32) (ks : Nat → Int32) : Nat → Int32 := fun j => if j < B then ks j else if j = B then c else ks (j - 1)
def q_swap (B : Nat) (ks : Nat → Int32) : Nat → Int32 := fun j => if j = B then ks (B + 1) else if j = B + 1 then ks B else ks j
def q_tail (ks : Nat → Int32) : Nat → Int32 := fun j => ks (j + 1)
def q_at (B : Nat) (c : Int32) (ks : Nat → Int32) : Nat → Int32 := fun j => if j = B then c else ks j
def tyeq (m : Nat) (k : Nat → Int32) (r : Int32) (m1 : Nat) (k1 : Nat → Int32) (r1 : Int32) : Prop := m = m1 ∧ r = r1 ∧ ∀ j, j < m1 → k j = k1 j
def heldp (b : Int32) : Prop := b = -1 ∨ (1 ≤ b ∧ b ≤ 6) ∨ (20 ≤ b ∧ b ≤ 29)
def wfT (C : hS) (n : Nat) (so a b c : Int32) (m : Nat) (k : Nat → Int32) (r : Int32) : Prop :=
  (so = 0 ∧ kindp a ∧ tyeq m k r 0 (fun _ => a) a) ∨
  (so = 1 ∧ kindp a ∧ tyeq m k r 1 (fun _ => a) a) ∨
  (so = 2 ∧ lanep a ∧ tyeq m k r 2 (fun j => if j = 0 then 8 + a else 4) a) ∨
  (so = 3 ∧ lanep a ∧ tyeq m k r 3 (fun j => if j = 0 then 8 + a else if j = 1 then 4 else a) a) ∨
  (so = 4 ∧ lanep a ∧ tyeq m k r 1 (fun _ => 8 + a) 4) ∨
  (so = 5 ∧ lanep a ∧ tyeq m k r 1 (fun _ => 4) (8 + a)) ∨
  (so = 6 ∧ nump a ∧ tyeq m k r 2 (fun _ => a) a) ∨
  (so = 7 ∧ nump a ∧ tyeq m k r 2 (fun _ => a) a) ∨
  (so = 8 ∧ nump a ∧ tyeq m k r 2 (fun _ => a) 0) ∨
  (so = 9 ∧ kindp a ∧ (0 ≤ b ∧ b ≤ 9) ∧ tyeq m k r 0 (fun _ => a) a) ∨
  (so = 10 ∧ lanep a ∧ tyeq m k r 1 (fun _ => 16) (8 + a)) ∨
  (so = 11 ∧ ∃ A B, A < n ∧ a = nI A ∧ b = nI B ∧ B ≤ h_m C A ∧ h_m C A < 4 ∧ kindp c ∧ tyeq m k r (h_m C A + 1) (q_drop B c (h_k C A)) (h_r C A)) ∨
  (so = 12 ∧ ∃ A B, A < n ∧ a = nI A ∧ b = nI B ∧ B + 1 < h_m C A ∧ tyeq m k r (h_m C A) (q_swap B (h_k C A)) (h_r C A)) ∨
  (so = 13 ∧ ∃ A, A < n ∧ a = nI A ∧ 2 ≤ h_m C A ∧ h_k C A 0 = h_k C A 1 ∧ tyeq m k r (h_m C A - 1) (q_tail (h_k C A)) (h_r C A)) ∨
  (so = 14 ∧ ∃ A, A < n ∧ a = nI A ∧ 1 ≤ h_m C A ∧ tyeq m k r (h_m C A - 1) (q_tail (h_k C A)) (h_r C A)) ∨
  (so = 15 ∧ ∃ A B G, A < n ∧ G < n ∧ a = nI A ∧ b = nI B ∧ c = nI G ∧ B < h_m C A ∧ h_m C G = 1 ∧ h_r C G = h_k C A B ∧ tyeq m k r (h_m C A) (q_at B (h_k C G 0) (h_k C A)) (h_r C A)) ∨
  (so = 16 ∧ ∃ A G, A < n ∧ G < n ∧ a = nI A ∧ b = nI G ∧ 1 ≤ h_m C A ∧ h_r C G = h_k C A 0 ∧ h_m C G + 1 ≤ h_m C A ∧ (∀ j, j < h_m C G → h_k C G j = h_k C A (j + 1)) ∧ tyeq m k r (h_m C A - 1) (q_tail (h_k C A)) (h_r C A)) ∨
  (so = 17 ∧ ∃ A G, A < n ∧ G < n ∧ a = nI A ∧ b = nI G ∧ h_m C G = 1 ∧ h_k C G 0 = h_r C A ∧ tyeq m k r (h_m C A) (h_k C A) (h_r C G)) ∨
  (so = 18 ∧ ∃ A B G, A < n ∧ B < n ∧ G < n ∧ a = nI A ∧ b = nI B ∧ c = nI G ∧ h_r C A = 0 ∧ h_m C A ≤ h_m C B ∧ (∀ j, j < h_m C A → h_k C A j = h_k C B j) ∧ tyeq (h_m C G) (h_k C G) (h_r C G) (h_m C B) (h_k C B) (h_r C B) ∧ tyeq m k r (h_m C B) (h_k C B) (h_r C B)) ∨
  (so = 19 ∧ ∃ A G, A < n ∧ G < n ∧ a = nI A ∧ c = nI G ∧ heldp b ∧ 1 ≤ h_m C G ∧ h_k C G 0 = 4 ∧ h_r C G = h_r C A ∧ h_m C G ≤ h_m C A + 1 ∧ (∀ j, j + 1 < h_m C G → h_k C G (j + 1) = h_k C A j) ∧ tyeq m k r (h_m C A) (h_k C A) (h_r C A)) ∨
  (so = 20 ∧ ∃ A G, A < n ∧ G < n ∧ a = nI A ∧ b = nI G ∧ 2 ≤ h_m C G ∧ h_k C G 0 = 4 ∧ h_k C G 1 = h_r C A ∧ h_r C G = h_r C A ∧ h_m C G ≤ h_m C A + 2 ∧ (∀ j, j + 2 < h_m C G → h_k C G (j + 2) = h_k C A j) ∧ tyeq m k r (h_m C A) (h_k C A) (h_r C A)) ∨
  (so = 21 ∧ ∃ A, A < n ∧ a = nI A ∧ 2 ≤ h_m C A ∧ h_k C A 1 = 4 ∧ h_k C A 0 = h_r C A ∧ tyeq m k r (h_m C A) (q_swap 0 (h_k C A)) (h_r C A)) ∨
  (so = 22 ∧ ∃ A, A < n ∧ a = nI A ∧ m = h_m C A ∧ goesp (h_r C A) r ∧ ∀ j, j < m → goesp (k j) (h_k C A j))
def wfK (m : Nat) (k : Nat → Int32) (r : Int32) : Prop := m ≤ 4 ∧ kindp r ∧ ∀ j, j < m → kindp (k j)
def wfC (C : hS) : Prop := h_n C ≤ 32 ∧ ∀ h, h < h_n C → wfK (h_m C h) (h_k C h) (h_r C h) ∧ wfT C h (h_so C h) (h_a C h) (h_b C h) (h_c C h) (h_m C h) (h_k C h) (h_r C h)
def wfV (C : hS) (ρ : eS) : Prop := ∀ h, h < h_n C → (h_so C h = 0 → okv ρ (h_a C h) (h_v C h)) ∧ (h_so C h = 14 → okv ρ (h_k C (nt (h_a C h)) 0) (h_v C h))
theorem wfV.mono {C : hS} {ρ ρ1 : eS} (h : wfV C ρ) (le : e_le ρ ρ1) : wfV C ρ1 := fun i hi => ⟨fun e => ((h i hi).1 e).mono le, fun e => ((h i hi).2 e).mono le⟩
def okO (C : hS) (h : Nat) (ρ : eS) (o : eO) : Prop := okS o.2.2 ∧ e_le ρ o.2.2 ∧ (o.1 = 0 → okv o.2.2 (h_r C h) o.2.1)
def okA (C : hS) (h : Nat) (ρ : eS) (p : Nat → Int64) : Prop := ∀ j, j < h_m C h → okv ρ (h_k C h j) (p j)
theorem okA.mono {C : hS} {h : Nat} {ρ ρ1 : eS} {p : Nat → Int64} (k : okA C h ρ p) (le : e_le ρ ρ1) : okA C h ρ1 p := fun j hj => (k j hj).mono le
theorem nt_nI {n : Nat} (h : n < 2 ^ 31) : nt (nI n) = n := nI_clamp h
theorem okS.tick {ρ : eS} (h : okS ρ) (h2 : e_T ρ < 2000) : okS (e_tick ρ) := ⟨h.1, h2, h.2.2.1, h.2.2.2⟩
theorem le_tick (ρ : eS) : e_le ρ (e_tick ρ) := ⟨Nat.le_refl _, Nat.le_succ _, Nat.le_refl _, fun _ _ => ⟨rfl, rfl⟩⟩
theorem okS.fail {ρ : eS} (h : okS ρ) (k : Nat) : okS (e_fail k ρ) := by
  refine ⟨h.1, h.2.1, ?_, h.2.2.2⟩
  show (if e_F ρ = 24 then 24 else e_F ρ + 1) ≤ 24
  have := h.2.2.1
  split <;> omega
theorem le_fail {ρ : eS} (h : okS ρ) (k : Nat) : e_le ρ (e_fail k ρ) := by
  refine ⟨Nat.le_refl _, Nat.le_refl _, ?_, fun _ _ => ⟨rfl, rfl⟩⟩
  show e_F ρ ≤ (if e_F ρ = 24 then 24 else e_F ρ + 1)
  split <;> omega
theorem okS.set {ρ : eS} (h : okS ρ) {r j : Nat} {v : Int64} (hv : r < e_R ρ → okv ρ (e_ln ρ r) v) : okS (e_set ρ r j v) ∧ e_le ρ (e_set ρ r j v) := by
  have le : e_le ρ (e_set ρ r j v) := ⟨Nat.le_refl _, Nat.le_refl _, Nat.le_refl _, fun _ _ => ⟨rfl, rfl⟩⟩
  refine ⟨⟨h.1, h.2.1, h.2.2.1, fun i hi => ⟨(h.2.2.2 i hi).1, (h.2.2.2 i hi).2.1, fun q hq => ?_⟩⟩, le⟩
  refine okv.mono ?_ le
  show okv ρ (e_ln ρ i) (if i = r ∧ q = j then v else e_it ρ i q)
  by_cases c : i = r ∧ q = j
  · rw [if_pos c]; obtain ⟨rfl, -⟩ := c; exact hv hi
  · rw [if_neg c]; exact (h.2.2.2 i hi).2.2 q hq
theorem okS.new {ρ : eS} (h : okS ρ) {a : Int32} {n : Nat} (ha : lanep a) (hn : n ≤ 8) (hR : e_R ρ < 16) : okS (e_new ρ a n) ∧ e_le ρ (e_new ρ a n) := by
  have le : e_le ρ (e_new ρ a n) := by
    refine ⟨Nat.le_succ _, Nat.le_refl _, Nat.le_refl _, fun i hi => ⟨?_, ?_⟩⟩
    · show (if i = e_R ρ then a else e_ln ρ i) = _; rw [if_neg (by omega)]
    · show (if i = e_R ρ then n else e_sz ρ i) = _; rw [if_neg (by omega)]
  refine ⟨⟨hR, h.2.1, h.2.2.1, fun i hi => ?_⟩, le⟩
  have hi2 : i < e_R ρ + 1 := hi
  show (if i = e_R ρ then n else e_sz ρ i) ≤ 8 ∧ (0 ≤ (if i = e_R ρ then a else e_ln ρ i) ∧ (if i = e_R ρ then a else e_ln ρ i) ≤ 7) ∧ ∀ j, j < (if i = e_R ρ then n else e_sz ρ i) → okv (e_new ρ a n) (if i = e_R ρ then a else e_ln ρ i) (if i = e_R ρ then 0 else e_it ρ i j)
  by_cases c : i = e_R ρ
  · simp only [if_pos c]
    obtain ⟨q, q1, rfl⟩ := ha
    refine ⟨hn, ⟨?_, ?_⟩, fun j _ => okv.zero _ ?_⟩
    · rw [show (0 : Int32) = nI 0 from rfl, nI_leI (by decide) (by omega)]; omega
    · rw [show (7 : Int32) = nI 7 from rfl, nI_leI (by omega) (by decide)]; omega
    · rw [show (8 : Int32) = nI 8 from rfl, nI_ltI (by omega) (by decide)]; omega
  · simp only [if_neg c]
    have h1 := h.2.2.2 i (by omega)
    exact ⟨h1.1, h1.2.1, fun j hj => (h1.2.2 j hj).mono le⟩
theorem okO.fl {C : hS} {h : Nat} {ρ : eS} (hS : okS ρ) {c : Int32} (k : Nat) (hc : c ≠ 0) : okO C h ρ (e_fl k c ρ) := by
  refine ⟨hS.fail k, le_fail hS k, fun z => ?_⟩
  have z2 : (if e_F ρ = 24 then 7 else c) = 0 := z
  split at z2
  · exact absurd z2 (by decide)
  · exact absurd z2 hc
theorem okO.ret {C : hS} {h : Nat} {ρ : eS} {v : Int64} (hS : okS ρ) (hv : okv ρ (h_r C h) v) : okO C h ρ (e_ret v ρ) := ⟨hS, e_le.refl ρ, fun _ => hv⟩
theorem okO.up {C : hS} {h : Nat} {ρ ρ1 : eS} {o : eO} (le : e_le ρ ρ1) (k : okO C h ρ1 o) : okO C h ρ o := ⟨k.1, le.trans k.2.1, k.2.2⟩
theorem okO.bind {C : hS} {g h : Nat} {ρ : eS} {o : eO} {f : Int64 → eS → eO} (k : okO C g ρ o) (hf : okS o.2.2 → e_le ρ o.2.2 → okv o.2.2 (h_r C g) o.2.1 → okO C h o.2.2 (f o.2.1 o.2.2)) : okO C h ρ (e_bind o f) := by
  unfold e_bind
  by_cases c : o.1 = 0
  · rw [if_pos c]; exact (hf k.1 k.2.1 (k.2.2 c)).up k.2.1
  · rw [if_neg c]; exact ⟨k.1, k.2.1, fun z => absurd z c⟩
theorem act_0 {C : hS} {P : eP} {h : Nat} {p : Nat → Int64} {ρ : eS} (hs : h_so C h = 0) : e_act C P h p ρ = e_ret (h_v C h) ρ := by
  unfold e_act
  rw [if_pos hs]
theorem act_1 {C : hS} {P : eP} {h : Nat} {p : Nat → Int64} {ρ : eS} (hs : h_so C h = 1) : e_act C P h p ρ = e_ret (p 0) ρ := by
  unfold e_act
  rw [if_neg (by rw [hs]; decide), if_pos hs]
theorem act_2 {C : hS} {P : eP} {h : Nat} {p : Nat → Int64} {ρ : eS} (hs : h_so C h = 2) : e_act C P h p ρ = tr_rd h (p 0) (p 1) ρ := by
  unfold e_act
  rw [if_neg (by rw [hs]; decide), if_neg (by rw [hs]; decide), if_pos hs]
theorem act_3 {C : hS} {P : eP} {h : Nat} {p : Nat → Int64} {ρ : eS} (hs : h_so C h = 3) : e_act C P h p ρ = tr_wr h (p 0) (p 1) (p 2) ρ := by
  unfold e_act
  rw [if_neg (by rw [hs]; decide), if_neg (by rw [hs]; decide), if_neg (by rw [hs]; decide), if_pos hs]
theorem act_4 {C : hS} {P : eP} {h : Nat} {p : Nat → Int64} {ρ : eS} (hs : h_so C h = 4) : e_act C P h p ρ = t_sz h (p 0) ρ := by
  unfold e_act
  rw [if_neg (by rw [hs]; decide), if_neg (by rw [hs]; decide), if_neg (by rw [hs]; decide), if_neg (by rw [hs]; decide), if_pos hs]
theorem act_5 {C : hS} {P : eP} {h : Nat} {p : Nat → Int64} {ρ : eS} (hs : h_so C h = 5) : e_act C P h p ρ = t_new h (h_a C h) (p 0) ρ := by
  unfold e_act
  rw [if_neg (by rw [hs]; decide), if_neg (by rw [hs]; decide), if_neg (by rw [hs]; decide), if_neg (by rw [hs]; decide), if_neg (by rw [hs]; decide), if_pos hs]
theorem act_6 {C : hS} {P : eP} {h : Nat} {p : Nat → Int64} {ρ : eS} (hs : h_so C h = 6) : e_act C P h p ρ = t_sum (h_a C h) (p 0) (p 1) ρ := by
  unfold e_act
  rw [if_neg (by rw [hs]; decide), if_neg (by rw [hs]; decide), if_neg (by rw [hs]; decide), if_neg (by rw [hs]; decide), if_neg (by rw [hs]; decide), if_neg (by rw [hs]; decide), if_pos hs]
theorem act_7 {C : hS} {P : eP} {h : Nat} {p : Nat → Int64} {ρ : eS} (hs : h_so C h = 7) : e_act C P h p ρ = t_quo h (h_a C h) (p 0) (p 1) ρ := by
  unfold e_act
  rw [if_neg (by rw [hs]; decide), if_neg (by rw [hs]; decide), if_neg (by rw [hs]; decide), if_neg (by rw [hs]; decide), if_neg (by rw [hs]; decide), if_neg (by rw [hs]; decide), if_neg (by rw [hs]; decide), if_pos hs]
theorem act_8 {C : hS} {P : eP} {h : Nat} {p : Nat → Int64} {ρ : eS} (hs : h_so C h = 8) : e_act C P h p ρ = t_abv (h_a C h) (p 0) (p 1) ρ := by
  unfold e_act
  rw [if_neg (by rw [hs]; decide), if_neg (by rw [hs]; decide), if_neg (by rw [hs]; decide), if_neg (by rw [hs]; decide), if_neg (by rw [hs]; decide), if_neg (by rw [hs]; decide), if_neg (by rw [hs]; decide), if_neg (by rw [hs]; decide), if_pos hs]
theorem act_9 {C : hS} {P : eP} {h : Nat} {p : Nat → Int64} {ρ : eS} (hs : h_so C h = 9) : e_act C P h p ρ = e_fl h (20 + h_b C h) ρ := by
  unfold e_act
  rw [if_neg (by rw [hs]; decide), if_neg (by rw [hs]; decide), if_neg (by rw [hs]; decide), if_neg (by rw [hs]; decide), if_neg (by rw [hs]; decide), if_neg (by rw [hs]; decide), if_neg (by rw [hs]; decide), if_neg (by rw [hs]; decide), if_neg (by rw [hs]; decide), if_pos hs]
theorem act_10 {C : hS} {P : eP} {h : Nat} {p : Nat → Int64} {ρ : eS} (hs : h_so C h = 10) : e_act C P h p ρ = t_cast h (h_a C h) (p 0) ρ := by
  unfold e_act
  rw [if_neg (by rw [hs]; decide), if_neg (by rw [hs]; decide), if_neg (by rw [hs]; decide), if_neg (by rw [hs]; decide), if_neg (by rw [hs]; decide), if_neg (by rw [hs]; decide), if_neg (by rw [hs]; decide), if_neg (by rw [hs]; decide), if_neg (by rw [hs]; decide), if_neg (by rw [hs]; decide), if_pos hs]
theorem act_11 {C : hS} {P : eP} {h : Nat} {p : Nat → Int64} {ρ : eS} (hs : h_so C h = 11) : e_act C P h p ρ = P (nt (h_a C h)) (g_drop (nt (h_b C h)) p) ρ := by
  unfold e_act
  rw [if_neg (by rw [hs]; decide), if_neg (by rw [hs]; decide), if_neg (by rw [hs]; decide), if_neg (by rw [hs]; decide), if_neg (by rw [hs]; decide), if_neg (by rw [hs]; decide), if_neg (by rw [hs]; decide), if_neg (by rw [hs]; decide), if_neg (by rw [hs]; decide), if_neg (by rw [hs]; decide), if_neg (by rw [hs]; decide), if_pos hs]
theorem act_12 {C : hS} {P : eP} {h : Nat} {p : Nat → Int64} {ρ : eS} (hs : h_so C h = 12) : e_act C P h p ρ = P (nt (h_a C h)) (g_swap (nt (h_b C h)) p) ρ := by
  unfold e_act
  rw [if_neg (by rw [hs]; decide), if_neg (by rw [hs]; decide), if_neg (by rw [hs]; decide), if_neg (by rw [hs]; decide), if_neg (by rw [hs]; decide), if_neg (by rw [hs]; decide), if_neg (by rw [hs]; decide), if_neg (by rw [hs]; decide), if_neg (by rw [hs]; decide), if_neg (by rw [hs]; decide), if_neg (by rw [hs]; decide), if_neg (by rw [hs]; decide), if_pos hs]
theorem act_13 {C : hS} {P : eP} {h : Nat} {p : Nat → Int64} {ρ : eS} (hs : h_so C h = 13) : e_act C P h p ρ = P (nt (h_a C h)) (g_cons (p 0) p) ρ := by
  unfold e_act
  rw [if_neg (by rw [hs]; decide), if_neg (by rw [hs]; decide), if_neg (by rw [hs]; decide), if_neg (by rw [hs]; decide), if_neg (by rw [hs]; decide), if_neg (by rw [hs]; decide), if_neg (by rw [hs]; decide), if_neg (by rw [hs]; decide), if_neg (by rw [hs]; decide), if_neg (by rw [hs]; decide), if_neg (by rw [hs]; decide), if_neg (by rw [hs]; decide), if_neg (by rw [hs]; decide), if_pos hs]
theorem act_14 {C : hS} {P : eP} {h : Nat} {p : Nat → Int64} {ρ : eS} (hs : h_so C h = 14) : e_act C P h p ρ = P (nt (h_a C h)) (g_cons (h_v C h) p) ρ := by
  unfold e_act
  rw [if_neg (by rw [hs]; decide), if_neg (by rw [hs]; decide), if_neg (by rw [hs]; decide), if_neg (by rw [hs]; decide), if_neg (by rw [hs]; decide), if_neg (by rw [hs]; decide), if_neg (by rw [hs]; decide), if_neg (by rw [hs]; decide), if_neg (by rw [hs]; decide), if_neg (by rw [hs]; decide), if_neg (by rw [hs]; decide), if_neg (by rw [hs]; decide), if_neg (by rw [hs]; decide), if_neg (by rw [hs]; decide), if_pos hs]
theorem act_15 {C : hS} {P : eP} {h : Nat} {p : Nat → Int64} {ρ : eS} (hs : h_so C h = 15) : e_act C P h p ρ = e_bind (P (nt (h_c C h)) (fun _ => p (nt (h_b C h))) ρ) (fun v ρ1 => P (nt (h_a C h)) (g_at (nt (h_b C h)) v p) ρ1) := by
  unfold e_act
  rw [if_neg (by rw [hs]; decide), if_neg (by rw [hs]; decide), if_neg (by rw [hs]; decide), if_neg (by rw [hs]; decide), if_neg (by rw [hs]; decide), if_neg (by rw [hs]; decide), if_neg (by rw [hs]; decide), if_neg (by rw [hs]; decide), if_neg (by rw [hs]; decide), if_neg (by rw [hs]; decide), if_neg (by rw [hs]; decide), if_neg (by rw [hs]; decide), if_neg (by rw [hs]; decide), if_neg (by rw [hs]; decide), if_neg (by rw [hs]; decide), if_pos hs]
theorem act_16 {C : hS} {P : eP} {h : Nat} {p : Nat → Int64} {ρ : eS} (hs : h_so C h = 16) : e_act C P h p ρ = e_bind (P (nt (h_b C h)) p ρ) (fun v ρ1 => P (nt (h_a C h)) (g_cons v p) ρ1) := by
  unfold e_act
  rw [if_neg (by rw [hs]; decide), if_neg (by rw [hs]; decide), if_neg (by rw [hs]; decide), if_neg (by rw [hs]; decide), if_neg (by rw [hs]; decide), if_neg (by rw [hs]; decide), if_neg (by rw [hs]; decide), if_neg (by rw [hs]; decide), if_neg (by rw [hs]; decide), if_neg (by rw [hs]; decide), if_neg (by rw [hs]; decide), if_neg (by rw [hs]; decide), if_neg (by rw [hs]; decide), if_neg (by rw [hs]; decide), if_neg (by rw [hs]; decide), if_neg (by rw [hs]; decide), if_pos hs]
theorem act_17 {C : hS} {P : eP} {h : Nat} {p : Nat → Int64} {ρ : eS} (hs : h_so C h = 17) : e_act C P h p ρ = e_bind (P (nt (h_a C h)) p ρ) (fun v ρ1 => P (nt (h_b C h)) (g_cons v p) ρ1) := by
  unfold e_act
  rw [if_neg (by rw [hs]; decide), if_neg (by rw [hs]; decide), if_neg (by rw [hs]; decide), if_neg (by rw [hs]; decide), if_neg (by rw [hs]; decide), if_neg (by rw [hs]; decide), if_neg (by rw [hs]; decide), if_neg (by rw [hs]; decide), if_neg (by rw [hs]; decide), if_neg (by rw [hs]; decide), if_neg (by rw [hs]; decide), if_neg (by rw [hs]; decide), if_neg (by rw [hs]; decide), if_neg (by rw [hs]; decide), if_neg (by rw [hs]; decide), if_neg (by rw [hs]; decide), if_neg (by rw [hs]; decide), if_pos hs]
theorem act_18 {C : hS} {P : eP} {h : Nat} {p : Nat → Int64} {ρ : eS} (hs : h_so C h = 18) : e_act C P h p ρ = t_guard P (nt (h_a C h)) (nt (h_b C h)) (nt (h_c C h)) p ρ := by
  unfold e_act
  rw [if_neg (by rw [hs]; decide), if_neg (by rw [hs]; decide), if_neg (by rw [hs]; decide), if_neg (by rw [hs]; decide), if_neg (by rw [hs]; decide), if_neg (by rw [hs]; decide), if_neg (by rw [hs]; decide), if_neg (by rw [hs]; decide), if_neg (by rw [hs]; decide), if_neg (by rw [hs]; decide), if_neg (by rw [hs]; decide), if_neg (by rw [hs]; decide), if_neg (by rw [hs]; decide), if_neg (by rw [hs]; decide), if_neg (by rw [hs]; decide), if_neg (by rw [hs]; decide), if_neg (by rw [hs]; decide), if_neg (by rw [hs]; decide), if_pos hs]
theorem act_19 {C : hS} {P : eP} {h : Nat} {p : Nat → Int64} {ρ : eS} (hs : h_so C h = 19) : e_act C P h p ρ = t_catch P (nt (h_a C h)) (h_b C h) (nt (h_c C h)) p ρ := by
  unfold e_act
  rw [if_neg (by rw [hs]; decide), if_neg (by rw [hs]; decide), if_neg (by rw [hs]; decide), if_neg (by rw [hs]; decide), if_neg (by rw [hs]; decide), if_neg (by rw [hs]; decide), if_neg (by rw [hs]; decide), if_neg (by rw [hs]; decide), if_neg (by rw [hs]; decide), if_neg (by rw [hs]; decide), if_neg (by rw [hs]; decide), if_neg (by rw [hs]; decide), if_neg (by rw [hs]; decide), if_neg (by rw [hs]; decide), if_neg (by rw [hs]; decide), if_neg (by rw [hs]; decide), if_neg (by rw [hs]; decide), if_neg (by rw [hs]; decide), if_neg (by rw [hs]; decide), if_pos hs]
theorem act_20 {C : hS} {P : eP} {h : Nat} {p : Nat → Int64} {ρ : eS} (hs : h_so C h = 20) : e_act C P h p ρ = t_last P (nt (h_a C h)) (nt (h_b C h)) (h_r C h) p ρ := by
  unfold e_act
  rw [if_neg (by rw [hs]; decide), if_neg (by rw [hs]; decide), if_neg (by rw [hs]; decide), if_neg (by rw [hs]; decide), if_neg (by rw [hs]; decide), if_neg (by rw [hs]; decide), if_neg (by rw [hs]; decide), if_neg (by rw [hs]; decide), if_neg (by rw [hs]; decide), if_neg (by rw [hs]; decide), if_neg (by rw [hs]; decide), if_neg (by rw [hs]; decide), if_neg (by rw [hs]; decide), if_neg (by rw [hs]; decide), if_neg (by rw [hs]; decide), if_neg (by rw [hs]; decide), if_neg (by rw [hs]; decide), if_neg (by rw [hs]; decide), if_neg (by rw [hs]; decide), if_neg (by rw [hs]; decide), if_pos hs]
theorem act_21 {C : hS} {P : eP} {h : Nat} {p : Nat → Int64} {ρ : eS} (hs : h_so C h = 21) : e_act C P h p ρ = t_loop P (nt (h_a C h)) (if 2001 < p 0 then 2001 else p 0) p 3000 0 (p 1) ρ := by
  unfold e_act
  rw [if_neg (by rw [hs]; decide), if_neg (by rw [hs]; decide), if_neg (by rw [hs]; decide), if_neg (by rw [hs]; decide), if_neg (by rw [hs]; decide), if_neg (by rw [hs]; decide), if_neg (by rw [hs]; decide), if_neg (by rw [hs]; decide), if_neg (by rw [hs]; decide), if_neg (by rw [hs]; decide), if_neg (by rw [hs]; decide), if_neg (by rw [hs]; decide), if_neg (by rw [hs]; decide), if_neg (by rw [hs]; decide), if_neg (by rw [hs]; decide), if_neg (by rw [hs]; decide), if_neg (by rw [hs]; decide), if_neg (by rw [hs]; decide), if_neg (by rw [hs]; decide), if_neg (by rw [hs]; decide), if_neg (by rw [hs]; decide), if_pos hs]
theorem act_22 {C : hS} {P : eP} {h : Nat} {p : Nat → Int64} {ρ : eS} (hs : h_so C h = 22) : e_act C P h p ρ = t_as P C h (nt (h_a C h)) p ρ := by
  unfold e_act
  rw [if_neg (by rw [hs]; decide), if_neg (by rw [hs]; decide), if_neg (by rw [hs]; decide), if_neg (by rw [hs]; decide), if_neg (by rw [hs]; decide), if_neg (by rw [hs]; decide), if_neg (by rw [hs]; decide), if_neg (by rw [hs]; decide), if_neg (by rw [hs]; decide), if_neg (by rw [hs]; decide), if_neg (by rw [hs]; decide), if_neg (by rw [hs]; decide), if_neg (by rw [hs]; decide), if_neg (by rw [hs]; decide), if_neg (by rw [hs]; decide), if_neg (by rw [hs]; decide), if_neg (by rw [hs]; decide), if_neg (by rw [hs]; decide), if_neg (by rw [hs]; decide), if_neg (by rw [hs]; decide), if_neg (by rw [hs]; decide), if_neg (by rw [hs]; decide)]
theorem nz_code {b : Int32} (h : 0 ≤ b ∧ b ≤ 9) : 20 + b ≠ 0 := by
  obtain ⟨j, h1, rfl⟩ := nI_of2 (x := b) (M := 9) (n := 9) (by decide) (by rw [Int32.lt_iff_toInt_lt]; have := Int32.le_iff_toInt_le.mp h.1; omega) h.2
  rw [show (20 : Int32) = nI 20 from rfl, nI_add]
  exact nI_ne0 (by omega) (by omega)
theorem okv_cast {ρ : eS} {k l : Int32} {x : Int64} (h : okv ρ k x) (e : k = l) : okv ρ l x := e ▸ h
theorem act_ok {C : hS} {P : eP} {h : Nat} {p : Nat → Int64} {ρ : eS} (hC : wfC C) (hh : h < h_n C) (hS : okS ρ) (hV : wfV C ρ) (hp : okA C h ρ p)
    (hP : ∀ g q ρ1, g < h → okS ρ1 → wfV C ρ1 → okA C g ρ1 q → okO C g ρ1 (P g q ρ1)) : okO C h ρ (e_act C P h p ρ) := by
  obtain ⟨⟨hm4, hkr, hkk⟩, hw⟩ := hC.2 h hh
  have hb : h < 32 := Nat.lt_of_lt_of_le hh hC.1
  rcases hw with ⟨hs, w1, w2, w3, w4⟩ | ⟨hs, w1, w2, w3, w4⟩ | ⟨hs, w1, w2, w3, w4⟩ | ⟨hs, w1, w2, w3, w4⟩ | ⟨hs, w1, w2, w3, w4⟩ | ⟨hs, w1, w2, w3, w4⟩ | ⟨hs, w1, w2, w3, w4⟩ | ⟨hs, w1, w2, w3, w4⟩ | ⟨hs, w1, w2, w3, w4⟩ | ⟨hs, w1, w5, w2, w3, w4⟩ | ⟨hs, w1, w2, w3, w4⟩ |
    ⟨hs, A, B, a1, a2, a3, a4, a5, a6, w2, w3, w4⟩ | ⟨hs, A, B, a1, a2, a3, a4, w2, w3, w4⟩ | ⟨hs, A, a1, a2, a3, a4, w2, w3, w4⟩ | ⟨hs, A, a1, a2, a3, w2, w3, w4⟩ |
    ⟨hs, A, B, G, a1, a2, a3, a4, a5, a6, a7, a8, w2, w3, w4⟩ | ⟨hs, A, G, a1, a2, a3, a4, a5, a6, a7, a8, w2, w3, w4⟩ | ⟨hs, A, G, a1, a2, a3, a4, a5, a6, w2, w3, w4⟩ |
    ⟨hs, A, B, G, a1, a2, a3, a4, a5, a6, a7, a8, a9, ⟨b1, b2, b3⟩, w2, w3, w4⟩ | ⟨hs, A, G, a1, a2, a3, a4, a5, a6, a7, a8, a9, b1, w2, w3, w4⟩ | ⟨hs, A, G, a1, a2, a3, a4, a5, a6, a7, a8, a9, b1, w2, w3, w4⟩ |
    ⟨hs, A, a1, a2, a3, a4, a5, w2, w3, w4⟩ | ⟨hs, A, a1, a2, a3, a4, a5⟩
  · rw [act_0 hs]
    exact okO.ret hS (okv_cast ((hV h hh).1 hs) w3.symm)
  · rw [act_1 hs]
    exact okO.ret hS (okv_cast (hp 0 (by omega)) ((w4 0 (by omega)).trans w3.symm))
  · rw [act_2 hs]; unfold tr_rd
    have h0 := (okv_row8 w1).mp (okv_cast (hp 0 (by omega)) (w4 0 (by omega)))
    by_cases c1 : 0 ≤ (p 0).toInt ∧ (p 0).toInt < (e_R ρ : Int)
    · rw [if_pos c1]
      by_cases c2 : 0 ≤ (p 1).toInt ∧ (p 1).toInt < (e_sz ρ (ix (p 0)) : Int)
      · rw [if_pos c2]
        have h1 : e_ln ρ (ix (p 0)) = h_a C h := by
          rcases h0 with z | z
          · rw [z] at c1; exact absurd c1.1 (by decide)
          · exact z.2
        exact okO.ret hS (okv_cast ((hS.2.2.2 (ix (p 0)) (by show (p 0).toInt.toNat < _; omega)).2.2 (ix (p 1)) (by show (p 1).toInt.toNat < _; omega)) (h1.trans w3.symm))
      · rw [if_neg c2]; exact okO.fl hS h (by decide)
    · rw [if_neg c1]; exact okO.fl hS h (by decide)
  · rw [act_3 hs]; unfold tr_wr
    have h0 := (okv_row8 w1).mp (okv_cast (hp 0 (by omega)) (w4 0 (by omega)))
    by_cases c1 : 0 ≤ (p 0).toInt ∧ (p 0).toInt < (e_R ρ : Int)
    · rw [if_pos c1]
      by_cases c2 : 0 ≤ (p 1).toInt ∧ (p 1).toInt < (e_sz ρ (ix (p 0)) : Int)
      · rw [if_pos c2]
        have h1 : e_ln ρ (ix (p 0)) = h_a C h := by
          rcases h0 with z | z
          · rw [z] at c1; exact absurd c1.1 (by decide)
          · exact z.2
        have hv := (hS.2.2.2 (ix (p 0)) (by show (p 0).toInt.toNat < _; omega)).2.2 (ix (p 1)) (by show (p 1).toInt.toNat < _; omega)
        obtain ⟨g1, g2⟩ := hS.set (r := ix (p 0)) (j := ix (p 1)) (v := p 2) (fun _ => okv_cast (hp 2 (by omega)) ((w4 2 (by omega)).trans h1.symm))
        exact ⟨g1, g2, fun _ => (okv_cast hv (h1.trans w3.symm)).mono g2⟩
      · rw [if_neg c2]; exact okO.fl hS h (by decide)
    · rw [if_neg c1]; exact okO.fl hS h (by decide)
  · rw [act_4 hs]; unfold t_sz
    by_cases c1 : 0 ≤ (p 0).toInt ∧ (p 0).toInt < (e_R ρ : Int)
    · rw [if_pos c1]; exact okO.ret hS (by rw [w3]; exact okv.num ρ _ (by simp))
    · rw [if_neg c1]; exact okO.fl hS h (by decide)
  · rw [act_5 hs]; unfold t_new
    by_cases c1 : p 0 < 0
    · rw [if_pos c1]; exact okO.fl hS h (by decide)
    rw [if_neg c1]
    by_cases c2 : 8 < p 0 ∨ e_R ρ = 16
    · rw [if_pos c2]; exact okO.fl hS h (by decide)
    rw [if_neg c2]
    have h8 : ¬ 8 < p 0 := fun z => c2 (Or.inl z)
    rw [Int64.lt_iff_toInt_lt, show (8 : Int64).toInt = 8 by decide] at h8
    have hR : e_R ρ < 16 := by have := hS.1; have : ¬ e_R ρ = 16 := fun z => c2 (Or.inr z); omega
    obtain ⟨g1, g2⟩ := hS.new (n := ix (p 0)) w1 (by show (p 0).toInt.toNat ≤ 8; omega) hR
    refine ⟨g1, g2, fun _ => okv_cast ((okv_row8 w1).mpr (Or.inr ⟨?_, ?_⟩)) w3.symm⟩
    · show 0 ≤ (lN (e_R ρ)).toInt ∧ (lN (e_R ρ)).toInt < ((e_R ρ + 1 : Nat) : Int)
      rw [lN_toInt (by omega)]; omega
    · show (if ix (lN (e_R ρ)) = e_R ρ then h_a C h else _) = _
      rw [if_pos (by show (lN (e_R ρ)).toInt.toNat = _; rw [lN_toInt (by omega)]; rfl)]
  · rw [act_6 hs]; unfold t_sum
    have := sum_ok (ρ := ρ) w1 (okv_cast (hp 0 (by omega)) (w4 0 (by omega))) (okv_cast (hp 1 (by omega)) (w4 1 (by omega)))
    exact okO.ret hS (okv_cast this.2 w3.symm)
  · rw [act_7 hs]; unfold t_quo
    have x0 := okv_cast (hp 0 (by omega)) (w4 0 (by omega))
    have x1 := okv_cast (hp 1 (by omega)) (w4 1 (by omega))
    dsimp only at x0 x1
    by_cases c1 : h_a C h = 6
    · rw [if_pos c1]; rw [c1] at x0 x1 w3
      exact okO.ret hS (okv_cast (quo_ok6 x0 x1).2 w3.symm)
    rw [if_neg c1]
    by_cases c2 : h_a C h = 7
    · rw [if_pos c2]; rw [c2] at x0 x1 w3
      exact okO.ret hS (okv_cast (quo_ok7 x0 x1).2 w3.symm)
    rw [if_neg c2]
    by_cases c3 : p 1 = 0
    · rw [if_pos c3]; exact okO.fl hS h (by decide)
    rw [if_neg c3]
    refine okO.ret hS ?_
    rw [w3]
    rcases w1 with z | z | z | z
    · rw [z]; exact okv.num ρ _ (by simp)
    · rw [z]; exact okv.num ρ _ (by simp)
    · exact absurd z c1
    · exact absurd z c2
  · rw [act_8 hs]; unfold t_abv
    exact okO.ret hS (by rw [w3]; exact okv.truth ρ (by split <;> simp))
  · rw [act_9 hs]; exact okO.fl hS h (nz_code w5)
  · rw [act_10 hs]; unfold t_cast
    by_cases c1 : p 0 = -1 ∨ ((0 ≤ (p 0).toInt ∧ (p 0).toInt < (e_R ρ : Int)) ∧ e_ln ρ (ix (p 0)) = h_a C h)
    · rw [if_pos c1]; exact okO.ret hS (okv_cast ((okv_row8 w1).mpr c1) w3.symm)
    · rw [if_neg c1]; exact okO.fl hS h (by decide)
  · rw [act_11 hs, a2, a3, nt_nI (by omega), nt_nI (by omega)]
    have hA : okA C A ρ (g_drop B p) := by
      intro j hj
      unfold g_drop
      by_cases c : j < B
      · rw [if_pos c]
        exact okv_cast (hp j (by omega)) ((w4 j (by omega)).trans (by unfold q_drop; rw [if_pos c]))
      · rw [if_neg c]
        exact okv_cast (hp (j + 1) (by omega)) ((w4 (j + 1) (by omega)).trans (by unfold q_drop; rw [if_neg (by omega), if_neg (by omega)]; rfl))
    have := hP A _ ρ a1 hS hV hA
    exact ⟨this.1, this.2.1, fun z => okv_cast (this.2.2 z) w3.symm⟩
  · rw [act_12 hs, a2, a3, nt_nI (by omega), nt_nI (by omega)]
    have hA : okA C A ρ (g_swap B p) := by
      intro j hj
      unfold g_swap
      by_cases c : j = B
      · rw [if_pos c, c]
        exact okv_cast (hp (B + 1) (by omega)) ((w4 (B + 1) (by omega)).trans (by unfold q_swap; rw [if_neg (by omega), if_pos rfl]))
      rw [if_neg c]
      by_cases c2 : j = B + 1
      · rw [if_pos c2, c2]
        exact okv_cast (hp B (by omega)) ((w4 B (by omega)).trans (by unfold q_swap; rw [if_pos rfl]))
      · rw [if_neg c2]
        exact okv_cast (hp j (by omega)) ((w4 j (by omega)).trans (by unfold q_swap; rw [if_neg c, if_neg c2]))
    have := hP A _ ρ a1 hS hV hA
    exact ⟨this.1, this.2.1, fun z => okv_cast (this.2.2 z) w3.symm⟩
  · rw [act_13 hs, a2, nt_nI (by omega)]
    have hA : okA C A ρ (g_cons (p 0) p) := by
      intro j hj
      unfold g_cons
      by_cases c : j = 0
      · rw [if_pos c, c]
        exact okv_cast (hp 0 (by omega)) ((w4 0 (by omega)).trans (by unfold q_tail; exact a4.symm))
      · rw [if_neg c]
        exact okv_cast (hp (j - 1) (by omega)) ((w4 (j - 1) (by omega)).trans (by unfold q_tail; rw [Nat.sub_add_cancel (by omega)]))
    have := hP A _ ρ a1 hS hV hA
    exact ⟨this.1, this.2.1, fun z => okv_cast (this.2.2 z) w3.symm⟩
  · have hv := (hV h hh).2 hs
    rw [act_14 hs]
    rw [a2, nt_nI (by omega)] at hv ⊢
    have hA : okA C A ρ (g_cons (h_v C h) p) := by
      intro j hj
      unfold g_cons
      by_cases c : j = 0
      · rw [if_pos c, c]; exact hv
      · rw [if_neg c]
        exact okv_cast (hp (j - 1) (by omega)) ((w4 (j - 1) (by omega)).trans (by unfold q_tail; rw [Nat.sub_add_cancel (by omega)]))
    have := hP A _ ρ a1 hS hV hA
    exact ⟨this.1, this.2.1, fun z => okv_cast (this.2.2 z) w3.symm⟩
  · rw [act_15 hs, a3, a4, a5, nt_nI (by omega), nt_nI (by omega), nt_nI (by omega)]
    refine okO.bind (g := G) (hP G _ ρ a2 hS hV ?_) ?_
    · intro j hj
      have hj0 : j = 0 := by omega
      subst hj0
      exact okv_cast (hp B (by omega)) ((w4 B (by omega)).trans (by unfold q_at; rw [if_pos rfl]))
    · intro s1 le hv
      have hA : okA C A (P G (fun _ => p B) ρ).2.2 (g_at B (P G (fun _ => p B) ρ).2.1 p) := by
        intro j hj
        unfold g_at
        by_cases c : j = B
        · rw [if_pos c, c]; exact okv_cast hv a8
        · rw [if_neg c]
          exact (okv_cast (hp j (by omega)) ((w4 j (by omega)).trans (by unfold q_at; rw [if_neg c]))).mono le
      have := hP A _ _ a1 s1 (hV.mono le) hA
      exact ⟨this.1, this.2.1, fun z => okv_cast (this.2.2 z) w3.symm⟩
  · rw [act_16 hs, a3, a4, nt_nI (by omega), nt_nI (by omega)]
    refine okO.bind (g := G) (hP G _ ρ a2 hS hV ?_) ?_
    · intro j hj
      exact okv_cast (hp j (by omega)) ((w4 j (by omega)).trans (a8 j hj).symm)
    · intro s1 le hv
      have hA : okA C A (P G p ρ).2.2 (g_cons (P G p ρ).2.1 p) := by
        intro j hj
        unfold g_cons
        by_cases c : j = 0
        · rw [if_pos c, c]; exact okv_cast hv a6
        · rw [if_neg c]
          exact (okv_cast (hp (j - 1) (by omega)) ((w4 (j - 1) (by omega)).trans (by unfold q_tail; rw [Nat.sub_add_cancel (by omega)]))).mono le
      have := hP A _ _ a1 s1 (hV.mono le) hA
      exact ⟨this.1, this.2.1, fun z => okv_cast (this.2.2 z) w3.symm⟩
  · rw [act_17 hs, a3, a4, nt_nI (by omega), nt_nI (by omega)]
    refine okO.bind (g := A) (hP A _ ρ a1 hS hV ?_) ?_
    · intro j hj
      exact okv_cast (hp j (by omega)) (w4 j (by omega))
    · intro s1 le hv
      have hA : okA C G (P A p ρ).2.2 (g_cons (P A p ρ).2.1 p) := by
        intro j hj
        have hj0 : j = 0 := by omega
        subst hj0
        exact okv_cast hv a6.symm
      have := hP G _ _ a2 s1 (hV.mono le) hA
      exact ⟨this.1, this.2.1, fun z => okv_cast (this.2.2 z) w3.symm⟩
  · rw [act_18 hs, a4, a5, a6, nt_nI (by omega), nt_nI (by omega), nt_nI (by omega)]
    unfold t_guard
    refine okO.bind (g := A) (hP A _ ρ a1 hS hV ?_) ?_
    · intro j hj
      exact okv_cast (hp j (by omega)) ((w4 j (by omega)).trans (a9 j hj).symm)
    · intro s1 le hv
      by_cases c : (P A p ρ).2.1 = 0
      · rw [if_pos c]
        have := hP G p _ a3 s1 (hV.mono le) (fun j hj => (okv_cast (hp j (by omega)) ((w4 j (by omega)).trans (b3 j (by omega)).symm)).mono le)
        exact ⟨this.1, this.2.1, fun z => okv_cast (this.2.2 z) (b2.trans w3.symm)⟩
      · rw [if_neg c]
        have := hP B p _ a2 s1 (hV.mono le) (fun j hj => (okv_cast (hp j (by omega)) (w4 j (by omega))).mono le)
        exact ⟨this.1, this.2.1, fun z => okv_cast (this.2.2 z) w3.symm⟩
  · rw [act_19 hs, a3, a4, nt_nI (by omega), nt_nI (by omega)]
    unfold t_catch
    have hA := hP A p ρ a1 hS hV (fun j hj => okv_cast (hp j (by omega)) (w4 j (by omega)))
    by_cases c : (P A p ρ).1 = 0 ∨ (P A p ρ).1 = 7 ∨ ¬ (h_b C h = -1 ∨ h_b C h = (P A p ρ).1)
    · rw [if_pos c]; exact ⟨hA.1, hA.2.1, fun z => okv_cast (hA.2.2 z) w3.symm⟩
    · rw [if_neg c]
      have hG := hP G (g_cons (P A p ρ).1.toInt64 p) _ a2 hA.1 (hV.mono hA.2.1) (by
        intro j hj
        unfold g_cons
        by_cases c0 : j = 0
        · rw [if_pos c0, c0, a7]; exact okv.num _ _ (by simp)
        · rw [if_neg c0]
          have := b1 (j - 1) (by omega)
          rw [Nat.sub_add_cancel (by omega)] at this
          exact (okv_cast (hp (j - 1) (by omega)) ((w4 (j - 1) (by omega)).trans this.symm)).mono hA.2.1)
      exact (show okO C h _ _ from ⟨hG.1, hG.2.1, fun z => okv_cast (hG.2.2 z) (a8.trans w3.symm)⟩).up hA.2.1
  · rw [act_20 hs, a3, a4, nt_nI (by omega), nt_nI (by omega)]
    unfold t_last
    have hA := hP A p ρ a1 hS hV (fun j hj => okv_cast (hp j (by omega)) (w4 j (by omega)))
    by_cases c : (P A p ρ).1 = 7
    · rw [if_pos c]; exact ⟨hA.1, hA.2.1, fun z => by rw [c] at z; exact absurd z (by decide)⟩
    · rw [if_neg c]
      have hG := hP G (g_cons (P A p ρ).1.toInt64 (g_cons (if (P A p ρ).1 = 0 then (P A p ρ).2.1 else t_none (h_r C h)) p)) _ a2 hA.1 (hV.mono hA.2.1) (by
        intro j hj
        unfold g_cons
        by_cases c0 : j = 0
        · rw [if_pos c0, c0, a6]; exact okv.num _ _ (by simp)
        · rw [if_neg c0]
          by_cases c1 : j - 1 = 0
          · have : j = 1 := by omega
            subst this
            rw [if_pos rfl, a7]
            by_cases c2 : (P A p ρ).1 = 0
            · rw [if_pos c2]; exact hA.2.2 c2
            · rw [if_neg c2, w3]; exact okv.tnone _ _
          · rw [if_neg c1]
            have := b1 (j - 2) (by omega)
            rw [Nat.sub_add_cancel (by omega)] at this
            have e : j - 1 - 1 = j - 2 := by omega
            rw [e]
            exact (okv_cast (hp (j - 2) (by omega)) ((w4 (j - 2) (by omega)).trans this.symm)).mono hA.2.1)
      generalize P G (g_cons (P A p ρ).1.toInt64 (g_cons (if (P A p ρ).1 = 0 then (P A p ρ).2.1 else t_none (h_r C h)) p)) (P A p ρ).2.2 = o at *
      by_cases c2 : o.1 = 0
      · rw [if_pos c2]
        exact ⟨hG.1, hA.2.1.trans hG.2.1, fun _ => okv_cast (hG.2.2 c2) (a8.trans w3.symm)⟩
      · rw [if_neg c2]
        exact ⟨hG.1, hA.2.1.trans hG.2.1, fun z => absurd z c2⟩
  · rw [act_21 hs, a2, nt_nI (by omega)]
    have key : ∀ n i g ρ1, e_le ρ ρ1 → okS ρ1 → okv ρ1 (h_r C h) g → okO C h ρ1 (t_loop P A (if 2001 < p 0 then 2001 else p 0) p n i g ρ1) := by
      intro n
      induction n with
      | zero => intro i g ρ1 _ s1 _; exact ⟨s1, e_le.refl _, fun z => absurd (show (7 : Int32) = 0 from z) (by decide)⟩
      | succ n ih =>
        intro i g ρ1 le s1 hg
        unfold t_loop
        by_cases c : (if 2001 < p 0 then 2001 else p 0) ≤ lN i
        · rw [if_pos c]; exact okO.ret s1 hg
        · rw [if_neg c]
          refine okO.bind (g := A) (hP A _ ρ1 a1 s1 (hV.mono le) ?_) ?_
          · intro j hj
            unfold g_cons
            by_cases c0 : j = 0
            · rw [if_pos c0, c0]; exact okv_cast hg (w3.trans a5.symm)
            · rw [if_neg c0]
              by_cases c1 : j - 1 = 0
              · have : j = 1 := by omega
                subst this
                rw [if_pos rfl, a4]; exact okv.num _ _ (by simp)
              · rw [if_neg c1]
                have e : j - 1 - 1 + 2 = j := by omega
                show okv ρ1 _ (p (j - 1 - 1 + 2))
                rw [e]
                exact (okv_cast (hp j (by omega)) ((w4 j (by omega)).trans (by unfold q_swap; rw [if_neg c0, if_neg (by omega)]))).mono le
          · intro s2 le2 hv
            exact ih (i + 1) _ _ (le.trans le2) s2 (okv_cast hv w3.symm)
    exact key 3000 0 (p 1) ρ (e_le.refl ρ) hS (okv_cast (hp 1 (by omega)) ((w4 1 (by omega)).trans ((by unfold q_swap; rw [if_neg (by decide), if_pos rfl] : q_swap 0 (h_k C A) 1 = h_k C A 0).trans (a5.trans w3.symm))))
  · rw [act_22 hs, a2, nt_nI (by omega)]
    unfold t_as
    obtain ⟨⟨-, hAr, hAk⟩, -⟩ := hC.2 A (by omega)
    refine okO.bind (g := A) (hP A _ ρ a1 hS hV ?_) ?_
    · intro j hj
      unfold g_as
      obtain ⟨r, q1, q2, q3⟩ := wid_ok (hkk j (by omega)) (hAk j hj) (a5 j (by omega)) (hp j (by omega))
      rw [q1]; exact q3
    · intro s1 le hv
      obtain ⟨r, q1, q2, q3⟩ := wid_ok hAr hkr a4 hv
      refine okO.ret s1 ?_
      rw [q1]; exact q3
theorem eE_ok {C : hS} (hC : wfC C) : ∀ (d h : Nat) (p : Nat → Int64) (ρ : eS), h < h_n C → okS ρ → wfV C ρ → okA C h ρ p → okO C h ρ (eE C d h p ρ) := by
  intro d
  induction d with
  | zero => intro h p ρ hh hS hV hp; exact ⟨hS, e_le.refl ρ, fun z => absurd (show (7 : Int32) = 0 from z) (by decide)⟩
  | succ d ih =>
    intro h p ρ hh hS hV hp
    unfold eE
    by_cases c : e_T ρ = 2000
    · rw [if_pos c]; exact ⟨⟨hS.1, hS.2.1, hS.2.2.1, hS.2.2.2⟩, ⟨Nat.le_refl _, Nat.le_refl _, Nat.le_refl _, fun _ _ => ⟨rfl, rfl⟩⟩, fun z => absurd (show (7 : Int32) = 0 from z) (by decide)⟩
    · rw [if_neg c]
      have hT : e_T ρ < 2000 := by have := hS.2.1; omega
      exact (act_ok hC hh (hS.tick hT) (hV.mono (le_tick ρ)) (hp.mono (le_tick ρ)) (fun g q ρ1 hg s1 v1 o1 => ih g q ρ1 (Nat.lt_trans hg hh) s1 v1 o1)).up (le_tick ρ)
theorem eE_T {C : hS} (hC : wfC C) {d h : Nat} {p : Nat → Int64} {ρ : eS} (hh : h < h_n C) (hS : okS ρ) (hV : wfV C ρ) (hp : okA C h ρ p) (h0 : (eE C d h p ρ).1 = 0) : e_T ρ < e_T (eE C d h p ρ).2.2 := by
  cases d with
  | zero => exact absurd (show (7 : Int32) = 0 from h0) (by decide)
  | succ d =>
    unfold eE at h0 ⊢
    by_cases c : e_T ρ = 2000
    · rw [if_pos c] at h0; exact absurd (show (7 : Int32) = 0 from h0) (by decide)
    · rw [if_neg c] at h0 ⊢
      have hT : e_T ρ < 2000 := by have := hS.2.1; omega
      have := (act_ok hC hh (hS.tick hT) (hV.mono (le_tick ρ)) (hp.mono (le_tick ρ)) (fun g q ρ1 hg s1 v1 o1 => eE_ok hC d g q ρ1 (Nat.lt_trans hg hh) s1 v1 o1)).2.1.2.1
      exact this
