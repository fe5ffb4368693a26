/-! the reference's state: what it holds; its small steps -/
section MST
variable {α : Type} {σ : mS} {k i n : Nat} {x v : Int32} {w : Int64}
theorem m_rI {f : Int32 → Option α} (hx : x = nI i) (hi : i < n) (hn : n < 2 ^ 31) (hv : m_aI σ k i = v) : o_ck (¬ (x < 0 ∨ n ≤ x.toNatClampNeg)) (o_let (m_aI σ k x.toNatClampNeg) f) = f v := by
  subst hx; rw [ck_t (nI_in hi hn), nI_clamp (by omega), hv]; rfl
theorem m_rL {f : Int64 → Option α} (hx : x = nI i) (hi : i < n) (hn : n < 2 ^ 31) (hv : m_aL σ k i = w) : o_ck (¬ (x < 0 ∨ n ≤ x.toNatClampNeg)) (o_let (m_aL σ k x.toNatClampNeg) f) = f w := by
  subst hx; rw [ck_t (nI_in hi hn), nI_clamp (by omega), hv]; rfl
theorem m_uI {f : mS → Option α} (hx : x = nI i) (hi : i < n) (hn : n < 2 ^ 31) : o_ck (¬ (x < 0 ∨ n ≤ x.toNatClampNeg)) (o_let (m_wI σ k x.toNatClampNeg v) f) = f (m_wI σ k i v) := by
  subst hx; rw [ck_t (nI_in hi hn), nI_clamp (by omega)]; rfl
theorem m_uL {f : mS → Option α} (hx : x = nI i) (hi : i < n) (hn : n < 2 ^ 31) : o_ck (¬ (x < 0 ∨ n ≤ x.toNatClampNeg)) (o_let (m_wL σ k x.toNatClampNeg w) f) = f (m_wL σ k i w) := by
  subst hx; rw [ck_t (nI_in hi hn), nI_clamp (by omega)]; rfl
theorem m_gI {f : Int32 → Option α} (hv : m_I σ k = v) : o_let (m_I σ k) f = f v := by rw [hv]; rfl
theorem m_gL {f : Int64 → Option α} (hv : m_L σ k = w) : o_let (m_L σ k) f = f w := by rw [hv]; rfl
theorem o_l {β : Type} {x : β} {f : β → Option α} : o_let x f = f x := rfl
end MST
/-- all of one array of longs -/
def m_f (σ : mS) (k : Nat) (g : Nat → Int64) : mS := (σ.1, σ.2.1, σ.2.2.1, fun j q => if j = k then g q else σ.2.2.2 j q)
theorem mf_at (σ : mS) (k : Nat) (g : Nat → Int64) (i : Nat) : m_aL (m_f σ k g) k i = g i := by
  show (if k = k then g i else _) = _; rw [if_pos rfl]
theorem mf_wL (σ : mS) (k i : Nat) (v : Int64) : m_wL σ k i v = m_f σ k (fun j => if j = i then v else m_aL σ k j) := by
  unfold m_wL m_f m_aL
  congr 3
  funext b j
  by_cases c : b = k
  · subst c
    by_cases c2 : j = i
    · rw [if_pos ⟨rfl, c2⟩, if_pos rfl]; exact (if_pos c2).symm
    · rw [if_neg (fun z => c2 z.2), if_pos rfl]; exact (if_neg c2).symm
  · rw [if_neg (fun z => c z.1), if_neg c]
theorem mf_mf (σ : mS) (k : Nat) (g g2 : Nat → Int64) : m_f (m_f σ k g) k g2 = m_f σ k g2 := by
  unfold m_f
  congr 3
  funext b j
  by_cases c : b = k
  · simp only [if_pos c]
  · simp only [if_neg c]
theorem mf_self (σ : mS) (k : Nat) : m_f σ k (m_aL σ k) = σ := by
  unfold m_f m_aL
  have : (fun b j => if b = k then σ.2.2.2 k j else σ.2.2.2 b j) = σ.2.2.2 := by
    funext b j
    by_cases c : b = k
    · rw [if_pos c, c]
    · rw [if_neg c]
  rw [this]
  rfl
theorem mwL_self (σ : mS) (k i : Nat) : m_wL σ k i (m_aL σ k i) = σ := by
  rw [mf_wL]
  have : (fun j => if j = i then m_aL σ k i else m_aL σ k j) = m_aL σ k := by
    funext j
    by_cases c : j = i
    · rw [if_pos c, c]
    · rw [if_neg c]
  rw [this, mf_self]
/-! what the reference's state says -/
def mRw (ρ : eS) (σ : mS) : Prop := m_I σ 0 = nI (e_R ρ) ∧ e_R ρ ≤ 16 ∧ ∀ i, i < e_R ρ → m_aI σ 1 i = e_ln ρ i ∧ m_aI σ 2 i = nI (e_sz ρ i) ∧ e_sz ρ i ≤ 8 ∧ ∀ j, j < e_sz ρ i → m_aL σ 15 (8 * i + j) = e_it ρ i j
def mRn (ρ : eS) (σ : mS) : Prop := m_I σ 9 = nI (e_T ρ) ∧ m_I σ 10 = nI (e_F ρ) ∧ m_I σ 11 = e_b ρ
def mHi (C : hS) (σ : mS) (i : Nat) : Prop := m_aI σ 4 i = h_so C i ∧ m_aI σ 5 i = h_a C i ∧ m_aI σ 6 i = h_b C i ∧ m_aI σ 7 i = h_c C i ∧ m_aL σ 17 i = h_v C i ∧ m_aI σ 8 i = nI (h_m C i) ∧ m_aI σ 10 i = h_r C i ∧ ∀ j, j < h_m C i → m_aI σ 9 (4 * i + j) = h_k C i j
def mHd (C : hS) (σ : mS) : Prop := m_I σ 3 = nI (h_n C) ∧ h_n C ≤ 32 ∧ ∀ i, i < h_n C → mHi C σ i
def mOb (Z : zS) (σ : mS) : Prop := m_I σ 1 = z_r Z ∧ m_I σ 2 = nI (z_m Z) ∧ z_m Z ≤ 4 ∧ (∀ j, j < z_m Z → m_aI σ 3 j = z_k Z j) ∧ (∀ j, j < 4 → m_aL σ 16 j = z_g Z j) ∧ m_L σ 2 = z_v Z ∧ m_I σ 12 = z_n Z
def mR (C : hS) (ρ : eS) (Z : zS) (σ : mS) : Prop := mRw ρ σ ∧ mRn ρ σ ∧ mHd C σ ∧ mOb Z σ
def mFr (δ : Nat) (σ τ : mS) : Prop := ∀ i, i < δ → m_aI τ 11 i = m_aI σ 11 i ∧ m_aI τ 12 i = m_aI σ 12 i ∧ m_aI τ 13 i = m_aI σ 13 i ∧ m_aI τ 14 i = m_aI σ 14 i ∧ m_aL τ 19 i = m_aL σ 19 i ∧ ∀ j, j < 4 → m_aL τ 18 (4 * i + j) = m_aL σ 18 (4 * i + j)
theorem mFr.refl (δ : Nat) (σ : mS) : mFr δ σ σ := fun _ _ => ⟨rfl, rfl, rfl, rfl, rfl, fun _ _ => rfl⟩
theorem mFr.trans {δ : Nat} {a b c : mS} (h : mFr δ a b) (k : mFr δ b c) : mFr δ a c := fun i hi => by
  obtain ⟨a1, a2, a3, a4, a5, a6⟩ := h i hi
  obtain ⟨b1, b2, b3, b4, b5, b6⟩ := k i hi
  exact ⟨b1.trans a1, b2.trans a2, b3.trans a3, b4.trans a4, b5.trans a5, fun j hj => (b6 j hj).trans (a6 j hj)⟩
theorem mFr.le {δ ε : Nat} {a b : mS} (h : mFr δ a b) (hl : ε ≤ δ) : mFr ε a b := fun i hi => h i (by omega)
section MKEEP
variable {C : hS} {ρ : eS} {Z : zS} {σ : mS} {δ : Nat}
theorem mR.I7 (h : mR C ρ Z σ) (v : Int32) : mR C ρ Z (m_pI σ 7 v) := h
theorem mR.I8 (h : mR C ρ Z σ) (v : Int32) : mR C ρ Z (m_pI σ 8 v) := h
theorem mR.L1 (h : mR C ρ Z σ) (v : Int64) : mR C ρ Z (m_pL σ 1 v) := h
theorem mR.a11 (h : mR C ρ Z σ) (i : Nat) (v : Int32) : mR C ρ Z (m_wI σ 11 i v) := h
theorem mR.a12 (h : mR C ρ Z σ) (i : Nat) (v : Int32) : mR C ρ Z (m_wI σ 12 i v) := h
theorem mR.a13 (h : mR C ρ Z σ) (i : Nat) (v : Int32) : mR C ρ Z (m_wI σ 13 i v) := h
theorem mR.a14 (h : mR C ρ Z σ) (i : Nat) (v : Int32) : mR C ρ Z (m_wI σ 14 i v) := h
theorem mR.a19 (h : mR C ρ Z σ) (i : Nat) (v : Int64) : mR C ρ Z (m_wL σ 19 i v) := h
theorem mR.f18 (h : mR C ρ Z σ) (g : Nat → Int64) : mR C ρ Z (m_f σ 18 g) := h
theorem mR.f20 (h : mR C ρ Z σ) (g : Nat → Int64) : mR C ρ Z (m_f σ 20 g) := h
theorem mR.hi (h : mR C ρ Z σ) {i : Nat} (hi : i < h_n C) : mHi C σ i := h.2.2.1.2.2 i hi
/-- it begins -/
theorem m_begin_b (hδ : δ ≤ 32) : ∀ (n i : Nat) (σ : mS), 5 ≤ n + i → i ≤ 4 → m_I σ 7 = nI δ → ∃ g, f_X11_begin_b89 n (nI i) σ = some ((), m_pI (m_f σ 18 g) 7 (nI (δ + 1))) ∧ (∀ j, i ≤ j → j < 4 → g (4 * δ + j) = m_aL σ 20 j) ∧ ∀ q, q < 4 * δ + i → g q = m_aL σ 18 q := by
  intro n
  induction n with
  | zero => intro i σ h1 h2; omega
  | succ n ih =>
    intro i σ h1 h2 h7
    rw [f_X11_begin_b89.eq_2]
    by_cases c : 4 ≤ i
    · refine ⟨m_aL σ 18, ?_, fun j _ _ => by omega, fun _ _ => rfl⟩
      rw [if_pos (show (4 : Int32) ≤ nI i from nI_le (a := 4) c (by omega)), m_gI h7, nI_1, mf_self]; rfl
    · rw [if_neg (show ¬ (4 : Int32) ≤ nI i from nI_ge (a := i) (b := 4) (by omega) (by decide)), m_gI h7, m_rL (n := 4) rfl (by omega) (by decide) rfl, m_uL (n := 132) (i := 4 * δ + i) (by rw [show (4 : Int32) = nI 4 from rfl, pk_mul, nI_add]) (by omega) (by decide), o_l, nI_1, mf_wL]
      obtain ⟨g, e1, e2, e3⟩ := ih (i + 1) (m_f σ 18 (fun j => if j = 4 * δ + i then m_aL σ 20 i else m_aL σ 18 j)) (by omega) (by omega) h7
      refine ⟨g, by rw [e1, mf_mf], fun j h3 h4 => ?_, fun q hq => ?_⟩
      · by_cases d : j = i
        · subst d
          rw [e3 _ (by omega), mf_at, if_pos rfl]
        · rw [e2 j (by omega) h4]; rfl
      · rw [e3 q (by omega), mf_at, if_neg (by omega)]
theorem m_begin (h : mR C ρ Z σ) (h7 : m_I σ 7 = nI δ) (hδ : δ ≤ 32) (hT : e_T ρ < 2000) (x : Int32) : ∃ τ, f_X11_begin x σ = some ((), τ) ∧ mR C (e_tick ρ) Z τ ∧ m_I τ 7 = nI (δ + 1) ∧ m_I τ 8 = 0 ∧ m_aI τ 11 δ = x ∧ m_aI τ 12 δ = nI 0 ∧ m_aI τ 13 δ = nI 0 ∧ m_aI τ 14 δ = 0 ∧ (∀ j, j < 4 → m_aL τ 18 (4 * δ + j) = m_aL σ 20 j) ∧ mFr δ σ τ := by
  obtain ⟨hr, ⟨r1, r2, r3⟩, hh, ho⟩ := h
  unfold f_X11_begin
  rw [o_l, m_gI (show m_I (m_pI σ 8 0) 9 = nI (e_T ρ) from r1), if_neg (by rw [show (2000 : Int32) = nI 2000 from rfl, nI_eq (by omega) (by decide)]; omega), m_gI (show m_I (m_pI σ 8 0) 9 = nI (e_T ρ) from r1), o_l, nI_1]
  rw [m_gI (show m_I (m_pI (m_pI σ 8 0) 9 (nI (e_T ρ + 1))) 7 = nI δ from h7), m_uI (n := 33) rfl (by omega) (by decide), m_gI (show m_I (m_wI (m_pI (m_pI σ 8 0) 9 (nI (e_T ρ + 1))) 11 δ x) 7 = nI δ from h7), m_uI (n := 33) rfl (by omega) (by decide)]
  rw [m_gI (show m_I (m_wI (m_wI (m_pI (m_pI σ 8 0) 9 (nI (e_T ρ + 1))) 11 δ x) 12 δ 0) 7 = nI δ from h7), m_uI (n := 33) rfl (by omega) (by decide)]
  rw [m_gI (show m_I (m_wI (m_wI (m_wI (m_pI (m_pI σ 8 0) 9 (nI (e_T ρ + 1))) 11 δ x) 12 δ 0) 13 δ 0) 7 = nI δ from h7), m_uI (n := 33) rfl (by omega) (by decide)]
  rw [m_gI (show m_I (m_wI (m_wI (m_wI (m_wI (m_pI (m_pI σ 8 0) 9 (nI (e_T ρ + 1))) 11 δ x) 12 δ 0) 13 δ 0) 14 δ 0) 7 = nI δ from h7), m_uL (n := 33) rfl (by omega) (by decide)]
  obtain ⟨g, e1, e2, e3⟩ := m_begin_b hδ 12 0 (m_wL (m_wI (m_wI (m_wI (m_wI (m_pI (m_pI σ 8 0) 9 (nI (e_T ρ + 1))) 11 δ x) 12 δ 0) 13 δ 0) 14 δ 0) 19 δ 0) (by omega) (by omega) h7
  refine ⟨_, e1, ⟨hr, ⟨?_, r2, r3⟩, hh, ho⟩, rfl, rfl, ?_, ?_, ?_, ?_, fun j hj => ?_, fun i hi => ⟨?_, ?_, ?_, ?_, ?_, fun j hj => ?_⟩⟩
  · rfl
  · show (if 11 = 11 ∧ δ = δ then x else _) = x; simp
  · show (if 12 = 12 ∧ δ = δ then (0 : Int32) else _) = 0; simp
  · show (if 13 = 13 ∧ δ = δ then (0 : Int32) else _) = 0; simp
  · show (if 14 = 14 ∧ δ = δ then (0 : Int32) else _) = 0; simp
  · show m_aL (m_f _ 18 g) 18 (4 * δ + j) = _
    rw [mf_at, e2 j (by omega) hj]; rfl
  · show (if 11 = 11 ∧ i = δ then x else _) = _; rw [if_neg (by omega)]; rfl
  · show (if 12 = 12 ∧ i = δ then (0 : Int32) else _) = _; rw [if_neg (by omega)]; rfl
  · show (if 13 = 13 ∧ i = δ then (0 : Int32) else _) = _; rw [if_neg (by omega)]; rfl
  · show (if 14 = 14 ∧ i = δ then (0 : Int32) else _) = _; rw [if_neg (by omega)]; rfl
  · show (if 19 = 19 ∧ i = δ then (0 : Int64) else _) = _; rw [if_neg (by omega)]; rfl
  · show m_aL (m_f _ 18 g) 18 (4 * i + j) = _
    rw [mf_at, e3 _ (by omega)]; rfl
theorem m_spent (h : mR C ρ Z σ) (hT : e_T ρ = 2000) (x : Nat) : ∃ τ, f_X11_begin (nI x) σ = some ((), τ) ∧ mR C (e_blame x ρ) Z τ ∧ m_I τ 7 = m_I σ 7 ∧ m_I τ 8 = 7 ∧ ∀ δ, mFr δ σ τ := by
  obtain ⟨hr, ⟨r1, r2, r3⟩, hh, ho⟩ := h
  unfold f_X11_begin
  rw [o_l, m_gI (show m_I (m_pI σ 8 0) 9 = nI (e_T ρ) from r1), if_pos (by rw [hT]; rfl)]
  refine ⟨_, rfl, ⟨hr, ⟨r1, r2, ?_⟩, hh, ho⟩, rfl, rfl, fun δ => mFr.refl δ σ⟩
  rfl
/-- what is popped, and its outcome -/
def mPop (C : hS) (Z : zS) (δ : Nat) (σ : mS) (o : eO) (τ : mS) : Prop := m_I τ 7 = nI δ ∧ mR C o.2.2 Z τ ∧ m_I τ 8 = o.1 ∧ (o.1 = 0 → m_L τ 1 = o.2.1) ∧ mFr δ σ τ
theorem m_end (h : mR C ρ Z σ) (h7 : m_I σ 7 = nI (δ + 1)) (v : Int64) : ∃ τ, f_X11_end v σ = some ((), τ) ∧ mPop C Z δ σ (e_ret v ρ) τ := by
  unfold f_X11_end
  rw [m_gI h7, nI_pred]
  exact ⟨_, rfl, rfl, h, rfl, fun _ => rfl, mFr.refl δ σ⟩
theorem m_fail {k : Nat} (h : mR C ρ Z σ) (h7 : m_I σ 7 = nI (δ + 1)) (hδ : δ ≤ 32) (hF : e_F ρ ≤ 24) (hk : m_aI σ 11 δ = nI k) {c : Int32} (hc : c ≠ 0) : ∃ τ, f_X11_fail c σ = some ((), τ) ∧ mPop C Z δ σ (e_fl k c ρ) τ := by
  obtain ⟨hr, ⟨r1, r2, r3⟩, hh, ho⟩ := h
  unfold f_X11_fail
  rw [m_gI h7, nI_pred, o_l, m_gI (show m_I (m_pI σ 7 (nI δ)) 7 = nI δ from rfl), m_rI (n := 33) rfl (by omega) (by decide) (show m_aI (m_pI σ 7 (nI δ)) 11 δ = nI k from hk), o_l, m_gI (show m_I (m_pI (m_pI σ 7 (nI δ)) 11 (nI k)) 10 = nI (e_F ρ) from r2)]
  have e24 : (nI (e_F ρ) = 24) ↔ e_F ρ = 24 := nI_eq (b := 24) (by omega) (by decide)
  by_cases c24 : e_F ρ = 24
  · rw [if_pos (e24.mpr c24)]
    refine ⟨_, rfl, rfl, ⟨hr, ⟨r1, ?_, ?_⟩, hh, ho⟩, ?_, fun z => absurd z ?_, mFr.refl δ σ⟩
    · show m_I σ 10 = nI (if e_F ρ = 24 then 24 else e_F ρ + 1)
      rw [if_pos c24, r2, c24]
    · rfl
    · show (7 : Int32) = (if e_F ρ = 24 then 7 else c); rw [if_pos c24]
    · show (if e_F ρ = 24 then 7 else c) ≠ 0; rw [if_pos c24]; decide
  · rw [if_neg (fun z => c24 (e24.mp z)), m_gI (show m_I (m_pI (m_pI σ 7 (nI δ)) 11 (nI k)) 10 = nI (e_F ρ) from r2), nI_1]
    refine ⟨_, rfl, rfl, ⟨hr, ⟨r1, ?_, ?_⟩, hh, ho⟩, ?_, fun z => absurd z ?_, mFr.refl δ σ⟩
    · show nI (e_F ρ + 1) = nI (if e_F ρ = 24 then 24 else e_F ρ + 1)
      rw [if_neg c24]
    · rfl
    · show c = (if e_F ρ = 24 then 7 else c); rw [if_neg c24]
    · show (if e_F ρ = 24 then 7 else c) ≠ 0; rw [if_neg c24]; exact hc
theorem m_pass_b {a b : Nat} (ha : a ≤ 4) (hb : b ≤ 4) (hδ : δ ≤ 32) : ∀ (n i : Nat) (σ : mS), 5 ≤ n + i → b ≤ i → i ≤ 4 → ∃ g, f_X11_pass_b12 n (nI a) (nI b) (nI (4 * δ)) (nI i) σ = some ((), m_f σ 20 g) ∧ (∀ j, i ≤ j → j < 4 → a + j < 4 + b → g j = m_aL σ 18 (4 * δ + (a + j - b))) ∧ ∀ q, q < i → g q = m_aL σ 20 q := by
  intro n
  induction n with
  | zero => intro i σ h1 h2; omega
  | succ n ih =>
    intro i σ h1 h2 h3
    rw [f_X11_pass_b12.eq_2]
    by_cases c : 4 ≤ i
    · refine ⟨m_aL σ 20, ?_, fun j _ _ => by omega, fun _ _ => rfl⟩
      rw [if_pos (show (4 : Int32) ≤ nI i from nI_le (a := 4) c (by omega)), mf_self]
    · have e1 : (nI a + nI i) - nI b = nI (a + i - b) := by rw [nI_add, pk_sub (by omega)]
      rw [if_neg (show ¬ (4 : Int32) ≤ nI i from nI_ge (a := i) (b := 4) (by omega) (by decide)), e1]
      by_cases d : 4 ≤ a + i - b
      · rw [if_pos (show (4 : Int32) ≤ nI (a + i - b) from nI_le (a := 4) d (by omega)), m_uL (n := 4) rfl (by omega) (by decide), o_l, nI_1, mf_wL]
        obtain ⟨g, e1, e2, e3⟩ := ih (i + 1) (m_f σ 20 (fun j => if j = i then 0 else m_aL σ 20 j)) (by omega) (by omega) (by omega)
        refine ⟨g, by rw [e1, mf_mf], fun j h4 h5 h6 => by omega, fun q hq => ?_⟩
        rw [e3 q (by omega), mf_at, if_neg (by omega)]
      · rw [if_neg (show ¬ (4 : Int32) ≤ nI (a + i - b) from nI_ge (b := 4) (by omega) (by decide)), m_rL (n := 132) (i := 4 * δ + (a + i - b)) (by rw [nI_add]) (by omega) (by decide) rfl, m_uL (n := 4) rfl (by omega) (by decide), o_l, nI_1, mf_wL]
        obtain ⟨g, e1, e2, e3⟩ := ih (i + 1) (m_f σ 20 (fun j => if j = i then m_aL σ 18 (4 * δ + (a + i - b)) else m_aL σ 20 j)) (by omega) (by omega) (by omega)
        refine ⟨g, by rw [e1, mf_mf], fun j h4 h5 h6 => ?_, fun q hq => ?_⟩
        · by_cases e : j = i
          · subst e
            rw [e3 _ (by omega), mf_at, if_pos rfl]
          · rw [e2 j (by omega) h5 h6]; rfl
        · rw [e3 q (by omega), mf_at, if_neg (by omega)]
theorem m_pass {a b : Nat} (ha : a ≤ 4) (hb : b ≤ 4) (hδ : δ ≤ 32) (h7 : m_I σ 7 = nI (δ + 1)) : ∃ g, f_X11_pass (nI a) (nI b) σ = some ((), m_f σ 20 g) ∧ (∀ j, b ≤ j → j < 4 → a + j < 4 + b → g j = m_aL σ 18 (4 * δ + (a + j - b))) ∧ ∀ q, q < b → g q = m_aL σ 20 q := by
  unfold f_X11_pass
  rw [m_gI h7, nI_pred, show (4 : Int32) = nI 4 from rfl, pk_mul]
  exact m_pass_b ha hb hδ 12 b σ (by omega) (Nat.le_refl _) hb
end MKEEP
/-! steps of the pile, one after another -/
def mStar : Nat → mS → mS → Prop
  | 0, σ, τ => σ = τ
  | k + 1, σ, τ => (∃ d, d < 33 ∧ m_I σ 7 = nI (d + 1)) ∧ ∃ υ, f_X11_one σ = some ((), υ) ∧ mStar k υ τ
theorem mStar.trans : ∀ {k : Nat} {j : Nat} {a b c : mS}, mStar k a b → mStar j b c → mStar (k + j) a c := by
  intro k
  induction k with
  | zero => intro j a b c h1 h2; cases h1; rw [Nat.zero_add]; exact h2
  | succ k ih =>
    intro j a b c ⟨h1, υ, h2, h3⟩ h4
    rw [show k + 1 + j = (k + j) + 1 by omega]
    exact ⟨h1, υ, h2, ih h3 h4⟩
theorem mStar.run {l : Int32} : ∀ {k : Nat} {n : Nat} {a b : mS}, mStar k a b → f_X11_run_b169 (n + k) l a = f_X11_run_b169 n l b := by
  intro k
  induction k with
  | zero => intro n a b h; cases h; rfl
  | succ k ih =>
    intro n a b ⟨⟨d, hd, h1⟩, υ, h2, h3⟩
    rw [show n + (k + 1) = (n + k) + 1 by omega, f_X11_run_b169.eq_2, m_gI h1, if_neg (nI_nle (by omega) (by omega)), call_s h2]
    exact ih h3
theorem mStar.one {σ τ : mS} {d : Nat} (hd : d ≤ 32) (h7 : m_I σ 7 = nI (d + 1)) (h : f_X11_one σ = some ((), τ)) : mStar 1 σ τ := ⟨⟨d, by omega, h7⟩, τ, h, rfl⟩
