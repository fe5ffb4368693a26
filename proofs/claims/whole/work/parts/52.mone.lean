/-! one step of the pile -/
theorem call_u {o : Option (Unit × mS)} : o_call o (fun _ S => some ((), S)) = o := by cases o <;> rfl
def mTop (C : hS) (Z : zS) (ρ : eS) (δ h ph : Nat) (p : Nat → Int64) (σ : mS) : Prop := mR C ρ Z σ ∧ m_I σ 7 = nI (δ + 1) ∧ m_aI σ 11 δ = nI h ∧ m_aI σ 12 δ = nI ph ∧ ∀ j, j < h_m C h → m_aL σ 18 (4 * δ + j) = p j
def mOut (C : hS) (Z : zS) (δ : Nat) (σ : mS) (T : Nat) (o : eO) (res : Option (Unit × mS)) : Prop :=
  ∃ σ1 k τ, res = some ((), σ1) ∧ mStar k σ1 τ ∧ mPop C Z δ σ o τ ∧ k + 1 + 2 * T ≤ 2 * e_T o.2.2 + (if o.1 = 7 then 1 else 0)
def mEnd (C : hS) (Z : zS) (δ : Nat) (σ0 : mS) (T : Nat) (σ : mS) (o : eO) : Prop :=
  ∃ k τ, mStar k σ τ ∧ mPop C Z δ σ0 o τ ∧ k + 2 * T ≤ 2 * e_T o.2.2 + 1 + (if o.1 = 7 then 1 else 0)
def rHyp (C : hS) (Z : zS) (h : Nat) (P : eP) : Prop :=
  ∀ (g : Nat) (p : Nat → Int64) (ρ : eS) (σ : mS) (δ : Nat), g < h → δ + g ≤ 32 → okS ρ → wfV C ρ → okA C g ρ p → mR C ρ Z σ → m_I σ 7 = nI δ → (∀ j, j < h_m C g → m_aL σ 20 j = p j) → mOut C Z δ σ (e_T ρ) (P g p ρ) (f_X11_begin (nI g) σ)
section MONE
variable {C : hS} {ρ : eS} {Z : zS} {σ S σ0 τ : mS} {δ h g ph T : Nat} {p : Nat → Int64} {o oc : eO}
theorem mFr.w12 {v : Int32} : mFr δ σ (m_wI σ 12 δ v) := fun i hi => by
  refine ⟨rfl, ?_, rfl, rfl, rfl, fun _ _ => rfl⟩
  show (if 12 = 12 ∧ i = δ then v else m_aI σ 12 i) = _
  rw [if_neg (by omega)]
theorem mFr.f20 {f : Nat → Int64} : mFr δ σ (m_f σ 20 f) := fun _ _ => ⟨rfl, rfl, rfl, rfl, rfl, fun _ _ => rfl⟩
theorem mFr.I7 {v : Int32} : mFr δ σ (m_pI σ 7 v) := fun _ _ => ⟨rfl, rfl, rfl, rfl, rfl, fun _ _ => rfl⟩
theorem mTop.next (t : mTop C Z ρ δ h ph p σ) : mTop C Z ρ δ h (ph + 1) p (m_wI σ 12 δ (nI (ph + 1))) := by
  obtain ⟨t1, t2, t3, t4, t5⟩ := t
  refine ⟨t1.a12 δ _, t2, t3, ?_, t5⟩
  show (if 12 = 12 ∧ δ = δ then nI (ph + 1) else _) = _; simp
theorem mTop.f20 (t : mTop C Z ρ δ h ph p σ) (f : Nat → Int64) : mTop C Z ρ δ h ph p (m_f σ 20 f) := t
theorem mTop.after (t : mTop C Z ρ δ h ph p S) (hm : h_m C h ≤ 4) (k : mPop C Z (δ + 1) S oc τ) : mTop C Z oc.2.2 δ h ph p τ := by
  obtain ⟨t1, t2, t3, t4, t5⟩ := t
  obtain ⟨k1, k2, k3, k4, k5⟩ := k
  obtain ⟨f1, f2, f3, f4, f5, f6⟩ := k5 δ (by omega)
  exact ⟨k2, k1, f1.trans t3, f2.trans t4, fun j hj => (f6 j (by omega)).trans (t5 j hj)⟩
theorem mPop.up (k : mPop C Z (δ + 1) S oc τ) (hS : mFr δ σ0 S) {v : Int32} : mPop C Z δ σ0 oc (m_pI (m_wI τ 12 δ v) 7 (nI δ)) := by
  obtain ⟨k1, k2, k3, k4, k5⟩ := k
  exact ⟨rfl, (k2.a12 δ v).I7 _, k3, k4, ((hS.trans (k5.le (by omega))).trans mFr.w12).trans mFr.I7⟩
theorem m_giveOn (h7 : m_I σ 7 = nI (δ + 1)) : f_X11_giveOn σ = some ((), m_pI σ 7 (nI δ)) := by
  unfold f_X11_giveOn
  rw [m_gI h7, nI_pred]; rfl
theorem mEnd.pop (hδ : δ ≤ 32) (h7 : m_I σ 7 = nI (δ + 1)) (h1 : f_X11_one σ = some ((), τ)) (k : mPop C Z δ σ0 o τ) (hT : T ≤ e_T o.2.2) : mEnd C Z δ σ0 T σ o :=
  ⟨1, τ, mStar.one hδ h7 h1, k, by omega⟩
theorem mEnd.child (hδ : δ ≤ 32) (h7 : m_I σ 7 = nI (δ + 1)) (h1 : f_X11_one σ = f_X11_begin (nI g) S) (c : mOut C Z (δ + 1) S T oc (f_X11_begin (nI g) S))
    (k : ∀ τ, mPop C Z (δ + 1) S oc τ → oc.1 ≠ 7 → mEnd C Z δ σ0 (e_T oc.2.2) τ o)
    (k7 : ∀ τ, mPop C Z (δ + 1) S oc τ → oc.1 = 7 → o = oc ∧ ∃ υ, f_X11_one τ = some ((), υ) ∧ mPop C Z δ σ0 oc υ) : mEnd C Z δ σ0 T σ o := by
  obtain ⟨σ1, k1, τ, e1, e2, e3, e4⟩ := c
  have s1 := (mStar.one hδ h7 (h1.trans e1)).trans e2
  by_cases c7 : oc.1 = 7
  · obtain ⟨rfl, υ, q1, q2⟩ := k7 τ e3 c7
    refine ⟨1 + k1 + 1, υ, s1.trans (mStar.one hδ e3.1 q1), q2, ?_⟩
    rw [if_pos c7] at e4 ⊢; omega
  · obtain ⟨k2, υ, q1, q2, q3⟩ := k τ e3 c7
    refine ⟨1 + k1 + k2, υ, s1.trans q1, q2, ?_⟩
    rw [if_neg c7] at e4; omega
theorem mEnd.tail (hδ : δ ≤ 32) (h7 : m_I σ 7 = nI (δ + 1)) (h1 : f_X11_one σ = f_X11_begin (nI g) S) (c : mOut C Z (δ + 1) S T oc (f_X11_begin (nI g) S))
    (k : ∀ τ, mPop C Z (δ + 1) S oc τ → ∃ υ, f_X11_one τ = some ((), υ) ∧ mPop C Z δ σ0 oc υ) : mEnd C Z δ σ0 T σ oc :=
  mEnd.child hδ h7 h1 c (fun τ e _ => by obtain ⟨υ, q1, q2⟩ := k τ e; exact mEnd.pop hδ e.1 q1 q2 (Nat.le_refl _)) (fun τ e _ => ⟨rfl, k τ e⟩)
theorem mEnd.bind {f : Int64 → eS → eO} (hδ : δ ≤ 32) (h7 : m_I σ 7 = nI (δ + 1)) (h1 : f_X11_one σ = f_X11_begin (nI g) S) (c : mOut C Z (δ + 1) S T oc (f_X11_begin (nI g) S))
    (kf : ∀ τ, mPop C Z (δ + 1) S oc τ → oc.1 ≠ 0 → ∃ υ, f_X11_one τ = some ((), υ) ∧ mPop C Z δ σ0 oc υ)
    (k : ∀ τ, mPop C Z (δ + 1) S oc τ → oc.1 = 0 → mEnd C Z δ σ0 (e_T oc.2.2) τ (f oc.2.1 oc.2.2)) : mEnd C Z δ σ0 T σ (e_bind oc f) := by
  unfold e_bind
  by_cases c0 : oc.1 = 0
  · rw [if_pos c0]
    exact mEnd.child hδ h7 h1 c (fun τ e _ => k τ e c0) (fun τ e e7 => by rw [c0] at e7; exact absurd e7 (by decide))
  · rw [if_neg c0]
    exact mEnd.tail hδ h7 h1 c (fun τ e => kf τ e c0)

theorem one_acts (t : mTop C Z ρ δ h ph p σ) (hh : h < h_n C) (h32 : h_n C ≤ 32) (hδ : δ ≤ 32) (hs : h_so C h ≤ 10) : f_X11_one σ = f_X11_acts (nI h) (m_wI σ 12 δ (nI (ph + 1))) := by
  obtain ⟨t1, t2, t3, t4, t5⟩ := t
  obtain ⟨q4, q5, q6, q7, q8, q9, q10, q11⟩ := t1.hi hh
  unfold f_X11_one
  rw [m_gI t2, nI_pred, m_rI (n := 33) rfl (by omega) (by decide) t3, m_rI (n := 32) rfl (by omega) (by decide) q4, m_rI (n := 33) rfl (by omega) (by decide) t4, m_uI (n := 33) rfl (by omega) (by decide), nI_1]
  rw [if_neg (by rw [Int32.lt_iff_toInt_lt]; rw [Int32.le_iff_toInt_le] at hs; omega), call_u]
theorem one_catch (t : mTop C Z ρ δ h ph p σ) (hh : h < h_n C) (h32 : h_n C ≤ 32) (hδ : δ ≤ 32) (hs : h_so C h = 19) : f_X11_one σ = f_X11_catches (nI h) (m_wI σ 12 δ (nI (ph + 1))) := by
  obtain ⟨t1, t2, t3, t4, t5⟩ := t
  obtain ⟨q4, q5, q6, q7, q8, q9, q10, q11⟩ := t1.hi hh
  unfold f_X11_one
  rw [m_gI t2, nI_pred, m_rI (n := 33) rfl (by omega) (by decide) t3, m_rI (n := 32) rfl (by omega) (by decide) q4, m_rI (n := 33) rfl (by omega) (by decide) t4, m_uI (n := 33) rfl (by omega) (by decide), nI_1]
  rw [hs, if_pos (by decide), if_pos rfl, call_u]
theorem one_last (t : mTop C Z ρ δ h ph p σ) (hh : h < h_n C) (h32 : h_n C ≤ 32) (hδ : δ ≤ 32) (hs : h_so C h = 20) : f_X11_one σ = f_X11_lasts (nI h) (m_wI σ 12 δ (nI (ph + 1))) := by
  obtain ⟨t1, t2, t3, t4, t5⟩ := t
  obtain ⟨q4, q5, q6, q7, q8, q9, q10, q11⟩ := t1.hi hh
  unfold f_X11_one
  rw [m_gI t2, nI_pred, m_rI (n := 33) rfl (by omega) (by decide) t3, m_rI (n := 32) rfl (by omega) (by decide) q4, m_rI (n := 33) rfl (by omega) (by decide) t4, m_uI (n := 33) rfl (by omega) (by decide), nI_1]
  rw [hs, if_pos (by decide), if_neg (by decide), if_pos rfl, call_u]
theorem one_loop (t : mTop C Z ρ δ h ph p σ) (hh : h < h_n C) (h32 : h_n C ≤ 32) (hδ : δ ≤ 32) (hs : h_so C h = 21) : f_X11_one σ = f_X11_loops (nI h) (m_wI σ 12 δ (nI (ph + 1))) := by
  obtain ⟨t1, t2, t3, t4, t5⟩ := t
  obtain ⟨q4, q5, q6, q7, q8, q9, q10, q11⟩ := t1.hi hh
  unfold f_X11_one
  rw [m_gI t2, nI_pred, m_rI (n := 33) rfl (by omega) (by decide) t3, m_rI (n := 32) rfl (by omega) (by decide) q4, m_rI (n := 33) rfl (by omega) (by decide) t4, m_uI (n := 33) rfl (by omega) (by decide), nI_1]
  rw [hs, if_pos (by decide), if_neg (by decide), if_neg (by decide), if_pos rfl, call_u]
theorem one_hands (t : mTop C Z ρ δ h ph p σ) (hh : h < h_n C) (h32 : h_n C ≤ 32) (hδ : δ ≤ 32) (hs : h_so C h = 11 ∨ h_so C h = 12 ∨ h_so C h = 13 ∨ h_so C h = 14 ∨ h_so C h = 22) : f_X11_one σ = f_X11_one_b99 (nI δ) (nI h) (h_so C h) (m_wI σ 12 δ (nI (ph + 1))) := by
  obtain ⟨t1, t2, t3, t4, t5⟩ := t
  obtain ⟨q4, q5, q6, q7, q8, q9, q10, q11⟩ := t1.hi hh
  unfold f_X11_one
  rw [m_gI t2, nI_pred, m_rI (n := 33) rfl (by omega) (by decide) t3, m_rI (n := 32) rfl (by omega) (by decide) q4, m_rI (n := 33) rfl (by omega) (by decide) t4, m_uI (n := 33) rfl (by omega) (by decide), nI_1]
  rcases hs with hs | hs | hs | hs | hs
  · rw [hs, if_pos (by decide), if_neg (by decide), if_neg (by decide), if_neg (by decide), if_pos (by decide)]
  · rw [hs, if_pos (by decide), if_neg (by decide), if_neg (by decide), if_neg (by decide), if_pos (by decide)]
  · rw [hs, if_pos (by decide), if_neg (by decide), if_neg (by decide), if_neg (by decide), if_pos (by decide)]
  · rw [hs, if_pos (by decide), if_neg (by decide), if_neg (by decide), if_neg (by decide), if_pos (by decide)]
  · rw [hs, if_pos (by decide), if_neg (by decide), if_neg (by decide), if_neg (by decide), if_neg (by decide), if_pos (by decide)]
theorem one_hands0 (t : mTop C Z ρ δ h 0 p σ) (hh : h < h_n C) (h32 : h_n C ≤ 32) (hδ : δ ≤ 32) (hs : h_so C h = 11 ∨ h_so C h = 12 ∨ h_so C h = 13 ∨ h_so C h = 14 ∨ h_so C h = 22) : f_X11_one σ = f_X11_handsOn (nI h) (m_wI σ 12 δ (nI (0 + 1))) := by
  rw [one_hands t hh h32 hδ hs]
  unfold f_X11_one_b99
  rw [m_rI (n := 33) rfl (by omega) (by decide) t.next.2.2.2.1, if_pos (by decide), call_u]
theorem one_hands1 (t : mTop C Z ρ δ h 1 p σ) (hh : h < h_n C) (h32 : h_n C ≤ 32) (hδ : δ ≤ 32) (hs : h_so C h = 11 ∨ h_so C h = 12 ∨ h_so C h = 13 ∨ h_so C h = 14) : f_X11_one σ = some ((), m_pL (m_pI (m_wI σ 12 δ (nI (1 + 1))) 7 (nI δ)) 1 (m_L σ 1)) := by
  rw [one_hands t hh h32 hδ (by rcases hs with z | z | z | z <;> simp [z])]
  unfold f_X11_one_b99
  rw [m_rI (n := 33) rfl (by omega) (by decide) t.next.2.2.2.1, if_neg (by decide), call_s (m_giveOn t.next.2.1), if_neg (by rcases hs with z | z | z | z <;> rw [z] <;> decide)]
  rfl
theorem one_as1 (t : mTop C Z ρ δ h 1 p σ) (hh : h < h_n C) (h32 : h_n C ≤ 32) (hδ : δ ≤ 32) (hs : h_so C h = 22) {A : Nat} (hA : A < h) (ha : h_a C h = nI A) : (m_I σ 8 ≠ 0 → f_X11_one σ = some ((), m_pL (m_pI (m_wI σ 12 δ (nI (1 + 1))) 7 (nI δ)) 1 (m_L σ 1))) ∧
    (m_I σ 8 = 0 → ∀ v r, m_L σ 1 = v → f_X11_widen v (h_r C A) (h_r C h) = some r → f_X11_one σ = some ((), m_pL (m_pI (m_wI σ 12 δ (nI (1 + 1))) 7 (nI δ)) 1 r)) := by
  have hq := t.1.hi hh
  have hqA := t.1.hi (i := A) (by omega)
  rw [one_hands t hh h32 hδ (by simp [hs])]
  unfold f_X11_one_b99
  rw [m_rI (n := 33) rfl (by omega) (by decide) t.next.2.2.2.1, if_neg (by decide), call_s (m_giveOn t.next.2.1), if_pos hs]
  refine ⟨fun h8 => ?_, fun h8 v r hv hr => ?_⟩
  · rw [m_gI (show m_I (m_pI (m_wI σ 12 δ (nI (1 + 1))) 7 (nI δ)) 8 = m_I σ 8 from rfl), if_neg h8]; rfl
  · rw [m_gI (show m_I (m_pI (m_wI σ 12 δ (nI (1 + 1))) 7 (nI δ)) 8 = m_I σ 8 from rfl), if_pos h8, m_gL (show m_L (m_pI (m_wI σ 12 δ (nI (1 + 1))) 7 (nI δ)) 1 = v from hv), m_rI (n := 32) (k := 5) rfl (by omega) (by decide) (show m_aI (m_pI (m_wI σ 12 δ (nI (1 + 1))) 7 (nI δ)) 5 h = nI A from hq.2.1.trans ha), m_rI (n := 33) (k := 10) rfl (by omega) (by decide) (show m_aI (m_pI (m_wI σ 12 δ (nI (1 + 1))) 7 (nI δ)) 10 A = h_r C A from hqA.2.2.2.2.2.2.1), m_rI (n := 33) (k := 10) rfl (by omega) (by decide) (show m_aI (m_pI (m_wI σ 12 δ (nI (1 + 1))) 7 (nI δ)) 10 h = h_r C h from hq.2.2.2.2.2.2.1), cP_s hr]
    rfl

theorem one_beg0 (t : mTop C Z ρ δ h 0 p σ) (hh : h < h_n C) (h32 : h_n C ≤ 32) (hδ : δ ≤ 32) (hs : h_so C h = 15 ∨ h_so C h = 16 ∨ h_so C h = 17 ∨ h_so C h = 18) : f_X11_one σ = f_X11_begins (nI h) (m_wI σ 12 δ (nI (0 + 1))) := by
  have tn := t.next.2.2.2.1
  obtain ⟨t1, t2, t3, t4, t5⟩ := t
  obtain ⟨q4, q5, q6, q7, q8, q9, q10, q11⟩ := t1.hi hh
  unfold f_X11_one
  rw [m_gI t2, nI_pred, m_rI (n := 33) rfl (by omega) (by decide) t3, m_rI (n := 32) rfl (by omega) (by decide) q4, m_rI (n := 33) rfl (by omega) (by decide) t4, m_uI (n := 33) rfl (by omega) (by decide), nI_1]
  rcases hs with hs | hs | hs | hs
  · rw [hs, if_pos (by decide), if_neg (by decide), if_neg (by decide), if_neg (by decide), if_neg (by decide), if_neg (by decide), m_rI (n := 33) rfl (by omega) (by decide) tn, if_pos (by decide), call_u]
  · rw [hs, if_pos (by decide), if_neg (by decide), if_neg (by decide), if_neg (by decide), if_neg (by decide), if_neg (by decide), m_rI (n := 33) rfl (by omega) (by decide) tn, if_pos (by decide), call_u]
  · rw [hs, if_pos (by decide), if_neg (by decide), if_neg (by decide), if_neg (by decide), if_neg (by decide), if_neg (by decide), m_rI (n := 33) rfl (by omega) (by decide) tn, if_pos (by decide), call_u]
  · rw [hs, if_pos (by decide), if_neg (by decide), if_neg (by decide), if_neg (by decide), if_neg (by decide), if_neg (by decide), m_rI (n := 33) rfl (by omega) (by decide) tn, if_pos (by decide), call_u]
theorem one_beg1 (t : mTop C Z ρ δ h 1 p σ) (hh : h < h_n C) (h32 : h_n C ≤ 32) (hδ : δ ≤ 32) (hs : h_so C h = 15 ∨ h_so C h = 16 ∨ h_so C h = 17 ∨ h_so C h = 18) (h8 : m_I σ 8 = 0) : f_X11_one σ = f_X11_goesOn (nI h) (m_wI σ 12 δ (nI (1 + 1))) := by
  have tn := t.next.2.2.2.1
  obtain ⟨t1, t2, t3, t4, t5⟩ := t
  obtain ⟨q4, q5, q6, q7, q8, q9, q10, q11⟩ := t1.hi hh
  unfold f_X11_one
  rw [m_gI t2, nI_pred, m_rI (n := 33) rfl (by omega) (by decide) t3, m_rI (n := 32) rfl (by omega) (by decide) q4, m_rI (n := 33) rfl (by omega) (by decide) t4, m_uI (n := 33) rfl (by omega) (by decide), nI_1]
  rcases hs with hs | hs | hs | hs
  · rw [hs, if_pos (by decide), if_neg (by decide), if_neg (by decide), if_neg (by decide), if_neg (by decide), if_neg (by decide), m_rI (n := 33) rfl (by omega) (by decide) tn, if_neg (by decide), m_rI (n := 33) rfl (by omega) (by decide) tn, if_pos (by decide), m_gI (show m_I (m_wI σ 12 δ (nI (1 + 1))) 8 = 0 from h8), if_pos rfl, call_u]
  · rw [hs, if_pos (by decide), if_neg (by decide), if_neg (by decide), if_neg (by decide), if_neg (by decide), if_neg (by decide), m_rI (n := 33) rfl (by omega) (by decide) tn, if_neg (by decide), m_rI (n := 33) rfl (by omega) (by decide) tn, if_pos (by decide), m_gI (show m_I (m_wI σ 12 δ (nI (1 + 1))) 8 = 0 from h8), if_pos rfl, call_u]
  · rw [hs, if_pos (by decide), if_neg (by decide), if_neg (by decide), if_neg (by decide), if_neg (by decide), if_neg (by decide), m_rI (n := 33) rfl (by omega) (by decide) tn, if_neg (by decide), m_rI (n := 33) rfl (by omega) (by decide) tn, if_pos (by decide), m_gI (show m_I (m_wI σ 12 δ (nI (1 + 1))) 8 = 0 from h8), if_pos rfl, call_u]
  · rw [hs, if_pos (by decide), if_neg (by decide), if_neg (by decide), if_neg (by decide), if_neg (by decide), if_neg (by decide), m_rI (n := 33) rfl (by omega) (by decide) tn, if_neg (by decide), m_rI (n := 33) rfl (by omega) (by decide) tn, if_pos (by decide), m_gI (show m_I (m_wI σ 12 δ (nI (1 + 1))) 8 = 0 from h8), if_pos rfl, call_u]
theorem one_beg1f (t : mTop C Z ρ δ h 1 p σ) (hh : h < h_n C) (h32 : h_n C ≤ 32) (hδ : δ ≤ 32) (hs : h_so C h = 15 ∨ h_so C h = 16 ∨ h_so C h = 17 ∨ h_so C h = 18) (h8 : m_I σ 8 ≠ 0) : f_X11_one σ = some ((), m_pI (m_wI σ 12 δ (nI (1 + 1))) 7 (nI δ)) := by
  have tn := t.next.2.2.2.1
  have gv := m_giveOn t.next.2.1
  obtain ⟨t1, t2, t3, t4, t5⟩ := t
  obtain ⟨q4, q5, q6, q7, q8, q9, q10, q11⟩ := t1.hi hh
  unfold f_X11_one
  rw [m_gI t2, nI_pred, m_rI (n := 33) rfl (by omega) (by decide) t3, m_rI (n := 32) rfl (by omega) (by decide) q4, m_rI (n := 33) rfl (by omega) (by decide) t4, m_uI (n := 33) rfl (by omega) (by decide), nI_1]
  rcases hs with hs | hs | hs | hs
  · rw [hs, if_pos (by decide), if_neg (by decide), if_neg (by decide), if_neg (by decide), if_neg (by decide), if_neg (by decide), m_rI (n := 33) rfl (by omega) (by decide) tn, if_neg (by decide), m_rI (n := 33) rfl (by omega) (by decide) tn, if_pos (by decide), m_gI (show m_I (m_wI σ 12 δ (nI (1 + 1))) 8 = m_I σ 8 from rfl), if_neg h8, call_u, gv]
  · rw [hs, if_pos (by decide), if_neg (by decide), if_neg (by decide), if_neg (by decide), if_neg (by decide), if_neg (by decide), m_rI (n := 33) rfl (by omega) (by decide) tn, if_neg (by decide), m_rI (n := 33) rfl (by omega) (by decide) tn, if_pos (by decide), m_gI (show m_I (m_wI σ 12 δ (nI (1 + 1))) 8 = m_I σ 8 from rfl), if_neg h8, call_u, gv]
  · rw [hs, if_pos (by decide), if_neg (by decide), if_neg (by decide), if_neg (by decide), if_neg (by decide), if_neg (by decide), m_rI (n := 33) rfl (by omega) (by decide) tn, if_neg (by decide), m_rI (n := 33) rfl (by omega) (by decide) tn, if_pos (by decide), m_gI (show m_I (m_wI σ 12 δ (nI (1 + 1))) 8 = m_I σ 8 from rfl), if_neg h8, call_u, gv]
  · rw [hs, if_pos (by decide), if_neg (by decide), if_neg (by decide), if_neg (by decide), if_neg (by decide), if_neg (by decide), m_rI (n := 33) rfl (by omega) (by decide) tn, if_neg (by decide), m_rI (n := 33) rfl (by omega) (by decide) tn, if_pos (by decide), m_gI (show m_I (m_wI σ 12 δ (nI (1 + 1))) 8 = m_I σ 8 from rfl), if_neg h8, call_u, gv]
theorem one_beg2 (t : mTop C Z ρ δ h 2 p σ) (hh : h < h_n C) (h32 : h_n C ≤ 32) (hδ : δ ≤ 32) (hs : h_so C h = 15 ∨ h_so C h = 16 ∨ h_so C h = 17 ∨ h_so C h = 18) : f_X11_one σ = some ((), m_pI (m_wI σ 12 δ (nI (2 + 1))) 7 (nI δ)) := by
  have tn := t.next.2.2.2.1
  have gv := m_giveOn t.next.2.1
  obtain ⟨t1, t2, t3, t4, t5⟩ := t
  obtain ⟨q4, q5, q6, q7, q8, q9, q10, q11⟩ := t1.hi hh
  unfold f_X11_one
  rw [m_gI t2, nI_pred, m_rI (n := 33) rfl (by omega) (by decide) t3, m_rI (n := 32) rfl (by omega) (by decide) q4, m_rI (n := 33) rfl (by omega) (by decide) t4, m_uI (n := 33) rfl (by omega) (by decide), nI_1]
  rcases hs with hs | hs | hs | hs
  · rw [hs, if_pos (by decide), if_neg (by decide), if_neg (by decide), if_neg (by decide), if_neg (by decide), if_neg (by decide), m_rI (n := 33) rfl (by omega) (by decide) tn, if_neg (by decide), m_rI (n := 33) rfl (by omega) (by decide) tn, if_neg (by decide), call_u, gv]
  · rw [hs, if_pos (by decide), if_neg (by decide), if_neg (by decide), if_neg (by decide), if_neg (by decide), if_neg (by decide), m_rI (n := 33) rfl (by omega) (by decide) tn, if_neg (by decide), m_rI (n := 33) rfl (by omega) (by decide) tn, if_neg (by decide), call_u, gv]
  · rw [hs, if_pos (by decide), if_neg (by decide), if_neg (by decide), if_neg (by decide), if_neg (by decide), if_neg (by decide), m_rI (n := 33) rfl (by omega) (by decide) tn, if_neg (by decide), m_rI (n := 33) rfl (by omega) (by decide) tn, if_neg (by decide), call_u, gv]
  · rw [hs, if_pos (by decide), if_neg (by decide), if_neg (by decide), if_neg (by decide), if_neg (by decide), if_neg (by decide), m_rI (n := 33) rfl (by omega) (by decide) tn, if_neg (by decide), m_rI (n := 33) rfl (by omega) (by decide) tn, if_neg (by decide), call_u, gv]
end MONE
