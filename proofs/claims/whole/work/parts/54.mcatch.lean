/-! caught, done at last, looped, in the reference -/
theorem mFr.w14 {δ : Nat} {σ : mS} {v : Int32} : mFr δ σ (m_wI σ 14 δ v) := fun i hi => by
  refine ⟨rfl, rfl, rfl, ?_, rfl, fun _ _ => rfl⟩
  show (if 14 = 14 ∧ i = δ then v else m_aI σ 14 i) = _
  rw [if_neg (by omega)]
theorem mFr.w13 {δ : Nat} {σ : mS} {v : Int32} : mFr δ σ (m_wI σ 13 δ v) := fun i hi => by
  refine ⟨rfl, rfl, ?_, rfl, rfl, fun _ _ => rfl⟩
  show (if 13 = 13 ∧ i = δ then v else m_aI σ 13 i) = _
  rw [if_neg (by omega)]
theorem mFr.w19 {δ : Nat} {σ : mS} {v : Int64} : mFr δ σ (m_wL σ 19 δ v) := fun i hi => by
  refine ⟨rfl, rfl, rfl, rfl, ?_, fun _ _ => rfl⟩
  show (if 19 = 19 ∧ i = δ then v else m_aL σ 19 i) = _
  rw [if_neg (by omega)]
def lStep (C : hS) (Z : zS) (ρ : eS) (δ h A : Nat) (p : Nat → Int64) (i : Nat) (v : Int64) (σ : mS) : Prop :=
  (lN i < p 0 → ∃ S2 f, f_X11_one σ = f_X11_begin (nI A) (m_f S2 20 f) ∧ mTop C Z ρ δ h (i + 1) p S2 ∧ m_aI S2 13 δ = nI i ∧ mFr δ σ S2 ∧ ∀ j, j < h_m C h → f j = g_cons v (g_cons (lN i) (fun j => p (j + 2))) j) ∧
  (¬ lN i < p 0 → ∃ τ, f_X11_one σ = some ((), τ) ∧ mPop C Z δ σ (e_ret v ρ) τ)
section MCAT
variable {C : hS} {ρ : eS} {Z : zS} {σ S : mS} {δ h ph : Nat} {p : Nat → Int64} {A B G : Nat} {code : Int32}
theorem catch_0 (t : mTop C Z ρ δ h 0 p σ) (hh : h < h_n C) (h32 : h_n C ≤ 32) (hδ : δ ≤ 32) (hs : h_so C h = 19) : f_X11_one σ = f_X11_begins (nI h) (m_wI σ 12 δ (nI (0 + 1))) := by
  have t1 := t.next
  rw [one_catch t hh h32 hδ hs]
  unfold f_X11_catches
  rw [m_gI t1.2.1, nI_pred, m_rI (n := 33) rfl (by omega) (by decide) t1.2.2.2.1, if_neg (by decide)]
  unfold f_X11_catches_b61
  rw [m_rI (n := 33) rfl (by omega) (by decide) t1.2.2.2.1, if_pos (by decide), call_u]
theorem catch_g (t : mTop C Z ρ δ h 1 p σ) (hh : h < h_n C) (h32 : h_n C ≤ 32) (hδ : δ ≤ 32) (hs : h_so C h = 19) (h8 : m_I σ 8 = code) (hc : code = 0 ∨ code = 7 ∨ ¬ (h_b C h = -1 ∨ h_b C h = code)) : f_X11_one σ = some ((), m_pI (m_wI σ 12 δ (nI (1 + 1))) 7 (nI δ)) := by
  have t1 := t.next
  have q6 := (t1.1.hi hh).2.2.1
  have e8 : m_I (m_wI σ 12 δ (nI (1 + 1))) 8 = code := h8
  have g := m_giveOn t1.2.1
  have key : f_X11_catches_b61 (nI h) (nI δ) 0 (m_wI σ 12 δ (nI (1 + 1))) = some ((), m_pI (m_wI σ 12 δ (nI (1 + 1))) 7 (nI δ)) := by
    unfold f_X11_catches_b61
    rw [m_rI (n := 33) rfl (by omega) (by decide) t1.2.2.2.1, if_neg (by decide), if_pos rfl, call_u, g]
  rw [one_catch t hh h32 hδ hs]
  unfold f_X11_catches
  rw [m_gI t1.2.1, nI_pred, m_rI (n := 33) rfl (by omega) (by decide) t1.2.2.2.1, if_pos (by decide), m_gI e8]
  by_cases c0 : code = 0
  · rw [if_pos c0, key]
  rw [if_neg c0, m_gI e8]
  by_cases c7 : code = 7
  · rw [if_pos c7, key]
  have hc := (hc.resolve_left c0).resolve_left c7
  rw [if_neg c7, m_rI (n := 32) rfl (by omega) (by decide) q6, if_neg (fun z => hc (Or.inl z)), m_rI (n := 32) rfl (by omega) (by decide) q6, m_gI e8, if_neg (fun z => hc (Or.inr z)), key]
theorem catch_h (t : mTop C Z ρ δ h 1 p σ) (hh : h < h_n C) (h32 : h_n C ≤ 32) (hδ : δ ≤ 32) (hs : h_so C h = 19) (h8 : m_I σ 8 = code) (hc : ¬ (code = 0 ∨ code = 7 ∨ ¬ (h_b C h = -1 ∨ h_b C h = code))) (hg : h_c C h = nI G) : ∃ f, f_X11_one σ = f_X11_begin (nI G) (m_f (m_wI σ 12 δ (nI (1 + 1))) 20 f) ∧ ∀ j, j < h_m C h + 1 → j < 4 → f j = g_cons code.toInt64 p j := by
  have t1 := t.next
  have q6 := (t1.1.hi hh).2.2.1
  have q7 := (t1.1.hi hh).2.2.2.1
  have e8 : m_I (m_wI σ 12 δ (nI (1 + 1))) 8 = code := h8
  obtain ⟨f2, b1, b2, b3⟩ := m_pass (a := 0) (b := 1) (σ := m_f (m_wI σ 12 δ (nI (1 + 1))) 20 (fun j => if j = 0 then code.toInt64 else m_aL (m_wI σ 12 δ (nI (1 + 1))) 20 j)) (by decide) (by decide) hδ t1.2.1
  have key : f_X11_catches_b61 (nI h) (nI δ) 1 (m_wI σ 12 δ (nI (1 + 1))) = f_X11_begin (nI G) (m_f (m_wI σ 12 δ (nI (1 + 1))) 20 f2) := by
    unfold f_X11_catches_b61
    rw [m_rI (n := 33) rfl (by omega) (by decide) t1.2.2.2.1, if_neg (by decide), if_neg (by decide), m_gI e8, m_uL (n := 4) (x := 0) (i := 0) rfl (by omega) (by decide), mf_wL, call_s (show f_X11_pass 0 1 _ = _ from b1), mf_mf, m_rI (n := 32) (k := 7) rfl (by omega) (by decide) (show m_aI (m_f (m_wI σ 12 δ (nI (1 + 1))) 20 f2) 7 h = nI G from q7.trans hg), call_u]
  refine ⟨f2, ?_, fun j hj hj4 => ?_⟩
  · rw [one_catch t hh h32 hδ hs]
    unfold f_X11_catches
    rw [m_gI t1.2.1, nI_pred, m_rI (n := 33) rfl (by omega) (by decide) t1.2.2.2.1, if_pos (by decide), m_gI e8, if_neg (fun z => hc (Or.inl z)), m_gI e8, if_neg (fun z => hc (Or.inr (Or.inl z))), m_rI (n := 32) rfl (by omega) (by decide) q6]
    by_cases c1 : h_b C h = -1
    · rw [if_pos c1, key]
    · have c2 : h_b C h = code := by
        rcases Classical.em (h_b C h = code) with z | z
        · exact z
        · exact absurd (Or.inr (Or.inr (fun y => y.elim c1 z))) hc
      rw [if_neg c1, m_rI (n := 32) rfl (by omega) (by decide) q6, m_gI e8, if_pos c2, key]
  · unfold g_cons
    by_cases c : j = 0
    · rw [if_pos c, c, b3 0 (by decide), mf_at, if_pos rfl]
    · rw [if_neg c, b2 j (by omega) (by omega) (by omega), show 4 * δ + (0 + j - 1) = 4 * δ + (j - 1) by omega]
      exact t1.2.2.2.2 (j - 1) (by omega)
theorem catch_2 (t : mTop C Z ρ δ h 2 p σ) (hh : h < h_n C) (h32 : h_n C ≤ 32) (hδ : δ ≤ 32) (hs : h_so C h = 19) : f_X11_one σ = some ((), m_pI (m_wI σ 12 δ (nI (2 + 1))) 7 (nI δ)) := by
  have t1 := t.next
  rw [one_catch t hh h32 hδ hs]
  unfold f_X11_catches
  rw [m_gI t1.2.1, nI_pred, m_rI (n := 33) rfl (by omega) (by decide) t1.2.2.2.1, if_neg (by decide)]
  unfold f_X11_catches_b61
  rw [m_rI (n := 33) rfl (by omega) (by decide) t1.2.2.2.1, if_neg (by decide), if_pos rfl, call_u, m_giveOn t1.2.1]
theorem last_0 (t : mTop C Z ρ δ h 0 p σ) (hh : h < h_n C) (h32 : h_n C ≤ 32) (hδ : δ ≤ 32) (hs : h_so C h = 20) : f_X11_one σ = f_X11_begins (nI h) (m_wI σ 12 δ (nI (0 + 1))) := by
  have t1 := t.next
  rw [one_last t hh h32 hδ hs]
  unfold f_X11_lasts
  rw [m_gI t1.2.1, nI_pred, m_rI (n := 33) rfl (by omega) (by decide) t1.2.2.2.1, if_pos (by decide), call_u]
theorem last_s (t : mTop C Z ρ δ h 1 p σ) (hh : h < h_n C) (h32 : h_n C ≤ 32) (hδ : δ ≤ 32) (hs : h_so C h = 20) (h8 : m_I σ 8 = 7) : f_X11_one σ = some ((), m_pI (m_pI (m_wI σ 12 δ (nI (1 + 1))) 7 (nI δ)) 8 7) := by
  have t1 := t.next
  have e8 : m_I (m_wI σ 12 δ (nI (1 + 1))) 8 = 7 := h8
  rw [one_last t hh h32 hδ hs]
  unfold f_X11_lasts
  rw [m_gI t1.2.1, nI_pred, m_rI (n := 33) rfl (by omega) (by decide) t1.2.2.2.1, if_neg (by decide), m_rI (n := 33) rfl (by omega) (by decide) t1.2.2.2.1, if_pos (by decide), m_gI e8, if_pos rfl]
  unfold f_X11_lasts_b127
  rw [call_s (m_giveOn t1.2.1), m_gI (show m_I (m_pI (m_wI σ 12 δ (nI (1 + 1))) 7 (nI δ)) 8 = 7 from h8), if_neg (by decide), m_gI (show m_I (m_pI (m_wI σ 12 δ (nI (1 + 1))) 7 (nI δ)) 8 = 7 from h8)]
  rfl
theorem last_1 (t : mTop C Z ρ δ h 1 p σ) (hh : h < h_n C) (h32 : h_n C ≤ 32) (hδ : δ ≤ 32) (hs : h_so C h = 20) (h8 : m_I σ 8 = code) (hc : code ≠ 7) (hA : A < h) (ha : h_a C h = nI A) (hb : h_b C h = nI G) : ∃ f, f_X11_one σ = f_X11_begin (nI G) (m_f (m_wI (m_wI σ 12 δ (nI (1 + 1))) 14 δ code) 20 f) ∧ ∀ j, j < h_m C h + 2 → j < 4 → f j = g_cons code.toInt64 (g_cons (if code = 0 then m_L σ 1 else t_none (h_r C A)) p) j := by
  have t1 := t.next
  have e8 : m_I (m_wI σ 12 δ (nI (1 + 1))) 8 = code := h8
  have qh := t1.1.hi hh
  have qA := t1.1.hi (i := A) (by omega)
  generalize hS : m_wI σ 12 δ (nI (1 + 1)) = S1 at *
  have hL : m_L S1 1 = m_L σ 1 := by rw [← hS]; rfl
  have main : ∀ w : Int64, ∃ f, f_X11_pass 0 2 (m_f (m_wI S1 14 δ code) 20 (fun j => if j = 1 then w else m_aL (m_f (m_wI S1 14 δ code) 20 (fun j => if j = 0 then code.toInt64 else m_aL (m_wI S1 14 δ code) 20 j)) 20 j)) = some ((), m_f (m_wI S1 14 δ code) 20 f) ∧ ∀ j, j < h_m C h + 2 → j < 4 → f j = g_cons code.toInt64 (g_cons w p) j := by
    intro w
    obtain ⟨f2, b1, b2, b3⟩ := m_pass (a := 0) (b := 2) (σ := m_f (m_wI S1 14 δ code) 20 (fun j => if j = 1 then w else m_aL (m_f (m_wI S1 14 δ code) 20 (fun j => if j = 0 then code.toInt64 else m_aL (m_wI S1 14 δ code) 20 j)) 20 j)) (by decide) (by decide) hδ t1.2.1
    refine ⟨f2, by rw [show f_X11_pass 0 2 _ = _ from b1, mf_mf], fun j hj hj4 => ?_⟩
    unfold g_cons
    by_cases c : j = 0
    · rw [if_pos c, c, b3 0 (by decide), mf_at, if_neg (by decide), mf_at, if_pos rfl]
    rw [if_neg c]
    by_cases c1 : j - 1 = 0
    · have : j = 1 := by omega
      subst this
      rw [if_pos c1, b3 1 (by decide), mf_at, if_pos rfl]
    · rw [if_neg c1, b2 j (by omega) (by omega) (by omega), show 4 * δ + (0 + j - 2) = 4 * δ + (j - 1 - 1) by omega]
      exact t1.2.2.2.2 (j - 1 - 1) (by omega)
  have e8' : m_I (m_f (m_wI S1 14 δ code) 20 (fun j => if j = 0 then code.toInt64 else m_aL (m_wI S1 14 δ code) 20 j)) 8 = code := e8
  rw [one_last t hh h32 hδ hs, hS]
  unfold f_X11_lasts
  rw [m_gI t1.2.1, nI_pred, m_rI (n := 33) rfl (by omega) (by decide) t1.2.2.2.1, if_neg (by decide), m_rI (n := 33) rfl (by omega) (by decide) t1.2.2.2.1, if_pos (by decide), m_gI e8, if_neg hc, m_gI e8, m_uI (n := 33) rfl (by omega) (by decide), m_gI (show m_I (m_wI S1 14 δ code) 8 = code from e8), m_uL (n := 4) (x := 0) (i := 0) rfl (by omega) (by decide), mf_wL, m_gI e8']
  by_cases c0 : code = 0
  · obtain ⟨f, f1, f2⟩ := main (m_L σ 1)
    rw [if_pos c0, m_gL (show m_L (m_f (m_wI S1 14 δ code) 20 (fun j => if j = 0 then code.toInt64 else m_aL (m_wI S1 14 δ code) 20 j)) 1 = m_L σ 1 from hL), m_uL (n := 4) (x := 1) (i := 1) rfl (by omega) (by decide), mf_wL, mf_mf, call_s f1, m_rI (n := 32) (k := 6) rfl (by omega) (by decide) (show m_aI (m_f (m_wI S1 14 δ code) 20 f) 6 h = nI G from qh.2.2.1.trans hb), call_u]
    exact ⟨f, rfl, fun j h1 h2 => by rw [f2 j h1 h2, if_pos c0]⟩
  · rw [if_neg c0, m_rI (n := 32) (k := 5) rfl (by omega) (by decide) (show m_aI (m_f (m_wI S1 14 δ code) 20 (fun j => if j = 0 then code.toInt64 else m_aL (m_wI S1 14 δ code) 20 j)) 5 h = nI A from qh.2.1.trans ha), m_rI (n := 33) (k := 10) rfl (by omega) (by decide) (show m_aI (m_f (m_wI S1 14 δ code) 20 (fun j => if j = 0 then code.toInt64 else m_aL (m_wI S1 14 δ code) 20 j)) 10 A = h_r C A from qA.2.2.2.2.2.2.1)]
    unfold t_none
    by_cases c8 : h_r C A < 8
    · obtain ⟨f, f1, f2⟩ := main 0
      rw [if_neg (by rw [Int32.le_iff_toInt_le]; rw [Int32.lt_iff_toInt_lt] at c8; omega), m_uL (n := 4) (x := 1) (i := 1) rfl (by omega) (by decide), mf_wL, mf_mf, call_s f1, m_rI (n := 32) (k := 6) rfl (by omega) (by decide) (show m_aI (m_f (m_wI S1 14 δ code) 20 f) 6 h = nI G from qh.2.2.1.trans hb), call_u]
      exact ⟨f, rfl, fun j h1 h2 => by rw [f2 j h1 h2, if_neg c0, if_pos c8]⟩
    · obtain ⟨f, f1, f2⟩ := main (-1)
      rw [if_pos (by rw [Int32.le_iff_toInt_le]; rw [Int32.lt_iff_toInt_lt] at c8; omega), m_uL (n := 4) (x := 1) (i := 1) rfl (by omega) (by decide), mf_wL, mf_mf, call_s f1, m_rI (n := 32) (k := 6) rfl (by omega) (by decide) (show m_aI (m_f (m_wI S1 14 δ code) 20 f) 6 h = nI G from qh.2.2.1.trans hb), call_u]
      exact ⟨f, rfl, fun j h1 h2 => by rw [f2 j h1 h2, if_neg c0, if_neg c8]⟩
theorem last_2 (t : mTop C Z ρ δ h 2 p σ) (hh : h < h_n C) (h32 : h_n C ≤ 32) (hδ : δ ≤ 32) (hs : h_so C h = 20) (h8 : m_I σ 8 = code) : f_X11_one σ = some ((), m_pI (m_pI (m_wI σ 12 δ (nI (2 + 1))) 7 (nI δ)) 8 (if code = 0 then m_aI σ 14 δ else code)) := by
  have t1 := t.next
  rw [one_last t hh h32 hδ hs]
  unfold f_X11_lasts
  rw [m_gI t1.2.1, nI_pred, m_rI (n := 33) rfl (by omega) (by decide) t1.2.2.2.1, if_neg (by decide), m_rI (n := 33) rfl (by omega) (by decide) t1.2.2.2.1, if_neg (by decide)]
  unfold f_X11_lasts_b127
  rw [call_s (m_giveOn t1.2.1), m_gI (show m_I (m_pI (m_wI σ 12 δ (nI (2 + 1))) 7 (nI δ)) 8 = code from h8)]
  by_cases c0 : code = 0
  · rw [if_pos c0, if_pos c0, m_rI (n := 33) rfl (by omega) (by decide) (show m_aI (m_pI (m_wI σ 12 δ (nI (2 + 1))) 7 (nI δ)) 12 δ = nI (2 + 1) from t1.2.2.2.1), if_pos (by decide), m_rI (n := 33) (k := 14) rfl (by omega) (by decide) (show m_aI (m_pI (m_wI σ 12 δ (nI (2 + 1))) 7 (nI δ)) 14 δ = m_aI σ 14 δ from rfl)]
    rfl
  · rw [if_neg c0, if_neg c0, m_gI (show m_I (m_pI (m_wI σ 12 δ (nI (2 + 1))) 7 (nI δ)) 8 = code from h8)]
    rfl
theorem loop_b84 {i : Nat} {v : Int64} {t0 t1 : Int32} (t : mTop C Z ρ δ h ph p S) (hh : h < h_n C) (h32 : h_n C ≤ 32) (hδ : δ ≤ 32) (hm : 2 ≤ h_m C h) (hm4 : h_m C h ≤ 4) (hi : i < 2 ^ 31) (ha : h_a C h = nI A) (hv : m_aL S 19 δ = v) (ht : t1 + t0 = nI i) :
    (lN i < p 0 → ∃ f, f_X11_loops_b84 (nI h) (nI δ) t0 t1 (nI δ) S = f_X11_begin (nI A) (m_f (m_wI S 13 δ (nI i)) 20 f) ∧ ∀ j, j < h_m C h → f j = g_cons v (g_cons (lN i) (fun j => p (j + 2))) j) ∧
    (¬ lN i < p 0 → f_X11_loops_b84 (nI h) (nI δ) t0 t1 (nI δ) S = f_X11_end v (m_wI S 13 δ (nI i))) := by
  have q5 := (t.1.hi hh).2.1
  have e13 : m_aI (m_wI S 13 δ (nI i)) 13 δ = nI i := by show (if 13 = 13 ∧ δ = δ then nI i else _) = _; simp
  unfold f_X11_loops_b84
  rw [ht, m_uI (n := 33) rfl (by omega) (by decide), m_rI (n := 33) rfl (by omega) (by decide) e13, show (4 : Int32) * nI δ = nI (4 * δ) from pk_mul 4 δ, m_rL (n := 132) (k := 18) rfl (by omega) (by decide) (show m_aL (m_wI S 13 δ (nI i)) 18 (4 * δ) = p 0 from t.2.2.2.2 0 (by omega)), nI_l hi]
  refine ⟨fun c => ?_, fun c => ?_⟩
  · obtain ⟨f2, b1, b2, b3⟩ := m_pass (a := 2) (b := 2) (σ := m_f (m_wI S 13 δ (nI i)) 20 (fun j => if j = 1 then lN i else m_aL (m_f (m_wI S 13 δ (nI i)) 20 (fun j => if j = 0 then v else m_aL (m_wI S 13 δ (nI i)) 20 j)) 20 j)) (by decide) (by decide) hδ t.2.1
    rw [if_pos c, m_rL (n := 33) (k := 19) rfl (by omega) (by decide) (show m_aL (m_wI S 13 δ (nI i)) 19 δ = v from hv), m_uL (n := 4) (x := 0) (i := 0) rfl (by omega) (by decide), mf_wL, m_rI (n := 33) (k := 13) rfl (by omega) (by decide) (show m_aI (m_f (m_wI S 13 δ (nI i)) 20 _) 13 δ = nI i from e13), nI_l hi, m_uL (n := 4) (x := 1) (i := 1) rfl (by omega) (by decide), mf_wL, mf_mf, call_s (show f_X11_pass 2 2 _ = _ from b1), mf_mf, m_rI (n := 32) (k := 5) rfl (by omega) (by decide) (show m_aI (m_f (m_wI S 13 δ (nI i)) 20 f2) 5 h = nI A from q5.trans ha), call_u]
    refine ⟨f2, rfl, fun j hj => ?_⟩
    unfold g_cons
    by_cases c0 : j = 0
    · rw [if_pos c0, c0, b3 0 (by decide), mf_at, if_neg (by decide), mf_at, if_pos rfl]
    rw [if_neg c0]
    by_cases c1 : j - 1 = 0
    · have : j = 1 := by omega
      subst this
      rw [if_pos c1, b3 1 (by decide), mf_at, if_pos rfl]
    · rw [if_neg c1, b2 j (by omega) (by omega) (by omega), show 4 * δ + (2 + j - 2) = 4 * δ + (j - 1 - 1 + 2) by omega]
      exact t.2.2.2.2 (j - 1 - 1 + 2) (by omega)
  · rw [if_neg c, m_rL (n := 33) (k := 19) rfl (by omega) (by decide) (show m_aL (m_wI S 13 δ (nI i)) 19 δ = v from hv), call_u]
theorem loop_tail {i : Nat} {v : Int64} {t0 t1 : Int32} (t : mTop C Z ρ δ h i p σ) (hh : h < h_n C) (h32 : h_n C ≤ 32) (hδ : δ ≤ 32) (hm : 2 ≤ h_m C h) (hm4 : h_m C h ≤ 4) (hi : i < 2 ^ 31) (ha : h_a C h = nI A) (ht : t1 + t0 = nI i) (h1 : f_X11_one σ = f_X11_loops_b84 (nI h) (nI δ) t0 t1 (nI δ) (m_wL (m_wI σ 12 δ (nI (i + 1))) 19 δ v)) : lStep C Z ρ δ h A p i v σ := by
  have tt : mTop C Z ρ δ h (i + 1) p (m_wL (m_wI σ 12 δ (nI (i + 1))) 19 δ v) := t.next
  have hv : m_aL (m_wL (m_wI σ 12 δ (nI (i + 1))) 19 δ v) 19 δ = v := by show (if 19 = 19 ∧ δ = δ then v else _) = _; simp
  obtain ⟨k1, k2⟩ := loop_b84 tt hh h32 hδ hm hm4 hi ha hv ht
  have fr : mFr δ σ (m_wI (m_wL (m_wI σ 12 δ (nI (i + 1))) 19 δ v) 13 δ (nI i)) := (mFr.w12.trans mFr.w19).trans mFr.w13
  refine ⟨fun c => ?_, fun c => ?_⟩
  · obtain ⟨f, f1, f2⟩ := k1 c
    refine ⟨_, f, h1.trans f1, tt, ?_, fr, f2⟩
    show (if 13 = 13 ∧ δ = δ then nI i else _) = _; simp
  · obtain ⟨τ, e1, e2, e3, e4, e5, e6⟩ := m_end (σ := m_wI (m_wL (m_wI σ 12 δ (nI (i + 1))) 19 δ v) 13 δ (nI i)) (show mR C ρ Z _ from tt.1) (show m_I _ 7 = _ from tt.2.1) v
    exact ⟨τ, (h1.trans (k2 c)).trans e1, e2, e3, e4, e5, fr.trans e6⟩
theorem loop_first (t : mTop C Z ρ δ h 0 p σ) (hh : h < h_n C) (h32 : h_n C ≤ 32) (hδ : δ ≤ 32) (hm : 2 ≤ h_m C h) (hm4 : h_m C h ≤ 4) (hs : h_so C h = 21) (ha : h_a C h = nI A) (h8 : m_I σ 8 = 0) (h13 : m_aI σ 13 δ = nI 0) : lStep C Z ρ δ h A p 0 (p 1) σ := by
  have t1 := t.next
  have t2 : mTop C Z ρ δ h (0 + 1) p (m_wL (m_wI σ 12 δ (nI (0 + 1))) 19 δ (p 1)) := t1
  refine loop_tail (t0 := 0) (t1 := nI 0) t hh h32 hδ hm hm4 (by decide) ha (by decide) ?_
  rw [one_loop t hh h32 hδ hs]
  unfold f_X11_loops
  rw [m_gI t1.2.1, nI_pred, m_gI (show m_I (m_wI σ 12 δ (nI (0 + 1))) 8 = 0 from h8), if_pos rfl]
  unfold f_X11_loops_b29
  rw [m_rI (n := 33) rfl (by omega) (by decide) t1.2.2.2.1, if_pos (by decide), show (4 : Int32) * nI δ = nI (4 * δ) from pk_mul 4 δ, m_rL (n := 132) (nI_1 _) (by omega) (by decide) (t1.2.2.2.2 1 (by omega))]
  unfold f_X11_loops_b61
  rw [m_uL (n := 33) rfl (by omega) (by decide), m_rI (n := 33) (k := 13) rfl (by omega) (by decide) (show m_aI (m_wL (m_wI σ 12 δ (nI (0 + 1))) 19 δ (p 1)) 13 δ = nI 0 from h13), m_rI (n := 33) rfl (by omega) (by decide) t2.2.2.2.1, if_pos (by decide)]
theorem loop_next {i : Nat} {v : Int64} (t : mTop C Z ρ δ h (i + 1) p σ) (hh : h < h_n C) (h32 : h_n C ≤ 32) (hδ : δ ≤ 32) (hm : 2 ≤ h_m C h) (hm4 : h_m C h ≤ 4) (hs : h_so C h = 21) (hi : i + 2 < 2 ^ 31) (ha : h_a C h = nI A) (h8 : m_I σ 8 = 0) (h13 : m_aI σ 13 δ = nI i) (hv : m_L σ 1 = v) : lStep C Z ρ δ h A p (i + 1) v σ := by
  have t1 := t.next
  have t2 : mTop C Z ρ δ h (i + 1 + 1) p (m_wL (m_wI σ 12 δ (nI (i + 1 + 1))) 19 δ v) := t1
  have hn1 : ¬ nI (i + 1 + 1) = 1 := by rw [show (1 : Int32) = nI 1 from rfl, nI_eq (by omega) (by decide)]; omega
  refine loop_tail (t0 := 1) (t1 := nI i) t hh h32 hδ hm hm4 (by omega) ha (nI_1 i) ?_
  rw [one_loop t hh h32 hδ hs]
  unfold f_X11_loops
  rw [m_gI t1.2.1, nI_pred, m_gI (show m_I (m_wI σ 12 δ (nI (i + 1 + 1))) 8 = 0 from h8), if_pos rfl]
  unfold f_X11_loops_b29
  rw [m_rI (n := 33) rfl (by omega) (by decide) t1.2.2.2.1, if_neg hn1, m_gL (show m_L (m_wI σ 12 δ (nI (i + 1 + 1))) 1 = v from hv)]
  unfold f_X11_loops_b61
  rw [m_uL (n := 33) rfl (by omega) (by decide), m_rI (n := 33) (k := 13) rfl (by omega) (by decide) (show m_aI (m_wL (m_wI σ 12 δ (nI (i + 1 + 1))) 19 δ v) 13 δ = nI i from h13), m_rI (n := 33) rfl (by omega) (by decide) t2.2.2.2.1, if_neg hn1]
theorem loop_f {i : Nat} (t : mTop C Z ρ δ h (i + 1) p σ) (hh : h < h_n C) (h32 : h_n C ≤ 32) (hδ : δ ≤ 32) (hs : h_so C h = 21) (hi : i + 2 < 2 ^ 31) (h8 : m_I σ 8 ≠ 0) : f_X11_one σ = some ((), m_pI (m_wI σ 12 δ (nI (i + 1 + 1))) 7 (nI δ)) := by
  have t1 := t.next
  rw [one_loop t hh h32 hδ hs]
  unfold f_X11_loops
  rw [m_gI t1.2.1, nI_pred, m_gI (show m_I (m_wI σ 12 δ (nI (i + 1 + 1))) 8 = m_I σ 8 from rfl), if_neg h8, m_rI (n := 33) rfl (by omega) (by decide) t1.2.2.2.1, if_neg (by rw [show (1 : Int32) = nI 1 from rfl, nI_leI (by omega) (by decide)]; omega), call_u, m_giveOn t1.2.1]
end MCAT
