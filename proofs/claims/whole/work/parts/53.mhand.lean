/-! what the reference hands on -/
section MHAND
variable {C : hS} {ρ : eS} {Z : zS} {S : mS} {δ h ph : Nat} {p : Nat → Int64} {A B G : Nat}
theorem m_kind {σ : mS} {i j : Nat} {v : Int32} (hi : i < 33) (hj : j < 4) (hv : m_aI σ 9 (4 * i + j) = v) : f_X11_kind (nI i) (nI j) σ = some (v, σ) := by
  unfold f_X11_kind
  rw [m_rI (n := 132) (i := 4 * i + j) (by rw [show (4 : Int32) = nI 4 from rfl, pk_mul, nI_add]) (by omega) (by decide) hv]
theorem begins_a (t : mTop C Z ρ δ h ph p S) (hh : h < h_n C) (h32 : h_n C ≤ 32) (hδ : δ ≤ 32) (hm : h_m C h ≤ 4) (hs : ¬ h_so C h = 15) (hs2 : ¬ h_so C h = 16) (ha : h_a C h = nI A) : ∃ f, f_X11_begins (nI h) S = f_X11_begin (nI A) (m_f S 20 f) ∧ ∀ j, j < h_m C h → f j = p j := by
  obtain ⟨q4, q5, q6, q7, q8, q9, q10, q11⟩ := t.1.hi hh
  obtain ⟨f, e1, e2, e3⟩ := m_pass (a := 0) (b := 0) (by decide) (by decide) hδ t.2.1
  unfold f_X11_begins
  rw [m_rI (n := 32) rfl (by omega) (by decide) q4, if_neg hs, if_neg hs2, call_s (show f_X11_pass 0 0 S = _ from e1), m_rI (n := 32) (k := 5) rfl (by omega) (by decide) (show m_aI (m_f S 20 f) 5 h = nI A from q5.trans ha), call_u]
  refine ⟨f, rfl, fun j hj => ?_⟩
  rw [e2 j (by omega) (by omega) (by omega), show 4 * δ + (0 + j - 0) = 4 * δ + j by omega]
  exact t.2.2.2.2 j hj
theorem begins_b (t : mTop C Z ρ δ h ph p S) (hh : h < h_n C) (h32 : h_n C ≤ 32) (hδ : δ ≤ 32) (hm : h_m C h ≤ 4) (hs : h_so C h = 16) (hb : h_b C h = nI G) : ∃ f, f_X11_begins (nI h) S = f_X11_begin (nI G) (m_f S 20 f) ∧ ∀ j, j < h_m C h → f j = p j := by
  obtain ⟨q4, q5, q6, q7, q8, q9, q10, q11⟩ := t.1.hi hh
  obtain ⟨f, e1, e2, e3⟩ := m_pass (a := 0) (b := 0) (by decide) (by decide) hδ t.2.1
  unfold f_X11_begins
  rw [m_rI (n := 32) rfl (by omega) (by decide) q4, if_neg (by rw [hs]; decide), if_pos hs, call_s (show f_X11_pass 0 0 S = _ from e1), m_rI (n := 32) (k := 6) rfl (by omega) (by decide) (show m_aI (m_f S 20 f) 6 h = nI G from q6.trans hb), call_u]
  refine ⟨f, rfl, fun j hj => ?_⟩
  rw [e2 j (by omega) (by omega) (by omega), show 4 * δ + (0 + j - 0) = 4 * δ + j by omega]
  exact t.2.2.2.2 j hj
theorem begins_c (t : mTop C Z ρ δ h ph p S) (hh : h < h_n C) (h32 : h_n C ≤ 32) (hδ : δ ≤ 32) (hm : h_m C h ≤ 4) (hs : h_so C h = 15) (hb : h_b C h = nI B) (hB : B < h_m C h) (hc : h_c C h = nI G) : ∃ f, f_X11_begins (nI h) S = f_X11_begin (nI G) (m_f S 20 f) ∧ f 0 = p B := by
  obtain ⟨q4, q5, q6, q7, q8, q9, q10, q11⟩ := t.1.hi hh
  unfold f_X11_begins
  rw [m_rI (n := 32) rfl (by omega) (by decide) q4, if_pos hs, m_gI t.2.1, m_rI (n := 32) (k := 6) rfl (by omega) (by decide) (q6.trans hb), nI_pred, show (4 : Int32) = nI 4 from rfl, pk_mul, nI_add, m_rL (n := 132) rfl (by omega) (by decide) (t.2.2.2.2 B hB), m_uL (n := 4) (x := 0) (i := 0) rfl (by decide) (by decide), mf_wL, m_rI (n := 32) (k := 7) rfl (by omega) (by decide) (show m_aI (m_f S 20 (fun j => if j = 0 then p B else m_aL S 20 j)) 7 h = nI G from q7.trans hc), call_u]
  exact ⟨_, rfl, if_pos rfl⟩
theorem goes_15 (t : mTop C Z ρ δ h ph p S) (hh : h < h_n C) (h32 : h_n C ≤ 32) (hδ : δ ≤ 32) (hm : h_m C h ≤ 4) (hs : h_so C h = 15) (ha : h_a C h = nI A) (hb : h_b C h = nI B) (hB : B < h_m C h) : ∃ f, f_X11_goesOn (nI h) S = f_X11_begin (nI A) (m_f S 20 f) ∧ ∀ j, j < h_m C h → f j = g_at B (m_L S 1) p j := by
  obtain ⟨q4, q5, q6, q7, q8, q9, q10, q11⟩ := t.1.hi hh
  obtain ⟨f, e1, e2, e3⟩ := m_pass (a := 0) (b := 0) (by decide) (by decide) hδ t.2.1
  unfold f_X11_goesOn
  rw [m_rI (n := 32) rfl (by omega) (by decide) q4, if_pos hs, call_s (show f_X11_pass 0 0 S = _ from e1), m_rI (n := 32) (k := 6) rfl (by omega) (by decide) (show m_aI (m_f S 20 f) 6 h = nI B from q6.trans hb), m_gL (show m_L (m_f S 20 f) 1 = m_L S 1 from rfl), m_uL (n := 4) (i := B) rfl (by omega) (by decide), mf_wL, mf_mf, m_rI (n := 32) (k := 5) rfl (by omega) (by decide) (show m_aI (m_f S 20 (fun j => if j = B then m_L S 1 else m_aL (m_f S 20 f) 20 j)) 5 h = nI A from q5.trans ha), call_u]
  refine ⟨_, rfl, fun j hj => ?_⟩
  unfold g_at
  by_cases c : j = B
  · rw [if_pos c, if_pos c]
  · simp only [if_neg c]
    rw [mf_at, e2 j (by omega) (by omega) (by omega), show 4 * δ + (0 + j - 0) = 4 * δ + j by omega]
    exact t.2.2.2.2 j hj
theorem goes_16 (t : mTop C Z ρ δ h ph p S) (hh : h < h_n C) (h32 : h_n C ≤ 32) (hδ : δ ≤ 32) (hm : h_m C h + 1 ≤ 4) (hs : h_so C h = 16) (ha : h_a C h = nI A) : ∃ f, f_X11_goesOn (nI h) S = f_X11_begin (nI A) (m_f S 20 f) ∧ ∀ j, j < h_m C h + 1 → f j = g_cons (m_L S 1) p j := by
  obtain ⟨q4, q5, q6, q7, q8, q9, q10, q11⟩ := t.1.hi hh
  obtain ⟨f, e1, e2, e3⟩ := m_pass (a := 0) (b := 1) (by decide) (by decide) hδ t.2.1
  unfold f_X11_goesOn
  rw [m_rI (n := 32) rfl (by omega) (by decide) q4, if_neg (by rw [hs]; decide), if_pos hs, call_s (show f_X11_pass 0 1 S = _ from e1), m_gL (show m_L (m_f S 20 f) 1 = m_L S 1 from rfl), m_uL (n := 4) (x := 0) (i := 0) rfl (by omega) (by decide), mf_wL, mf_mf, m_rI (n := 32) (k := 5) rfl (by omega) (by decide) (show m_aI (m_f S 20 (fun j => if j = 0 then m_L S 1 else m_aL (m_f S 20 f) 20 j)) 5 h = nI A from q5.trans ha), call_u]
  refine ⟨_, rfl, fun j hj => ?_⟩
  unfold g_cons
  by_cases c : j = 0
  · rw [if_pos c, if_pos c]
  · simp only [if_neg c]
    rw [mf_at, e2 j (by omega) (by omega) (by omega), show 4 * δ + (0 + j - 1) = 4 * δ + (j - 1) by omega]
    exact t.2.2.2.2 (j - 1) (by omega)
theorem goes_17 (t : mTop C Z ρ δ h ph p S) (hh : h < h_n C) (h32 : h_n C ≤ 32) (hs : h_so C h = 17) (hb : h_b C h = nI G) : ∃ f, f_X11_goesOn (nI h) S = f_X11_begin (nI G) (m_f S 20 f) ∧ f 0 = m_L S 1 := by
  obtain ⟨q4, q5, q6, q7, q8, q9, q10, q11⟩ := t.1.hi hh
  unfold f_X11_goesOn
  rw [m_rI (n := 32) rfl (by omega) (by decide) q4, if_neg (by rw [hs]; decide), if_neg (by rw [hs]; decide), if_pos hs, m_gL (show m_L S 1 = m_L S 1 from rfl), m_uL (n := 4) (x := 0) (i := 0) rfl (by omega) (by decide), mf_wL, m_rI (n := 32) (k := 6) rfl (by omega) (by decide) (show m_aI (m_f S 20 (fun j => if j = 0 then m_L S 1 else m_aL S 20 j)) 6 h = nI G from q6.trans hb), call_u]
  exact ⟨_, rfl, if_pos rfl⟩
theorem goes_18 (t : mTop C Z ρ δ h ph p S) (hh : h < h_n C) (h32 : h_n C ≤ 32) (hδ : δ ≤ 32) (hm : h_m C h ≤ 4) (hs : h_so C h = 18) (hb : h_b C h = nI B) (hc : h_c C h = nI G) (hv : m_L S 1 = 0 ∨ m_L S 1 = 1) : ∃ f, f_X11_goesOn (nI h) S = f_X11_begin (nI (if m_L S 1 = 0 then G else B)) (m_f S 20 f) ∧ ∀ j, j < h_m C h → f j = p j := by
  obtain ⟨q4, q5, q6, q7, q8, q9, q10, q11⟩ := t.1.hi hh
  obtain ⟨f, e1, e2, e3⟩ := m_pass (a := 0) (b := 0) (by decide) (by decide) hδ t.2.1
  have hf : ∀ j, j < h_m C h → f j = p j := fun j hj => by
    rw [e2 j (by omega) (by omega) (by omega), show 4 * δ + (0 + j - 0) = 4 * δ + j by omega]
    exact t.2.2.2.2 j hj
  unfold f_X11_goesOn
  rw [m_rI (n := 32) rfl (by omega) (by decide) q4, if_neg (by rw [hs]; decide), if_neg (by rw [hs]; decide), if_neg (by rw [hs]; decide), call_s (show f_X11_pass 0 0 S = _ from e1), m_gL (show m_L (m_f S 20 f) 1 = m_L S 1 from rfl)]
  rcases hv with hv | hv
  · rw [hv, if_neg (by decide), if_pos rfl, m_rI (n := 32) (k := 7) rfl (by omega) (by decide) (show m_aI (m_f S 20 f) 7 h = nI G from q7.trans hc), call_u]
    exact ⟨f, rfl, hf⟩
  · rw [hv, if_pos rfl, if_neg (by decide), m_rI (n := 32) (k := 6) rfl (by omega) (by decide) (show m_aI (m_f S 20 f) 6 h = nI B from q6.trans hb), call_u]
    exact ⟨f, rfl, hf⟩
theorem hands_b63 (hh : h < h_n C) (h32 : h_n C ≤ 32) (hδ : δ ≤ 32) (ha : h_a C h = nI A) : ∀ (n i : Nat) (S : mS), 5 ≤ n + i → i ≤ 4 → mR C ρ Z S → ∃ f, f_X11_handsOn_b63 n (nI h) (nI (4 * δ)) (nI i) S = f_X11_begin (nI A) (m_f S 20 f) ∧ (∀ j, i ≤ j → j < 3 → f j = m_aL S 18 (4 * δ + (j + 1))) ∧ ∀ q, q < i → f q = m_aL S 20 q := by
  intro n
  induction n with
  | zero => intro i S h1 h2; omega
  | succ n ih =>
    intro i S h1 h2 hR
    rw [f_X11_handsOn_b63.eq_2]
    by_cases c : 3 ≤ i
    · rw [if_pos (show (3 : Int32) ≤ nI i from nI_le (a := 3) c (by omega)), m_rI (n := 32) (k := 5) rfl (by omega) (by decide) ((hR.hi hh).2.1.trans ha), call_u]
      exact ⟨m_aL S 20, by rw [mf_self], fun j _ _ => by omega, fun _ _ => rfl⟩
    · rw [if_neg (show ¬ (3 : Int32) ≤ nI i from nI_ge (a := i) (b := 3) (by omega) (by decide)), m_rL (n := 132) (i := 4 * δ + (i + 1)) (by rw [nI_add, nI_1]; congr 1) (by omega) (by decide) rfl, m_uL (n := 4) rfl (by omega) (by decide), o_l, nI_1, mf_wL]
      obtain ⟨f, e1, e2, e3⟩ := ih (i + 1) (m_f S 20 (fun j => if j = i then m_aL S 18 (4 * δ + (i + 1)) else m_aL S 20 j)) (by omega) (by omega) (hR.f20 _)
      refine ⟨f, by rw [e1, mf_mf], fun j h3 h4 => ?_, fun q hq => ?_⟩
      · by_cases d : j = i
        · subst d
          rw [e3 _ (by omega), mf_at, if_pos rfl]
        · exact e2 j (by omega) h4
      · rw [e3 q (by omega), mf_at, if_neg (by omega)]
theorem hands_11 (t : mTop C Z ρ δ h ph p S) (hh : h < h_n C) (h32 : h_n C ≤ 32) (hδ : δ ≤ 32) (hm : h_m C h ≤ 4) (hs : h_so C h = 11) (ha : h_a C h = nI A) (hb : h_b C h = nI B) (hB : B < h_m C h) : ∃ f, f_X11_handsOn (nI h) S = f_X11_begin (nI A) (m_f S 20 f) ∧ ∀ j, j + 1 < h_m C h → f j = g_drop B p j := by
  obtain ⟨q4, q5, q6, q7, q8, q9, q10, q11⟩ := t.1.hi hh
  obtain ⟨f, e1, e2, e3⟩ := m_pass (a := 0) (b := 0) (by decide) (by decide) hδ t.2.1
  obtain ⟨f2, b1, b2, b3⟩ := hands_b63 hh h32 hδ ha 12 B (m_f S 20 f) (by omega) (by omega) (t.1.f20 f)
  unfold f_X11_handsOn
  rw [m_gI t.2.1, nI_pred, show (4 : Int32) * nI δ = nI (4 * δ) from pk_mul 4 δ, m_rI (n := 32) (k := 6) rfl (by omega) (by decide) (q6.trans hb), call_s (show f_X11_pass 0 0 S = _ from e1), m_rI (n := 32) (k := 4) rfl (by omega) (by decide) (show m_aI (m_f S 20 f) 4 h = 11 from q4.trans hs), if_pos rfl, b1, mf_mf]
  refine ⟨f2, rfl, fun j hj => ?_⟩
  unfold g_drop
  by_cases c : j < B
  · rw [if_pos c, b3 j c, mf_at, e2 j (by omega) (by omega) (by omega), show 4 * δ + (0 + j - 0) = 4 * δ + j by omega]
    exact t.2.2.2.2 j (by omega)
  · rw [if_neg c, b2 j (by omega) (by omega)]
    exact t.2.2.2.2 (j + 1) (by omega)
theorem hands_12 (t : mTop C Z ρ δ h ph p S) (hh : h < h_n C) (h32 : h_n C ≤ 32) (hδ : δ ≤ 32) (hm : h_m C h ≤ 4) (hs : h_so C h = 12) (ha : h_a C h = nI A) (hb : h_b C h = nI B) (hB : B + 1 < h_m C h) : ∃ f, f_X11_handsOn (nI h) S = f_X11_begin (nI A) (m_f S 20 f) ∧ ∀ j, j < h_m C h → f j = g_swap B p j := by
  obtain ⟨q4, q5, q6, q7, q8, q9, q10, q11⟩ := t.1.hi hh
  obtain ⟨f, e1, e2, e3⟩ := m_pass (a := 0) (b := 0) (by decide) (by decide) hδ t.2.1
  unfold f_X11_handsOn
  rw [m_gI t.2.1, nI_pred, show (4 : Int32) * nI δ = nI (4 * δ) from pk_mul 4 δ, m_rI (n := 32) (k := 6) rfl (by omega) (by decide) (q6.trans hb), call_s (show f_X11_pass 0 0 S = _ from e1), m_rI (n := 32) (k := 4) rfl (by omega) (by decide) (show m_aI (m_f S 20 f) 4 h = 12 from q4.trans hs), if_neg (by decide), if_pos rfl, nI_add, nI_1,
    m_rL (n := 132) (k := 18) rfl (by omega) (by decide) (show m_aL (m_f S 20 f) 18 (4 * δ + B + 1) = p (B + 1) from t.2.2.2.2 (B + 1) hB), m_uL (n := 4) rfl (by omega) (by decide), mf_wL, mf_mf, m_rL (n := 132) (k := 18) rfl (by omega) (by decide) (show m_aL (m_f S 20 (fun j => if j = B then p (B + 1) else m_aL (m_f S 20 f) 20 j)) 18 (4 * δ + B) = p B from t.2.2.2.2 B (by omega)), nI_1, m_uL (n := 4) rfl (by omega) (by decide), mf_wL, mf_mf,
    m_rI (n := 32) (k := 5) rfl (by omega) (by decide) (show m_aI (m_f S 20 (fun j => if j = B + 1 then p B else m_aL (m_f S 20 (fun j => if j = B then p (B + 1) else m_aL (m_f S 20 f) 20 j)) 20 j)) 5 h = nI A from q5.trans ha), call_u]
  refine ⟨_, rfl, fun j hj => ?_⟩
  unfold g_swap
  by_cases c : j = B
  · rw [if_pos c, if_neg (by omega), mf_at, if_pos c]
  rw [if_neg c]
  by_cases c2 : j = B + 1
  · rw [if_pos c2, if_pos c2]
  · simp only [if_neg c2]
    rw [mf_at, if_neg c, mf_at, e2 j (by omega) (by omega) (by omega), show 4 * δ + (0 + j - 0) = 4 * δ + j by omega]
    exact t.2.2.2.2 j hj
theorem hands_cons (t : mTop C Z ρ δ h ph p S) (hh : h < h_n C) (h32 : h_n C ≤ 32) (hδ : δ ≤ 32) (hm : h_m C h + 1 ≤ 4) (hs : h_so C h = 13 ∨ h_so C h = 14) (ha : h_a C h = nI A) {v : Int64} (hv : h_so C h = 13 → v = p 0 ∧ 0 < h_m C h) (hv2 : h_so C h = 14 → v = h_v C h) : ∃ f, f_X11_handsOn (nI h) S = f_X11_begin (nI A) (m_f S 20 f) ∧ ∀ j, j < h_m C h + 1 → f j = g_cons v p j := by
  obtain ⟨q4, q5, q6, q7, q8, q9, q10, q11⟩ := t.1.hi hh
  obtain ⟨f, e1, e2, e3⟩ := m_pass (a := 0) (b := 0) (by decide) (by decide) hδ t.2.1
  unfold f_X11_handsOn
  rcases hs with hs | hs
  · obtain ⟨hv, h0⟩ := hv hs
    obtain ⟨f2, b1, b2, b3⟩ := m_pass (a := 0) (b := 1) (σ := m_f S 20 f) (by decide) (by decide) hδ t.2.1
    rw [m_gI t.2.1, nI_pred, show (4 : Int32) * nI δ = nI (4 * δ) from pk_mul 4 δ, m_rI (n := 32) (k := 6) rfl (by omega) (by decide) q6, call_s (show f_X11_pass 0 0 S = _ from e1), m_rI (n := 32) (k := 4) rfl (by omega) (by decide) (show m_aI (m_f S 20 f) 4 h = 13 from q4.trans hs), if_neg (by decide), if_neg (by decide), if_pos rfl, call_s (show f_X11_pass 0 1 (m_f S 20 f) = _ from b1), mf_mf, m_rI (n := 32) (k := 5) rfl (by omega) (by decide) (show m_aI (m_f S 20 f2) 5 h = nI A from q5.trans ha), call_u]
    refine ⟨f2, rfl, fun j hj => ?_⟩
    unfold g_cons
    by_cases c : j = 0
    · rw [if_pos c, c, b3 0 (by decide), mf_at, e2 0 (by omega) (by omega) (by omega), hv]
      exact t.2.2.2.2 0 h0
    · rw [if_neg c, b2 j (by omega) (by omega) (by omega), show 4 * δ + (0 + j - 1) = 4 * δ + (j - 1) by omega]
      exact t.2.2.2.2 (j - 1) (by omega)
  · have hv := hv2 hs
    obtain ⟨f2, b1, b2, b3⟩ := m_pass (a := 0) (b := 1) (σ := m_f S 20 (fun j => if j = 0 then h_v C h else m_aL (m_f S 20 f) 20 j)) (by decide) (by decide) hδ t.2.1
    rw [m_gI t.2.1, nI_pred, show (4 : Int32) * nI δ = nI (4 * δ) from pk_mul 4 δ, m_rI (n := 32) (k := 6) rfl (by omega) (by decide) q6, call_s (show f_X11_pass 0 0 S = _ from e1), m_rI (n := 32) (k := 4) rfl (by omega) (by decide) (show m_aI (m_f S 20 f) 4 h = 14 from q4.trans hs), if_neg (by decide), if_neg (by decide), if_neg (by decide), if_pos rfl, m_rL (n := 32) (k := 17) rfl (by omega) (by decide) (show m_aL (m_f S 20 f) 17 h = h_v C h from q8), m_uL (n := 4) (x := 0) (i := 0) rfl (by omega) (by decide), mf_wL, mf_mf, call_s (show f_X11_pass 0 1 _ = _ from b1), mf_mf, m_rI (n := 32) (k := 5) rfl (by omega) (by decide) (show m_aI (m_f S 20 f2) 5 h = nI A from q5.trans ha), call_u]
    refine ⟨f2, rfl, fun j hj => ?_⟩
    unfold g_cons
    by_cases c : j = 0
    · rw [if_pos c, c, b3 0 (by decide), mf_at, if_pos rfl, hv]
    · rw [if_neg c, b2 j (by omega) (by omega) (by omega), show 4 * δ + (0 + j - 1) = 4 * δ + (j - 1) by omega]
      exact t.2.2.2.2 (j - 1) (by omega)
theorem hands_b164 (hh : h < h_n C) (h32 : h_n C ≤ 32) (hδ : δ ≤ 32) (hm : h_m C h ≤ 4) (hA : A < h) (hmA : h_m C h = h_m C A) (ha : h_a C h = nI A) (hw : ∀ j, j < h_m C h → ∃ r, f_X2_widened (h_k C h j) (h_k C A j) (p j) = some r ∧ f_X11_widen (p j) (h_k C h j) (h_k C A j) = some r ∧ g_as C h A p j = r) :
    ∀ (n i : Nat) (S : mS), 6 ≤ n + i → i ≤ h_m C h → mR C ρ Z S → (∀ j, j < h_m C h → m_aL S 18 (4 * δ + j) = p j) → ∃ f, f_X11_handsOn_b164 n (nI h) (nI (4 * δ)) (nI i) S = f_X11_begin (nI A) (m_f S 20 f) ∧ (∀ j, i ≤ j → j < h_m C h → f j = g_as C h A p j) ∧ ∀ q, q < i → f q = m_aL S 20 q := by
  intro n
  induction n with
  | zero => intro i S h1 h2; omega
  | succ n ih =>
    intro i S h1 h2 hR hp
    obtain ⟨q4, q5, q6, q7, q8, q9, q10, q11⟩ := hR.hi hh
    have hqA := hR.hi (i := A) (by omega)
    rw [f_X11_handsOn_b164.eq_2, m_rI (n := 33) (k := 8) rfl (by omega) (by decide) q9]
    by_cases c : h_m C h ≤ i
    · rw [if_pos (nI_le c (by omega)), m_rI (n := 32) (k := 5) rfl (by omega) (by decide) (q5.trans ha), call_u]
      exact ⟨m_aL S 20, by rw [mf_self], fun j _ _ => by omega, fun _ _ => rfl⟩
    · obtain ⟨r, r1, r2, r3⟩ := hw i (by omega)
      rw [if_neg (nI_ge (by omega) (by omega)), m_rL (n := 132) (i := 4 * δ + i) (nI_add _ _) (by omega) (by decide) (hp i (by omega)), call_s (m_kind (by omega) (by omega) (q11 i (by omega))), m_rI (n := 32) (k := 5) rfl (by omega) (by decide) (q5.trans ha), call_s (m_kind (by omega) (by omega) (hqA.2.2.2.2.2.2.2 i (by omega))), cP_s r2, m_uL (n := 4) rfl (by omega) (by decide), o_l, nI_1, mf_wL]
      obtain ⟨f, e1, e2, e3⟩ := ih (i + 1) (m_f S 20 (fun j => if j = i then r else m_aL S 20 j)) (by omega) (by omega) (hR.f20 _) hp
      refine ⟨f, by rw [e1, mf_mf], fun j h3 h4 => ?_, fun q hq => ?_⟩
      · by_cases d : j = i
        · subst d
          rw [e3 _ (by omega), mf_at, if_pos rfl, r3]
        · exact e2 j (by omega) h4
      · rw [e3 q (by omega), mf_at, if_neg (by omega)]
theorem hands_22 (t : mTop C Z ρ δ h ph p S) (hh : h < h_n C) (h32 : h_n C ≤ 32) (hδ : δ ≤ 32) (hm : h_m C h ≤ 4) (hs : h_so C h = 22) (hA : A < h) (hmA : h_m C h = h_m C A) (ha : h_a C h = nI A) (hw : ∀ j, j < h_m C h → ∃ r, f_X2_widened (h_k C h j) (h_k C A j) (p j) = some r ∧ f_X11_widen (p j) (h_k C h j) (h_k C A j) = some r ∧ g_as C h A p j = r) : ∃ f, f_X11_handsOn (nI h) S = f_X11_begin (nI A) (m_f S 20 f) ∧ ∀ j, j < h_m C h → f j = g_as C h A p j := by
  obtain ⟨q4, q5, q6, q7, q8, q9, q10, q11⟩ := t.1.hi hh
  obtain ⟨f, e1, e2, e3⟩ := m_pass (a := 0) (b := 0) (by decide) (by decide) hδ t.2.1
  obtain ⟨f2, b1, b2, b3⟩ := hands_b164 (ρ := ρ) (Z := Z) hh h32 hδ hm hA hmA ha hw 12 0 (m_f S 20 f) (by omega) (by omega) (t.1.f20 f) t.2.2.2.2
  unfold f_X11_handsOn
  rw [m_gI t.2.1, nI_pred, show (4 : Int32) * nI δ = nI (4 * δ) from pk_mul 4 δ, m_rI (n := 32) (k := 6) rfl (by omega) (by decide) q6, call_s (show f_X11_pass 0 0 S = _ from e1), m_rI (n := 32) (k := 4) rfl (by omega) (by decide) (show m_aI (m_f S 20 f) 4 h = 22 from q4.trans hs), if_neg (by decide), if_neg (by decide), if_neg (by decide), if_neg (by decide), show f_X11_handsOn_b164 12 (nI h) (nI (4 * δ)) 0 (m_f S 20 f) = _ from b1, mf_mf]
  exact ⟨f2, rfl, fun j hj => b2 j (Nat.zero_le _) hj⟩
end MHAND
