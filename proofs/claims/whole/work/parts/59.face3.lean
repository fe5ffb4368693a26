/-! run: both alike -/
section FACE3
variable {ad : Nat → Nat} {C : hS} {ρ : eS} {Z : zS} {q o : Nat} {S : wS} {σ : mS}
theorem mgiven_yes {l : Int32} (m : mR C ρ Z σ) (hZ : wfK (z_m Z) (z_k Z) (z_r Z)) : ∀ (n i : Nat), 6 ≤ n + i → i ≤ 4 → (∀ j, i ≤ j → j < z_m Z → mayp ρ (z_k Z j) (z_g Z j)) → f_X11_run_b38 n l (nI i) σ = f_X11_run_b75 12 l 0 σ := by
  obtain ⟨z1, z2, z3, z4, z5, z6⟩ := m.2.2.2
  intro n
  induction n with
  | zero => intro i h1 h2; omega
  | succ n ih =>
    intro i h1 h3 hy
    rw [f_X11_run_b38.eq_2, m_gI z2]
    by_cases c : z_m Z ≤ i
    · rw [if_pos (nI_le c (by omega))]
    · obtain ⟨v, e1, e2⟩ := val_is m.1 (hZ.2.2 i (by omega)) (z_g Z i)
      rcases e2 with ⟨rfl, e2⟩ | ⟨rfl, e2⟩
      · rw [if_neg (nI_ge (by omega) (by omega)), m_rI (n := 4) rfl (by omega) (by decide) (z4 i (by omega)), m_rL (n := 4) rfl (by omega) (by decide) (z5 i (by omega)), call_s e1, if_neg n10, o_l, nI_1]
        exact ih (i + 1) (by omega) (by omega) (fun j h4 h5 => hy j (by omega) h5)
      · exact absurd (hy i (Nat.le_refl _) (by omega)) e2
theorem mgiven_no {l : Int32} (m : mR C ρ Z σ) (hZ : wfK (z_m Z) (z_k Z) (z_r Z)) : ∀ (n i : Nat), 6 ≤ n + i → i ≤ 4 → ¬ (∀ j, i ≤ j → j < z_m Z → mayp ρ (z_k Z j) (z_g Z j)) → f_X11_run_b38 n l (nI i) σ = some (-1, σ) := by
  obtain ⟨z1, z2, z3, z4, z5, z6⟩ := m.2.2.2
  intro n
  induction n with
  | zero => intro i h1 h2; omega
  | succ n ih =>
    intro i h1 h3 hy
    rw [f_X11_run_b38.eq_2, m_gI z2]
    by_cases c : z_m Z ≤ i
    · exact absurd (fun j h4 h5 => by omega) hy
    · obtain ⟨v, e1, e2⟩ := val_is m.1 (hZ.2.2 i (by omega)) (z_g Z i)
      rw [if_neg (nI_ge (by omega) (by omega)), m_rI (n := 4) rfl (by omega) (by decide) (z4 i (by omega)), m_rL (n := 4) rfl (by omega) (by decide) (z5 i (by omega)), call_s e1]
      rcases e2 with ⟨rfl, e2⟩ | ⟨rfl, e2⟩
      · rw [if_neg n10, o_l, nI_1]
        refine ih (i + 1) (by omega) (by omega) (fun z => hy (fun j h4 h5 => ?_))
        by_cases f : j = i
        · subst f; exact e2
        · exact z j (by omega) h5
      · rw [if_pos rfl]
theorem mover_b {h : Nat} {P : Nat → Int64} (hZ : wfK (z_m Z) (z_k Z) (z_r Z)) (hh : h < h_n C) (h32 : h_n C ≤ 32) (hm' : z_m Z = h_m C h) (hP : ∀ j, j < z_m Z → ∃ w, f_X11_cast (z_g Z j) (z_k Z j) = some w ∧ f_X11_widen w (z_k Z j) (h_k C h j) = some (P j)) :
    ∀ (n i : Nat) (σ : mS), 6 ≤ n + i → i ≤ 4 → mR C ρ Z σ → ∃ g, f_X11_run_b75 n (nI h) (nI i) σ = f_X11_run_b75 1 (nI h) (nI 4) (m_f σ 20 g) ∧ (∀ j, i ≤ j → j < z_m Z → g j = P j) ∧ ∀ j, j < i → g j = m_aL σ 20 j := by
  have hm := hZ.1
  intro n
  induction n with
  | zero => intro i σ h1 h2; omega
  | succ n ih =>
    intro i σ h1 h3 m
    by_cases c4 : i = 4
    · subst c4
      refine ⟨m_aL σ 20, ?_, fun j _ _ => by omega, fun _ _ => rfl⟩
      rw [mf_self, f_X11_run_b75.eq_2, f_X11_run_b75.eq_2, if_pos (by decide), if_pos (by decide)]
    obtain ⟨z1, z2, z3, z4, z5, z6⟩ := m.2.2.2
    obtain ⟨q4, q5, q6, q7, q8, q9, q10, q11⟩ := m.hi hh
    rw [f_X11_run_b75.eq_2, if_neg (show ¬ (4 : Int32) ≤ nI i from nI_ge (a := i) (b := 4) (by omega) (by decide)), m_gI z2]
    by_cases c : z_m Z ≤ i
    · rw [if_pos (nI_le c (by omega)), m_uL (n := 4) rfl (by omega) (by decide), o_l, nI_1, mf_wL]
      obtain ⟨g, e1, e2, e3⟩ := ih (i + 1) (m_f σ 20 (fun j => if j = i then 0 else m_aL σ 20 j)) (by omega) (by omega) (m.f20 _)
      refine ⟨g, by rw [e1, mf_mf], fun j h4 h5 => by omega, fun j hj => ?_⟩
      rw [e3 j (by omega), mf_at, if_neg (by omega)]
    · obtain ⟨w, w1, w2⟩ := hP i (by omega)
      rw [if_neg (nI_ge (by omega) (by omega)), m_rL (n := 4) rfl (by omega) (by decide) (z5 i (by omega)), m_rI (n := 4) rfl (by omega) (by decide) (z4 i (by omega)), cP_s w1, m_rI (n := 4) rfl (by omega) (by decide) (z4 i (by omega)), call_s (m_kind (by omega) (by omega) (q11 i (by omega))), cP_s w2, m_uL (n := 4) rfl (by omega) (by decide), o_l, nI_1, mf_wL]
      obtain ⟨g, e1, e2, e3⟩ := ih (i + 1) (m_f σ 20 (fun j => if j = i then P i else m_aL σ 20 j)) (by omega) (by omega) (m.f20 _)
      refine ⟨g, by rw [e1, mf_mf], fun j h4 h5 => ?_, fun j hj => ?_⟩
      · by_cases d : j = i
        · subst d
          rw [e3 _ (by omega), mf_at, if_pos rfl]
        · exact e2 j (by omega) h5
      · rw [e3 j (by omega), mf_at, if_neg (by omega)]
theorem cOb.run (h : cOb ad Z S) : s_R S 13 (ad 0) = some (ad 6) := h.2.2.2.2.1
theorem cOb.num (h : cOb ad Z S) : s_I S 14 (ad 0) = z_n Z := h.2.2.2.2.2.2.2.2.2.2.2.2.2.2.1
theorem cOb.hand (h : cOb ad Z S) : s_R S 15 (ad 0) = some (ad 9) := h.2.2.2.2.2.2.2.2.2.2.2.2.2.2.2.1
theorem cOb.ty (h : cOb ad Z S) : tyA S (ad 9) (z_m Z) (z_k Z) (z_r Z) := h.2.2.2.2.2.2.2.2.2.2.2.2.2.2.2.2
theorem goesp.refl (k : Int32) : goesp k k := by unfold goesp f_X2_goes; rw [if_pos rfl]
theorem run_go (k : cI ad C ρ Z (q + 1) S) (m : mR C ρ Z σ) (hC : wfC C) (hV : wfV C ρ) (hS : okS ρ) (hZ : wfK (z_m Z) (z_k Z) (z_r Z)) {h : Nat} (hh : h < h_n C) (hg : goZ C Z h) : jStep (ad 0) q (f_X10_run_b53 (ad 0) (nI h) (ad (2 * h + 20)) S) (f_X11_run_b38 12 (nI h) 0 σ) := by
  have stay : jInv (ad 0) q S σ := ⟨ad, C, ρ, Z, rfl, k.less (by omega), m, hC, hV, hS, hZ⟩
  have h32 := hC.1
  obtain ⟨⟨hm4, hkr, hkk⟩, -⟩ := hC.2 h hh
  obtain ⟨g1, g2, g3⟩ := hg
  have o1 := k.1.2.2.2.1
  unfold f_X10_run_b53
  obtain ⟨v, e1, e2⟩ := given_b k hZ 12 0 (by omega) (by omega)
  rw [ck_t o1, call_s (show f_X10_givenRowsAreThere (ad 0) S = _ from e1)]
  rcases e2 with ⟨rfl, e2⟩ | ⟨rfl, e2⟩
  · rw [if_neg n10, show f_X11_run_b38 12 (nI h) 0 σ = _ from mgiven_yes m hZ 12 0 (by omega) (by omega) e2]
    -- the parameters
    have hw : ∀ j, j < z_m Z → ∃ w r, f_X2_fromBits (z_k Z j) (z_g Z j) = some w ∧ f_X11_cast (z_g Z j) (z_k Z j) = some w ∧ f_X2_widened (z_k Z j) (h_k C h j) w = some r ∧ f_X11_widen w (z_k Z j) (h_k C h j) = some r ∧ okv ρ (h_k C h j) r := fun j hj => by
      obtain ⟨w, w1, w2, w3⟩ := bits_may (hZ.2.2 j hj) (e2 j (Nat.zero_le _) hj)
      obtain ⟨r, r1, r2, r3⟩ := wid_ok (hZ.2.2 j hj) (hkk j (by omega)) (g3 j hj) w3
      exact ⟨w, r, w1, w2, r1, r2, r3⟩
    obtain ⟨P, hP⟩ : ∃ P : Nat → Int64, ∀ j, j < z_m Z → ∃ w, f_X2_fromBits (z_k Z j) (z_g Z j) = some w ∧ f_X11_cast (z_g Z j) (z_k Z j) = some w ∧ f_X2_widened (z_k Z j) (h_k C h j) w = some (P j) ∧ f_X11_widen w (z_k Z j) (h_k C h j) = some (P j) ∧ okv ρ (h_k C h j) (P j) := by
      refine ⟨fun j => ((f_X2_fromBits (z_k Z j) (z_g Z j)).bind (fun w => f_X2_widened (z_k Z j) (h_k C h j) w)).getD 0, fun j hj => ?_⟩
      obtain ⟨w, r, w1, w2, r1, r2, r3⟩ := hw j hj
      refine ⟨w, w1, w2, ?_⟩
      show f_X2_widened (z_k Z j) (h_k C h j) w = some (((f_X2_fromBits (z_k Z j) (z_g Z j)).bind (fun w => f_X2_widened (z_k Z j) (h_k C h j) w)).getD 0) ∧ f_X11_widen w (z_k Z j) (h_k C h j) = some (((f_X2_fromBits (z_k Z j) (z_g Z j)).bind (fun w => f_X2_widened (z_k Z j) (h_k C h j) w)).getD 0) ∧ okv ρ (h_k C h j) (((f_X2_fromBits (z_k Z j) (z_g Z j)).bind (fun w => f_X2_widened (z_k Z j) (h_k C h j) w)).getD 0)
      rw [w1]
      show f_X2_widened (z_k Z j) (h_k C h j) w = some ((f_X2_widened (z_k Z j) (h_k C h j) w).getD 0) ∧ f_X11_widen w (z_k Z j) (h_k C h j) = some ((f_X2_widened (z_k Z j) (h_k C h j) w).getD 0) ∧ okv ρ (h_k C h j) ((f_X2_widened (z_k Z j) (h_k C h j) w).getD 0)
      rw [r1]
      exact ⟨rfl, r2, r3⟩
    -- the class
    have kr := k.runs (z_n Z + 1)
    obtain ⟨S3, f1, f2, f3⟩ := kr.forget
    have y := f2.hd hh
    have oo := f2.1.2.2.2
    obtain ⟨gf, i1, i2, i3⟩ := over_b (Z := ((z_v Z, z_n Z + 1), Z.2)) (P := P) hZ hh g1 (fun j hj => by obtain ⟨w, w1, w2, w3, w4, w5⟩ := hP j hj; exact ⟨w, w1, w3⟩) 12 0 S3 (by omega) (by omega) f2
    have k4 := f2.fr gf
    have hpA : okA C h (e_zero ρ) P := fun j hj => by obtain ⟨w, w1, w2, w3, w4, w5⟩ := hP j (by omega); exact w5
    have hS0 : okS (e_zero ρ) := ⟨hS.1, Nat.zero_le _, Nat.zero_le _, hS.2.2.2⟩
    have hV0 : wfV C (e_zero ρ) := hV
    obtain ⟨r, S5, p1, p2, p3, p4, p5⟩ := run_perform hC 42 h P (e_zero ρ) (s_fr S3 (ad 7) gf) 0 (by omega) hh (by omega) hS0 hV0 hpA k4 f3 (fun j hj => by rw [fr_at, show 4 * 0 + j = j by omega]; exact i2 j (Nat.zero_le _) (by show j < z_m Z; omega))
    have ok := eE_ok hC 42 h P (e_zero ρ) hh hS0 hV0 hpA
    -- the reference
    obtain ⟨mg, j1, j2, j3⟩ := mover_b (P := P) hZ hh h32 g1 (fun j hj => by obtain ⟨w, w1, w2, w3, w4, w5⟩ := hP j hj; exact ⟨w, w2, w4⟩) 12 0 σ (by omega) (by omega) m
    obtain ⟨m1, ⟨m2, m3, m4⟩, m5, ⟨z1, z2, z3, z4, z5, z6, z7⟩⟩ := id m
    obtain ⟨σ5, hσ5⟩ : ∃ σ5, m_pI (m_pI (m_pI (m_pI (m_pI (m_f σ 20 mg) 7 0) 9 0) 10 0) 11 (-1)) 12 (z_n Z + 1) = σ5 := ⟨_, rfl⟩
    have mR5 : mR C (e_zero ρ) ((z_v Z, z_n Z + 1), Z.2) σ5 := by
      rw [← hσ5]
      exact ⟨m1, ⟨rfl, rfl, rfl⟩, m5, ⟨z1, z2, z3, z4, z5, z6, rfl⟩⟩
    have h75 : m_I σ5 7 = nI 0 := by rw [← hσ5]; rfl
    have h20 : ∀ j, j < h_m C h → m_aL σ5 20 j = P j := fun j hj => by
      rw [← hσ5]
      show m_aL (m_f σ 20 mg) 20 j = P j
      rw [mf_at]; exact j2 j (Nat.zero_le _) (by omega)
    obtain ⟨σ6, kk, τ, b1, b2, b3, b4⟩ := m_run hC 42 h P (e_zero ρ) σ5 0 (by omega) hh (by omega) hS0 hV0 hpA mR5 h75 h20
    have hkk : kk ≤ 4001 := by
      have := ok.1.2.1
      have h7 : (if (eE C 42 h P (e_zero ρ)).1 = 7 then 1 else 0) ≤ 1 := by split <;> omega
      omega
    have ref : f_X11_run_b75 12 (nI h) 0 σ = f_X11_run_b169 (19999 - kk + 1) (nI h) τ := by
      rw [show f_X11_run_b75 12 (nI h) 0 σ = _ from j1, f_X11_run_b75.eq_2, if_pos (by decide), o_l, o_l, o_l, o_l, m_gI (show m_I (m_pI (m_pI (m_pI (m_pI (m_f σ 20 mg) 7 0) 9 0) 10 0) 11 (-1)) 12 = z_n Z from z7), o_l, hσ5, call_s b1, show (20000 : Nat) = (19999 - kk + 1) + kk by omega]
      exact b2.run
    -- together
    rw [ref, f_X11_run_b169.eq_2, m_gI b3.1, if_pos (by decide), m_gI b3.2.2.1]
    rw [gI_s o1 k.1.2.2.2.num, pI_s o1, gR_s kr.1.2.2.2.1 kr.1.2.2.2.run, cs_s rfl, ck_t kr.2.1, call_s f1, gR_s y.1 y.2.2.2.2.2.2.2.1, cs_s rfl, ck_t oo.1, call_s (show f_X10_handOverNumbers (ad 0) (ad (2 * h + 21)) S3 = _ from i1), gR_s k4.1.2.2.2.1 k4.1.2.2.2.run, cs_s rfl, ck_t k4.2.1, call_s (show f_X7_perform 42 (ad 6) (nI h) 0 (s_fr S3 (ad 7) gf) = _ from p1), gR_s p2.1.2.2.2.1 p2.1.2.2.2.run, cs_s rfl, gI_s p2.2.1 p3]
    have y5 := p2.hd hh
    have o5 := p2.1.2.2.2
    have hV5 := hV0.mono ok.2.1
    generalize eE C 42 h P (e_zero ρ) = oc at *
    by_cases c0 : oc.1 = 0
    · obtain ⟨w, w1, w2, w3⟩ := wid_ok hkr hZ.2.1 g2 (ok.2.2 c0)
      have q10 := (b3.2.1.hi hh).2.2.2.2.2.2.1
      rw [if_pos c0, if_pos c0, gR_s y5.1 y5.2.2.2.2.2.2.2.1, cs_s rfl, gI_s y5.2.2.2.2.2.2.2.2.2.1 y5.2.2.2.2.2.2.2.2.2.2.1, gR_s o5.1 o5.hand, cs_s rfl, gI_s o5.ty.2.1 o5.ty.2.2.1, p4 c0, cP_s (show f_X2_widened (h_r C h) (z_r ((z_v Z, z_n Z + 1), Z.2)) oc.2.1 = some w from w1), pL_s o5.1,
        m_gL (b3.2.2.2.1 c0), m_rI (n := 33) (k := 10) rfl (by omega) (by decide) q10, m_gI (show m_I τ 1 = z_r Z from b3.2.1.2.2.2.1), cP_s w2]
      refine ⟨1, _, _, rfl, rfl, ad, C, oc.2.2, ((w, z_n Z + 1), Z.2), rfl, (p2.value w).less (by omega), ?_, hC, hV5, ok.1, hZ⟩
      obtain ⟨n1, n2, n3, ⟨n4, n5, n6, n7, n8, n9, n10⟩⟩ := b3.2.1
      exact ⟨n1, n2, n3, ⟨n4, n5, n6, n7, n8, rfl, n10⟩⟩
    · rw [if_neg c0, if_neg c0, gR_s o5.1 o5.run, cs_s rfl, gI_s p2.2.1 p3, m_gI b3.2.2.1]
      exact ⟨_, _, _, rfl, rfl, ad, C, oc.2.2, ((z_v Z, z_n Z + 1), Z.2), rfl, p2.less (by omega), b3.2.1, hC, hV5, ok.1, hZ⟩
  · rw [if_pos rfl, show f_X11_run_b38 12 (nI h) 0 σ = _ from mgiven_no m hZ 12 0 (by omega) (by omega) e2]
    exact ⟨_, _, _, rfl, rfl, stay⟩
theorem j_run (h : jInv o (q + 1) S σ) (a b : Int32) : jStep o q (f_X10_run o a b S) (f_X11_run a b σ) := by
  obtain ⟨ad, C, ρ, Z, rfl, k, m, hC, hV, hS, hZ⟩ := h
  have stay : jInv (ad 0) q S σ := ⟨ad, C, ρ, Z, rfl, k.less (by omega), m, hC, hV, hS, hZ⟩
  have hO := k.1.2.2.2
  have hH := k.1.2.1
  have h32 := hC.1
  unfold f_X10_run f_X11_run
  rw [gR_s hO.1 hO.2.2.1, cs_s rfl, ck_t hH.1]
  rcases in_idx a (n := h_n C) (by omega) with ⟨h, hh, rfl, e⟩ | ⟨hn, e⟩
  · obtain ⟨x1, x2, x3, x4, x5, x6, x7, x8, x9⟩ := k.hd hh
    have hO15 := hO.2.2.2.2.2.2.2.2.2.2.2.2.2.2.2.1
    have hOt := hO.2.2.2.2.2.2.2.2.2.2.2.2.2.2.2.2
    have tq := (m.hi hh).ty
    rw [call_s (hnd_yes hH hh), cs_s rfl, call_s (m_hd_yes m.2.2.1 e), if_neg n10]
    by_cases c : b = 0
    · obtain ⟨u, g1, g2⟩ := goto_is hOt x9 hZ (hC.2 h hh).1
      obtain ⟨u', i1, i2⟩ := mgoes_is m.2.2.2 tq (by omega) hZ (hC.2 h hh).1
      rw [if_pos c, if_pos c, gR_s hO.1 hO15, gR_s x1 x8, cs_s rfl, cs_s rfl, ck_t hOt.2.1, call_s g1, call_s i1]
      rcases g2 with ⟨rfl, z⟩ | ⟨rfl, z⟩
      · rcases i2 with ⟨rfl, y⟩ | ⟨rfl, y⟩
        · rw [if_neg n10, if_neg n10]
          exact run_go k m hC hV hS hZ hh z
        · exact absurd z y
      · rcases i2 with ⟨rfl, y⟩ | ⟨rfl, y⟩
        · exact absurd y z
        · rw [if_pos rfl, if_pos rfl]; exact ⟨_, _, _, rfl, rfl, stay⟩
    · obtain ⟨v, e1, e2⟩ := same_is hOt x9 hZ.2.2
      obtain ⟨v', f1, f2⟩ := mhand_is m.2.2.2 tq (by omega) x9.1
      rw [if_neg c, if_neg c, gR_s hO.1 hO15, gR_s x1 x8, cs_s rfl, cs_s rfl, ck_t hOt.2.1, call_s e1, call_s f1]
      rcases e2 with ⟨rfl, z⟩ | ⟨rfl, z⟩
      · rcases f2 with ⟨rfl, y⟩ | ⟨rfl, y⟩
        · rw [if_neg n10, if_neg n10]
          refine run_go k m hC hV hS hZ hh ⟨z.1, by rw [z.2.1]; exact goesp.refl _, fun j hj => ?_⟩
          rw [z.2.2 j (by have := z.1; omega)]; exact goesp.refl _
        · exact absurd z y
      · rcases f2 with ⟨rfl, y⟩ | ⟨rfl, y⟩
        · exact absurd y z
        · rw [if_pos rfl, if_pos rfl]; exact ⟨_, _, _, rfl, rfl, stay⟩
  · rw [call_s (hnd_no hH hn), cs_n, call_s (m_hd_no m.2.2.1 e), if_pos rfl]
    exact ⟨_, _, _, rfl, rfl, stay⟩
end FACE3
