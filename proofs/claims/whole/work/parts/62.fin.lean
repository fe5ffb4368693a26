/-! a handle is kept, or the one made alike is found: both alike -/
section FIN
variable {ad : Nat → Nat} {C : hS} {ρ : eS} {Z : zS} {q o w t : Nat} {S : wS} {σ : mS} {so a b c : Int32} {v : Int64} {m : Nat} {k : Nat → Int32} {r : Int32}
theorem find_both (kk : cI ad C ρ Z q S) (mm : mR C ρ Z σ) (hC : wfC C) (hw : hwA S w t so a b c v m k r) (hm : mkA σ (h_n C) a b c v m k r) (hm4 : m ≤ 4) (hT : wfT C (h_n C) so a b c m k r) : ∀ n i, h_n C < n + i → i ≤ h_n C →
    (∃ j, j < h_n C ∧ f_X1_numberOf_b2 n (ad 3) w (nI i) S = some (nI j, S) ∧ f_X11_make_b165 n so (nI i) σ = some (nI j, σ)) ∨
    (f_X1_numberOf_b2 n (ad 3) w (nI i) S = f_X1_numberOf_b2 1 (ad 3) w (nI (h_n C)) S ∧ f_X11_make_b165 n so (nI i) σ = f_X11_make_b165 1 so (nI (h_n C)) σ) := by
  have h32 := hC.1
  have hH := kk.1.2.1
  intro n
  induction n with
  | zero => intro i h1 h2; omega
  | succ n ih =>
    intro i h1 h2
    by_cases ce : i = h_n C
    · right
      subst ce
      obtain ⟨X, hX⟩ : ∃ X, ∀ n, f_X1_numberOf_b2 (n + 1) (ad 3) w (nI (h_n C)) S = X := ⟨_, fun n => by rw [f_X1_numberOf_b2.eq_2, gI_s hH.1 hH.2.2.1, if_pos (Int32.le_refl _)]⟩
      obtain ⟨Y, hY⟩ : ∃ Y, ∀ n, f_X11_make_b165 (n + 1) so (nI (h_n C)) σ = Y := ⟨_, fun n => by rw [f_X11_make_b165.eq_2, m_gI mm.2.2.1.1, if_pos (Int32.le_refl _)]⟩
      exact ⟨(hX n).trans (hX 0).symm, (hY n).trans (hY 0).symm⟩
    · have hi : i < h_n C := by omega
      obtain ⟨x, e1, e2⟩ := made_is (kk.hd hi) hw (hC.2 i hi).1.2.2
      obtain ⟨y, f1, f2⟩ := one_is mm hC hi hm hm4 hT
      rw [f_X1_numberOf_b2.eq_2, gI_s hH.1 hH.2.2.1, if_neg (nI_ge hi (by omega)), ck_t hH.1, call_s (hnd_yes hH hi), cs_s rfl, ck_t (kk.hd hi).1, call_s e1, f_X11_make_b165.eq_2, m_gI mm.2.2.1.1, if_neg (nI_ge hi (by omega)), call_s f1]
      by_cases d : hsame C i so a b c v m k r
      · left
        rcases e2 with ⟨rfl, -⟩ | ⟨-, z⟩
        · rcases f2 with ⟨rfl, -⟩ | ⟨-, z⟩
          · rw [if_neg n10, if_neg n10]; exact ⟨i, hi, rfl, rfl⟩
          · exact absurd d z
        · exact absurd d z
      · rcases e2 with ⟨-, z⟩ | ⟨rfl, -⟩
        · exact absurd z d
        · rcases f2 with ⟨-, z⟩ | ⟨rfl, -⟩
          · exact absurd z d
          · rw [if_pos rfl, if_pos rfl, o_l, o_l, nI_1]
            exact ih (i + 1) (by omega) (by omega)
theorem add_x {ad1 : Nat → Nat} (had : ∀ i, i < 2 * h_n C + 20 → ad1 i = ad i) (h0 : ad1 (2 * h_n C + 20) = w) (h1 : ad1 (2 * h_n C + 21) = t) (kk : cI ad C ρ Z q S) (hn : h_n C < 32) (hw : hwA S w t so a b c v m k r) (hf : ∀ i, i < h_n C → ad (2 * i + 20) ≠ w) : ∃ S1, f_X1_numberOf_b2 1 (ad 3) w (nI (h_n C)) S = some (nI (h_n C), S1) ∧ cI ad1 (h_add C so a b c v m k r) ρ Z q S1 := by
  obtain ⟨⟨⟨g1, g2, g3⟩, ⟨c1, c2, c3, c4, c5, c6, c7⟩, hR, hO⟩, hN⟩ := kk
  obtain ⟨y1, y2, y3, y4, y5, y6, y7, y8⟩ := hw
  have e : ∀ i, i < 20 → ad1 i = ad i := fun i hi => had i (by omega)
  rw [f_X1_numberOf_b2.eq_2, gI_s c1 c3, if_pos (Int32.le_refl _), gI_s c1 c3, gR_s c1 c2, cs_s rfl, len_s c4 c5, if_pos (nI_lt hn (by decide)), gI_s c1 c3, pI_s y1, gR_s (show s_K (s_pI S 4 w (nI (h_n C))) (ad 3) = 2 from c1) (show s_R (s_pI S 4 w (nI (h_n C))) 1 (ad 3) = some (ad 4) from c2), gI_s (show s_K (s_pI S 4 w (nI (h_n C))) (ad 3) = 2 from c1) (show s_I (s_pI S 4 w (nI (h_n C))) 5 (ad 3) = nI (h_n C) from c3), cs_s rfl,
    wR_s (show s_K (s_pI S 4 w (nI (h_n C))) (ad 4) = 23 from c4) y1 c5 rfl hn (by decide), gI_s (show s_K (s_wR (s_pI S 4 w (nI (h_n C))) (ad 4) (h_n C) (some w)) (ad 3) = 2 from c1) (show s_I (s_wR (s_pI S 4 w (nI (h_n C))) (ad 4) (h_n C) (some w)) 5 (ad 3) = nI (h_n C) from c3), pI_s (show s_K (s_wR (s_pI S 4 w (nI (h_n C))) (ad 4) (h_n C) (some w)) (ad 3) = 2 from c1)]
  have e4 : s_I (s_pI (s_wR (s_pI S 4 w (nI (h_n C))) (ad 4) (h_n C) (some w)) 5 (ad 3) (nI (h_n C) + (1 : Int32))) 4 w = nI (h_n C) := by
    show (if 4 = 5 ∧ w = ad 3 then nI (h_n C) + (1 : Int32) else (if 4 = 4 ∧ w = w then nI (h_n C) else s_I S 4 w)) = nI (h_n C)
    simp
  rw [gI_s (show s_K (s_pI (s_wR (s_pI S 4 w (nI (h_n C))) (ad 4) (h_n C) (some w)) 5 (ad 3) (nI (h_n C) + (1 : Int32))) w = 1 from y1) e4]
  have n24 : ad 2 ≠ ad 4 := fun z => by have q4 := hR.2.2.2.1; rw [z, c4] at q4; exact absurd q4 (by decide)
  refine ⟨_, rfl, ⟨⟨g1, g2, g3⟩, ?_, ?_, ?_⟩, ?_⟩
  · unfold cHd
    rw [e 3 (by decide), e 4 (by decide)]
    refine ⟨c1, c2, ?_, c4, c5, by show h_n C + 1 ≤ 32; omega, fun i hi => ?_⟩
    · show (if 5 = 5 ∧ ad 3 = ad 3 then nI (h_n C) + (1 : Int32) else _) = nI (h_n C + 1)
      rw [nI_1]; simp
    · have hi2 : i < h_n C + 1 := hi
      by_cases d : i = h_n C
      · subst d
        rw [h0]
        refine ⟨?_, ?_⟩
        · show (if ad 4 = ad 4 ∧ h_n C = h_n C then some w else _) = some w
          simp
        · unfold hdA
          rw [h0, h1]
          have z1 : h_so (h_add C so a b c v m k r) (h_n C) = so := if_pos rfl
          have z2 : h_a (h_add C so a b c v m k r) (h_n C) = a := if_pos rfl
          have z3 : h_b (h_add C so a b c v m k r) (h_n C) = b := if_pos rfl
          have z4 : h_c (h_add C so a b c v m k r) (h_n C) = c := if_pos rfl
          have z5 : h_v (h_add C so a b c v m k r) (h_n C) = v := if_pos rfl
          have z6 : h_m (h_add C so a b c v m k r) (h_n C) = m := if_pos rfl
          have z7 : h_k (h_add C so a b c v m k r) (h_n C) = k := if_pos rfl
          have z8 : h_r (h_add C so a b c v m k r) (h_n C) = r := if_pos rfl
          rw [z1, z2, z3, z4, z5, z6, z7, z8]
          exact ⟨y1, y2, y3, y4, y5, y6, e4, y7, y8⟩
      · have hi3 : i < h_n C := by omega
        rw [had (2 * i + 20) (by omega)]
        obtain ⟨p1, p2⟩ := c7 i hi3
        refine ⟨?_, ?_⟩
        · show (if ad 4 = ad 4 ∧ i = h_n C then some w else s_aR S (ad 4) i) = _
          rw [if_neg (fun z => d z.2)]; exact p1
        · unfold hdA at p2 ⊢
          rw [had (2 * i + 20) (by omega), had (2 * i + 21) (by omega)]
          have z1 : h_so (h_add C so a b c v m k r) i = h_so C i := if_neg d
          have z2 : h_a (h_add C so a b c v m k r) i = h_a C i := if_neg d
          have z3 : h_b (h_add C so a b c v m k r) i = h_b C i := if_neg d
          have z4 : h_c (h_add C so a b c v m k r) i = h_c C i := if_neg d
          have z5 : h_v (h_add C so a b c v m k r) i = h_v C i := if_neg d
          have z6 : h_m (h_add C so a b c v m k r) i = h_m C i := if_neg d
          have z7 : h_k (h_add C so a b c v m k r) i = h_k C i := if_neg d
          have z8 : h_r (h_add C so a b c v m k r) i = h_r C i := if_neg d
          rw [z1, z2, z3, z4, z5, z6, z7, z8]
          obtain ⟨u1, u2, u3, u4, u5, u6, u7, u8, u9⟩ := p2
          refine ⟨u1, u2, u3, u4, u5, u6, ?_, u8, u9⟩
          show (if 4 = 5 ∧ ad (2 * i + 20) = ad 3 then nI (h_n C) + (1 : Int32) else (if 4 = 4 ∧ ad (2 * i + 20) = w then nI (h_n C) else s_I S 4 (ad (2 * i + 20)))) = nI i
          rw [if_neg (by simp), if_neg (fun z => hf i hi3 z.2)]; exact u7
  · obtain ⟨q1, q2, q3, q4, q5, q6, ia, k1, k2⟩ := hR
    unfold cRw
    rw [e 1 (by decide), e 2 (by decide)]
    refine ⟨q1, q2, q3, q4, q5, q6, ia, fun i hi => ?_, k2⟩
    obtain ⟨r1, r2, r3, r4, r5, r6, x, r7, r8, r9, r10⟩ := k1 i hi
    unfold rwA
    rw [e 2 (by decide), e 7 (by decide), e 8 (by decide)]
    refine ⟨r1, r2, r3, r4, r5, r6, x, ?_, r8, r9, r10⟩
    show (if ad 2 = ad 4 ∧ i = h_n C then some w else s_aR S (ad 2) i) = _
    rw [if_neg (fun z => n24 z.1)]; exact r7
  · unfold cOb at hO ⊢
    simp only [e 0 (by decide), e 1 (by decide), e 3 (by decide), e 5 (by decide), e 6 (by decide), e 7 (by decide), e 8 (by decide), e 9 (by decide)]
    exact hO
  · unfold cRn at hN ⊢
    simp only [e 1 (by decide), e 3 (by decide), e 6 (by decide), e 7 (by decide)]
    exact hN
theorem add_m (mm : mR C ρ Z σ) (hn : h_n C < 32) (hm : mkA σ (h_n C) a b c v m k r) (hm4 : m ≤ 4) : ∃ τ, f_X11_make_b165 1 so (nI (h_n C)) σ = some (nI (h_n C), τ) ∧ mR (h_add C so a b c v m k r) ρ Z τ := by
  obtain ⟨m1, m2, ⟨m3, m4, m5⟩, m6⟩ := mm
  obtain ⟨y1, y2, y3, y4, y5, y6, y7⟩ := hm
  have h32 : ¬ nI (h_n C) = 32 := fun z => by rw [show (32 : Int32) = nI 32 from rfl, nI_eq (by omega) (by decide)] at z; omega
  rw [f_X11_make_b165.eq_2, m_gI m3, if_pos (Int32.le_refl _), m_gI m3, if_neg h32, m_gI m3, m_uI (n := 32) rfl hn (by decide)]
  generalize hS1 : m_wI σ 4 (h_n C) so = σ1
  have a1 : m_I σ1 = m_I σ := by rw [← hS1]; rfl
  have l1 : m_L σ1 = m_L σ := by rw [← hS1]; rfl
  rw [m_gI (show m_I σ1 3 = nI (h_n C) by rw [a1]; exact m3), m_gI (show m_I σ1 4 = a by rw [a1]; exact y1), m_uI (n := 32) rfl hn (by decide)]
  generalize hS2 : m_wI σ1 5 (h_n C) a = σ2
  have a2 : m_I σ2 = m_I σ := by rw [← hS2, ← a1]; rfl
  have l2 : m_L σ2 = m_L σ := by rw [← hS2, ← l1]; rfl
  rw [m_gI (show m_I σ2 3 = nI (h_n C) by rw [a2]; exact m3), m_gI (show m_I σ2 5 = b by rw [a2]; exact y2), m_uI (n := 32) rfl hn (by decide)]
  generalize hS3 : m_wI σ2 6 (h_n C) b = σ3
  have a3 : m_I σ3 = m_I σ := by rw [← hS3, ← a2]; rfl
  have l3 : m_L σ3 = m_L σ := by rw [← hS3, ← l2]; rfl
  rw [m_gI (show m_I σ3 3 = nI (h_n C) by rw [a3]; exact m3), m_gI (show m_I σ3 6 = c by rw [a3]; exact y3), m_uI (n := 32) rfl hn (by decide)]
  generalize hS4 : m_wI σ3 7 (h_n C) c = σ4
  have a4 : m_I σ4 = m_I σ := by rw [← hS4, ← a3]; rfl
  have l4 : m_L σ4 = m_L σ := by rw [← hS4, ← l3]; rfl
  rw [m_gI (show m_I σ4 3 = nI (h_n C) by rw [a4]; exact m3), m_gL (show m_L σ4 0 = v by rw [l4]; exact y4), m_uL (n := 32) rfl hn (by decide)]
  generalize hS5 : m_wL σ4 17 (h_n C) v = σ5
  have a5 : m_I σ5 = m_I σ := by rw [← hS5, ← a4]; rfl
  rw [m_gI (show m_I σ5 3 = nI (h_n C) by rw [a5]; exact m3), nI_1, o_l, m_gI (show m_I (m_pI σ5 3 (nI (h_n C + 1))) 3 = nI (h_n C + 1) from rfl), nI_pred]
  have hall : m_pI σ5 3 (nI (h_n C + 1)) = m_pI (m_wL (m_wI (m_wI (m_wI (m_wI σ 4 (h_n C) so) 5 (h_n C) a) 6 (h_n C) b) 7 (h_n C) c) 17 (h_n C) v) 3 (nI (h_n C + 1)) := by rw [← hS5, ← hS4, ← hS3, ← hS2, ← hS1]
  rw [hall]
  refine ⟨_, rfl, m1, m2, ⟨rfl, by show h_n C + 1 ≤ 32; omega, fun i hi => ?_⟩, m6⟩
  have hi2 : i < h_n C + 1 := hi
  unfold mHi
  by_cases d : i = h_n C
  · subst d
    have z1 : h_so (h_add C so a b c v m k r) (h_n C) = so := if_pos rfl
    have z2 : h_a (h_add C so a b c v m k r) (h_n C) = a := if_pos rfl
    have z3 : h_b (h_add C so a b c v m k r) (h_n C) = b := if_pos rfl
    have z4 : h_c (h_add C so a b c v m k r) (h_n C) = c := if_pos rfl
    have z5 : h_v (h_add C so a b c v m k r) (h_n C) = v := if_pos rfl
    have z6 : h_m (h_add C so a b c v m k r) (h_n C) = m := if_pos rfl
    have z7 : h_k (h_add C so a b c v m k r) (h_n C) = k := if_pos rfl
    have z8 : h_r (h_add C so a b c v m k r) (h_n C) = r := if_pos rfl
    rw [z1, z2, z3, z4, z5, z6, z7, z8]
    refine ⟨?_, ?_, ?_, ?_, ?_, y5, y6, y7⟩
    · show (if 4 = 4 ∧ h_n C = h_n C then so else _) = so; simp
    · show (if 5 = 5 ∧ h_n C = h_n C then a else _) = a; simp
    · show (if 6 = 6 ∧ h_n C = h_n C then b else _) = b; simp
    · show (if 7 = 7 ∧ h_n C = h_n C then c else _) = c; simp
    · show (if 17 = 17 ∧ h_n C = h_n C then v else _) = v; simp
  · obtain ⟨u1, u2, u3, u4, u5, u6, u7, u8⟩ := m5 i (by omega)
    have z1 : h_so (h_add C so a b c v m k r) i = h_so C i := if_neg d
    have z2 : h_a (h_add C so a b c v m k r) i = h_a C i := if_neg d
    have z3 : h_b (h_add C so a b c v m k r) i = h_b C i := if_neg d
    have z4 : h_c (h_add C so a b c v m k r) i = h_c C i := if_neg d
    have z5 : h_v (h_add C so a b c v m k r) i = h_v C i := if_neg d
    have z6 : h_m (h_add C so a b c v m k r) i = h_m C i := if_neg d
    have z7 : h_k (h_add C so a b c v m k r) i = h_k C i := if_neg d
    have z8 : h_r (h_add C so a b c v m k r) i = h_r C i := if_neg d
    rw [z1, z2, z3, z4, z5, z6, z7, z8]
    refine ⟨?_, ?_, ?_, ?_, ?_, u6, u7, u8⟩
    · show (if 4 = 4 ∧ i = h_n C then so else m_aI σ 4 i) = _; rw [if_neg (fun z => d z.2)]; exact u1
    · show (if 5 = 5 ∧ i = h_n C then a else m_aI σ 5 i) = _; rw [if_neg (fun z => d z.2)]; exact u2
    · show (if 6 = 6 ∧ i = h_n C then b else m_aI σ 6 i) = _; rw [if_neg (fun z => d z.2)]; exact u3
    · show (if 7 = 7 ∧ i = h_n C then c else m_aI σ 7 i) = _; rw [if_neg (fun z => d z.2)]; exact u4
    · show (if 17 = 17 ∧ i = h_n C then v else m_aL σ 17 i) = _; rw [if_neg (fun z => d z.2)]; exact u5
theorem add_wf (hC : wfC C) (hn : h_n C < 32) (hK : wfK m k r) (hT : wfT C (h_n C) so a b c m k r) : wfC (h_add C so a b c v m k r) := by
  have old : ∀ A, A < h_n C → h_m (h_add C so a b c v m k r) A = h_m C A ∧ h_k (h_add C so a b c v m k r) A = h_k C A ∧ h_r (h_add C so a b c v m k r) A = h_r C A := fun A hA => ⟨if_neg (by omega), if_neg (by omega), if_neg (by omega)⟩
  refine ⟨hn, fun i hi => ?_⟩
  have hi2 : i < h_n C + 1 := hi
  by_cases d : i = h_n C
  · subst d
    have z1 : h_so (h_add C so a b c v m k r) (h_n C) = so := if_pos rfl
    have z2 : h_a (h_add C so a b c v m k r) (h_n C) = a := if_pos rfl
    have z3 : h_b (h_add C so a b c v m k r) (h_n C) = b := if_pos rfl
    have z4 : h_c (h_add C so a b c v m k r) (h_n C) = c := if_pos rfl
    have z6 : h_m (h_add C so a b c v m k r) (h_n C) = m := if_pos rfl
    have z7 : h_k (h_add C so a b c v m k r) (h_n C) = k := if_pos rfl
    have z8 : h_r (h_add C so a b c v m k r) (h_n C) = r := if_pos rfl
    rw [z1, z2, z3, z4, z6, z7, z8]
    exact ⟨hK, hT.congr old⟩
  · have z1 : h_so (h_add C so a b c v m k r) i = h_so C i := if_neg d
    have z2 : h_a (h_add C so a b c v m k r) i = h_a C i := if_neg d
    have z3 : h_b (h_add C so a b c v m k r) i = h_b C i := if_neg d
    have z4 : h_c (h_add C so a b c v m k r) i = h_c C i := if_neg d
    have z6 : h_m (h_add C so a b c v m k r) i = h_m C i := if_neg d
    have z7 : h_k (h_add C so a b c v m k r) i = h_k C i := if_neg d
    have z8 : h_r (h_add C so a b c v m k r) i = h_r C i := if_neg d
    rw [z1, z2, z3, z4, z6, z7, z8]
    exact ⟨(hC.2 i (by omega)).1, (hC.2 i (by omega)).2.congr (fun A hA => old A (by omega))⟩
theorem make_fin (kk : cI ad C ρ Z q S) (mm : mR C ρ Z σ) (hC : wfC C) (hV : wfV C ρ) (hS : okS ρ) (hZ : wfK (z_m Z) (z_k Z) (z_r Z)) (hw : hwA S w t so a b c v m k r) (hf : ∀ i, i < h_n C → ad (2 * i + 20) ≠ w) (hm : mkA σ (h_n C) a b c v m k r) (hK : wfK m k r) (hT : wfT C (h_n C) so a b c m k r) (hv0 : so = 0 → okv ρ a v) (hv14 : so = 14 → ∃ A, A < h_n C ∧ a = nI A ∧ okv ρ (h_k C A 0) v) :
    jStep (ad 0) q (o_ck (s_K S (ad 3) = 2) (o_call (f_X1_numberOf (ad 3) w S) fun x9 S7 => some (x9, S7))) (f_X11_make_b165 40 so 0 σ) := by
  have h32 := hC.1
  have hH := kk.1.2.1
  rw [ck_t hH.1, call_id]
  rcases find_both kk mm hC hw hm hK.1 hT 40 0 (by omega) (Nat.zero_le _) with ⟨j, hj, e1, e2⟩ | ⟨e1, e2⟩
  · exact ⟨_, _, _, e1, e2, ad, C, ρ, Z, rfl, kk, mm, hC, hV, hS, hZ⟩
  · by_cases ce : h_n C = 32
    · refine ⟨-2, S, σ, ?_, ?_, ad, C, ρ, Z, rfl, kk, mm, hC, hV, hS, hZ⟩
      · rw [show f_X1_numberOf (ad 3) w S = _ from e1, f_X1_numberOf_b2.eq_2, gI_s hH.1 hH.2.2.1, if_pos (Int32.le_refl _), gI_s hH.1 hH.2.2.1, gR_s hH.1 hH.2.1, cs_s rfl, len_s hH.2.2.2.1 hH.2.2.2.2.1, if_neg (by rw [ce]; decide)]
      · rw [show f_X11_make_b165 40 so 0 σ = _ from e2, f_X11_make_b165.eq_2, m_gI mm.2.2.1.1, if_pos (Int32.le_refl _), m_gI mm.2.2.1.1, if_pos (by rw [ce]; rfl)]
    · have hn : h_n C < 32 := by omega
      obtain ⟨S1, f1, f2⟩ := add_x (ad1 := fun i => if i = 2 * h_n C + 20 then w else if i = 2 * h_n C + 21 then t else ad i) (fun i hi => by show (if i = 2 * h_n C + 20 then w else if i = 2 * h_n C + 21 then t else ad i) = ad i; rw [if_neg (by omega), if_neg (by omega)]) (if_pos rfl) (by show (if 2 * h_n C + 21 = 2 * h_n C + 20 then w else if 2 * h_n C + 21 = 2 * h_n C + 21 then t else ad _) = t; rw [if_neg (by omega), if_pos rfl]) kk hn hw hf
      obtain ⟨τ, g1, g2⟩ := add_m (so := so) mm hn hm hK.1
      refine ⟨_, S1, τ, e1.trans f1, e2.trans g1, (fun i => if i = 2 * h_n C + 20 then w else if i = 2 * h_n C + 21 then t else ad i), h_add C so a b c v m k r, ρ, Z, ?_, f2, g2, add_wf hC hn hK hT, fun i hi => ?_, hS, hZ⟩
      · show (if 0 = 2 * h_n C + 20 then w else if 0 = 2 * h_n C + 21 then t else ad 0) = ad 0
        rw [if_neg (by omega), if_neg (by omega)]
      · have hi2 : i < h_n C + 1 := hi
        by_cases d : i = h_n C
        · subst d
          have z1 : h_so (h_add C so a b c v m k r) (h_n C) = so := if_pos rfl
          have z2 : h_a (h_add C so a b c v m k r) (h_n C) = a := if_pos rfl
          have z5 : h_v (h_add C so a b c v m k r) (h_n C) = v := if_pos rfl
          rw [z1, z2, z5]
          refine ⟨hv0, fun z => ?_⟩
          obtain ⟨A, a1, a2, a3⟩ := hv14 z
          have z7 : h_k (h_add C so a b c v m k r) A = h_k C A := if_neg (by omega)
          rw [show nt a = A by rw [a2]; exact nt_nI (by omega), z7]; exact a3
        · have z1 : h_so (h_add C so a b c v m k r) i = h_so C i := if_neg d
          have z2 : h_a (h_add C so a b c v m k r) i = h_a C i := if_neg d
          have z5 : h_v (h_add C so a b c v m k r) i = h_v C i := if_neg d
          rw [z1, z2, z5]
          refine ⟨(hV i (by omega)).1, fun z => ?_⟩
          have hb := (hV i (by omega)).2 z
          have wi := (hC.2 i (by omega)).2
          have hA : nt (h_a C i) < h_n C := by
            rw [z] at wi
            rcases wi with ⟨hs, -⟩ | ⟨hs, -⟩ | ⟨hs, -⟩ | ⟨hs, -⟩ | ⟨hs, -⟩ | ⟨hs, -⟩ | ⟨hs, -⟩ | ⟨hs, -⟩ | ⟨hs, -⟩ | ⟨hs, -⟩ | ⟨hs, -⟩ | ⟨hs, -⟩ | ⟨hs, -⟩ | ⟨hs, -⟩ | ⟨hs, A, a1, a2, -⟩ | ⟨hs, -⟩ | ⟨hs, -⟩ | ⟨hs, -⟩ | ⟨hs, -⟩ | ⟨hs, -⟩ | ⟨hs, -⟩ | ⟨hs, -⟩ | ⟨hs, -⟩
            all_goals first
              | exact absurd hs (by decide)
              | (rw [a2, nt_nI (by omega)]; omega)
          have z7 : h_k (h_add C so a b c v m k r) (nt (h_a C i)) = h_k C (nt (h_a C i)) := if_neg (by omega)
          rw [z7]; exact hb
end FIN
