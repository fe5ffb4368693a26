/-! told, fits, run: both alike -/
def mayp (ρ : eS) (k : Int32) (x : Int64) : Prop := k < 8 ∨ x = -1 ∨ ((0 ≤ x.toInt ∧ x.toInt < (e_R ρ : Int)) ∧ (k = 16 ∨ e_ln ρ (ix x) = k - 8))
def e_zero (ρ : eS) : eS := ((e_R ρ, 0, 0, -1), ρ.2)
def goZ (C : hS) (Z : zS) (h : Nat) : Prop := z_m Z = h_m C h ∧ goesp (h_r C h) (z_r Z) ∧ ∀ j, j < z_m Z → goesp (z_k Z j) (h_k C h j)
section FACE2
variable {ad : Nat → Nat} {C : hS} {ρ : eS} {Z : zS} {q o : Nat} {S : wS} {σ : mS}
theorem m_hd_yes (d : mHd C σ) {j : Nat} (e : f_X11_in (nI j).toInt64 0 ((nI (h_n C) - (1 : Int32)).toInt64) = some 1) : f_X11_isHandle (nI j) σ = some (1, σ) := by
  unfold f_X11_isHandle
  rw [m_gI d.1, cP_s e, ck_t (Or.inr rfl)]
theorem m_hd_no (d : mHd C σ) {x : Int32} (e : f_X11_in x.toInt64 0 ((nI (h_n C) - (1 : Int32)).toInt64) = some 0) : f_X11_isHandle x σ = some (0, σ) := by
  unfold f_X11_isHandle
  rw [m_gI d.1, cP_s e, ck_t (Or.inl rfl)]
theorem j_told (h : jInv o (q + 1) S σ) (a b : Int32) : jStep o q (f_X10_told o a b S) (f_X11_told a b σ) := by
  obtain ⟨ad, C, ρ, Z, rfl, k, m, hC, hV, hS, hZ⟩ := h
  have stay : jInv (ad 0) q S σ := ⟨ad, C, ρ, Z, rfl, k.less (by omega), m, hC, hV, hS, hZ⟩
  have hO := k.1.2.2.2
  have hH := k.1.2.1
  have h32 := hC.1
  unfold f_X10_told f_X11_told
  rw [gR_s hO.1 hO.2.2.1, cs_s rfl, ck_t hH.1]
  rcases in_idx a (n := h_n C) (by omega) with ⟨h, hh, rfl, e⟩ | ⟨hn, e⟩
  · obtain ⟨x1, x2, x3, x4, x5, x6, x7, x8, x9⟩ := k.hd hh
    obtain ⟨q4, q5, q6, q7, q8, q9, q10, q11⟩ := m.hi hh
    have hm := x9.1
    rw [call_s (hnd_yes hH hh), cs_s rfl, call_s (m_hd_yes m.2.2.1 e), if_neg n10, m_rI (n := 33) (k := 8) rfl (by omega) (by decide) q9, show (2 : Int32) + nI (h_m C h) = nI (2 + h_m C h) from nI_add 2 _, nI_l (by omega)]
    rcases in_rng b (n := 2 + h_m C h) (by omega) with ⟨w, b1, rfl, b3⟩ | ⟨b1, b2, b3⟩
    · rw [if_pos (nI_pos' (by omega)), cP_s b3, if_neg n10]
      have ew : ∀ v : Nat, v < 2 ^ 31 → (nI w = nI v ↔ w = v) := fun v hv => nI_eq (by omega) hv
      by_cases c0 : w = 0
      · subst c0
        rw [if_pos (show nI 0 = 0 from rfl), if_pos (show nI 0 = 0 from rfl), gI_s x1 x2, m_rI (n := 32) (k := 4) rfl (by omega) (by decide) q4]
        exact ⟨_, _, _, rfl, rfl, stay⟩
      have n0 : ¬ nI w = 0 := fun z => c0 ((ew 0 (by decide)).mp z)
      rw [if_neg n0, if_neg n0]
      by_cases c1 : w = 1
      · subst c1
        rw [if_pos (show nI 1 = 1 from rfl), if_pos (show nI 1 = 1 from rfl), gR_s x1 x8, cs_s rfl, gI_s x9.2.1 x9.2.2.2.1, m_rI (n := 33) (k := 8) rfl (by omega) (by decide) q9]
        exact ⟨_, _, _, rfl, rfl, stay⟩
      have n1 : ¬ nI w = 1 := fun z => c1 ((ew 1 (by decide)).mp z)
      rw [if_neg n1, if_neg n1]
      by_cases c2 : w = 2
      · subst c2
        rw [if_pos (show nI 2 = 2 from rfl), if_pos (show nI 2 = 2 from rfl), gR_s x1 x8, cs_s rfl, gI_s x9.2.1 x9.2.2.1, m_rI (n := 33) (k := 10) rfl (by omega) (by decide) q10]
        exact ⟨_, _, _, rfl, rfl, stay⟩
      have n2 : ¬ nI w = 2 := fun z => c2 ((ew 2 (by decide)).mp z)
      rw [if_neg n2, if_neg n2, gR_s x1 x8, cs_s rfl, ck_t x9.2.1, show nI w - (3 : Int32) = nI (w - 3) from pk_sub (b := 3) (by omega), call_s (kind_yes x9 (by omega)), if_neg (kind_ne ((hC.2 h hh).1.2.2 (w - 3) (by omega))), call_s (m_kind (by omega) (by omega) (q11 (w - 3) (by omega)))]
      exact ⟨_, _, _, rfl, rfl, stay⟩
    · rw [cP_s b2, if_pos (rfl : (0 : Int32) = 0)]
      by_cases c : b < 0
      · rw [if_neg (show ¬ (0 : Int32) ≤ b by rw [Int32.le_iff_toInt_le]; rw [Int32.lt_iff_toInt_lt] at c; omega)]
        exact ⟨_, _, _, rfl, rfl, stay⟩
      · obtain ⟨w, w1, rfl⟩ := nI_of c
        have b1 := b1.resolve_left c
        rw [nI_ltI (by omega) w1] at b1
        have nw : ∀ v : Nat, v < 3 → ¬ nI w = nI v := fun v hv z => by rw [nI_eq w1 (by omega)] at z; omega
        rw [if_pos (nI_pos' w1), if_neg (show ¬ nI w = 0 from nw 0 (by decide)), if_neg (show ¬ nI w = 1 from nw 1 (by decide)), if_neg (show ¬ nI w = 2 from nw 2 (by decide)), gR_s x1 x8, cs_s rfl, ck_t x9.2.1, show nI w - (3 : Int32) = nI (w - 3) from pk_sub (b := 3) (by omega), call_s (kind_no x9 (fun j hj z => by rw [nI_eq (by omega) (by omega)] at z; omega)), if_pos rfl]
        exact ⟨_, _, _, rfl, rfl, stay⟩
  · rw [call_s (hnd_no hH hn), cs_n, call_s (m_hd_no m.2.2.1 e), if_pos rfl]
    exact ⟨_, _, _, rfl, rfl, stay⟩
theorem j_fits (h : jInv o (q + 1) S σ) (a : Int32) : jStep o q (f_X10_fits o a S) (f_X11_fits a σ) := by
  obtain ⟨ad, C, ρ, Z, rfl, k, m, hC, hV, hS, hZ⟩ := h
  have stay : jInv (ad 0) q S σ := ⟨ad, C, ρ, Z, rfl, k.less (by omega), m, hC, hV, hS, hZ⟩
  have hO := k.1.2.2.2
  have hH := k.1.2.1
  have h32 := hC.1
  unfold f_X10_fits f_X11_fits
  rw [gR_s hO.1 hO.2.2.1, cs_s rfl, ck_t hH.1]
  rcases in_idx a (n := h_n C) (by omega) with ⟨h, hh, rfl, e⟩ | ⟨hn, e⟩
  · obtain ⟨x1, x2, x3, x4, x5, x6, x7, x8, x9⟩ := k.hd hh
    have hO15 := hO.2.2.2.2.2.2.2.2.2.2.2.2.2.2.2.1
    have hOt := hO.2.2.2.2.2.2.2.2.2.2.2.2.2.2.2.2
    have tq := (m.hi hh).ty
    obtain ⟨v, e1, e2⟩ := same_is hOt x9 hZ.2.2
    obtain ⟨v', f1, f2⟩ := mhand_is m.2.2.2 tq (by omega) x9.1
    rw [call_s (hnd_yes hH hh), cs_s rfl, call_s (m_hd_yes m.2.2.1 e), if_neg n10, gR_s hO.1 hO15, gR_s x1 x8, cs_s rfl, cs_s rfl, ck_t hOt.2.1, call_s e1, call_s f1]
    by_cases c : tyeq (z_m Z) (z_k Z) (z_r Z) (h_m C h) (h_k C h) (h_r C h)
    · rcases e2 with ⟨rfl, -⟩ | ⟨-, z⟩
      · rcases f2 with ⟨rfl, -⟩ | ⟨-, z⟩
        · rw [if_neg n10, if_neg n10]; exact ⟨_, _, _, rfl, rfl, stay⟩
        · exact absurd c z
      · exact absurd c z
    · rcases e2 with ⟨-, z⟩ | ⟨rfl, -⟩
      · exact absurd z c
      · rcases f2 with ⟨-, z⟩ | ⟨rfl, -⟩
        · exact absurd z c
        · obtain ⟨u, g1, g2⟩ := goto_is hOt x9 hZ (hC.2 h hh).1
          obtain ⟨u', i1, i2⟩ := mgoes_is m.2.2.2 tq (by omega) hZ (hC.2 h hh).1
          rw [if_pos rfl, if_pos rfl, gR_s hO.1 hO15, gR_s x1 x8, cs_s rfl, cs_s rfl, ck_t hOt.2.1, call_s g1, call_s i1]
          rcases g2 with ⟨rfl, z⟩ | ⟨rfl, z⟩
          · rcases i2 with ⟨rfl, y⟩ | ⟨rfl, y⟩
            · rw [if_neg n10, if_neg n10]; exact ⟨_, _, _, rfl, rfl, stay⟩
            · exact absurd z y
          · rcases i2 with ⟨rfl, y⟩ | ⟨rfl, y⟩
            · exact absurd y z
            · rw [if_pos rfl, if_pos rfl]; exact ⟨_, _, _, rfl, rfl, stay⟩
  · rw [call_s (hnd_no hH hn), cs_n, call_s (m_hd_no m.2.2.1 e), if_pos rfl]
    exact ⟨_, _, _, rfl, rfl, stay⟩
theorem may_is (h : cRw ad ρ S) {k : Int32} (hk : kindp k) (x : Int64) : ∃ v, f_X6_mayBe (ad 1) k x S = some (v, S) ∧ isIt v (mayp ρ k x) := by
  obtain ⟨j, hj, rfl⟩ := hk
  have h8 : nI j < 8 ↔ j < 8 := nI_ltI (a := j) (b := 8) (by omega) (by decide)
  by_cases c : j < 8
  · refine ⟨1, ?_, Or.inl ⟨rfl, Or.inl (h8.mpr c)⟩⟩
    unfold f_X6_mayBe
    rw [cP_s (show f_X2_isRow (nI j) = some 0 by unfold f_X2_isRow; rw [if_pos (h8.mpr c)]), if_pos rfl]
  · by_cases d : j = 16
    · subst d
      refine ⟨_, rows_any h x, ?_⟩
      by_cases e : x = -1 ∨ (0 ≤ x.toInt ∧ x.toInt < (e_R ρ : Int))
      · rw [if_pos e]
        exact Or.inl ⟨rfl, Or.inr (e.imp id (fun z => ⟨z, Or.inl rfl⟩))⟩
      · rw [if_neg e]
        exact Or.inr ⟨rfl, fun z => z.elim (fun y => absurd y (by decide)) (fun z => e (z.imp id (fun y => y.1)))⟩
    · have hl : lanep (nI (j - 8)) := ⟨j - 8, by omega, rfl⟩
      have e8 : (8 : Int32) + nI (j - 8) = nI j := by rw [show (8 : Int32) = nI 8 from rfl, nI_add]; congr 1; omega
      have e9 : nI j - 8 = nI (j - 8) := pk_sub (b := 8) (by omega)
      have n16 : ¬ nI j = 16 := fun z => d ((nI_eq (by omega) (by decide)).mp (show nI j = nI 16 from z))
      have := rows_may h hl x
      rw [e8] at this
      refine ⟨_, this, ?_⟩
      by_cases e : x = -1 ∨ ((0 ≤ x.toInt ∧ x.toInt < (e_R ρ : Int)) ∧ e_ln ρ (ix x) = nI (j - 8))
      · rw [if_pos e]
        exact Or.inl ⟨rfl, Or.inr (e.imp id (fun z => ⟨z.1, Or.inr (by rw [e9]; exact z.2)⟩))⟩
      · rw [if_neg e]
        refine Or.inr ⟨rfl, fun z => ?_⟩
        rcases z with y | y | ⟨y1, y2⟩
        · exact c (h8.mp y)
        · exact e (Or.inl y)
        · rcases y2 with y2 | y2
          · exact n16 y2
          · exact e (Or.inr ⟨y1, by rw [← e9]; exact y2⟩)
theorem val_is (w : mRw ρ σ) {k : Int32} (hk : kindp k) (x : Int64) : ∃ v, f_X11_isValue k x σ = some (v, σ) ∧ isIt v (mayp ρ k x) := by
  have h16 := w.2.1
  unfold f_X11_isValue
  by_cases c : k < 8
  · rw [if_pos c]; exact ⟨1, rfl, Or.inl ⟨rfl, Or.inl c⟩⟩
  rw [if_neg c]
  by_cases c1 : x = -1
  · rw [if_pos c1]; exact ⟨1, rfl, Or.inl ⟨rfl, Or.inr (Or.inl c1)⟩⟩
  rw [if_neg c1, call_s (m_isRow w x)]
  by_cases cx : 0 ≤ x.toInt ∧ x.toInt < (e_R ρ : Int)
  · obtain ⟨i1, i2⟩ := ix_nI cx (by omega)
    obtain ⟨r1, r2, r3, r4⟩ := w.2.2 _ i1
    rw [if_pos cx, if_neg n10]
    by_cases c16 : k = 16
    · rw [if_pos c16]; exact ⟨1, rfl, Or.inl ⟨rfl, Or.inr (Or.inr ⟨cx, Or.inl c16⟩)⟩⟩
    · rw [if_neg c16, i2, m_rI (n := 16) rfl (by omega) (by decide) r1]
      by_cases cl : e_ln ρ (ix x) = k - 8
      · rw [if_pos cl]; exact ⟨1, rfl, Or.inl ⟨rfl, Or.inr (Or.inr ⟨cx, Or.inr cl⟩)⟩⟩
      · rw [if_neg cl]; exact ⟨0, rfl, Or.inr ⟨rfl, fun z => z.elim c (fun z => z.elim c1 (fun z => z.2.elim c16 cl))⟩⟩
  · rw [if_neg cx, if_pos rfl]
    exact ⟨0, rfl, Or.inr ⟨rfl, fun z => z.elim c (fun z => z.elim c1 (fun z => cx z.1))⟩⟩
/-- a value by its bits, where it may be one -/
theorem bits_may {k : Int32} (hk : kindp k) {v : Int64} (h : mayp ρ k v) : ∃ r, f_X2_fromBits k v = some r ∧ f_X11_cast v k = some r ∧ okv ρ k r := by
  obtain ⟨r, e1, e2, e3, e4⟩ := bits_ok (ρ := ρ) v hk
  refine ⟨r, e1, e2, ?_⟩
  by_cases c : k < 8
  · exact e3 c
  · have c8 : 8 ≤ k := by rw [Int32.le_iff_toInt_le]; rw [Int32.lt_iff_toInt_lt] at c; omega
    rw [e4 c8]
    exact okv.row ρ c8 (h.resolve_left c)
theorem given_b (k : cI ad C ρ Z q S) (hZ : wfK (z_m Z) (z_k Z) (z_r Z)) : ∀ (n i : Nat), 6 ≤ n + i → i ≤ 4 → ∃ v, f_X10_givenRowsAreThere_b2 n (ad 0) (nI i) S = some (v, S) ∧ isIt v (∀ j, i ≤ j → j < z_m Z → mayp ρ (z_k Z j) (z_g Z j)) := by
  obtain ⟨o1, o2, o3, o4, o5, o6, o7, o8, o9, o10, o11, o12, o13, o14, o15, o16, o17⟩ := k.1.2.2.2
  have hR := k.1.2.2.1
  have hm := hZ.1
  intro n
  induction n with
  | zero => intro i h1 h2; omega
  | succ n ih =>
    intro i h1 h3
    rw [f_X10_givenRowsAreThere_b2.eq_2, gR_s o1 o16, cs_s rfl, gI_s o17.2.1 o17.2.2.2.1]
    by_cases c : z_m Z ≤ i
    · rw [if_pos (nI_le c (by omega))]
      exact ⟨1, rfl, Or.inl ⟨rfl, fun j _ _ => by omega⟩⟩
    · obtain ⟨v, e1, e2⟩ := may_is hR (hZ.2.2 i (by omega)) (z_g Z i)
      rw [if_neg (nI_ge (by omega) (by omega)), gR_s o1 o6, cs_s rfl, len_s o10 o11, if_neg (nI_ge (by omega) (by decide)), gR_s o1 o2, gR_s o1 o16, cs_s rfl, cs_s rfl, ck_t o17.2.1, call_s (kind_yes o17 (by omega)), gR_s o1 o6, cs_s rfl, rL_s o10 o11 rfl (by omega) (by decide) (o13 i (by omega)), ck_t hR.1, call_s e1]
      rcases e2 with ⟨rfl, e2⟩ | ⟨rfl, e2⟩
      · rw [if_neg n10, o_l, nI_1]
        obtain ⟨v, f1, f2⟩ := ih (i + 1) (by omega) (by omega)
        refine ⟨v, f1, f2.iff ⟨fun z j h4 h5 => ?_, fun z j h4 h5 => z j (by omega) h5⟩⟩
        by_cases f : j = i
        · subst f; exact e2
        · exact z j (by omega) h5
      · rw [if_pos rfl]
        exact ⟨0, rfl, Or.inr ⟨rfl, fun z => e2 (z i (Nat.le_refl _) (by omega))⟩⟩
theorem over_b {h : Nat} {P : Nat → Int64} (hZ : wfK (z_m Z) (z_k Z) (z_r Z)) (hh : h < h_n C) (hm' : z_m Z = h_m C h) (hP : ∀ j, j < z_m Z → ∃ w, f_X2_fromBits (z_k Z j) (z_g Z j) = some w ∧ f_X2_widened (z_k Z j) (h_k C h j) w = some (P j)) :
    ∀ (n i : Nat) (S : wS), 6 ≤ n + i → i ≤ 4 → cI ad C ρ Z q S → ∃ g, f_X10_handOverNumbers_b2 n (ad 0) (ad (2 * h + 21)) (nI i) S = some ((), s_fr S (ad 7) g) ∧ (∀ j, i ≤ j → j < z_m Z → g j = P j) ∧ ∀ j, j < i → g j = s_aL S (ad 7) j := by
  have hm := hZ.1
  intro n
  induction n with
  | zero => intro i S h1 h2; omega
  | succ n ih =>
    intro i S h1 h3 k
    obtain ⟨o1, o2, o3, o4, o5, o6, o7, o8, o9, o10, o11, o12, o13, o14, o15, o16, o17⟩ := k.1.2.2.2
    obtain ⟨x1, x2, x3, x4, x5, x6, x7, x8, x9⟩ := k.hd hh
    rw [f_X10_handOverNumbers_b2.eq_2, gR_s o1 o16, cs_s rfl, gI_s o17.2.1 o17.2.2.2.1]
    by_cases c : z_m Z ≤ i
    · rw [if_pos (nI_le c (by omega))]
      exact ⟨s_aL S (ad 7), by rw [fr_self], fun j _ _ => by omega, fun _ _ => rfl⟩
    · obtain ⟨w, w1, w2⟩ := hP i (by omega)
      have u := run_hand k (d := 0) (j := i) (by decide) (by omega) (P i)
      rw [if_neg (nI_ge (by omega) (by omega)), gR_s o1 o6, cs_s rfl, len_s o10 o11, if_neg (nI_ge (by omega) (by decide)), gR_s o1 o16, cs_s rfl, ck_t o17.2.1, call_s (kind_yes o17 (by omega)), gR_s o1 o6, cs_s rfl, rL_s o10 o11 rfl (by omega) (by decide) (o13 i (by omega)), cP_s w1, gR_s o1 o5, cs_s rfl, ck_t x9.2.1, call_s (kind_yes x9 (by omega)), cP_s w2, ck_t k.2.1, call_s (show f_X7_hand (ad 6) 0 (nI i) (P i) S = _ from u), o_l, nI_1]
      obtain ⟨g, e1, e2, e3⟩ := ih (i + 1) _ (by omega) (by omega) (k.fr _)
      refine ⟨g, by rw [e1, fr_fr], fun j h4 h5 => ?_, fun j hj => ?_⟩
      · by_cases d : j = i
        · subst d
          rw [e3 _ (by omega), fr_at, if_pos (by omega)]
        · exact e2 j (by omega) h5
      · rw [e3 j (by omega), fr_at, if_neg (by omega)]
theorem cI.runs (k : cI ad C ρ Z q S) (v : Int32) : cI ad C ρ ((z_v Z, v), Z.2) q (s_pI S 14 (ad 0) v) := by
  obtain ⟨⟨h1, h2, h3, ⟨o1, o2, o3, o4, o5, o6, o7, o8, o9, o10, o11, o12, o13, o14, o15, o16⟩⟩, h5⟩ := k
  refine ⟨⟨h1, h2, h3, ⟨o1, o2, o3, o4, o5, o6, o7, o8, o9, o10, o11, o12, o13, o14, ?_, o16⟩⟩, h5⟩
  show (if 14 = 14 ∧ ad 0 = ad 0 then v else _) = v; simp
theorem cI.value (k : cI ad C ρ Z q S) (v : Int64) : cI ad C ρ ((v, z_n Z), Z.2) q (s_pL S 1 (ad 0) v) := by
  obtain ⟨⟨h1, h2, h3, ⟨o1, o2, o3, o4, o5, o6, o7, o8, o9, o10, o11, o12, o13, o14, o15⟩⟩, h5⟩ := k
  refine ⟨⟨h1, h2, h3, ⟨o1, o2, o3, o4, o5, o6, o7, o8, o9, o10, o11, o12, o13, ?_, o15⟩⟩, h5⟩
  show (if 1 = 1 ∧ ad 0 = ad 0 then v else _) = v; simp
theorem cI.forget (k : cI ad C ρ Z q S) : ∃ S1, f_X7_forget (ad 6) S = some ((), S1) ∧ cI ad C (e_zero ρ) Z q S1 ∧ s_I S1 11 (ad 6) = 0 := by
  obtain ⟨hJ, r1, r2, r3, r4, r5, r6, r7, r8, r9⟩ := k
  unfold f_X7_forget
  rw [pI_s r1, pI_s (show s_K (s_pI S 8 (ad 6) 0) (ad 6) = 7 from r1), pI_s (show s_K (s_pI (s_pI S 8 (ad 6) 0) 9 (ad 6) 0) (ad 6) = 7 from r1), pI_s (show s_K (s_pI (s_pI (s_pI S 8 (ad 6) 0) 9 (ad 6) 0) 10 (ad 6) (-1)) (ad 6) = 7 from r1)]
  have hJ2 : cJ ad C ρ Z q (s_pI (s_pI (s_pI (s_pI S 8 (ad 6) 0) 9 (ad 6) 0) 10 (ad 6) (-1)) 11 (ad 6) 0) := cJ.pI (by simp) (cJ.pI (by simp) (cJ.pI (by simp) (cJ.pI (by simp) hJ)))
  refine ⟨_, rfl, ⟨hJ2, ⟨r1, r2, r3, r4, r5, r6, ?_, ?_, ?_⟩⟩, ?_⟩
  · show (if 8 = 8 ∧ ad 6 = ad 6 then (0 : Int32) else _) = 0; simp
  · show (if 9 = 9 ∧ ad 6 = ad 6 then (0 : Int32) else _) = 0; simp
  · show (if 10 = 10 ∧ ad 6 = ad 6 then (-1 : Int32) else _) = -1; simp
  · show (if 11 = 11 ∧ ad 6 = ad 6 then (0 : Int32) else _) = 0; simp
end FACE2
