/-! the reference does what reckons nothing by others -/
theorem cU {P : mS → Prop} {res : Option (Unit × mS)} (h : ∃ τ, res = some ((), τ) ∧ P τ) : ∃ τ, o_call res (fun _ S => some ((), S)) = some ((), τ) ∧ P τ := by
  obtain ⟨τ, e, hP⟩ := h
  exact ⟨τ, by rw [e]; rfl, hP⟩
theorem in_is {x lo hi : Int64} : f_X11_in x lo hi = some (if lo ≤ x ∧ x ≤ hi then 1 else 0) := by
  unfold f_X11_in
  by_cases c1 : x < lo
  · rw [if_pos c1, if_neg (fun z => by have h1 := z.1; rw [Int64.le_iff_toInt_le] at h1; rw [Int64.lt_iff_toInt_lt] at c1; omega)]
  rw [if_neg c1]
  by_cases c2 : hi < x
  · rw [if_pos c2, if_neg (fun z => by have h1 := z.2; rw [Int64.le_iff_toInt_le] at h1; rw [Int64.lt_iff_toInt_lt] at c2; omega)]
  · rw [if_neg c2, if_pos]
    rw [Int64.lt_iff_toInt_lt] at c1 c2
    exact ⟨Int64.le_iff_toInt_le.mpr (by omega), Int64.le_iff_toInt_le.mpr (by omega)⟩
theorem in_n {x : Int64} {n : Nat} (hn : n < 2 ^ 30) : f_X11_in x 0 (((nI n - (1 : Int32))).toInt64) = some (if 0 ≤ x.toInt ∧ x.toInt < (n : Int) then 1 else 0) := by
  rw [in_is]
  congr 1
  have e : ((nI n - (1 : Int32)).toInt64).toInt = (n : Int) - 1 := by rw [Int32.toInt_toInt64]; exact pk_sub_toInt (b := 1) hn (by decide)
  have h : (0 ≤ x ∧ x ≤ ((nI n - (1 : Int32)).toInt64)) ↔ (0 ≤ x.toInt ∧ x.toInt < (n : Int)) := by
    rw [Int64.le_iff_toInt_le, Int64.le_iff_toInt_le, e, show (0 : Int64).toInt = 0 by decide]
    constructor <;> intro z <;> exact ⟨z.1, by omega⟩
  by_cases c : 0 ≤ x.toInt ∧ x.toInt < (n : Int)
  · rw [if_pos c, if_pos (h.mpr c)]
  · rw [if_neg c, if_neg (fun z => c (h.mp z))]
theorem m1_no {n : Int} : ¬ (0 ≤ (-1 : Int64).toInt ∧ (-1 : Int64).toInt < n) := fun z => absurd z.1 (by decide)
section MACT
variable {C : hS} {ρ : eS} {Z : zS} {σ : mS} {δ h : Nat} {p : Nat → Int64} {x y w : Int64}
theorem ix_nI {y : Int64} {z : Nat} (hy : 0 ≤ y.toInt ∧ y.toInt < (z : Int)) (hz : z ≤ 2 ^ 31) : ix y < z ∧ y.toInt32 = nI (ix y) := by
  refine ⟨by show y.toInt.toNat < z; omega, ?_⟩
  have c : ¬ y < 0 := by rw [Int64.lt_iff_toInt_lt, show (0 : Int64).toInt = 0 by decide]; omega
  obtain ⟨k, hk, rfl⟩ := pk_lOf c
  rw [lN_i]
  congr 1
  show k = (lN k).toInt.toNat
  rw [pk_lT hk]; rfl
theorem mRw.item (hw : mRw ρ σ) {i j : Nat} (hi : i < e_R ρ) (hj : j < e_sz ρ i) (v : Int64) : mRw (e_set ρ i j v) (m_wL σ 15 (8 * i + j) v) := by
  obtain ⟨h1, h2, h3⟩ := hw
  refine ⟨h1, h2, fun a ha => ?_⟩
  obtain ⟨r1, r2, r3, r4⟩ := h3 a ha
  refine ⟨r1, r2, r3, fun b hb => ?_⟩
  show (if 15 = 15 ∧ 8 * a + b = 8 * i + j then v else m_aL σ 15 (8 * a + b)) = (if a = i ∧ b = j then v else e_it ρ a b)
  have r3' := (h3 i hi).2.2.1
  have hb' : b < e_sz ρ a := hb
  by_cases c : a = i ∧ b = j
  · rw [if_pos c, if_pos ⟨rfl, by rw [c.1, c.2]⟩]
  · rw [if_neg c, if_neg (fun z => c (by have := z.2; omega))]
    exact r4 b hb
theorem m_reads (m : mR C ρ Z σ) (h7 : m_I σ 7 = nI (δ + 1)) (hδ : δ ≤ 32) (hF : e_F ρ ≤ 24) (hk : m_aI σ 11 δ = nI h) {q : Int32} (hx : x = -1 ∨ (0 ≤ x.toInt ∧ x.toInt < (e_R ρ : Int))) (p0 : m_aL σ 18 (4 * δ) = x) (p1 : m_aL σ 18 (4 * δ + 1) = y) : ∃ τ, f_X11_reads q 0 σ = some ((), τ) ∧ mPop C Z δ σ (tr_rd h x y ρ) τ := by
  unfold f_X11_reads tr_rd
  rw [m_gI h7, nI_pred, show (4 : Int32) = nI 4 from rfl, pk_mul, m_rL (n := 132) rfl (by omega) (by decide) p0]
  by_cases c1 : x = -1
  · rw [if_pos c1, if_neg (by rw [c1]; exact m1_no)]
    exact cU (m_fail m h7 hδ hF hk (by decide))
  have cx := hx.resolve_left c1
  obtain ⟨⟨w1, w2, w3⟩, -⟩ := id m
  obtain ⟨i1, i2⟩ := ix_nI cx (by omega)
  obtain ⟨r1, r2, r3, r4⟩ := w3 _ i1
  rw [if_neg c1, if_pos cx, m_rL (n := 132) (nI_1 _) (by omega) (by decide) p1, i2, m_rI (n := 16) rfl (by omega) (by decide) r2, in_n (by omega)]
  by_cases c2 : 0 ≤ y.toInt ∧ y.toInt < (e_sz ρ (ix x) : Int)
  · obtain ⟨j1, j2⟩ := ix_nI c2 (by omega)
    rw [if_pos c2, if_pos c2, cP_s rfl, if_neg (by decide), m_rL (n := 132) (nI_1 _) (by omega) (by decide) p1, j2, show (8 : Int32) = nI 8 from rfl, pk_mul, nI_add, m_rL (n := 128) rfl (by omega) (by decide) (r4 _ j1), if_pos rfl, m_uL (n := 128) rfl (by omega) (by decide)]
    have e : m_wL σ 15 (8 * ix x + ix y) (e_it ρ (ix x) (ix y)) = σ := by rw [← r4 _ j1]; exact mwL_self σ 15 _
    rw [e]
    exact cU (m_end m h7 _)
  · rw [if_neg c2, if_neg c2, cP_s rfl, if_pos rfl]
    exact cU (m_fail m h7 hδ hF hk (by decide))
theorem m_writes (m : mR C ρ Z σ) (h7 : m_I σ 7 = nI (δ + 1)) (hδ : δ ≤ 32) (hF : e_F ρ ≤ 24) (hk : m_aI σ 11 δ = nI h) {q : Int32} (hx : x = -1 ∨ (0 ≤ x.toInt ∧ x.toInt < (e_R ρ : Int))) (p0 : m_aL σ 18 (4 * δ) = x) (p1 : m_aL σ 18 (4 * δ + 1) = y) (p2 : m_aL σ 18 (4 * δ + 2) = w) : ∃ τ, f_X11_reads q 1 σ = some ((), τ) ∧ mPop C Z δ σ (tr_wr h x y w ρ) τ := by
  unfold f_X11_reads tr_wr
  rw [m_gI h7, nI_pred, show (4 : Int32) = nI 4 from rfl, pk_mul, m_rL (n := 132) rfl (by omega) (by decide) p0]
  by_cases c1 : x = -1
  · rw [if_pos c1, if_neg (by rw [c1]; exact m1_no)]
    exact cU (m_fail m h7 hδ hF hk (by decide))
  have cx := hx.resolve_left c1
  obtain ⟨⟨w1, w2, w3⟩, m2⟩ := id m
  obtain ⟨i1, i2⟩ := ix_nI cx (by omega)
  obtain ⟨r1, r2, r3, r4⟩ := w3 _ i1
  rw [if_neg c1, if_pos cx, m_rL (n := 132) (nI_1 _) (by omega) (by decide) p1, i2, m_rI (n := 16) rfl (by omega) (by decide) r2, in_n (by omega)]
  by_cases c2 : 0 ≤ y.toInt ∧ y.toInt < (e_sz ρ (ix x) : Int)
  · obtain ⟨j1, j2⟩ := ix_nI c2 (by omega)
    rw [if_pos c2, if_pos c2, cP_s rfl, if_neg (by decide), m_rL (n := 132) (nI_1 _) (by omega) (by decide) p1, j2, show (8 : Int32) = nI 8 from rfl, pk_mul, nI_add, m_rL (n := 128) rfl (by omega) (by decide) (r4 _ j1), if_neg (by decide), m_rL (n := 132) (show nI (4 * δ) + (2 : Int32) = nI (4 * δ + 2) from nI_add _ 2) (by omega) (by decide) p2, m_uL (n := 128) rfl (by omega) (by decide)]
    have hw := mRw.item ⟨w1, w2, w3⟩ i1 j1 w
    obtain ⟨τ, e1, e2⟩ := m_end (C := C) (ρ := e_set ρ (ix x) (ix y) w) (Z := Z) (σ := m_wL σ 15 (8 * ix x + ix y) w) ⟨hw, m2⟩ h7 (e_it ρ (ix x) (ix y))
    exact ⟨τ, by rw [call_s e1], e2⟩
  · rw [if_neg c2, if_neg c2, cP_s rfl, if_pos rfl]
    exact cU (m_fail m h7 hδ hF hk (by decide))
theorem m_fresh_b {R : Nat} (hR : R < 16) : ∀ (n i : Nat) (σ : mS), 9 ≤ n + i → i ≤ 8 → m_I σ 0 = nI R → ∃ g, f_X11_freshRow_b22 n (nI i) σ = some (nI R, m_pI (m_f σ 15 g) 0 (nI (R + 1))) ∧ (∀ j, i ≤ j → j < 8 → g (8 * R + j) = 0) ∧ ∀ q, q < 8 * R + i → g q = m_aL σ 15 q := by
  intro n
  induction n with
  | zero => intro i σ h1 h2; omega
  | succ n ih =>
    intro i σ h1 h2 h0
    rw [f_X11_freshRow_b22.eq_2]
    by_cases c : 8 ≤ i
    · refine ⟨m_aL σ 15, ?_, fun j _ _ => by omega, fun _ _ => rfl⟩
      rw [if_pos (show (8 : Int32) ≤ nI i from nI_le (a := 8) c (by omega)), m_gI h0, nI_1, mf_self, o_l, m_gI (show m_I (m_pI σ 0 (nI (R + 1))) 0 = nI (R + 1) from rfl), nI_pred]
    · rw [if_neg (show ¬ (8 : Int32) ≤ nI i from nI_ge (a := i) (b := 8) (by omega) (by decide)), m_gI h0, m_uL (n := 128) (i := 8 * R + i) (by rw [show (8 : Int32) = nI 8 from rfl, pk_mul, nI_add]) (by omega) (by decide), o_l, nI_1, mf_wL]
      obtain ⟨g, e1, e2, e3⟩ := ih (i + 1) (m_f σ 15 (fun j => if j = 8 * R + i then 0 else m_aL σ 15 j)) (by omega) (by omega) h0
      refine ⟨g, by rw [e1, mf_mf], fun j h3 h4 => ?_, fun q hq => ?_⟩
      · by_cases d : j = i
        · subst d
          rw [e3 _ (by omega), mf_at, if_pos rfl]
        · exact e2 j (by omega) h4
      · rw [e3 q (by omega), mf_at, if_neg (by omega)]
theorem m_fresh (m : mR C ρ Z σ) (hR : e_R ρ < 16) {a : Int32} {n : Nat} (hn : n ≤ 8) : ∃ τ, f_X11_freshRow a (nI n) σ = some (nI (e_R ρ), τ) ∧ mR C (e_new ρ a n) Z τ ∧ m_I τ 7 = m_I σ 7 ∧ ∀ δ, mFr δ σ τ := by
  obtain ⟨⟨w1, w2, w3⟩, m2⟩ := id m
  unfold f_X11_freshRow
  rw [m_gI w1, m_uI (n := 16) rfl hR (by decide), m_gI (show m_I (m_wI σ 1 (e_R ρ) a) 0 = nI (e_R ρ) from w1), m_uI (n := 16) rfl hR (by decide)]
  obtain ⟨g, e1, e2, e3⟩ := m_fresh_b hR 12 0 (m_wI (m_wI σ 1 (e_R ρ) a) 2 (e_R ρ) (nI n)) (by omega) (by omega) w1
  refine ⟨_, e1, ⟨⟨rfl, by show e_R ρ + 1 ≤ 16; omega, fun i hi => ?_⟩, m2⟩, rfl, fun δ => mFr.refl δ σ⟩
  have hi2 : i < e_R ρ + 1 := hi
  by_cases c : i = e_R ρ
  · subst c
    have z2 : e_sz (e_new ρ a n) (e_R ρ) = n := if_pos rfl
    have z3 : e_ln (e_new ρ a n) (e_R ρ) = a := if_pos rfl
    refine ⟨?_, ?_, by rw [z2]; exact hn, fun j hj => ?_⟩
    · rw [z3]; show (if 1 = 1 ∧ e_R ρ = e_R ρ then a else _) = a; simp
    · rw [z2]; show (if 2 = 2 ∧ e_R ρ = e_R ρ then nI n else _) = nI n; simp
    · rw [z2] at hj
      show m_aL (m_f _ 15 g) 15 (8 * e_R ρ + j) = (if e_R ρ = e_R ρ then 0 else _)
      rw [mf_at, e2 j (by omega) (by omega), if_pos rfl]
  · obtain ⟨r1, r2, r3, r4⟩ := w3 i (by omega)
    have z2 : e_sz (e_new ρ a n) i = e_sz ρ i := if_neg c
    have z3 : e_ln (e_new ρ a n) i = e_ln ρ i := if_neg c
    refine ⟨?_, ?_, by rw [z2]; exact r3, fun j hj => ?_⟩
    · rw [z3]; show (if 1 = 1 ∧ i = e_R ρ then a else _) = _; rw [if_neg (fun z => c z.2)]; exact r1
    · rw [z2]; show (if 2 = 2 ∧ i = e_R ρ then nI n else _) = _; rw [if_neg (fun z => c z.2)]; exact r2
    · rw [z2] at hj
      show m_aL (m_f _ 15 g) 15 (8 * i + j) = (if i = e_R ρ then 0 else e_it ρ i j)
      rw [mf_at, e3 _ (by omega), if_neg c]; exact r4 j hj
/-- sums, quotients, comparisons -/
theorem m_reckons (hC : wfC C) (hh : h < h_n C) (hS : okS ρ) (m : mR C ρ Z σ) (h7 : m_I σ 7 = nI (δ + 1)) (hδ : δ ≤ 32) (hk : m_aI σ 11 δ = nI h) (hn : nump (h_a C h)) (vx : okv ρ (h_a C h) x) (vy : okv ρ (h_a C h) y) (p0 : m_aL σ 18 (4 * δ) = x) (p1 : m_aL σ 18 (4 * δ + 1) = y)
    {o : eO} (ho : (h_so C h = 6 ∧ o = t_sum (h_a C h) x y ρ) ∨ (h_so C h = 7 ∧ o = t_quo h (h_a C h) x y ρ) ∨ (h_so C h = 8 ∧ o = t_abv (h_a C h) x y ρ)) : ∃ τ, f_X11_reckons (nI h) σ = some ((), τ) ∧ mPop C Z δ σ o τ := by
  have h32 := hC.1
  have hF := hS.2.2.1
  obtain ⟨q4, q5, q6, q7, q8, q9, q10, q11⟩ := m.hi hh
  have sum : ∀ r, h_so C h = 6 → f_X7_sum (h_a C h) x y = some r → o = e_ret r ρ := fun r e1 e2 => by
    rcases ho with ⟨-, z⟩ | ⟨e, -⟩ | ⟨e, -⟩
    · rw [z]; unfold t_sum; rw [e2]; rfl
    · rw [e1] at e; exact absurd e (by decide)
    · rw [e1] at e; exact absurd e (by decide)
  have quo : h_so C h = 7 → o = t_quo h (h_a C h) x y ρ := fun e1 => by
    rcases ho with ⟨e, -⟩ | ⟨-, z⟩ | ⟨e, -⟩
    · rw [e1] at e; exact absurd e (by decide)
    · exact z
    · rw [e1] at e; exact absurd e (by decide)
  have abv : ∀ r, h_so C h = 8 → f_X7_isAbove (h_a C h) x y = some r → o = e_ret (if r = 0 then 0 else 1) ρ := fun r e1 e2 => by
    rcases ho with ⟨e, -⟩ | ⟨e, -⟩ | ⟨-, z⟩
    · rw [e1] at e; exact absurd e (by decide)
    · rw [e1] at e; exact absurd e (by decide)
    · rw [z]; unfold t_abv; rw [e2]; rfl
  have ret : ∀ r v, v = r → o = e_ret r ρ → ∃ τ, o_call (f_X11_end v σ) (fun _ S => some ((), S)) = some ((), τ) ∧ mPop C Z δ σ o τ := fun r v e1 e2 => by
    rw [e1, e2]; exact cU (m_end m h7 r)
  unfold f_X11_reckons
  rw [m_gI h7, nI_pred, show (4 : Int32) * nI δ = nI (4 * δ) from pk_mul 4 δ, m_rL (n := 132) rfl (by omega) (by decide) p0, m_rL (n := 132) (nI_1 _) (by omega) (by decide) p1, m_rI (n := 32) rfl (by omega) (by decide) q5]
  rcases hn with ha | ha | ha | ha
  · rw [ha] at vx vy sum quo abv ⊢
    rw [if_pos (by decide)]
    unfold f_X11_reckons_b91
    rw [m_rI (n := 32) rfl (by omega) (by decide) q4]
    by_cases c6 : h_so C h = 6
    · rw [if_pos c6, if_pos rfl]
      exact ret _ _ rfl (sum _ c6 rfl)
    rw [if_neg c6, m_rI (n := 32) rfl (by omega) (by decide) q4]
    by_cases c8 : h_so C h = 8
    · rw [if_pos c8, if_neg (by decide)]
      by_cases cl : x ≤ y
      · rw [if_pos cl]; exact ret _ _ rfl (abv 0 c8 (by show (if x ≤ y then (some 0 : Option Int32) else some 1) = some 0; rw [if_pos cl]))
      · rw [if_neg cl]; exact ret _ _ rfl (abv 1 c8 (by show (if x ≤ y then (some 0 : Option Int32) else some 1) = some 1; rw [if_neg cl]))
    have c7 : h_so C h = 7 := by
      rcases ho with ⟨e, -⟩ | ⟨e, -⟩ | ⟨e, -⟩
      · exact absurd e c6
      · exact e
      · exact absurd e c8
    rw [if_neg c8, if_pos (by decide)]
    have ho := quo c7
    unfold t_quo at ho
    rw [if_neg (by decide), if_neg (by decide)] at ho
    by_cases c0 : y = 0
    · rw [if_pos c0] at ho ⊢
      rw [ho]; exact cU (m_fail m h7 hδ hF hk (by decide))
    · rw [if_neg c0] at ho ⊢
      rw [if_pos rfl, ck_t c0]
      exact ret _ _ rfl (ho.trans (by rw [if_pos rfl]))
  · rw [ha] at vx vy sum quo abv ⊢
    rw [if_pos (by decide)]
    unfold f_X11_reckons_b91
    rw [m_rI (n := 32) rfl (by omega) (by decide) q4]
    by_cases c6 : h_so C h = 6
    · rw [if_pos c6, if_neg (by decide), if_pos rfl]
      exact ret _ _ rfl (sum _ c6 rfl)
    rw [if_neg c6, m_rI (n := 32) rfl (by omega) (by decide) q4]
    by_cases c8 : h_so C h = 8
    · rw [if_pos c8, if_neg (by decide)]
      by_cases cl : x ≤ y
      · rw [if_pos cl]; exact ret _ _ rfl (abv 0 c8 (by show (if x ≤ y then (some 0 : Option Int32) else some 1) = some 0; rw [if_pos cl]))
      · rw [if_neg cl]; exact ret _ _ rfl (abv 1 c8 (by show (if x ≤ y then (some 0 : Option Int32) else some 1) = some 1; rw [if_neg cl]))
    have c7 : h_so C h = 7 := by
      rcases ho with ⟨e, -⟩ | ⟨e, -⟩ | ⟨e, -⟩
      · exact absurd e c6
      · exact e
      · exact absurd e c8
    rw [if_neg c8, if_pos (by decide)]
    have ho := quo c7
    unfold t_quo at ho
    rw [if_neg (by decide), if_neg (by decide)] at ho
    by_cases c0 : y = 0
    · rw [if_pos c0] at ho ⊢
      rw [ho]; exact cU (m_fail m h7 hδ hF hk (by decide))
    · rw [if_neg c0] at ho ⊢
      rw [if_neg (by decide), ck_t c0]
      exact ret _ _ rfl (ho.trans (by rw [if_neg (by decide)]))
  · rw [ha] at vx vy sum quo abv ⊢
    rw [if_neg (by decide), m_rI (n := 32) rfl (by omega) (by decide) q4]
    by_cases c8 : h_so C h = 8
    · rw [if_pos c8]
      unfold f_X11_reckons_b91
      rw [m_rI (n := 32) rfl (by omega) (by decide) q4, if_neg (by rw [c8]; decide), m_rI (n := 32) rfl (by omega) (by decide) q4, if_pos c8, if_pos (by decide), if_pos rfl]
      obtain ⟨r, f1, f2, a, b, f3, f4, f5⟩ := fb_above (vx.2.1 rfl) (vy.2.1 rfl)
      have hr : f_X7_isAbove 6 x y = some r := by
        show o_cP (f_X4_isAbove 0 x y) (fun x1 => o_ck (x1 = 0 ∨ x1 = 1) (some x1)) = some r
        rw [f1]; show o_ck (r = 0 ∨ r = 1) (some r) = _; unfold o_ck; rw [if_pos f2]
      rw [cP_s f3, cP_s f4]
      by_cases cr : r = 0
      · rw [if_pos (f5.mpr cr)]; exact ret _ _ rfl ((abv r c8 hr).trans (by rw [if_pos cr]))
      · rw [if_neg (fun z => cr (f5.mp z))]; exact ret _ _ rfl ((abv r c8 hr).trans (by rw [if_neg cr]))
    rw [if_neg c8, m_rI (n := 32) rfl (by omega) (by decide) q4]
    by_cases c6 : h_so C h = 6
    · rw [if_pos c6]
      obtain ⟨r, f1, f2, f3⟩ := fb_sum (vx.2.1 rfl) (vy.2.1 rfl)
      have hr : f_X7_sum 6 x y = some r := by
        show o_cP (f_X4_sumOf 0 x y) (fun x1 => some x1) = some r
        rw [f1]; rfl
      rcases f3 with ⟨g1, g2⟩ | ⟨g1, a, b, g2, g3, g4, z, g5, g6⟩
      · rw [cP_s g1, if_neg (by decide), cP_s g2]
        exact ret _ _ rfl (sum r c6 hr)
      · rw [cP_s g1, if_pos rfl]
        unfold f_X11_reckons_b91
        rw [m_rI (n := 32) rfl (by omega) (by decide) q4, if_pos c6, if_neg (by decide), if_neg (by decide), if_pos rfl, cP_s g2, cP_s g3, ck_t g4, cP_s g5]
        exact ret _ _ g6 (sum r c6 hr)
    · have c7 : h_so C h = 7 := by
        rcases ho with ⟨e, -⟩ | ⟨e, -⟩ | ⟨e, -⟩
        · exact absurd e c6
        · exact e
        · exact absurd e c8
      rw [if_neg c6]
      have ho := quo c7
      unfold t_quo at ho
      rw [if_pos rfl] at ho
      obtain ⟨r, f1, f2, f3⟩ := fb_quot (vx.2.1 rfl) (vy.2.1 rfl)
      rw [f1] at ho
      rcases f3 with ⟨g1, g2⟩ | ⟨g1, a, b, g2, g3, g4, z, g5, g6⟩
      · rw [cP_s g1, if_neg (by decide), cP_s g2]
        exact ret _ _ rfl ho
      · rw [cP_s g1, if_pos rfl]
        unfold f_X11_reckons_b91
        rw [m_rI (n := 32) rfl (by omega) (by decide) q4, if_neg c6, m_rI (n := 32) rfl (by omega) (by decide) q4, if_neg c8, if_neg (by decide), if_pos rfl, cP_s g2, cP_s g3, ck_t g4, cP_s g5]
        exact ret _ _ g6 ho
  · rw [ha] at vx vy sum quo abv ⊢
    rw [if_neg (by decide), m_rI (n := 32) rfl (by omega) (by decide) q4]
    by_cases c8 : h_so C h = 8
    · rw [if_pos c8]
      unfold f_X11_reckons_b91
      rw [m_rI (n := 32) rfl (by omega) (by decide) q4, if_neg (by rw [c8]; decide), m_rI (n := 32) rfl (by omega) (by decide) q4, if_pos c8, if_pos (by decide), if_neg (by decide)]
      obtain ⟨r, f1, f2, a, b, f3, f4, f5⟩ := db_above (vx.2.2.1 rfl) (vy.2.2.1 rfl)
      have hr : f_X7_isAbove 7 x y = some r := by
        show o_cP (f_X4_isAbove 1 x y) (fun x1 => o_ck (x1 = 0 ∨ x1 = 1) (some x1)) = some r
        rw [f1]; show o_ck (r = 0 ∨ r = 1) (some r) = _; unfold o_ck; rw [if_pos f2]
      rw [cP_s f3, cP_s f4]
      by_cases cr : r = 0
      · rw [if_pos (f5.mpr cr)]; exact ret _ _ rfl ((abv r c8 hr).trans (by rw [if_pos cr]))
      · rw [if_neg (fun z => cr (f5.mp z))]; exact ret _ _ rfl ((abv r c8 hr).trans (by rw [if_neg cr]))
    rw [if_neg c8, m_rI (n := 32) rfl (by omega) (by decide) q4]
    by_cases c6 : h_so C h = 6
    · rw [if_pos c6]
      obtain ⟨r, f1, f2, f3⟩ := db_sum (vx.2.2.1 rfl) (vy.2.2.1 rfl)
      have hr : f_X7_sum 7 x y = some r := by
        show o_cP (f_X4_sumOf 1 x y) (fun x1 => some x1) = some r
        rw [f1]; rfl
      rcases f3 with ⟨g1, g2⟩ | ⟨g1, a, b, g2, g3, g4, z, g5, g6⟩
      · rw [cP_s g1, if_neg (by decide), cP_s g2]
        exact ret _ _ rfl (sum r c6 hr)
      · rw [cP_s g1, if_pos rfl]
        unfold f_X11_reckons_b91
        rw [m_rI (n := 32) rfl (by omega) (by decide) q4, if_pos c6, if_neg (by decide), if_neg (by decide), if_neg (by decide), cP_s g2, cP_s g3, ck_t g4, cP_s g5]
        exact ret _ _ g6 (sum r c6 hr)
    · have c7 : h_so C h = 7 := by
        rcases ho with ⟨e, -⟩ | ⟨e, -⟩ | ⟨e, -⟩
        · exact absurd e c6
        · exact e
        · exact absurd e c8
      rw [if_neg c6]
      have ho := quo c7
      unfold t_quo at ho
      rw [if_neg (by decide), if_pos rfl] at ho
      obtain ⟨r, f1, f2, f3⟩ := db_quot (vx.2.2.1 rfl) (vy.2.2.1 rfl)
      rw [f1] at ho
      rcases f3 with ⟨g1, g2⟩ | ⟨g1, a, b, g2, g3, g4, z, g5, g6⟩
      · rw [cP_s g1, if_neg (by decide), cP_s g2]
        exact ret _ _ rfl ho
      · rw [cP_s g1, if_pos rfl]
        unfold f_X11_reckons_b91
        rw [m_rI (n := 32) rfl (by omega) (by decide) q4, if_neg c6, m_rI (n := 32) rfl (by omega) (by decide) q4, if_neg c8, if_neg (by decide), if_neg (by decide), cP_s g2, cP_s g3, ck_t g4, cP_s g5]
        exact ret _ _ g6 ho
/-- those of sorts 0 to 10 -/
theorem m_acts (hC : wfC C) (hh : h < h_n C) (hS : okS ρ) (hp : okA C h ρ p) (m : mR C ρ Z σ) (h7 : m_I σ 7 = nI (δ + 1)) (hδ : δ ≤ 32) (hk : m_aI σ 11 δ = nI h) (hq : ∀ j, j < h_m C h → m_aL σ 18 (4 * δ + j) = p j) {P : eP} (hs10 : h_so C h ≤ 10) :
    ∃ τ, f_X11_acts (nI h) σ = some ((), τ) ∧ mPop C Z δ σ (e_act C P h p ρ) τ := by
  have h32 := hC.1
  obtain ⟨⟨hm4, hkr, hkk⟩, hw⟩ := hC.2 h hh
  obtain ⟨q4, q5, q6, q7, q8, q9, q10, q11⟩ := m.hi hh
  obtain ⟨⟨w1', w2', w3'⟩, -⟩ := id m
  have hF := hS.2.2.1
  have hq0 : 0 < h_m C h → m_aL σ 18 (4 * δ) = p 0 := hq 0
  unfold f_X11_acts
  rw [m_gI h7, nI_pred, show (4 : Int32) * nI δ = nI (4 * δ) from pk_mul 4 δ, m_rI (n := 32) rfl (by omega) (by decide) q4]
  rcases hw with ⟨hs, w1, w2, w3, w4⟩ | ⟨hs, w1, w2, w3, w4⟩ | ⟨hs, w1, w2, w3, w4⟩ | ⟨hs, w1, w2, w3, w4⟩ | ⟨hs, w1, w2, w3, w4⟩ | ⟨hs, w1, w2, w3, w4⟩ | ⟨hs, w1, w2, w3, w4⟩ | ⟨hs, w1, w2, w3, w4⟩ | ⟨hs, w1, w2, w3, w4⟩ | ⟨hs, w1, w5, w2, w3, w4⟩ | ⟨hs, w1, w2, w3, w4⟩ |
    ⟨hs, -⟩ | ⟨hs, -⟩ | ⟨hs, -⟩ | ⟨hs, -⟩ | ⟨hs, -⟩ | ⟨hs, -⟩ | ⟨hs, -⟩ | ⟨hs, -⟩ | ⟨hs, -⟩ | ⟨hs, -⟩ | ⟨hs, -⟩ | ⟨hs, -⟩
  · rw [act_0 hs, if_pos hs, m_rL (n := 32) rfl (by omega) (by decide) q8]
    exact cU (m_end m h7 _)
  · rw [act_1 hs, if_neg (by rw [hs]; decide), if_pos hs, m_rL (n := 132) rfl (by omega) (by decide) (hq0 (by omega))]
    exact cU (m_end m h7 _)
  · have v0 := (okv_row8 w1).mp (okv_cast (hp 0 (by omega)) (w4 0 (by omega)))
    rw [act_2 hs, if_neg (by rw [hs]; decide), if_neg (by rw [hs]; decide), if_pos (Or.inl hs), m_rI (n := 32) rfl (by omega) (by decide) q4, if_neg (by rw [hs]; decide)]
    exact cU (m_reads m h7 hδ hF hk (v0.imp id (fun z => z.1)) (hq 0 (by omega)) (hq 1 (by omega)))
  · have v0 := (okv_row8 w1).mp (okv_cast (hp 0 (by omega)) (w4 0 (by omega)))
    rw [act_3 hs, if_neg (by rw [hs]; decide), if_neg (by rw [hs]; decide), if_pos (Or.inr hs), m_rI (n := 32) rfl (by omega) (by decide) q4, if_pos hs]
    exact cU (m_writes m h7 hδ hF hk (v0.imp id (fun z => z.1)) (hq 0 (by omega)) (hq 1 (by omega)) (hq 2 (by omega)))
  · have v0 := (okv_row8 w1).mp (okv_cast (hp 0 (by omega)) (w4 0 (by omega)))
    rw [act_4 hs, if_neg (by rw [hs]; decide), if_neg (by rw [hs]; decide), if_neg (by rw [hs]; decide), if_pos hs, m_rL (n := 132) rfl (by omega) (by decide) (hq0 (by omega))]
    unfold t_sz
    by_cases c1 : p 0 = -1
    · rw [if_pos c1, if_neg (by rw [c1]; exact m1_no)]
      exact cU (m_fail m h7 hδ hF hk (by decide))
    · have cx := (v0.resolve_left c1).1
      obtain ⟨i1, i2⟩ := ix_nI cx (by omega)
      obtain ⟨r1, r2, r3, r4⟩ := w3' _ i1
      rw [if_neg c1, if_pos cx, m_rL (n := 132) rfl (by omega) (by decide) (hq0 (by omega)), i2, m_rI (n := 16) rfl (by omega) (by decide) r2, nI_l (by omega)]
      exact cU (m_end m h7 _)
  · rw [act_5 hs, if_neg (by rw [hs]; decide), if_neg (by rw [hs]; decide), if_neg (by rw [hs]; decide), if_neg (by rw [hs]; decide), if_pos hs, m_rL (n := 132) rfl (by omega) (by decide) (hq0 (by omega))]
    unfold t_new
    have e0 : 0 ≤ p 0 ↔ ¬ p 0 < 0 := by rw [Int64.le_iff_toInt_le, Int64.lt_iff_toInt_lt]; omega
    by_cases c1 : p 0 < 0
    · rw [if_pos c1, if_neg (fun z => (e0.mp z) c1)]
      exact cU (m_fail m h7 hδ hF hk (by decide))
    rw [if_neg c1, if_pos (e0.mpr c1), m_rL (n := 132) rfl (by omega) (by decide) (hq0 (by omega))]
    by_cases c2 : 8 < p 0
    · rw [if_pos c2, if_pos (Or.inl c2)]
      exact cU (m_fail m h7 hδ hF hk (by decide))
    rw [if_neg c2, m_gI w1']
    have e16 : (nI (e_R ρ) = 16) ↔ e_R ρ = 16 := nI_eq (b := 16) (by omega) (by decide)
    by_cases c3 : e_R ρ = 16
    · rw [if_pos (e16.mpr c3), if_pos (Or.inr c3)]
      exact cU (m_fail m h7 hδ hF hk (by decide))
    · rw [if_neg (fun z => c3 (e16.mp z)), if_neg (fun z => z.elim c2 c3), m_rI (n := 32) rfl (by omega) (by decide) q5, m_rL (n := 132) rfl (by omega) (by decide) (hq0 (by omega))]
      have hx : 0 ≤ (p 0).toInt ∧ (p 0).toInt < ((9 : Nat) : Int) := by
        rw [Int64.lt_iff_toInt_lt, show (8 : Int64).toInt = 8 by decide] at c2
        rw [Int64.lt_iff_toInt_lt, show (0 : Int64).toInt = 0 by decide] at c1
        constructor <;> omega
      obtain ⟨i1, i2⟩ := ix_nI hx (by decide)
      rw [i2]
      obtain ⟨τ, f1, f2, f3, f4⟩ := m_fresh m (by omega) (a := h_a C h) (n := ix (p 0)) (by omega)
      obtain ⟨υ, g1, g2, g3, g4, g5, g6⟩ := m_end f2 (f3.trans h7) (nI (e_R ρ)).toInt64
      refine ⟨υ, by rw [call_s f1, call_s g1], g2, g3, g4, fun z => (g5 z).trans ?_, (f4 δ).trans g6⟩
      show (nI (e_R ρ)).toInt64 = lN (e_R ρ)
      exact nI_l (by omega)
  · have v0 := okv_cast (hp 0 (by omega)) (w4 0 (by omega))
    have v1 := okv_cast (hp 1 (by omega)) (w4 1 (by omega))
    rw [act_6 hs, if_neg (by rw [hs]; decide), if_neg (by rw [hs]; decide), if_neg (by rw [hs]; decide), if_neg (by rw [hs]; decide), if_neg (by rw [hs]; decide), if_neg (by rw [hs]; decide), if_neg (by rw [hs]; decide), if_pos (Or.inl hs)]
    exact cU (m_reckons hC hh hS m h7 hδ hk w1 v0 v1 (hq 0 (by omega)) (hq 1 (by omega)) (Or.inl ⟨hs, rfl⟩))
  · have v0 := okv_cast (hp 0 (by omega)) (w4 0 (by omega))
    have v1 := okv_cast (hp 1 (by omega)) (w4 1 (by omega))
    rw [act_7 hs, if_neg (by rw [hs]; decide), if_neg (by rw [hs]; decide), if_neg (by rw [hs]; decide), if_neg (by rw [hs]; decide), if_neg (by rw [hs]; decide), if_neg (by rw [hs]; decide), if_neg (by rw [hs]; decide), if_pos (Or.inr (Or.inl hs))]
    exact cU (m_reckons hC hh hS m h7 hδ hk w1 v0 v1 (hq 0 (by omega)) (hq 1 (by omega)) (Or.inr (Or.inl ⟨hs, rfl⟩)))
  · have v0 := okv_cast (hp 0 (by omega)) (w4 0 (by omega))
    have v1 := okv_cast (hp 1 (by omega)) (w4 1 (by omega))
    rw [act_8 hs, if_neg (by rw [hs]; decide), if_neg (by rw [hs]; decide), if_neg (by rw [hs]; decide), if_neg (by rw [hs]; decide), if_neg (by rw [hs]; decide), if_neg (by rw [hs]; decide), if_neg (by rw [hs]; decide), if_pos (Or.inr (Or.inr hs))]
    exact cU (m_reckons hC hh hS m h7 hδ hk w1 v0 v1 (hq 0 (by omega)) (hq 1 (by omega)) (Or.inr (Or.inr ⟨hs, rfl⟩)))
  · rw [act_9 hs, if_neg (by rw [hs]; decide), if_neg (by rw [hs]; decide), if_neg (by rw [hs]; decide), if_neg (by rw [hs]; decide), if_neg (by rw [hs]; decide), if_pos hs, m_rI (n := 32) rfl (by omega) (by decide) q6]
    exact cU (m_fail m h7 hδ hF hk (nz_code w5))
  · rw [act_10 hs, if_neg (by rw [hs]; decide), if_neg (by rw [hs]; decide), if_neg (by rw [hs]; decide), if_neg (by rw [hs]; decide), if_neg (by rw [hs]; decide), if_neg (by rw [hs]; decide), if_pos hs, m_rL (n := 132) rfl (by omega) (by decide) (hq0 (by omega))]
    have vany := (hp 0 (by omega)).2.2.2 (by rw [w4 0 (by omega)]; decide)
    unfold t_cast
    by_cases c1 : p 0 = -1
    · rw [if_pos c1, if_pos (Or.inl c1), m_rL (n := 132) rfl (by omega) (by decide) (hq0 (by omega))]
      exact cU (m_end m h7 _)
    · have cx := (vany.resolve_left c1).1
      obtain ⟨i1, i2⟩ := ix_nI cx (by omega)
      obtain ⟨r1, r2, r3, r4⟩ := w3' _ i1
      rw [if_neg c1, m_rL (n := 132) rfl (by omega) (by decide) (hq0 (by omega)), i2, m_rI (n := 16) rfl (by omega) (by decide) r1, m_rI (n := 32) rfl (by omega) (by decide) q5]
      by_cases c2 : e_ln ρ (ix (p 0)) = h_a C h
      · rw [if_pos c2, if_pos (Or.inr ⟨cx, c2⟩), m_rL (n := 132) rfl (by omega) (by decide) (hq0 (by omega))]
        exact cU (m_end m h7 _)
      · rw [if_neg c2, if_neg (fun z => z.elim c1 (fun y => c2 y.2))]
        exact cU (m_fail m h7 hδ hF hk (by decide))
  all_goals (rw [hs] at hs10; exact absurd hs10 (by decide))
end MACT
