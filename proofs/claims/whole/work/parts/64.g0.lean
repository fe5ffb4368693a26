/-! make: what the reference builds; sorts 0 to 10 -/
def mB (C : hS) (ρ : eS) (Z : zS) (ma mb mc : Int32) (mv : Int64) (m : Nat) (k : Nat → Int32) (r : Int32) (σ : mS) : Prop := mR C ρ Z σ ∧ m_I σ 4 = ma ∧ m_I σ 5 = mb ∧ m_I σ 6 = mc ∧ m_L σ 0 = mv ∧ m_aI σ 8 (h_n C) = nI m ∧ (∀ j, j < m → j < 4 → m_aI σ 9 (4 * h_n C + j) = k j) ∧ m_aI σ 10 (h_n C) = r
section BLD
variable {ad : Nat → Nat} {C : hS} {ρ : eS} {Z : zS} {q o w : Nat} {S : wS} {σ : mS} {so a b c : Int32} {v : Int64} {ma mb mc : Int32} {mv : Int64} {m : Nat} {k : Nat → Int32} {r : Int32}
theorem mB.start (mm : mR C ρ Z σ) : mB C ρ Z 0 0 0 0 0 (fun _ => 0) (m_aI σ 10 (h_n C)) (mk_clear (h_n C) σ) := by
  refine ⟨mk_clear_R mm, rfl, rfl, rfl, rfl, ?_, fun j hj => by omega, rfl⟩
  show (if 8 = 8 ∧ h_n C = h_n C then (0 : Int32) else _) = nI 0; simp; rfl
theorem mB.p4 (h : mB C ρ Z ma mb mc mv m k r σ) (x : Int32) : mB C ρ Z x mb mc mv m k r (m_pI σ 4 x) := ⟨h.1, rfl, h.2.2.1, h.2.2.2.1, h.2.2.2.2.1, h.2.2.2.2.2⟩
theorem mB.p5 (h : mB C ρ Z ma mb mc mv m k r σ) (x : Int32) : mB C ρ Z ma x mc mv m k r (m_pI σ 5 x) := ⟨h.1, h.2.1, rfl, h.2.2.2.1, h.2.2.2.2.1, h.2.2.2.2.2⟩
theorem mB.p6 (h : mB C ρ Z ma mb mc mv m k r σ) (x : Int32) : mB C ρ Z ma mb x mv m k r (m_pI σ 6 x) := ⟨h.1, h.2.1, h.2.2.1, rfl, h.2.2.2.2.1, h.2.2.2.2.2⟩
theorem mB.pL (h : mB C ρ Z ma mb mc mv m k r σ) (x : Int64) : mB C ρ Z ma mb mc x m k r (m_pL σ 0 x) := ⟨h.1, h.2.1, h.2.2.1, h.2.2.2.1, rfl, h.2.2.2.2.2⟩
theorem mB.eqk {k' : Nat → Int32} (h : mB C ρ Z ma mb mc mv m k r σ) (e : ∀ j, j < m → j < 4 → k j = k' j) : mB C ρ Z ma mb mc mv m k' r σ := ⟨h.1, h.2.1, h.2.2.1, h.2.2.2.1, h.2.2.2.2.1, h.2.2.2.2.2.1, fun j h1 h2 => (h.2.2.2.2.2.2.1 j h1 h2).trans (e j h1 h2), h.2.2.2.2.2.2.2⟩
theorem mB.A (h : mB C ρ Z ma mb mc mv m k r σ) (hm : m ≤ 4) : mkA σ (h_n C) ma mb mc mv m k r := ⟨h.2.1, h.2.2.1, h.2.2.2.1, h.2.2.2.2.1, h.2.2.2.2.2.1, h.2.2.2.2.2.2.2, fun j hj => h.2.2.2.2.2.2.1 j hj (by omega)⟩
theorem m_gives (h : mB C ρ Z ma mb mc mv m k r σ) (h32 : h_n C ≤ 32) (x : Int32) : ∃ τ, f_X11_gives x σ = some ((), τ) ∧ mB C ρ Z ma mb mc mv m k x τ := by
  obtain ⟨⟨m1, m2, ⟨m3, m4, m5⟩, m6⟩, h2, h3, h4, h5, h6, h7, h8⟩ := h
  unfold f_X11_gives
  rw [m_gI m3, m_uI (n := 33) rfl (by omega) (by decide)]
  refine ⟨_, rfl, ⟨m1, m2, ⟨m3, m4, fun i hi => ?_⟩, m6⟩, h2, h3, h4, h5, h6, h7, ?_⟩
  · obtain ⟨u1, u2, u3, u4, u5, u6, u7, u8⟩ := m5 i hi
    refine ⟨u1, u2, u3, u4, u5, u6, ?_, u8⟩
    show (if 10 = 10 ∧ i = h_n C then x else m_aI σ 10 i) = _
    rw [if_neg (by omega)]; exact u7
  · show (if 10 = 10 ∧ h_n C = h_n C then x else _) = x; simp
theorem m_takes (h : mB C ρ Z ma mb mc mv m k r σ) (hC : wfC C) (hm : m ≤ 4) (x : Int32) : ∃ τ, f_X11_takes x σ = some ((), τ) ∧ mB C ρ Z ma mb mc mv (m + 1) (fun j => if j = m then x else k j) r τ := by
  have h32 := hC.1
  obtain ⟨⟨m1, m2, ⟨m3, m4, m5⟩, m6⟩, h2, h3, h4, h5, h6, h7, h8⟩ := h
  unfold f_X11_takes
  rw [m_gI m3, m_rI (n := 33) rfl (by omega) (by decide) h6]
  by_cases c : 4 ≤ m
  · rw [if_pos (show (4 : Int32) ≤ nI m from nI_le (a := 4) c (by omega)), m_gI m3, m_rI (n := 33) rfl (by omega) (by decide) h6, m_uI (n := 33) rfl (by omega) (by decide), nI_1]
    refine ⟨_, rfl, ⟨m1, m2, ⟨m3, m4, fun i hi => ?_⟩, m6⟩, h2, h3, h4, h5, ?_, fun j h1 h2 => ?_, h8⟩
    · obtain ⟨u1, u2, u3, u4, u5, u6, u7, u8⟩ := m5 i hi
      refine ⟨u1, u2, u3, u4, u5, ?_, u7, u8⟩
      show (if 8 = 8 ∧ i = h_n C then nI (m + 1) else m_aI σ 8 i) = _
      rw [if_neg (by omega)]; exact u6
    · show (if 8 = 8 ∧ h_n C = h_n C then nI (m + 1) else _) = _; simp
    · show m_aI σ 9 (4 * h_n C + j) = (if j = m then x else k j)
      rw [if_neg (by omega)]; exact h7 j (by omega) h2
  · rw [if_neg (show ¬ (4 : Int32) ≤ nI m from nI_ge (a := m) (b := 4) (by omega) (by decide)), m_gI m3, m_gI m3, m_rI (n := 33) rfl (by omega) (by decide) h6, m_uI (n := 132) (i := 4 * h_n C + m) (by rw [show (4 : Int32) = nI 4 from rfl, pk_mul, nI_add]) (by omega) (by decide), m_gI (show m_I (m_wI σ 9 (4 * h_n C + m) x) 3 = nI (h_n C) from m3), m_rI (n := 33) rfl (by omega) (by decide) (show m_aI (m_wI σ 9 (4 * h_n C + m) x) 8 (h_n C) = nI m from h6), m_uI (n := 33) rfl (by omega) (by decide), nI_1]
    refine ⟨_, rfl, ⟨m1, m2, ⟨m3, m4, fun i hi => ?_⟩, m6⟩, h2, h3, h4, h5, ?_, fun j h1 h2 => ?_, h8⟩
    · obtain ⟨u1, u2, u3, u4, u5, u6, u7, u8⟩ := m5 i hi
      refine ⟨u1, u2, u3, u4, u5, ?_, u7, fun j hj => ?_⟩
      · show (if 8 = 8 ∧ i = h_n C then nI (m + 1) else m_aI σ 8 i) = _
        rw [if_neg (by omega)]; exact u6
      · show (if 9 = 9 ∧ 4 * i + j = 4 * h_n C + m then x else m_aI σ 9 (4 * i + j)) = _
        have := (hC.2 i hi).1.1
        rw [if_neg (by omega)]; exact u8 j hj
    · show (if 8 = 8 ∧ h_n C = h_n C then nI (m + 1) else _) = _; simp
    · show (if 9 = 9 ∧ 4 * h_n C + j = 4 * h_n C + m then x else m_aI σ 9 (4 * h_n C + j)) = (if j = m then x else k j)
      by_cases d : j = m
      · rw [if_pos ⟨rfl, by omega⟩, if_pos d]
      · rw [if_neg (by omega), if_neg d]; exact h7 j (by omega) h2
theorem x_kind (h : hwB S w so a b c v) (hs : so = 0 ∨ so = 1 ∨ so = 9) : ∃ x, f_X3_isFirstTold (ad 5) w S = some (x, S) ∧ isIt x (kindp a) := by
  unfold f_X3_isFirstTold
  rw [gI_s h.1 h.2.1, if_pos hs, gI_s h.1 h.2.2.1]
  rcases kind_is a with ⟨d, e, -⟩ | ⟨d, e, -⟩
  · rw [cP_s e, ck_t (Or.inr rfl)]; exact ⟨1, rfl, Or.inl ⟨rfl, d⟩⟩
  · rw [cP_s e, ck_t (Or.inl rfl)]; exact ⟨0, rfl, Or.inr ⟨rfl, d⟩⟩
theorem x_lane (h : hwB S w so a b c v) (hn : ¬ (so = 0 ∨ so = 1 ∨ so = 9)) (hs : so = 2 ∨ so = 3 ∨ so = 4 ∨ so = 5 ∨ so = 10) : ∃ x, f_X3_isFirstTold (ad 5) w S = some (x, S) ∧ isIt x (lanep a) := by
  unfold f_X3_isFirstTold
  rw [gI_s h.1 h.2.1, if_neg hn, if_pos hs, gI_s h.1 h.2.2.1]
  rcases lane_is a with ⟨d, e, -⟩ | ⟨d, e, -⟩
  · rw [cP_s e, ck_t (Or.inr rfl)]; exact ⟨1, rfl, Or.inl ⟨rfl, d⟩⟩
  · rw [cP_s e, ck_t (Or.inl rfl)]; exact ⟨0, rfl, Or.inr ⟨rfl, d⟩⟩
theorem num_is (x : Int32) : (nump x ∧ f_X2_isReckoned x = some 1 ∧ f_X11_in x.toInt64 4 7 = some 1) ∨ (¬ nump x ∧ f_X2_isReckoned x = some 0 ∧ f_X11_in x.toInt64 4 7 = some 0) := by
  have e4 : (4 : Int64).toInt = 4 := by decide
  have e7 : (7 : Int64).toInt = 7 := by decide
  have f4 : (4 : Int32).toInt = 4 := by decide
  have f7 : (7 : Int32).toInt = 7 := by decide
  unfold f_X2_isReckoned
  by_cases c : 4 ≤ x.toInt ∧ x.toInt ≤ 7
  · left
    refine ⟨?_, ?_, ?_⟩
    · have hx : x.toInt = 4 ∨ x.toInt = 5 ∨ x.toInt = 6 ∨ x.toInt = 7 := by omega
      rcases hx with z | z | z | z
      · exact Or.inl (Int32.toInt_inj.mp z)
      · exact Or.inr (Or.inl (Int32.toInt_inj.mp z))
      · exact Or.inr (Or.inr (Or.inl (Int32.toInt_inj.mp z)))
      · exact Or.inr (Or.inr (Or.inr (Int32.toInt_inj.mp z)))
    · rw [if_neg (show ¬ x < 4 by rw [Int32.lt_iff_toInt_lt, f4]; omega), if_neg (show ¬ 7 < x by rw [Int32.lt_iff_toInt_lt, f7]; omega)]
    · rw [in_is, if_pos]; rw [Int64.le_iff_toInt_le, Int64.le_iff_toInt_le, Int32.toInt_toInt64, e4, e7]; exact c
  · right
    refine ⟨?_, ?_, ?_⟩
    · rintro (z | z | z | z) <;> (rw [z] at c; exact c (by decide))
    · by_cases d : x < 4
      · rw [if_pos d]
      · rw [if_neg d, if_pos (show 7 < x by rw [Int32.lt_iff_toInt_lt, f7]; rw [Int32.lt_iff_toInt_lt, f4] at d; omega)]
    · rw [in_is, if_neg]; rw [Int64.le_iff_toInt_le, Int64.le_iff_toInt_le, Int32.toInt_toInt64, e4, e7]; exact c
theorem x_num (h : hwB S w so a b c v) (hn : ¬ (so = 0 ∨ so = 1 ∨ so = 9)) (hn2 : ¬ (so = 2 ∨ so = 3 ∨ so = 4 ∨ so = 5 ∨ so = 10)) (hs : so = 6 ∨ so = 7 ∨ so = 8) : ∃ x, f_X3_isFirstTold (ad 5) w S = some (x, S) ∧ isIt x (nump a) := by
  unfold f_X3_isFirstTold
  rw [gI_s h.1 h.2.1, if_neg hn, if_neg hn2, if_pos hs, gI_s h.1 h.2.2.1]
  rcases num_is a with ⟨d, e, -⟩ | ⟨d, e, -⟩
  · rw [cP_s e, ck_t (Or.inr rfl)]; exact ⟨1, rfl, Or.inl ⟨rfl, d⟩⟩
  · rw [cP_s e, ck_t (Or.inl rfl)]; exact ⟨0, rfl, Or.inr ⟨rfl, d⟩⟩
theorem x_sec (h : hwB S w so a b c v) (hs : ¬ so = 9 ∧ ¬ so = 11 ∧ ¬ so = 12 ∧ ¬ so = 15 ∧ ¬ (so = 16 ∨ so = 17 ∨ so = 18 ∨ so = 20) ∧ ¬ so = 19) : ∃ x, f_X3_isSecondTold (ad 5) w S = some (x, S) ∧ isIt x True := by
  unfold f_X3_isSecondTold
  obtain ⟨s1, s2, s3, s4, s5, s6⟩ := hs
  rw [gI_s h.1 h.2.2.2.1, gI_s h.1 h.2.1, if_neg s1, if_neg s2, if_neg s3, if_neg s4, if_neg s5, if_neg s6]
  refine ⟨1, ?_, Or.inl ⟨rfl, trivial⟩⟩
  split <;> rfl
theorem x_thi (h : hwB S w so a b c v) (hs : ¬ so = 11 ∧ ¬ (so = 15 ∨ so = 18 ∨ so = 19)) : ∃ x, f_X3_isThirdTold (ad 5) w S = some (x, S) ∧ isIt x True := by
  unfold f_X3_isThirdTold
  rw [gI_s h.1 h.2.1, if_neg hs.1, if_neg hs.2]
  refine ⟨1, ?_, Or.inl ⟨rfl, trivial⟩⟩
  split <;> rfl
theorem x_kb (h : hwB S w so a b c v) (hs : ¬ so = 0 ∧ ¬ so = 14) : f_X3_kindOfBits (ad 5) w S = some (-1, S) := by
  unfold f_X3_kindOfBits
  rw [gI_s h.1 h.2.1, if_neg hs.1, gI_s h.1 h.2.1, if_neg hs.2]
theorem x_kbm (h : hwB S w so a b c v) (hs : ¬ so = 0 ∧ ¬ so = 14) : ∃ kb, f_X3_kindOfBits (ad 5) w S = some (kb, S) ∧ ∃ x, f_X6_mayBe (ad 1) kb v S = some (x, S) ∧ isIt x True :=
  ⟨-1, x_kb h hs, 1, may_none, Or.inl ⟨rfl, trivial⟩⟩
theorem x_bits0 (kk : cI ad C ρ Z q S) (h : hwB S w so a b c 0) (hs : ¬ so = 0 ∧ ¬ so = 14) : f_X3_bitsOf (ad 5) w S = some (0, S) := by
  unfold f_X3_bitsOf
  rw [ck_t kk.1.2.2.2.2.2.2.2.2.2.1, call_s (x_kb h hs), gL_s h.1 h.2.2.2.2.2, cP_s (show f_X2_fromBits (-1) 0 = some 0 from rfl)]
theorem of_is {n : Nat} (r : roomy S 2 7) (hn : n ≤ 4) (rr k0 k1 k2 : Int32) : ∃ t S4, f_X9_of rr (nI n) k0 k1 k2 S = some (some t, S4) ∧ grows S S4 2 7 ∧ tyA S4 t n (k4 k0 k1 k2 0) rr := by
  unfold f_X9_of
  obtain ⟨S1, e1, e2, e3, e4⟩ := mk4 (S := S) (r.le (by decide) (by decide)) k0 k1 k2 0 (F := fun a1 S5 => o_new 8 3 S5 fun a2 S6 => o_call (f_X9_init a2 rr (nI n) a1 S6) fun _ S7 => some ((some a2 : Option Nat), S7))
  rw [e1]
  obtain ⟨S2, g1, g2, g3⟩ := new_ty (rr := rr) (mm := nI n) (m := n) (S := S1) (k := k4 k0 k1 k2 0) ((r.le (n1 := 1 + 1) (s1 := 4 + 3) (by decide) (by decide)).after e2) hn rfl ⟨e3.1, e3.2.1, fun j hj => e3.2.2 j (by omega)⟩ (F := fun a2 S7 => some ((some a2 : Option Nat), S7))
  rw [g1]
  exact ⟨_, _, rfl, e2.trans g2, g3⟩
theorem tyA.eqk {t m : Nat} {k k' : Nat → Int32} {r : Int32} (h : tyA S t m k r) (e : ∀ j, j < m → k j = k' j) : tyA S t m k' r := by
  obtain ⟨h0, h1, h2, h3, ka, h4, h5, h6, h7⟩ := h
  exact ⟨h0, h1, h2, h3, ka, h4, h5, h6, fun j hj => (h7 j hj).trans (e j hj)⟩
theorem x_type (h : hwB S w so a b c v) (hs : ¬ 11 ≤ so) : f_X3_typeOf (ad 5) w (ad 9) S = f_X3_typeAlone w S := by
  unfold f_X3_typeOf
  rw [gI_s h.1 h.2.1, if_neg hs, call_id]
theorem j012 {P : Nat → Prop} (h0 : P 0) (h1 : P 1) (h2 : P 2) : ∀ j, j < 3 → P j := fun j hj => by
  have : j = 0 ∨ j = 1 ∨ j = 2 := by omega
  rcases this with rfl | rfl | rfl
  · exact h0
  · exact h1
  · exact h2
theorem j01 {P : Nat → Prop} (h0 : P 0) (h1 : P 1) : ∀ j, j < 2 → P j := fun j hj => by
  have : j = 0 ∨ j = 1 := by omega
  rcases this with rfl | rfl
  · exact h0
  · exact h1
theorem j0 {P : Nat → Prop} (h0 : P 0) : ∀ j, j < 1 → P j := fun j hj => by
  have : j = 0 := by omega
  rw [this]; exact h0
theorem x_kbm0 (kk : cI ad C ρ Z q S) (h : hwB S w 0 a b c v) (hp : kindp a) : ∃ kb, f_X3_kindOfBits (ad 5) w S = some (kb, S) ∧ ∃ x, f_X6_mayBe (ad 1) kb v S = some (x, S) ∧ isIt x (mayp ρ a v) := by
  obtain ⟨x, e, i⟩ := may_is kk.1.2.2.1 hp v
  refine ⟨a, ?_, x, e, i⟩
  unfold f_X3_kindOfBits
  rw [gI_s h.1 h.2.1, if_pos rfl, gI_s h.1 h.2.2.1]
theorem nine_is (b : Int32) : ((0 ≤ b ∧ b ≤ 9) ∧ (if b < 0 then (some ((0 : Int32), S) : Option (Int32 × wS)) else if 9 < b then some (0, S) else some (1, S)) = some (1, S) ∧ f_X11_in b.toInt64 0 9 = some 1) ∨ (¬ (0 ≤ b ∧ b ≤ 9) ∧ (if b < 0 then (some ((0 : Int32), S) : Option (Int32 × wS)) else if 9 < b then some (0, S) else some (1, S)) = some (0, S) ∧ f_X11_in b.toInt64 0 9 = some 0) := by
  have e0 : (0 : Int32).toInt = 0 := by decide
  have e9 : (9 : Int32).toInt = 9 := by decide
  rcases in_rng b (n := 9) (by decide) with ⟨j, h1, h2, h3⟩ | ⟨h1, h2, h3⟩
  · left
    have hj : b.toInt = j := by rw [h2, nI_toInt (by omega)]
    refine ⟨⟨by rw [Int32.le_iff_toInt_le, e0]; omega, by rw [Int32.le_iff_toInt_le, e9]; omega⟩, ?_, h3⟩
    rw [if_neg (by rw [Int32.lt_iff_toInt_lt, e0]; omega), if_neg (by rw [Int32.lt_iff_toInt_lt, e9]; omega)]
  · right
    refine ⟨fun z => ?_, ?_, h2⟩
    · rcases h1 with h1 | h1
      · rw [Int32.lt_iff_toInt_lt, e0] at h1; have := Int32.le_iff_toInt_le.mp z.1; rw [e0] at this; omega
      · rw [Int32.lt_iff_toInt_lt, nI_toInt (by decide)] at h1; have := Int32.le_iff_toInt_le.mp z.2; rw [e9] at this; omega
    · rcases h1 with h1 | h1
      · rw [if_pos h1]
      · by_cases c : b < 0
        · rw [if_pos c]
        · rw [if_neg c, if_pos (show (9 : Int32) < b from h1)]
theorem x_sec9 (h : hwB S w 9 a b c v) : ∃ x, f_X3_isSecondTold (ad 5) w S = some (x, S) ∧ isIt x (0 ≤ b ∧ b ≤ 9) := by
  unfold f_X3_isSecondTold
  rw [gI_s h.1 h.2.2.2.1, gI_s h.1 h.2.1, if_pos rfl]
  rcases nine_is (S := S) b with ⟨d, e, -⟩ | ⟨d, e, -⟩
  · exact ⟨1, e, Or.inl ⟨rfl, d⟩⟩
  · exact ⟨0, e, Or.inr ⟨rfl, d⟩⟩
theorem mk_0 (kk : cI ad C ρ Z (q + 1) S) (mm : mR C ρ Z σ) (hC : wfC C) (hV : wfV C ρ) (hS : okS ρ) (hZ : wfK (z_m Z) (z_k Z) (z_r Z)) : jStep (ad 0) q (f_X10_make (ad 0) 0 a b c v S) (f_X11_make 0 a b c v σ) := by
  have h32 := hC.1
  have pre : ∀ x, f_X11_isKind a = some x → mk_pre 0 a b c v (mk_clear (h_n C) σ) = f_X11_makeFirst_b64 0 a b v x (mk_clear (h_n C) σ) := fun x e => by
    unfold mk_pre f_X11_makeFirst
    rw [if_neg (by decide), if_pos (by decide)]
    unfold f_X11_makeFirst_b17
    rw [if_pos rfl, if_pos (by decide), cP_s e]
  have st := mB.start mm
  refine make_asm (P := kindp a ∧ True ∧ True ∧ mayp ρ a v) (xb := 0) (xc := 0) (xv := 1) (b1 := 0) (c1 := 0) (v1 := v) kk mm hC hV hS hZ (by decide) (by decide) (by decide) (by decide) rfl rfl rfl (fun S w kk h => told_of kk h (by decide) (x_kind h (by decide)) (fun _ => x_sec h (by decide)) (fun _ => x_thi h (by decide)) (fun hp => x_kbm0 kk h hp)) (fun hn => ?_) (fun hy => Or.inr ?_)
  · rcases kind_is a with ⟨d, -, e⟩ | ⟨d, -, e⟩
    · rw [pre _ e]
      unfold f_X11_makeFirst_b64
      rw [if_neg n10]
      rw [if_neg (by decide), if_pos rfl]
      obtain ⟨x, e2, i⟩ := val_is (mk_clear_R mm).1 d v
      rw [call_s e2]
      rcases i with ⟨rfl, i⟩ | ⟨rfl, i⟩
      · exact absurd ⟨d, trivial, trivial, i⟩ hn
      · rw [if_pos rfl]
        exact ⟨_, rfl, mk_clear_R mm⟩
    · rw [pre _ e]
      unfold f_X11_makeFirst_b64
      rw [if_pos rfl]
      exact ⟨_, rfl, mk_clear_R mm⟩
  · obtain ⟨hp, h2, -, h4⟩ := hy
    obtain ⟨bits, w1, w2, w3⟩ := bits_may hp h4
    refine ⟨0, (fun _ => a), a, bits, fun S w kk h rm => ?_, ?_, ⟨by decide, ?_, ?_⟩, ?_, ?_, ?_, ?_⟩
    · obtain ⟨t, S4, e1, e2, e3⟩ := of_is (n := 0) (rm.le (n1 := 2) (s1 := 7) (by decide) (by decide)) (by decide) a 0 0 0
      refine ⟨t, S4, 2, 7, ?_, e2, by decide, by decide, e3.eqk (fun j hj => absurd hj (Nat.not_lt_zero j))⟩
      rw [x_type h (by decide)]
      unfold f_X3_typeAlone
      rw [gI_s h.1 h.2.2.1, gI_s h.1 h.2.1, if_neg (by decide), if_neg (by decide), if_neg (by decide), if_neg (by decide), if_neg (by decide), if_neg (by decide), if_neg (by decide), if_neg (by decide), if_neg (by decide), call_id]
      exact e1
    · have e : f_X11_isKind a = some 1 := by
        rcases kind_is a with ⟨-, -, e⟩ | ⟨d, -, -⟩
        · exact e
        · exact absurd hp d
      rw [pre _ e]
      unfold f_X11_makeFirst_b64
      rw [if_neg n10]
      rw [if_neg (by decide), if_pos rfl]
      obtain ⟨x, e2, i⟩ := val_is (mk_clear_R mm).1 hp v
      rw [call_s e2]
      rcases i with ⟨rfl, -⟩ | ⟨-, i⟩
      · rw [if_neg n10]
        unfold f_X11_makeFirst_b105
        rw [o_l, if_neg (by decide), o_l, if_pos rfl, cP_s w2]
        unfold f_X11_makeFirst_b140
        obtain ⟨τ0, g0, t0⟩ := m_gives (((st.p4 a).p5 0).pL bits) h32 a
        rw [o_l, call_s g0, if_neg (by decide), if_neg (by decide), if_neg (by decide), if_neg (by decide), if_neg (by decide), if_neg (by decide), if_neg (by decide), if_neg (by decide)]
        have tf : mB C ρ Z a 0 0 bits (0) (fun _ => a) a τ0 := mB.eqk (m := 0) t0 (by
          intro j hj _
          omega)
        exact ⟨_, rfl, tf.1, tf.A (by decide)⟩
      · exact absurd h4 i
    · exact hp
    · intro j hj; omega
    · exact Or.inl ⟨rfl, hp, rfl, rfl, fun _ _ => rfl⟩
    · exact fun _ => w3
    · exact fun z => absurd z (by decide)
    · intro S w kk h
      unfold f_X3_bitsOf f_X3_kindOfBits
      rw [ck_t kk.1.2.2.2.2.2.2.2.2.2.1, gI_s h.1 h.2.1, if_pos rfl, gI_s h.1 h.2.2.1]
      rw [call_s rfl, gL_s h.1 h.2.2.2.2.2, cP_s w1]
theorem mk_1 (kk : cI ad C ρ Z (q + 1) S) (mm : mR C ρ Z σ) (hC : wfC C) (hV : wfV C ρ) (hS : okS ρ) (hZ : wfK (z_m Z) (z_k Z) (z_r Z)) : jStep (ad 0) q (f_X10_make (ad 0) 1 a b c v S) (f_X11_make 1 a b c v σ) := by
  have h32 := hC.1
  have pre : ∀ x, f_X11_isKind a = some x → mk_pre 1 a b c v (mk_clear (h_n C) σ) = f_X11_makeFirst_b64 1 a b v x (mk_clear (h_n C) σ) := fun x e => by
    unfold mk_pre f_X11_makeFirst
    rw [if_neg (by decide), if_pos (by decide)]
    unfold f_X11_makeFirst_b17
    rw [if_pos rfl, if_neg (by decide), if_pos (by decide), cP_s e]
  have st := mB.start mm
  refine make_asm (P := kindp a ∧ True ∧ True ∧ True) (xb := 0) (xc := 0) (xv := 0) (b1 := 0) (c1 := 0) (v1 := 0) kk mm hC hV hS hZ (by decide) (by decide) (by decide) (by decide) rfl rfl rfl (fun S w kk h => told_of kk h (by decide) (x_kind h (by decide)) (fun _ => x_sec h (by decide)) (fun _ => x_thi h (by decide)) (fun _ => x_kbm h (by decide))) (fun hn => ?_) (fun hy => Or.inr ?_)
  · rcases kind_is a with ⟨d, -, e⟩ | ⟨d, -, e⟩
    · rw [pre _ e]
      unfold f_X11_makeFirst_b64
      rw [if_neg n10]
      exact absurd ⟨d, trivial, trivial, trivial⟩ hn
    · rw [pre _ e]
      unfold f_X11_makeFirst_b64
      rw [if_pos rfl]
      exact ⟨_, rfl, mk_clear_R mm⟩
  · obtain ⟨hp, h2, -, h4⟩ := hy
    refine ⟨1, (fun _ => a), a, 0, fun S w kk h rm => ?_, ?_, ⟨by decide, ?_, ?_⟩, ?_, ?_, ?_, ?_⟩
    · obtain ⟨t, S4, e1, e2, e3⟩ := of_is (n := 1) (rm.le (n1 := 2) (s1 := 7) (by decide) (by decide)) (by decide) a a 0 0
      refine ⟨t, S4, 2, 7, ?_, e2, by decide, by decide, e3.eqk (j0 rfl)⟩
      rw [x_type h (by decide)]
      unfold f_X3_typeAlone
      rw [gI_s h.1 h.2.2.1, gI_s h.1 h.2.1, if_pos (by decide), call_id]
      exact e1
    · have e : f_X11_isKind a = some 1 := by
        rcases kind_is a with ⟨-, -, e⟩ | ⟨d, -, -⟩
        · exact e
        · exact absurd hp d
      rw [pre _ e]
      unfold f_X11_makeFirst_b64
      rw [if_neg n10]
      rw [if_neg (by decide), if_neg (by decide)]
      unfold f_X11_makeFirst_b105
      rw [o_l, if_neg (by decide), o_l, if_neg (by decide)]
      unfold f_X11_makeFirst_b140
      obtain ⟨τ0, g0, t0⟩ := m_gives (((st.p4 a).p5 0).pL 0) h32 a
      obtain ⟨τ1, g1, t1⟩ := m_takes t0 hC (by decide) a
      rw [o_l, call_s g0, if_pos (by decide), call_s g1]
      have tf : mB C ρ Z a 0 0 0 (1) (fun _ => a) a τ1 := mB.eqk (m := 0 + 1) t1 (by
        intro j hj _
        have hj : j < 1 := hj
        have : j = 0 := by omega
        subst this; rfl)
      exact ⟨_, rfl, tf.1, tf.A (by decide)⟩
    · exact hp
    · exact j0 (hp)
    · exact Or.inr (Or.inl ⟨rfl, hp, rfl, rfl, fun _ _ => rfl⟩)
    · exact fun z => absurd z (by decide)
    · exact fun z => absurd z (by decide)
    · exact fun S w kk h => x_bits0 kk h (by decide)
theorem mk_2 (kk : cI ad C ρ Z (q + 1) S) (mm : mR C ρ Z σ) (hC : wfC C) (hV : wfV C ρ) (hS : okS ρ) (hZ : wfK (z_m Z) (z_k Z) (z_r Z)) : jStep (ad 0) q (f_X10_make (ad 0) 2 a b c v S) (f_X11_make 2 a b c v σ) := by
  have h32 := hC.1
  have pre : ∀ x, f_X11_isLane a = some x → mk_pre 2 a b c v (mk_clear (h_n C) σ) = f_X11_makeFirst_b64 2 a b v x (mk_clear (h_n C) σ) := fun x e => by
    unfold mk_pre f_X11_makeFirst
    rw [if_neg (by decide), if_pos (by decide)]
    unfold f_X11_makeFirst_b17
    rw [if_pos rfl, if_neg (by decide), if_neg (by decide), if_neg (by decide), cP_s e]
  have st := mB.start mm
  refine make_asm (P := lanep a ∧ True ∧ True ∧ True) (xb := 0) (xc := 0) (xv := 0) (b1 := 0) (c1 := 0) (v1 := 0) kk mm hC hV hS hZ (by decide) (by decide) (by decide) (by decide) rfl rfl rfl (fun S w kk h => told_of kk h (by decide) (x_lane h (by decide) (by decide)) (fun _ => x_sec h (by decide)) (fun _ => x_thi h (by decide)) (fun _ => x_kbm h (by decide))) (fun hn => ?_) (fun hy => Or.inr ?_)
  · rcases lane_is a with ⟨d, -, -, e⟩ | ⟨d, -, -, e⟩
    · rw [pre _ e]
      unfold f_X11_makeFirst_b64
      rw [if_neg n10]
      exact absurd ⟨d, trivial, trivial, trivial⟩ hn
    · rw [pre _ e]
      unfold f_X11_makeFirst_b64
      rw [if_pos rfl]
      exact ⟨_, rfl, mk_clear_R mm⟩
  · obtain ⟨hp, h2, -, h4⟩ := hy
    refine ⟨2, (fun j => if j = 0 then 8 + a else 4), a, 0, fun S w kk h rm => ?_, ?_, ⟨by decide, ?_, ?_⟩, ?_, ?_, ?_, ?_⟩
    · obtain ⟨t, S4, e1, e2, e3⟩ := of_is (n := 2) (rm.le (n1 := 2) (s1 := 7) (by decide) (by decide)) (by decide) a (8 + a) 4 0
      refine ⟨t, S4, 2, 7, ?_, e2, by decide, by decide, e3.eqk (j01 rfl rfl)⟩
      rw [x_type h (by decide)]
      unfold f_X3_typeAlone
      rw [gI_s h.1 h.2.2.1, gI_s h.1 h.2.1, if_neg (by decide), if_pos (by decide), call_id]
      exact e1
    · have e : f_X11_isLane a = some 1 := by
        rcases lane_is a with ⟨-, -, -, e⟩ | ⟨d, -, -, -⟩
        · exact e
        · exact absurd hp d
      rw [pre _ e]
      unfold f_X11_makeFirst_b64
      rw [if_neg n10]
      rw [if_neg (by decide), if_neg (by decide)]
      unfold f_X11_makeFirst_b105
      rw [o_l, if_neg (by decide), o_l, if_neg (by decide)]
      unfold f_X11_makeFirst_b140
      obtain ⟨τ0, g0, t0⟩ := m_gives (((st.p4 a).p5 0).pL 0) h32 a
      obtain ⟨τ1, g1, t1⟩ := m_takes t0 hC (by decide) (8 + a)
      obtain ⟨τ2, g2, t2⟩ := m_takes t1 hC (by decide) 4
      rw [o_l, call_s g0, if_neg (by decide), if_pos (by decide), call_s g1, call_s g2]
      have tf : mB C ρ Z a 0 0 0 (2) (fun j => if j = 0 then 8 + a else 4) a τ2 := mB.eqk (m := 0 + 1 + 1) t2 (by
        intro j hj _
        have hj : j < 2 := hj
        have : j = 0 ∨ j = 1 := by omega
        rcases this with rfl | rfl <;> rfl)
      exact ⟨_, rfl, tf.1, tf.A (by decide)⟩
    · exact hp.kind
    · exact j01 (hp.row) (kindp.lit (n := 4) (by decide))
    · exact Or.inr (Or.inr (Or.inl ⟨rfl, hp, rfl, rfl, fun _ _ => rfl⟩))
    · exact fun z => absurd z (by decide)
    · exact fun z => absurd z (by decide)
    · exact fun S w kk h => x_bits0 kk h (by decide)
theorem mk_3 (kk : cI ad C ρ Z (q + 1) S) (mm : mR C ρ Z σ) (hC : wfC C) (hV : wfV C ρ) (hS : okS ρ) (hZ : wfK (z_m Z) (z_k Z) (z_r Z)) : jStep (ad 0) q (f_X10_make (ad 0) 3 a b c v S) (f_X11_make 3 a b c v σ) := by
  have h32 := hC.1
  have pre : ∀ x, f_X11_isLane a = some x → mk_pre 3 a b c v (mk_clear (h_n C) σ) = f_X11_makeFirst_b64 3 a b v x (mk_clear (h_n C) σ) := fun x e => by
    unfold mk_pre f_X11_makeFirst
    rw [if_neg (by decide), if_pos (by decide)]
    unfold f_X11_makeFirst_b17
    rw [if_pos rfl, if_neg (by decide), if_neg (by decide), if_neg (by decide), cP_s e]
  have st := mB.start mm
  refine make_asm (P := lanep a ∧ True ∧ True ∧ True) (xb := 0) (xc := 0) (xv := 0) (b1 := 0) (c1 := 0) (v1 := 0) kk mm hC hV hS hZ (by decide) (by decide) (by decide) (by decide) rfl rfl rfl (fun S w kk h => told_of kk h (by decide) (x_lane h (by decide) (by decide)) (fun _ => x_sec h (by decide)) (fun _ => x_thi h (by decide)) (fun _ => x_kbm h (by decide))) (fun hn => ?_) (fun hy => Or.inr ?_)
  · rcases lane_is a with ⟨d, -, -, e⟩ | ⟨d, -, -, e⟩
    · rw [pre _ e]
      unfold f_X11_makeFirst_b64
      rw [if_neg n10]
      exact absurd ⟨d, trivial, trivial, trivial⟩ hn
    · rw [pre _ e]
      unfold f_X11_makeFirst_b64
      rw [if_pos rfl]
      exact ⟨_, rfl, mk_clear_R mm⟩
  · obtain ⟨hp, h2, -, h4⟩ := hy
    refine ⟨3, (fun j => if j = 0 then 8 + a else if j = 1 then 4 else a), a, 0, fun S w kk h rm => ?_, ?_, ⟨by decide, ?_, ?_⟩, ?_, ?_, ?_, ?_⟩
    · obtain ⟨t, S4, e1, e2, e3⟩ := of_is (n := 3) (rm.le (n1 := 2) (s1 := 7) (by decide) (by decide)) (by decide) a (8 + a) 4 a
      refine ⟨t, S4, 2, 7, ?_, e2, by decide, by decide, e3.eqk (j012 rfl rfl rfl)⟩
      rw [x_type h (by decide)]
      unfold f_X3_typeAlone
      rw [gI_s h.1 h.2.2.1, gI_s h.1 h.2.1, if_neg (by decide), if_neg (by decide), if_pos (by decide), call_id]
      exact e1
    · have e : f_X11_isLane a = some 1 := by
        rcases lane_is a with ⟨-, -, -, e⟩ | ⟨d, -, -, -⟩
        · exact e
        · exact absurd hp d
      rw [pre _ e]
      unfold f_X11_makeFirst_b64
      rw [if_neg n10]
      rw [if_neg (by decide), if_neg (by decide)]
      unfold f_X11_makeFirst_b105
      rw [o_l, if_neg (by decide), o_l, if_neg (by decide)]
      unfold f_X11_makeFirst_b140
      obtain ⟨τ0, g0, t0⟩ := m_gives (((st.p4 a).p5 0).pL 0) h32 a
      obtain ⟨τ1, g1, t1⟩ := m_takes t0 hC (by decide) (8 + a)
      obtain ⟨τ2, g2, t2⟩ := m_takes t1 hC (by decide) 4
      obtain ⟨τ3, g3, t3⟩ := m_takes t2 hC (by decide) a
      rw [o_l, call_s g0, if_neg (by decide), if_neg (by decide), if_pos (by decide), call_s g1, call_s g2, call_s g3]
      have tf : mB C ρ Z a 0 0 0 (3) (fun j => if j = 0 then 8 + a else if j = 1 then 4 else a) a τ3 := mB.eqk (m := 0 + 1 + 1 + 1) t3 (by
        intro j hj _
        have hj : j < 3 := hj
        have : j = 0 ∨ j = 1 ∨ j = 2 := by omega
        rcases this with rfl | rfl | rfl <;> rfl)
      exact ⟨_, rfl, tf.1, tf.A (by decide)⟩
    · exact hp.kind
    · exact j012 (hp.row) (kindp.lit (n := 4) (by decide)) (hp.kind)
    · exact Or.inr (Or.inr (Or.inr (Or.inl ⟨rfl, hp, rfl, rfl, fun _ _ => rfl⟩)))
    · exact fun z => absurd z (by decide)
    · exact fun z => absurd z (by decide)
    · exact fun S w kk h => x_bits0 kk h (by decide)
theorem mk_4 (kk : cI ad C ρ Z (q + 1) S) (mm : mR C ρ Z σ) (hC : wfC C) (hV : wfV C ρ) (hS : okS ρ) (hZ : wfK (z_m Z) (z_k Z) (z_r Z)) : jStep (ad 0) q (f_X10_make (ad 0) 4 a b c v S) (f_X11_make 4 a b c v σ) := by
  have h32 := hC.1
  have pre : ∀ x, f_X11_isLane a = some x → mk_pre 4 a b c v (mk_clear (h_n C) σ) = f_X11_makeFirst_b64 4 a b v x (mk_clear (h_n C) σ) := fun x e => by
    unfold mk_pre f_X11_makeFirst
    rw [if_neg (by decide), if_pos (by decide)]
    unfold f_X11_makeFirst_b17
    rw [if_pos rfl, if_neg (by decide), if_neg (by decide), if_neg (by decide), cP_s e]
  have st := mB.start mm
  refine make_asm (P := lanep a ∧ True ∧ True ∧ True) (xb := 0) (xc := 0) (xv := 0) (b1 := 0) (c1 := 0) (v1 := 0) kk mm hC hV hS hZ (by decide) (by decide) (by decide) (by decide) rfl rfl rfl (fun S w kk h => told_of kk h (by decide) (x_lane h (by decide) (by decide)) (fun _ => x_sec h (by decide)) (fun _ => x_thi h (by decide)) (fun _ => x_kbm h (by decide))) (fun hn => ?_) (fun hy => Or.inr ?_)
  · rcases lane_is a with ⟨d, -, -, e⟩ | ⟨d, -, -, e⟩
    · rw [pre _ e]
      unfold f_X11_makeFirst_b64
      rw [if_neg n10]
      exact absurd ⟨d, trivial, trivial, trivial⟩ hn
    · rw [pre _ e]
      unfold f_X11_makeFirst_b64
      rw [if_pos rfl]
      exact ⟨_, rfl, mk_clear_R mm⟩
  · obtain ⟨hp, h2, -, h4⟩ := hy
    refine ⟨1, (fun _ => 8 + a), 4, 0, fun S w kk h rm => ?_, ?_, ⟨by decide, ?_, ?_⟩, ?_, ?_, ?_, ?_⟩
    · obtain ⟨t, S4, e1, e2, e3⟩ := of_is (n := 1) (rm.le (n1 := 2) (s1 := 7) (by decide) (by decide)) (by decide) 4 (8 + a) 0 0
      refine ⟨t, S4, 2, 7, ?_, e2, by decide, by decide, e3.eqk (j0 rfl)⟩
      rw [x_type h (by decide)]
      unfold f_X3_typeAlone
      rw [gI_s h.1 h.2.2.1, gI_s h.1 h.2.1, if_neg (by decide), if_neg (by decide), if_neg (by decide), if_pos (by decide), call_id]
      exact e1
    · have e : f_X11_isLane a = some 1 := by
        rcases lane_is a with ⟨-, -, -, e⟩ | ⟨d, -, -, -⟩
        · exact e
        · exact absurd hp d
      rw [pre _ e]
      unfold f_X11_makeFirst_b64
      rw [if_neg n10]
      rw [if_neg (by decide), if_neg (by decide)]
      unfold f_X11_makeFirst_b105
      rw [o_l, if_neg (by decide), o_l, if_neg (by decide)]
      unfold f_X11_makeFirst_b140
      obtain ⟨τ0, g0, t0⟩ := m_gives (((st.p4 a).p5 0).pL 0) h32 a
      obtain ⟨τ1, g1, t1⟩ := m_takes t0 hC (by decide) (8 + a)
      obtain ⟨τ9, g9, t9⟩ := m_gives t1 h32 4
      rw [o_l, call_s g0, if_neg (by decide), if_neg (by decide), if_neg (by decide), if_pos (by decide), call_s g1, call_s g9]
      have tf : mB C ρ Z a 0 0 0 (1) (fun _ => 8 + a) 4 τ9 := mB.eqk (m := 0 + 1) t9 (by
        intro j hj _
        have hj : j < 1 := hj
        have : j = 0 := by omega
        subst this; rfl)
      exact ⟨_, rfl, tf.1, tf.A (by decide)⟩
    · exact kindp.lit (n := 4) (by decide)
    · exact j0 (hp.row)
    · exact Or.inr (Or.inr (Or.inr (Or.inr (Or.inl ⟨rfl, hp, rfl, rfl, fun _ _ => rfl⟩))))
    · exact fun z => absurd z (by decide)
    · exact fun z => absurd z (by decide)
    · exact fun S w kk h => x_bits0 kk h (by decide)
theorem mk_5 (kk : cI ad C ρ Z (q + 1) S) (mm : mR C ρ Z σ) (hC : wfC C) (hV : wfV C ρ) (hS : okS ρ) (hZ : wfK (z_m Z) (z_k Z) (z_r Z)) : jStep (ad 0) q (f_X10_make (ad 0) 5 a b c v S) (f_X11_make 5 a b c v σ) := by
  have h32 := hC.1
  have pre : ∀ x, f_X11_isLane a = some x → mk_pre 5 a b c v (mk_clear (h_n C) σ) = f_X11_makeFirst_b64 5 a b v x (mk_clear (h_n C) σ) := fun x e => by
    unfold mk_pre f_X11_makeFirst
    rw [if_neg (by decide), if_pos (by decide)]
    unfold f_X11_makeFirst_b17
    rw [if_pos rfl, if_neg (by decide), if_neg (by decide), if_neg (by decide), cP_s e]
  have st := mB.start mm
  refine make_asm (P := lanep a ∧ True ∧ True ∧ True) (xb := 0) (xc := 0) (xv := 0) (b1 := 0) (c1 := 0) (v1 := 0) kk mm hC hV hS hZ (by decide) (by decide) (by decide) (by decide) rfl rfl rfl (fun S w kk h => told_of kk h (by decide) (x_lane h (by decide) (by decide)) (fun _ => x_sec h (by decide)) (fun _ => x_thi h (by decide)) (fun _ => x_kbm h (by decide))) (fun hn => ?_) (fun hy => Or.inr ?_)
  · rcases lane_is a with ⟨d, -, -, e⟩ | ⟨d, -, -, e⟩
    · rw [pre _ e]
      unfold f_X11_makeFirst_b64
      rw [if_neg n10]
      exact absurd ⟨d, trivial, trivial, trivial⟩ hn
    · rw [pre _ e]
      unfold f_X11_makeFirst_b64
      rw [if_pos rfl]
      exact ⟨_, rfl, mk_clear_R mm⟩
  · obtain ⟨hp, h2, -, h4⟩ := hy
    refine ⟨1, (fun _ => 4), (8 + a), 0, fun S w kk h rm => ?_, ?_, ⟨by decide, ?_, ?_⟩, ?_, ?_, ?_, ?_⟩
    · obtain ⟨t, S4, e1, e2, e3⟩ := of_is (n := 1) (rm.le (n1 := 2) (s1 := 7) (by decide) (by decide)) (by decide) (8 + a) 4 0 0
      refine ⟨t, S4, 2, 7, ?_, e2, by decide, by decide, e3.eqk (j0 rfl)⟩
      rw [x_type h (by decide)]
      unfold f_X3_typeAlone
      rw [gI_s h.1 h.2.2.1, gI_s h.1 h.2.1, if_neg (by decide), if_neg (by decide), if_neg (by decide), if_neg (by decide), if_pos (by decide), call_id]
      exact e1
    · have e : f_X11_isLane a = some 1 := by
        rcases lane_is a with ⟨-, -, -, e⟩ | ⟨d, -, -, -⟩
        · exact e
        · exact absurd hp d
      rw [pre _ e]
      unfold f_X11_makeFirst_b64
      rw [if_neg n10]
      rw [if_neg (by decide), if_neg (by decide)]
      unfold f_X11_makeFirst_b105
      rw [o_l, if_neg (by decide), o_l, if_neg (by decide)]
      unfold f_X11_makeFirst_b140
      obtain ⟨τ0, g0, t0⟩ := m_gives (((st.p4 a).p5 0).pL 0) h32 a
      obtain ⟨τ1, g1, t1⟩ := m_takes t0 hC (by decide) 4
      obtain ⟨τ9, g9, t9⟩ := m_gives t1 h32 (8 + a)
      rw [o_l, call_s g0, if_neg (by decide), if_neg (by decide), if_neg (by decide), if_neg (by decide), if_pos (by decide), call_s g1, call_s g9]
      have tf : mB C ρ Z a 0 0 0 (1) (fun _ => 4) (8 + a) τ9 := mB.eqk (m := 0 + 1) t9 (by
        intro j hj _
        have hj : j < 1 := hj
        have : j = 0 := by omega
        subst this; rfl)
      exact ⟨_, rfl, tf.1, tf.A (by decide)⟩
    · exact hp.row
    · exact j0 (kindp.lit (n := 4) (by decide))
    · exact Or.inr (Or.inr (Or.inr (Or.inr (Or.inr (Or.inl ⟨rfl, hp, rfl, rfl, fun _ _ => rfl⟩)))))
    · exact fun z => absurd z (by decide)
    · exact fun z => absurd z (by decide)
    · exact fun S w kk h => x_bits0 kk h (by decide)
theorem mk_6 (kk : cI ad C ρ Z (q + 1) S) (mm : mR C ρ Z σ) (hC : wfC C) (hV : wfV C ρ) (hS : okS ρ) (hZ : wfK (z_m Z) (z_k Z) (z_r Z)) : jStep (ad 0) q (f_X10_make (ad 0) 6 a b c v S) (f_X11_make 6 a b c v σ) := by
  have h32 := hC.1
  have pre : ∀ x, f_X11_in a.toInt64 4 7 = some x → mk_pre 6 a b c v (mk_clear (h_n C) σ) = f_X11_makeFirst_b64 6 a b v x (mk_clear (h_n C) σ) := fun x e => by
    unfold mk_pre f_X11_makeFirst
    rw [if_neg (by decide), if_neg (by decide), if_neg (by decide)]
    unfold f_X11_makeFirst_b17
    rw [if_neg n10, cP_s e]
  have st := mB.start mm
  refine make_asm (P := nump a ∧ True ∧ True ∧ True) (xb := 0) (xc := 0) (xv := 0) (b1 := 0) (c1 := 0) (v1 := 0) kk mm hC hV hS hZ (by decide) (by decide) (by decide) (by decide) rfl rfl rfl (fun S w kk h => told_of kk h (by decide) (x_num h (by decide) (by decide) (by decide)) (fun _ => x_sec h (by decide)) (fun _ => x_thi h (by decide)) (fun _ => x_kbm h (by decide))) (fun hn => ?_) (fun hy => Or.inr ?_)
  · rcases num_is a with ⟨d, -, e⟩ | ⟨d, -, e⟩
    · rw [pre _ e]
      unfold f_X11_makeFirst_b64
      rw [if_neg n10]
      exact absurd ⟨d, trivial, trivial, trivial⟩ hn
    · rw [pre _ e]
      unfold f_X11_makeFirst_b64
      rw [if_pos rfl]
      exact ⟨_, rfl, mk_clear_R mm⟩
  · obtain ⟨hp, h2, -, h4⟩ := hy
    refine ⟨2, (fun _ => a), a, 0, fun S w kk h rm => ?_, ?_, ⟨by decide, ?_, ?_⟩, ?_, ?_, ?_, ?_⟩
    · obtain ⟨t, S4, e1, e2, e3⟩ := of_is (n := 2) (rm.le (n1 := 2) (s1 := 7) (by decide) (by decide)) (by decide) a a a 0
      refine ⟨t, S4, 2, 7, ?_, e2, by decide, by decide, e3.eqk (j01 rfl rfl)⟩
      rw [x_type h (by decide)]
      unfold f_X3_typeAlone
      rw [gI_s h.1 h.2.2.1, gI_s h.1 h.2.1, if_neg (by decide), if_neg (by decide), if_neg (by decide), if_neg (by decide), if_neg (by decide), if_pos (by decide), call_id]
      exact e1
    · have e : f_X11_in a.toInt64 4 7 = some 1 := by
        rcases num_is a with ⟨-, -, e⟩ | ⟨d, -, -⟩
        · exact e
        · exact absurd hp d
      rw [pre _ e]
      unfold f_X11_makeFirst_b64
      rw [if_neg n10]
      rw [if_neg (by decide), if_neg (by decide)]
      unfold f_X11_makeFirst_b105
      rw [o_l, if_neg (by decide), o_l, if_neg (by decide)]
      unfold f_X11_makeFirst_b140
      obtain ⟨τ0, g0, t0⟩ := m_gives (((st.p4 a).p5 0).pL 0) h32 a
      obtain ⟨τ1, g1, t1⟩ := m_takes t0 hC (by decide) a
      obtain ⟨τ2, g2, t2⟩ := m_takes t1 hC (by decide) a
      obtain ⟨τ9, g9, t9⟩ := m_gives t2 h32 a
      rw [o_l, call_s g0, if_neg (by decide), if_neg (by decide), if_neg (by decide), if_neg (by decide), if_neg (by decide), if_pos (by decide), call_s g1, call_s g2, if_neg (by decide), call_s g9]
      have tf : mB C ρ Z a 0 0 0 (2) (fun _ => a) a τ9 := mB.eqk (m := 0 + 1 + 1) t9 (by
        intro j hj _
        have hj : j < 2 := hj
        have : j = 0 ∨ j = 1 := by omega
        rcases this with rfl | rfl <;> rfl)
      exact ⟨_, rfl, tf.1, tf.A (by decide)⟩
    · exact hp.lane.kind
    · exact j01 (hp.lane.kind) (hp.lane.kind)
    · exact Or.inr (Or.inr (Or.inr (Or.inr (Or.inr (Or.inr (Or.inl ⟨rfl, hp, rfl, rfl, fun _ _ => rfl⟩))))))
    · exact fun z => absurd z (by decide)
    · exact fun z => absurd z (by decide)
    · exact fun S w kk h => x_bits0 kk h (by decide)
theorem mk_7 (kk : cI ad C ρ Z (q + 1) S) (mm : mR C ρ Z σ) (hC : wfC C) (hV : wfV C ρ) (hS : okS ρ) (hZ : wfK (z_m Z) (z_k Z) (z_r Z)) : jStep (ad 0) q (f_X10_make (ad 0) 7 a b c v S) (f_X11_make 7 a b c v σ) := by
  have h32 := hC.1
  have pre : ∀ x, f_X11_in a.toInt64 4 7 = some x → mk_pre 7 a b c v (mk_clear (h_n C) σ) = f_X11_makeFirst_b64 7 a b v x (mk_clear (h_n C) σ) := fun x e => by
    unfold mk_pre f_X11_makeFirst
    rw [if_neg (by decide), if_neg (by decide), if_neg (by decide)]
    unfold f_X11_makeFirst_b17
    rw [if_neg n10, cP_s e]
  have st := mB.start mm
  refine make_asm (P := nump a ∧ True ∧ True ∧ True) (xb := 0) (xc := 0) (xv := 0) (b1 := 0) (c1 := 0) (v1 := 0) kk mm hC hV hS hZ (by decide) (by decide) (by decide) (by decide) rfl rfl rfl (fun S w kk h => told_of kk h (by decide) (x_num h (by decide) (by decide) (by decide)) (fun _ => x_sec h (by decide)) (fun _ => x_thi h (by decide)) (fun _ => x_kbm h (by decide))) (fun hn => ?_) (fun hy => Or.inr ?_)
  · rcases num_is a with ⟨d, -, e⟩ | ⟨d, -, e⟩
    · rw [pre _ e]
      unfold f_X11_makeFirst_b64
      rw [if_neg n10]
      exact absurd ⟨d, trivial, trivial, trivial⟩ hn
    · rw [pre _ e]
      unfold f_X11_makeFirst_b64
      rw [if_pos rfl]
      exact ⟨_, rfl, mk_clear_R mm⟩
  · obtain ⟨hp, h2, -, h4⟩ := hy
    refine ⟨2, (fun _ => a), a, 0, fun S w kk h rm => ?_, ?_, ⟨by decide, ?_, ?_⟩, ?_, ?_, ?_, ?_⟩
    · obtain ⟨t, S4, e1, e2, e3⟩ := of_is (n := 2) (rm.le (n1 := 2) (s1 := 7) (by decide) (by decide)) (by decide) a a a 0
      refine ⟨t, S4, 2, 7, ?_, e2, by decide, by decide, e3.eqk (j01 rfl rfl)⟩
      rw [x_type h (by decide)]
      unfold f_X3_typeAlone
      rw [gI_s h.1 h.2.2.1, gI_s h.1 h.2.1, if_neg (by decide), if_neg (by decide), if_neg (by decide), if_neg (by decide), if_neg (by decide), if_pos (by decide), call_id]
      exact e1
    · have e : f_X11_in a.toInt64 4 7 = some 1 := by
        rcases num_is a with ⟨-, -, e⟩ | ⟨d, -, -⟩
        · exact e
        · exact absurd hp d
      rw [pre _ e]
      unfold f_X11_makeFirst_b64
      rw [if_neg n10]
      rw [if_neg (by decide), if_neg (by decide)]
      unfold f_X11_makeFirst_b105
      rw [o_l, if_neg (by decide), o_l, if_neg (by decide)]
      unfold f_X11_makeFirst_b140
      obtain ⟨τ0, g0, t0⟩ := m_gives (((st.p4 a).p5 0).pL 0) h32 a
      obtain ⟨τ1, g1, t1⟩ := m_takes t0 hC (by decide) a
      obtain ⟨τ2, g2, t2⟩ := m_takes t1 hC (by decide) a
      obtain ⟨τ9, g9, t9⟩ := m_gives t2 h32 a
      rw [o_l, call_s g0, if_neg (by decide), if_neg (by decide), if_neg (by decide), if_neg (by decide), if_neg (by decide), if_pos (by decide), call_s g1, call_s g2, if_neg (by decide), call_s g9]
      have tf : mB C ρ Z a 0 0 0 (2) (fun _ => a) a τ9 := mB.eqk (m := 0 + 1 + 1) t9 (by
        intro j hj _
        have hj : j < 2 := hj
        have : j = 0 ∨ j = 1 := by omega
        rcases this with rfl | rfl <;> rfl)
      exact ⟨_, rfl, tf.1, tf.A (by decide)⟩
    · exact hp.lane.kind
    · exact j01 (hp.lane.kind) (hp.lane.kind)
    · exact Or.inr (Or.inr (Or.inr (Or.inr (Or.inr (Or.inr (Or.inr (Or.inl ⟨rfl, hp, rfl, rfl, fun _ _ => rfl⟩)))))))
    · exact fun z => absurd z (by decide)
    · exact fun z => absurd z (by decide)
    · exact fun S w kk h => x_bits0 kk h (by decide)
theorem mk_8 (kk : cI ad C ρ Z (q + 1) S) (mm : mR C ρ Z σ) (hC : wfC C) (hV : wfV C ρ) (hS : okS ρ) (hZ : wfK (z_m Z) (z_k Z) (z_r Z)) : jStep (ad 0) q (f_X10_make (ad 0) 8 a b c v S) (f_X11_make 8 a b c v σ) := by
  have h32 := hC.1
  have pre : ∀ x, f_X11_in a.toInt64 4 7 = some x → mk_pre 8 a b c v (mk_clear (h_n C) σ) = f_X11_makeFirst_b64 8 a b v x (mk_clear (h_n C) σ) := fun x e => by
    unfold mk_pre f_X11_makeFirst
    rw [if_neg (by decide), if_neg (by decide), if_neg (by decide)]
    unfold f_X11_makeFirst_b17
    rw [if_neg n10, cP_s e]
  have st := mB.start mm
  refine make_asm (P := nump a ∧ True ∧ True ∧ True) (xb := 0) (xc := 0) (xv := 0) (b1 := 0) (c1 := 0) (v1 := 0) kk mm hC hV hS hZ (by decide) (by decide) (by decide) (by decide) rfl rfl rfl (fun S w kk h => told_of kk h (by decide) (x_num h (by decide) (by decide) (by decide)) (fun _ => x_sec h (by decide)) (fun _ => x_thi h (by decide)) (fun _ => x_kbm h (by decide))) (fun hn => ?_) (fun hy => Or.inr ?_)
  · rcases num_is a with ⟨d, -, e⟩ | ⟨d, -, e⟩
    · rw [pre _ e]
      unfold f_X11_makeFirst_b64
      rw [if_neg n10]
      exact absurd ⟨d, trivial, trivial, trivial⟩ hn
    · rw [pre _ e]
      unfold f_X11_makeFirst_b64
      rw [if_pos rfl]
      exact ⟨_, rfl, mk_clear_R mm⟩
  · obtain ⟨hp, h2, -, h4⟩ := hy
    refine ⟨2, (fun _ => a), 0, 0, fun S w kk h rm => ?_, ?_, ⟨by decide, ?_, ?_⟩, ?_, ?_, ?_, ?_⟩
    · obtain ⟨t, S4, e1, e2, e3⟩ := of_is (n := 2) (rm.le (n1 := 2) (s1 := 7) (by decide) (by decide)) (by decide) 0 a a 0
      refine ⟨t, S4, 2, 7, ?_, e2, by decide, by decide, e3.eqk (j01 rfl rfl)⟩
      rw [x_type h (by decide)]
      unfold f_X3_typeAlone
      rw [gI_s h.1 h.2.2.1, gI_s h.1 h.2.1, if_neg (by decide), if_neg (by decide), if_neg (by decide), if_neg (by decide), if_neg (by decide), if_neg (by decide), if_pos (by decide), call_id]
      exact e1
    · have e : f_X11_in a.toInt64 4 7 = some 1 := by
        rcases num_is a with ⟨-, -, e⟩ | ⟨d, -, -⟩
        · exact e
        · exact absurd hp d
      rw [pre _ e]
      unfold f_X11_makeFirst_b64
      rw [if_neg n10]
      rw [if_neg (by decide), if_neg (by decide)]
      unfold f_X11_makeFirst_b105
      rw [o_l, if_neg (by decide), o_l, if_neg (by decide)]
      unfold f_X11_makeFirst_b140
      obtain ⟨τ0, g0, t0⟩ := m_gives (((st.p4 a).p5 0).pL 0) h32 a
      obtain ⟨τ1, g1, t1⟩ := m_takes t0 hC (by decide) a
      obtain ⟨τ2, g2, t2⟩ := m_takes t1 hC (by decide) a
      obtain ⟨τ9, g9, t9⟩ := m_gives t2 h32 0
      rw [o_l, call_s g0, if_neg (by decide), if_neg (by decide), if_neg (by decide), if_neg (by decide), if_neg (by decide), if_pos (by decide), call_s g1, call_s g2, if_pos rfl, call_s g9]
      have tf : mB C ρ Z a 0 0 0 (2) (fun _ => a) 0 τ9 := mB.eqk (m := 0 + 1 + 1) t9 (by
        intro j hj _
        have hj : j < 2 := hj
        have : j = 0 ∨ j = 1 := by omega
        rcases this with rfl | rfl <;> rfl)
      exact ⟨_, rfl, tf.1, tf.A (by decide)⟩
    · exact kindp.lit (n := 0) (by decide)
    · exact j01 (hp.lane.kind) (hp.lane.kind)
    · exact Or.inr (Or.inr (Or.inr (Or.inr (Or.inr (Or.inr (Or.inr (Or.inr (Or.inl ⟨rfl, hp, rfl, rfl, fun _ _ => rfl⟩))))))))
    · exact fun z => absurd z (by decide)
    · exact fun z => absurd z (by decide)
    · exact fun S w kk h => x_bits0 kk h (by decide)
theorem mk_9 (kk : cI ad C ρ Z (q + 1) S) (mm : mR C ρ Z σ) (hC : wfC C) (hV : wfV C ρ) (hS : okS ρ) (hZ : wfK (z_m Z) (z_k Z) (z_r Z)) : jStep (ad 0) q (f_X10_make (ad 0) 9 a b c v S) (f_X11_make 9 a b c v σ) := by
  have h32 := hC.1
  have pre : ∀ x, f_X11_isKind a = some x → mk_pre 9 a b c v (mk_clear (h_n C) σ) = f_X11_makeFirst_b64 9 a b v x (mk_clear (h_n C) σ) := fun x e => by
    unfold mk_pre f_X11_makeFirst
    rw [if_neg (by decide), if_neg (by decide), if_pos (by decide)]
    unfold f_X11_makeFirst_b17
    rw [if_pos rfl, if_neg (by decide), if_neg (by decide), if_pos (by decide), cP_s e]
  have st := mB.start mm
  refine make_asm (P := kindp a ∧ (0 ≤ b ∧ b ≤ 9) ∧ True ∧ True) (xb := 1) (xc := 0) (xv := 0) (b1 := b) (c1 := 0) (v1 := 0) kk mm hC hV hS hZ (by decide) (by decide) (by decide) (by decide) rfl rfl rfl (fun S w kk h => told_of kk h (by decide) (x_kind h (by decide)) (fun _ => x_sec9 h) (fun _ => x_thi h (by decide)) (fun _ => x_kbm h (by decide))) (fun hn => ?_) (fun hy => Or.inr ?_)
  · rcases kind_is a with ⟨d, -, e⟩ | ⟨d, -, e⟩
    · rw [pre _ e]
      unfold f_X11_makeFirst_b64
      rw [if_neg n10]
      rw [if_pos rfl]
      rcases nine_is (S := S) b with ⟨d2, -, e2⟩ | ⟨d2, -, e2⟩
      · exact absurd ⟨d, d2, trivial, trivial⟩ hn
      · rw [cP_s e2, if_pos rfl]
        exact ⟨_, rfl, mk_clear_R mm⟩
    · rw [pre _ e]
      unfold f_X11_makeFirst_b64
      rw [if_pos rfl]
      exact ⟨_, rfl, mk_clear_R mm⟩
  · obtain ⟨hp, h2, -, h4⟩ := hy
    refine ⟨0, (fun _ => a), a, 0, fun S w kk h rm => ?_, ?_, ⟨by decide, ?_, ?_⟩, ?_, ?_, ?_, ?_⟩
    · obtain ⟨t, S4, e1, e2, e3⟩ := of_is (n := 0) (rm.le (n1 := 2) (s1 := 7) (by decide) (by decide)) (by decide) a 0 0 0
      refine ⟨t, S4, 2, 7, ?_, e2, by decide, by decide, e3.eqk (fun j hj => absurd hj (Nat.not_lt_zero j))⟩
      rw [x_type h (by decide)]
      unfold f_X3_typeAlone
      rw [gI_s h.1 h.2.2.1, gI_s h.1 h.2.1, if_neg (by decide), if_neg (by decide), if_neg (by decide), if_neg (by decide), if_neg (by decide), if_neg (by decide), if_neg (by decide), if_neg (by decide), if_pos (by decide), call_id]
      exact e1
    · have e : f_X11_isKind a = some 1 := by
        rcases kind_is a with ⟨-, -, e⟩ | ⟨d, -, -⟩
        · exact e
        · exact absurd hp d
      rw [pre _ e]
      unfold f_X11_makeFirst_b64
      rw [if_neg n10]
      rw [if_pos rfl]
      rcases nine_is (S := S) b with ⟨-, -, e2⟩ | ⟨d2, -, -⟩
      · rw [cP_s e2, if_neg n10, if_neg (by decide)]
        unfold f_X11_makeFirst_b105
        rw [o_l, if_pos rfl, o_l, if_neg (by decide)]
        unfold f_X11_makeFirst_b140
        obtain ⟨τ0, g0, t0⟩ := m_gives (((st.p4 a).p5 b).pL 0) h32 a
        rw [o_l, call_s g0, if_neg (by decide), if_neg (by decide), if_neg (by decide), if_neg (by decide), if_neg (by decide), if_neg (by decide), if_neg (by decide), if_pos (by decide)]
        have tf : mB C ρ Z a b 0 0 (0) (fun _ => a) a τ0 := mB.eqk (m := 0) t0 (by
          intro j hj _
          omega)
        exact ⟨_, rfl, tf.1, tf.A (by decide)⟩
      · exact absurd h2 d2
    · exact hp
    · intro j hj; omega
    · exact Or.inr (Or.inr (Or.inr (Or.inr (Or.inr (Or.inr (Or.inr (Or.inr (Or.inr (Or.inl ⟨rfl, hp, h2, rfl, rfl, fun _ _ => rfl⟩)))))))))
    · exact fun z => absurd z (by decide)
    · exact fun z => absurd z (by decide)
    · exact fun S w kk h => x_bits0 kk h (by decide)
theorem mk_10 (kk : cI ad C ρ Z (q + 1) S) (mm : mR C ρ Z σ) (hC : wfC C) (hV : wfV C ρ) (hS : okS ρ) (hZ : wfK (z_m Z) (z_k Z) (z_r Z)) : jStep (ad 0) q (f_X10_make (ad 0) 10 a b c v S) (f_X11_make 10 a b c v σ) := by
  have h32 := hC.1
  have pre : ∀ x, f_X11_isLane a = some x → mk_pre 10 a b c v (mk_clear (h_n C) σ) = f_X11_makeFirst_b64 10 a b v x (mk_clear (h_n C) σ) := fun x e => by
    unfold mk_pre f_X11_makeFirst
    rw [if_neg (by decide), if_neg (by decide), if_pos (by decide)]
    unfold f_X11_makeFirst_b17
    rw [if_pos rfl, if_neg (by decide), if_neg (by decide), if_neg (by decide), cP_s e]
  have st := mB.start mm
  refine make_asm (P := lanep a ∧ True ∧ True ∧ True) (xb := 0) (xc := 0) (xv := 0) (b1 := 0) (c1 := 0) (v1 := 0) kk mm hC hV hS hZ (by decide) (by decide) (by decide) (by decide) rfl rfl rfl (fun S w kk h => told_of kk h (by decide) (x_lane h (by decide) (by decide)) (fun _ => x_sec h (by decide)) (fun _ => x_thi h (by decide)) (fun _ => x_kbm h (by decide))) (fun hn => ?_) (fun hy => Or.inr ?_)
  · rcases lane_is a with ⟨d, -, -, e⟩ | ⟨d, -, -, e⟩
    · rw [pre _ e]
      unfold f_X11_makeFirst_b64
      rw [if_neg n10]
      exact absurd ⟨d, trivial, trivial, trivial⟩ hn
    · rw [pre _ e]
      unfold f_X11_makeFirst_b64
      rw [if_pos rfl]
      exact ⟨_, rfl, mk_clear_R mm⟩
  · obtain ⟨hp, h2, -, h4⟩ := hy
    refine ⟨1, (fun _ => 16), (8 + a), 0, fun S w kk h rm => ?_, ?_, ⟨by decide, ?_, ?_⟩, ?_, ?_, ?_, ?_⟩
    · obtain ⟨t, S4, e1, e2, e3⟩ := of_is (n := 1) (rm.le (n1 := 2) (s1 := 7) (by decide) (by decide)) (by decide) (8 + a) 16 0 0
      refine ⟨t, S4, 2, 7, ?_, e2, by decide, by decide, e3.eqk (j0 rfl)⟩
      rw [x_type h (by decide)]
      unfold f_X3_typeAlone
      rw [gI_s h.1 h.2.2.1, gI_s h.1 h.2.1, if_neg (by decide), if_neg (by decide), if_neg (by decide), if_neg (by decide), if_neg (by decide), if_neg (by decide), if_neg (by decide), if_pos (by decide), call_id]
      exact e1
    · have e : f_X11_isLane a = some 1 := by
        rcases lane_is a with ⟨-, -, -, e⟩ | ⟨d, -, -, -⟩
        · exact e
        · exact absurd hp d
      rw [pre _ e]
      unfold f_X11_makeFirst_b64
      rw [if_neg n10]
      rw [if_neg (by decide), if_neg (by decide)]
      unfold f_X11_makeFirst_b105
      rw [o_l, if_neg (by decide), o_l, if_neg (by decide)]
      unfold f_X11_makeFirst_b140
      obtain ⟨τ0, g0, t0⟩ := m_gives (((st.p4 a).p5 0).pL 0) h32 a
      obtain ⟨τ1, g1, t1⟩ := m_takes t0 hC (by decide) 16
      obtain ⟨τ9, g9, t9⟩ := m_gives t1 h32 (8 + a)
      rw [o_l, call_s g0, if_neg (by decide), if_neg (by decide), if_neg (by decide), if_neg (by decide), if_neg (by decide), if_neg (by decide), if_pos (by decide), call_s g1, call_s g9]
      have tf : mB C ρ Z a 0 0 0 (1) (fun _ => 16) (8 + a) τ9 := mB.eqk (m := 0 + 1) t9 (by
        intro j hj _
        have hj : j < 1 := hj
        have : j = 0 := by omega
        subst this; rfl)
      exact ⟨_, rfl, tf.1, tf.A (by decide)⟩
    · exact hp.row
    · exact j0 (kindp.lit (n := 16) (by decide))
    · exact Or.inr (Or.inr (Or.inr (Or.inr (Or.inr (Or.inr (Or.inr (Or.inr (Or.inr (Or.inr (Or.inl ⟨rfl, hp, rfl, rfl, fun _ _ => rfl⟩))))))))))
    · exact fun z => absurd z (by decide)
    · exact fun z => absurd z (by decide)
    · exact fun S w kk h => x_bits0 kk h (by decide)
end BLD
