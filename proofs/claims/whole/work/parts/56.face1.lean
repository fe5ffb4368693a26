/-! the class and the reference, call by call: rows, numbers given, what is told of a run -/
theorem in_rng (x : Int32) {n : Nat} (hn : n < 2 ^ 30) : (∃ j, j ≤ n ∧ x = nI j ∧ f_X11_in x.toInt64 0 (lN n) = some 1) ∨ ((x < 0 ∨ nI n < x) ∧ f_X11_in x.toInt64 0 (lN n) = some 0 ∧ ∀ j, j ≤ n → x ≠ nI j) := by
  have hN : (nI n).toInt = (n : Int) := nI_toInt (by omega)
  have hL : (lN n).toInt = (n : Int) := pk_lT (by omega)
  by_cases c : 0 ≤ x.toInt ∧ x.toInt ≤ n
  · refine Or.inl ⟨x.toInt.toNat, by omega, ?_, ?_⟩
    · apply Int32.toInt_inj.mp
      rw [nI_toInt (by omega)]; omega
    · rw [in_is, if_pos]
      rw [Int64.le_iff_toInt_le, Int64.le_iff_toInt_le, Int32.toInt_toInt64, hL, show (0 : Int64).toInt = 0 by decide]
      exact c
  · refine Or.inr ⟨?_, ?_, fun j hj e => ?_⟩
    · rw [Int32.lt_iff_toInt_lt, Int32.lt_iff_toInt_lt, hN, show (0 : Int32).toInt = 0 by decide]; omega
    · rw [in_is, if_neg]
      rw [Int64.le_iff_toInt_le, Int64.le_iff_toInt_le, Int32.toInt_toInt64, hL, show (0 : Int64).toInt = 0 by decide]
      exact c
    · subst e
      rw [nI_toInt (by omega)] at c; omega
theorem in_idx (x : Int32) {n : Nat} (hn : n < 2 ^ 30) : (∃ j, j < n ∧ x = nI j ∧ f_X11_in x.toInt64 0 ((nI n - (1 : Int32)).toInt64) = some 1) ∨ ((∀ j, j < n → x ≠ nI j) ∧ f_X11_in x.toInt64 0 ((nI n - (1 : Int32)).toInt64) = some 0) := by
  rw [in_n hn, Int32.toInt_toInt64]
  by_cases c : 0 ≤ x.toInt ∧ x.toInt < (n : Int)
  · refine Or.inl ⟨x.toInt.toNat, by omega, ?_, by rw [if_pos c]⟩
    apply Int32.toInt_inj.mp
    rw [nI_toInt (by omega)]; omega
  · refine Or.inr ⟨fun j hj e => ?_, by rw [if_neg c]⟩
    subst e
    rw [nI_toInt (by omega)] at c; omega
theorem lane_is (x : Int32) : (lanep x ∧ f_X2_isLane x = some 1 ∧ f_X11_in x.toInt64 0 7 = some 1 ∧ f_X11_isLane x = some 1) ∨ (¬ lanep x ∧ f_X2_isLane x = some 0 ∧ f_X11_in x.toInt64 0 7 = some 0 ∧ f_X11_isLane x = some 0) := by
  have hI : ∀ v, f_X11_in x.toInt64 0 7 = some v → (v = 0 ∨ v = 1) → f_X11_isLane x = some v := fun v e hv => by
    unfold f_X11_isLane; rw [cP_s e, ck_t hv]
  rcases in_rng x (n := 7) (by decide) with ⟨j, h1, h2, h3⟩ | ⟨h1, h2, h3⟩
  · refine Or.inl ⟨⟨j, by omega, h2⟩, ?_, h3, hI 1 h3 (Or.inr rfl)⟩
    subst h2
    unfold f_X2_isLane
    rw [if_neg (nI_pos (by omega)), if_neg (show ¬ (7 : Int32) < nI j by rw [show (7 : Int32) = nI 7 from rfl, nI_ltI (by decide) (by omega)]; omega)]
  · refine Or.inr ⟨fun ⟨j, z1, z2⟩ => h3 j (by omega) z2, ?_, h2, hI 0 h2 (Or.inl rfl)⟩
    unfold f_X2_isLane
    rcases h1 with h1 | h1
    · rw [if_pos h1]
    · by_cases c : x < 0
      · rw [if_pos c]
      · rw [if_neg c, if_pos (show (7 : Int32) < x from h1)]
theorem kind_is (x : Int32) : (kindp x ∧ f_X2_isKind x = some 1 ∧ f_X11_isKind x = some 1) ∨ (¬ kindp x ∧ f_X2_isKind x = some 0 ∧ f_X11_isKind x = some 0) := by
  have hI : ∀ v, f_X11_in x.toInt64 0 16 = some v → (v = 0 ∨ v = 1) → f_X11_isKind x = some v := fun v e hv => by
    unfold f_X11_isKind; rw [cP_s e, ck_t hv]
  rcases in_rng x (n := 16) (by decide) with ⟨j, h1, h2, h3⟩ | ⟨h1, h2, h3⟩
  · refine Or.inl ⟨⟨j, by omega, h2⟩, ?_, hI 1 h3 (Or.inr rfl)⟩
    subst h2
    unfold f_X2_isKind
    rw [if_neg (nI_pos (by omega)), if_neg (show ¬ (16 : Int32) < nI j by rw [show (16 : Int32) = nI 16 from rfl, nI_ltI (by decide) (by omega)]; omega)]
  · refine Or.inr ⟨fun ⟨j, z1, z2⟩ => h3 j (by omega) z2, ?_, hI 0 h2 (Or.inl rfl)⟩
    unfold f_X2_isKind
    rcases h1 with h1 | h1
    · rw [if_pos h1]
    · by_cases c : x < 0
      · rw [if_pos c]
      · rw [if_neg c, if_pos (show (16 : Int32) < x from h1)]
theorem cs_n {α : Type} {n : Option α} {f : Nat → Option α} : o_cs none n f = n := rfl
/-- where both stand alike, with room for so many calls more -/
def jInv (o q : Nat) (S : wS) (σ : mS) : Prop := ∃ (ad : Nat → Nat) (C : hS) (ρ : eS) (Z : zS), ad 0 = o ∧ cI ad C ρ Z q S ∧ mR C ρ Z σ ∧ wfC C ∧ wfV C ρ ∧ okS ρ ∧ wfK (z_m Z) (z_k Z) (z_r Z)
def jStep {α : Type} (o q : Nat) (x : Option (α × wS)) (y : Option (α × mS)) : Prop := ∃ r S1 σ1, x = some (r, S1) ∧ y = some (r, σ1) ∧ jInv o q S1 σ1
theorem n10 : ¬ (1 : Int32) = 0 := by decide
section FACE1
variable {ad : Nat → Nat} {C : hS} {ρ : eS} {Z : zS} {q o : Nat} {S : wS} {σ : mS}
theorem cI.less {q1 : Nat} (h : cI ad C ρ Z q S) (hq : q1 ≤ q) : cI ad C ρ Z q1 S := by
  obtain ⟨⟨⟨h1, h2, h3⟩, h4⟩, h5⟩ := h
  exact ⟨⟨⟨h1, by omega, by omega⟩, h4⟩, h5⟩
theorem m_isRow (w : mRw ρ σ) (x : Int64) : f_X11_isRow x σ = some (if 0 ≤ x.toInt ∧ x.toInt < (e_R ρ : Int) then 1 else 0, σ) := by
  obtain ⟨w1, w2, w3⟩ := w
  unfold f_X11_isRow
  rw [m_gI w1, in_n (by omega)]
  by_cases c : 0 ≤ x.toInt ∧ x.toInt < (e_R ρ : Int)
  · rw [if_pos c, cP_s rfl, ck_t (Or.inr rfl)]
  · rw [if_neg c, cP_s rfl, ck_t (Or.inl rfl)]
theorem m_isItem_yes (w : mRw ρ σ) {x y : Int64} (cx : 0 ≤ x.toInt ∧ x.toInt < (e_R ρ : Int)) (cy : 0 ≤ y.toInt ∧ y.toInt < (e_sz ρ (ix x) : Int)) : f_X11_isItem x y σ = some (1, σ) := by
  obtain ⟨i1, i2⟩ := ix_nI cx (by have := w.2.1; omega)
  obtain ⟨r1, r2, r3, r4⟩ := w.2.2 _ i1
  unfold f_X11_isItem
  rw [call_s (m_isRow w x), if_pos cx, if_neg (by decide), i2, m_rI (n := 16) rfl (by have := w.2.1; omega) (by decide) r2, in_n (by omega), if_pos cy, cP_s rfl, if_neg (by decide)]
theorem m_isItem_no (w : mRw ρ σ) {x y : Int64} (c : ¬ ((0 ≤ x.toInt ∧ x.toInt < (e_R ρ : Int)) ∧ 0 ≤ y.toInt ∧ y.toInt < (e_sz ρ (ix x) : Int))) : f_X11_isItem x y σ = some (0, σ) := by
  unfold f_X11_isItem
  rw [call_s (m_isRow w x)]
  by_cases cx : 0 ≤ x.toInt ∧ x.toInt < (e_R ρ : Int)
  · obtain ⟨i1, i2⟩ := ix_nI cx (by have := w.2.1; omega)
    obtain ⟨r1, r2, r3, r4⟩ := w.2.2 _ i1
    rw [if_pos cx, if_neg (by decide), i2, m_rI (n := 16) rfl (by have := w.2.1; omega) (by decide) r2, in_n (by omega), if_neg (fun z => c ⟨cx, z⟩), cP_s rfl, if_pos rfl]
  · rw [if_neg cx, if_pos rfl]
theorem i32_ix {x : Int32} {z : Nat} (h : 0 ≤ x.toInt64.toInt ∧ x.toInt64.toInt < (z : Int)) (hz : z ≤ 2 ^ 31) : x = nI (ix x.toInt64) ∧ ix x.toInt64 < z := by
  have hn : ix x.toInt64 < z := by show x.toInt64.toInt.toNat < z; omega
  refine ⟨Int32.toInt_inj.mp ?_, hn⟩
  rw [nI_toInt (by omega)]
  show x.toInt = ((x.toInt64.toInt.toNat : Nat) : Int)
  rw [Int32.toInt_toInt64] at h ⊢
  omega
theorem j_row (h : jInv o (q + 1) S σ) (a b : Int32) : jStep o q (f_X10_row o a b S) (f_X11_row a b σ) := by
  obtain ⟨ad, C, ρ, Z, rfl, k, m, hC, hV, hS, hZ⟩ := h
  have stay : jInv (ad 0) q S σ := ⟨ad, C, ρ, Z, rfl, k.less (by omega), m, hC, hV, hS, hZ⟩
  have hO := k.1.2.2.2
  have hR := k.1.2.2.1
  unfold f_X10_row f_X11_row
  rcases lane_is a with ⟨h1, h2, h3, -⟩ | ⟨h1, h2, h3, -⟩
  · rw [cP_s h2, cP_s h3, if_neg n10, if_neg n10]
    rcases in_rng b (n := 8) (by decide) with ⟨n, b1, rfl, b3⟩ | ⟨b1, b2, b3⟩
    · rw [if_neg (nI_pos (by omega)), if_pos (show nI n ≤ (8 : Int32) by rw [show (8 : Int32) = nI 8 from rfl, nI_leI (by omega) (by decide)]; omega), gR_s hO.1 hO.2.1, cs_s rfl, ck_t hR.1, cP_s (show f_X11_in (nI n).toInt64 0 8 = some 1 from b3), if_neg n10, m_gI m.1.1]
      have e16 : (nI (e_R ρ) = 16) ↔ e_R ρ = 16 := nI_eq (b := 16) (by have := hS.1; omega) (by decide)
      by_cases c : e_R ρ = 16
      · rw [call_s (rows_full k c _ _), if_pos (e16.mpr c)]
        exact ⟨_, _, _, rfl, rfl, stay⟩
      · obtain ⟨S1, e1, e2, e3, e4⟩ := rows_add k (by have := hS.1; omega) a b1
        obtain ⟨τ, f1, f2, f3, f4⟩ := m_fresh m (by have := hS.1; omega) (a := a) b1
        obtain ⟨g1, g2⟩ := hS.new h1 b1 (by have := hS.1; omega)
        rw [call_s e1, if_neg (fun z => c (e16.mp z)), call_s f1]
        exact ⟨_, _, _, rfl, rfl, ad, C, _, Z, rfl, e2.less (by omega), f2, hC, hV.mono g2, g1, hZ⟩
    · rw [cP_s (show f_X11_in b.toInt64 0 8 = some 0 from b2), if_pos (rfl : (0 : Int32) = 0)]
      by_cases c : b < 0
      · rw [if_pos c]; exact ⟨_, _, _, rfl, rfl, stay⟩
      · have b1 := b1.resolve_left c
        rw [if_neg c, if_neg (show ¬ b ≤ (8 : Int32) by rw [Int32.le_iff_toInt_le]; rw [Int32.lt_iff_toInt_lt, nI_toInt (by decide)] at b1; rw [show (8 : Int32).toInt = 8 by decide]; omega)]
        exact ⟨_, _, _, rfl, rfl, stay⟩
  · rw [cP_s h2, cP_s h3, if_pos rfl, if_pos rfl]
    exact ⟨_, _, _, rfl, rfl, stay⟩
theorem j_put (h : jInv o (q + 1) S σ) (a b : Int32) (v : Int64) : jStep o q (f_X10_put o a b v S) (f_X11_put a b v σ) := by
  obtain ⟨ad, C, ρ, Z, rfl, k, m, hC, hV, hS, hZ⟩ := h
  have stay : jInv (ad 0) q S σ := ⟨ad, C, ρ, Z, rfl, k.less (by omega), m, hC, hV, hS, hZ⟩
  have hO := k.1.2.2.2
  have hR := k.1.2.2.1
  have h16 := hS.1
  unfold f_X10_put f_X11_put
  rw [gR_s hO.1 hO.2.1, cs_s rfl, ck_t hR.1]
  by_cases cx : 0 ≤ a.toInt64.toInt ∧ a.toInt64.toInt < (e_R ρ : Int)
  · obtain ⟨ia, k1, k2⟩ := hR.2.2.2.2.2.2
    obtain ⟨i1, i2⟩ := i32_ix cx (by omega)
    obtain ⟨-, -, r3, r4, r5, r6, r, r7, r8, r9, r10⟩ := k1 _ i2
    rw [call_s (rows_yes hR cx r7), cs_s rfl, ck_t r8]
    by_cases cy : 0 ≤ b.toInt64.toInt ∧ b.toInt64.toInt < (e_sz ρ (ix a.toInt64) : Int)
    · obtain ⟨j1, j2⟩ := i32_ix cy (by omega)
      have hln := (hS.2.2.2 _ i2).2.1
      have hlp : lanep (e_ln ρ (ix a.toInt64)) := by
        obtain ⟨j, g1, g2⟩ := nI_of2 (x := e_ln ρ (ix a.toInt64)) (M := 7) (n := 7) (by decide) (by rw [Int32.lt_iff_toInt_lt]; have := Int32.le_iff_toInt_le.mp hln.1; omega) hln.2
        exact ⟨j, by omega, g2⟩
      obtain ⟨w, q1, q2, q3, -⟩ := bits_ok (ρ := ρ) v hlp.kind
      have hw : okv ρ (e_ln ρ (ix a.toInt64)) w := q3 (by obtain ⟨j, g1, g2⟩ := hlp; rw [g2, show (8 : Int32) = nI 8 from rfl, nI_ltI (by omega) (by decide)]; exact g1)
      obtain ⟨g1, g2⟩ := hS.set (r := ix a.toInt64) (j := ix b.toInt64) (v := w) (fun _ => hw)
      obtain ⟨q4, q5, q6, q7⟩ := m.1.2.2 _ i2
      have ei : (8 : Int32) * a + b = nI (8 * ix a.toInt64 + ix b.toInt64) := by
        conv => lhs; rw [i1, j1]
        rw [show (8 : Int32) = nI 8 from rfl, pk_mul, nI_add]
      rw [call_s (row_has_yes r8 r10 r3 r4 r5 cy), if_neg (by decide), gI_s r8 r9, cP_s q1, ck_t r8, call_s (row_set r8 r10 r3 r4 r5 cy), call_s (m_isItem_yes m.1 cx cy), if_neg (by decide), m_rI (n := 16) i1 (by omega) (by decide) q4, cP_s q2, m_uL (n := 128) ei (by omega) (by decide)]
      exact ⟨_, _, _, rfl, rfl, ad, C, _, Z, rfl, (k.item i2 k1 k2 rfl).less (by omega), ⟨mRw.item m.1 i2 j2 w, m.2⟩, hC, hV.mono g2, g1, hZ⟩
    · rw [call_s (row_has_no r8 r10 r3 r4 r5 cy), if_pos rfl, call_s (m_isItem_no m.1 (fun z => cy z.2)), if_pos rfl]
      exact ⟨_, _, _, rfl, rfl, stay⟩
  · rw [call_s (rows_no hR cx), cs_n, call_s (m_isItem_no m.1 (fun z => cx z.1)), if_pos rfl]
    exact ⟨_, _, _, rfl, rfl, stay⟩
theorem j_item (h : jInv o (q + 1) S σ) (a b : Int32) : jStep o q (f_X10_item o a b S) (f_X11_item a b σ) := by
  obtain ⟨ad, C, ρ, Z, rfl, k, m, hC, hV, hS, hZ⟩ := h
  have stay : jInv (ad 0) q S σ := ⟨ad, C, ρ, Z, rfl, k.less (by omega), m, hC, hV, hS, hZ⟩
  have hO := k.1.2.2.2
  have hR := k.1.2.2.1
  have h16 := hS.1
  unfold f_X10_item f_X11_item
  rw [gR_s hO.1 hO.2.1, cs_s rfl, ck_t hR.1]
  by_cases cx : 0 ≤ a.toInt64.toInt ∧ a.toInt64.toInt < (e_R ρ : Int)
  · obtain ⟨ia, k1, k2⟩ := hR.2.2.2.2.2.2
    obtain ⟨i1, i2⟩ := i32_ix cx (by omega)
    obtain ⟨-, -, r3, r4, r5, r6, r, r7, r8, r9, r10⟩ := k1 _ i2
    rw [call_s (rows_yes hR cx r7), cs_s rfl, ck_t r8]
    by_cases cy : 0 ≤ b.toInt64.toInt ∧ b.toInt64.toInt < (e_sz ρ (ix a.toInt64) : Int)
    · obtain ⟨j1, j2⟩ := i32_ix cy (by omega)
      obtain ⟨q4, q5, q6, q7⟩ := m.1.2.2 _ i2
      have ei : (8 : Int32) * a + b = nI (8 * ix a.toInt64 + ix b.toInt64) := by
        conv => lhs; rw [i1, j1]
        rw [show (8 : Int32) = nI 8 from rfl, pk_mul, nI_add]
      rw [call_s (row_get_yes r8 r10 r3 r4 r5 cy), call_s (m_isItem_yes m.1 cx cy), if_neg (by decide), m_rL (n := 128) ei (by omega) (by decide) (q7 _ j2), r6 _ j2]
      exact ⟨_, _, _, rfl, rfl, stay⟩
    · rw [call_s (row_get_no r8 r10 r3 r4 r5 cy), call_s (m_isItem_no m.1 (fun z => cy z.2)), if_pos rfl]
      exact ⟨_, _, _, rfl, rfl, stay⟩
  · rw [call_s (rows_no hR cx), cs_n, call_s (m_isItem_no m.1 (fun z => cx z.1)), if_pos rfl]
    exact ⟨_, _, _, rfl, rfl, stay⟩
theorem j_size (h : jInv o (q + 1) S σ) (a : Int32) : jStep o q (f_X10_size o a S) (f_X11_size a σ) := by
  obtain ⟨ad, C, ρ, Z, rfl, k, m, hC, hV, hS, hZ⟩ := h
  have stay : jInv (ad 0) q S σ := ⟨ad, C, ρ, Z, rfl, k.less (by omega), m, hC, hV, hS, hZ⟩
  have hO := k.1.2.2.2
  have hR := k.1.2.2.1
  have h16 := hS.1
  unfold f_X10_size f_X11_size
  rw [gR_s hO.1 hO.2.1, cs_s rfl, ck_t hR.1, call_s (m_isRow m.1 _)]
  by_cases cx : 0 ≤ a.toInt64.toInt ∧ a.toInt64.toInt < (e_R ρ : Int)
  · obtain ⟨ia, k1, k2⟩ := hR.2.2.2.2.2.2
    obtain ⟨i1, i2⟩ := i32_ix cx (by omega)
    obtain ⟨-, -, r3, r4, r5, r6, r, r7, r8, r9, r10⟩ := k1 _ i2
    obtain ⟨q4, q5, q6, q7⟩ := m.1.2.2 _ i2
    rw [call_s (rows_yes hR cx r7), cs_s rfl, ck_t r8, call_s (row_many r8 r10 r3 r4), if_pos cx, if_neg (by decide), m_rI (n := 16) i1 (by omega) (by decide) q5]
    exact ⟨_, _, _, rfl, rfl, stay⟩
  · rw [call_s (rows_no hR cx), cs_n, if_neg cx, if_pos rfl]
    exact ⟨_, _, _, rfl, rfl, stay⟩
theorem j_value (h : jInv o (q + 1) S σ) : jStep o q (f_X10_value o S) (f_X11_value σ) := by
  obtain ⟨ad, C, ρ, Z, rfl, k, m, hC, hV, hS, hZ⟩ := h
  have hO := k.1.2.2.2
  unfold f_X10_value f_X11_value
  rw [gL_s hO.1 hO.2.2.2.2.2.2.2.2.2.2.2.2.2.1, m_gL m.2.2.2.2.2.2.2.2.1]
  exact ⟨_, _, _, rfl, rfl, ad, C, ρ, Z, rfl, k.less (by omega), m, hC, hV, hS, hZ⟩
theorem j_last (h : jInv o (q + 1) S σ) (a : Int32) : jStep o q (f_X10_last o a S) (f_X11_last a σ) := by
  obtain ⟨ad, C, ρ, Z, rfl, k, m, hC, hV, hS, hZ⟩ := h
  have stay : jInv (ad 0) q S σ := ⟨ad, C, ρ, Z, rfl, k.less (by omega), m, hC, hV, hS, hZ⟩
  have hO := k.1.2.2.2
  have hN := k.2
  unfold f_X10_last f_X11_last
  by_cases c0 : a = 0
  · rw [if_pos c0, if_pos c0, gR_s hO.1 hO.2.2.2.2.1, cs_s rfl, gI_s hN.1 hN.2.2.2.2.2.2.1, m_gI m.2.1.1]
    exact ⟨_, _, _, rfl, rfl, stay⟩
  rw [if_neg c0, if_neg c0]
  by_cases c1 : a = 1
  · rw [if_pos c1, if_pos c1, gR_s hO.1 hO.2.2.2.2.1, cs_s rfl, gI_s hN.1 hN.2.2.2.2.2.2.2.1, m_gI m.2.1.2.1]
    exact ⟨_, _, _, rfl, rfl, stay⟩
  rw [if_neg c1, if_neg c1]
  by_cases c2 : a = 2
  · rw [if_pos c2, if_pos c2, gR_s hO.1 hO.2.2.2.2.1, cs_s rfl, gI_s hN.1 hN.2.2.2.2.2.2.2.2, m_gI m.2.1.2.2]
    exact ⟨_, _, _, rfl, rfl, stay⟩
  rw [if_neg c2, if_neg c2]
  exact ⟨_, _, _, rfl, rfl, stay⟩
theorem j_count (h : jInv o (q + 1) S σ) (a : Int32) : jStep o q (f_X10_count o a S) (f_X11_count a σ) := by
  obtain ⟨ad, C, ρ, Z, rfl, k, m, hC, hV, hS, hZ⟩ := h
  have stay : jInv (ad 0) q S σ := ⟨ad, C, ρ, Z, rfl, k.less (by omega), m, hC, hV, hS, hZ⟩
  have hO := k.1.2.2.2
  have hR := k.1.2.2.1
  have hH := k.1.2.1
  unfold f_X10_count f_X11_count
  by_cases c0 : a = 0
  · rw [if_pos c0, if_pos c0, gR_s hO.1 hO.2.1, cs_s rfl, gI_s hR.1 hR.2.2.1, m_gI m.1.1]
    exact ⟨_, _, _, rfl, rfl, stay⟩
  rw [if_neg c0, if_neg c0]
  by_cases c1 : a = 1
  · rw [if_pos c1, if_pos c1, gR_s hO.1 hO.2.2.1, cs_s rfl, gI_s hH.1 hH.2.2.1, m_gI m.2.2.1.1]
    exact ⟨_, _, _, rfl, rfl, stay⟩
  rw [if_neg c1, if_neg c1]
  by_cases c2 : a = 2
  · rw [if_pos c2, if_pos c2, gI_s hO.1 hO.2.2.2.2.2.2.2.2.2.2.2.2.2.2.1, m_gI m.2.2.2.2.2.2.2.2.2]
    exact ⟨_, _, _, rfl, rfl, stay⟩
  rw [if_neg c2, if_neg c2]
  exact ⟨_, _, _, rfl, rfl, stay⟩
theorem j_give (h : jInv o (q + 1) S σ) (a : Int32) (v : Int64) : jStep o q (f_X10_give o a v S) (f_X11_give a v σ) := by
  obtain ⟨ad, C, ρ, Z, rfl, k, m, hC, hV, hS, hZ⟩ := h
  have stay : jInv (ad 0) q S σ := ⟨ad, C, ρ, Z, rfl, k.less (by omega), m, hC, hV, hS, hZ⟩
  have hO := k.1.2.2.2
  unfold f_X10_give f_X11_give
  rcases in_rng a (n := 3) (by decide) with ⟨j, b1, rfl, b3⟩ | ⟨b1, b2, b3⟩
  · rw [if_neg (nI_pos (by omega)), gR_s hO.1 hO.2.2.2.2.2.1, cs_s rfl, len_s hO.2.2.2.2.2.2.2.2.2.1 hO.2.2.2.2.2.2.2.2.2.2.1, if_pos (nI_lt (by omega) (by decide)), gR_s hO.1 hO.2.2.2.2.2.1, cs_s rfl, wL_s hO.2.2.2.2.2.2.2.2.2.1 hO.2.2.2.2.2.2.2.2.2.2.1 rfl (by omega) (by decide), cP_s (show f_X11_in (nI j).toInt64 0 3 = some 1 from b3), if_neg (by decide), m_uL (n := 4) rfl (by omega) (by decide)]
    refine ⟨_, _, _, rfl, rfl, ad, C, ρ, (Z.1, (fun i => if i = j then v else z_g Z i), Z.2.2), rfl, ?_, ?_, hC, hV, hS, hZ⟩
    · obtain ⟨⟨⟨h1, h2', h3'⟩, h2, ⟨q1, q2, q3, q4, q5, q6, ia, k1, k2⟩, ⟨o1, o2, o3, o4, o5, o6, o7, o8, o9, o10, o11, o12, o13, o14⟩⟩, h5⟩ := k
      refine ⟨⟨⟨h1, by show s_nx S + _ + 8 * q ≤ s_lm S; omega, by show s_sl S + _ + 40 * q ≤ s_sm S; omega⟩, h2, ⟨q1, q2, q3, q4, q5, q6, ia, fun i hi => ?_, k2⟩, ⟨o1, o2, o3, o4, o5, o6, o7, o8, o9, o10, o11, o12, fun i hi => ?_, o14⟩⟩, h5⟩
      · obtain ⟨r1, r2, r3, r4, r5, r6, r7⟩ := k1 i hi
        refine ⟨r1, r2, r3, r4, r5, fun j' hj => ?_, r7⟩
        show (if ia i = ad 8 ∧ j' = j then v else s_aL S (ia i) j') = _
        rw [if_neg (fun z => r2 z.1)]; exact r6 j' hj
      · show (if ad 8 = ad 8 ∧ i = j then v else s_aL S (ad 8) i) = (if i = j then v else z_g Z i)
        by_cases c : i = j
        · rw [if_pos ⟨rfl, c⟩, if_pos c]
        · rw [if_neg (fun z => c z.2), if_neg c]; exact o13 i hi
    · obtain ⟨m1, m2, m3, ⟨z1, z2, z3, z4, z5, z6⟩⟩ := m
      refine ⟨m1, m2, m3, ⟨z1, z2, z3, z4, fun i hi => ?_, z6⟩⟩
      show (if 16 = 16 ∧ i = j then v else m_aL σ 16 i) = (if i = j then v else z_g Z i)
      by_cases c : i = j
      · rw [if_pos ⟨rfl, c⟩, if_pos c]
      · rw [if_neg (fun z => c z.2), if_neg c]; exact z5 i hi
  · rw [cP_s (show f_X11_in a.toInt64 0 3 = some 0 from b2), if_pos rfl]
    by_cases c : a < 0
    · rw [if_pos c]; exact ⟨_, _, _, rfl, rfl, stay⟩
    · have b1 := b1.resolve_left c
      rw [if_neg c, gR_s hO.1 hO.2.2.2.2.2.1, cs_s rfl, len_s hO.2.2.2.2.2.2.2.2.2.1 hO.2.2.2.2.2.2.2.2.2.2.1, if_neg (show ¬ a < nI 4 by rw [Int32.lt_iff_toInt_lt, nI_toInt (by decide)]; rw [Int32.lt_iff_toInt_lt, nI_toInt (by decide)] at b1; omega)]
      exact ⟨_, _, _, rfl, rfl, stay⟩
end FACE1
