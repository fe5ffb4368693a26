/-! what the class and the reference reckon alike, kind by kind -/
def kindp (k : Int32) : Prop := ∃ j, j < 17 ∧ k = nI j
def lanep (k : Int32) : Prop := ∃ j, j < 8 ∧ k = nI j
def nump (k : Int32) : Prop := k = 4 ∨ k = 5 ∨ k = 6 ∨ k = 7
def goesp (x y : Int32) : Prop := f_X2_goes x y = some 1
theorem lanep.kind {k : Int32} (h : lanep k) : kindp k := by
  obtain ⟨j, h1, h2⟩ := h; exact ⟨j, by omega, h2⟩
theorem lanep.row {k : Int32} (h : lanep k) : kindp (8 + k) := by
  obtain ⟨j, h1, rfl⟩ := h
  exact ⟨8 + j, by omega, nI_add 8 j⟩
theorem nump.lane {k : Int32} (h : nump k) : lanep k := by
  rcases h with rfl | rfl | rfl | rfl
  · exact ⟨4, by decide, rfl⟩
  · exact ⟨5, by decide, rfl⟩
  · exact ⟨6, by decide, rfl⟩
  · exact ⟨7, by decide, rfl⟩
theorem kindp.lit {n : Nat} (h : n < 17) : kindp (nI n) := ⟨n, h, rfl⟩
theorem okv_row8 {ρ : eS} {a : Int32} {x : Int64} (ha : lanep a) : okv ρ (8 + a) x ↔ (x = -1 ∨ ((0 ≤ x.toInt ∧ x.toInt < (e_R ρ : Int)) ∧ e_ln ρ (ix x) = a)) := by
  obtain ⟨j, h1, rfl⟩ := ha
  have e1 : 8 + nI j = nI (8 + j) := nI_add 8 j
  have e2 : (8 : Int32) ≤ nI (8 + j) := by rw [show (8 : Int32) = nI 8 from rfl, nI_leI (by decide) (by omega)]; omega
  have e3 : nI (8 + j) - 8 = nI j := by rw [show (8 : Int32) = nI 8 from rfl, pk_sub (by omega)]; congr 1; omega
  have e4 : ¬ nI (8 + j) = 16 := by rw [show (16 : Int32) = nI 16 from rfl, nI_eq (by omega) (by decide)]; omega
  rw [e1]
  constructor
  · intro h
    rcases h.2.2.2 e2 with q | ⟨q1, q2⟩
    · exact Or.inl q
    · refine Or.inr ⟨q1, ?_⟩
      rcases q2 with q2 | q2
      · exact absurd q2 e4
      · rw [q2, e3]
  · intro h
    refine okv.row ρ e2 ?_
    rcases h with q | ⟨q1, q2⟩
    · exact Or.inl q
    · exact Or.inr ⟨q1, Or.inr (by rw [q2, e3])⟩
theorem okv.any {ρ : eS} {k : Int32} {x : Int64} (hk : 8 ≤ k) (h : okv ρ k x) : okv ρ 16 x := by
  refine okv.row ρ (by decide) ?_
  rcases h.2.2.2 hk with q | ⟨q1, -⟩
  · exact Or.inl q
  · exact Or.inr ⟨q1, Or.inl rfl⟩
theorem goes_same : ∀ a, a < 17 → ∀ b, b < 17 → f_X2_goes (nI a) (nI b) = f_X11_goes (nI a) (nI b) ∧ (f_X2_goes (nI a) (nI b) = some 0 ∨ f_X2_goes (nI a) (nI b) = some 1) := by decide +kernel
def goes_b (a b : Nat) : Bool := (a == b) || (decide (8 ≤ a) && b == 16) || (decide (a < 8) && (b == 2 || b == 4 || b == 5)) || (decide (a < 6) && b == 6) || (decide (a < 7) && b == 7)
theorem goes_how1 : ∀ a, a < 17 → ∀ b, b < 17 → (¬ f_X2_goes (nI a) (nI b) = some 1) ∨ goes_b a b = true := by decide +kernel
theorem goes_how0 (a : Nat) (ha : a < 17) (b : Nat) (hb : b < 17) : (¬ f_X2_goes (nI a) (nI b) = some 1) ∨ (a = b ∨ (8 ≤ a ∧ b = 16) ∨ (a < 8 ∧ (b = 2 ∨ b = 4 ∨ b = 5)) ∨ (a < 6 ∧ b = 6) ∨ (a < 7 ∧ b = 7)) := by
  rcases goes_how1 a ha b hb with h | h
  · exact Or.inl h
  · right
    unfold goes_b at h
    simp only [Bool.or_eq_true, Bool.and_eq_true, beq_iff_eq, decide_eq_true_eq] at h
    omega
theorem wid_ok {ρ : eS} {k l : Int32} {x : Int64} (hk : kindp k) (hl : kindp l) (hg : goesp k l) (hx : okv ρ k x) : ∃ r, f_X2_widened k l x = some r ∧ f_X11_widen x k l = some r ∧ okv ρ l r := by
  obtain ⟨a, ha, rfl⟩ := hk
  obtain ⟨b, hb, rfl⟩ := hl
  have hn := fun (z : nI a = nI b) => (nI_eq (by omega) (by omega)).mp z
  rcases (goes_how0 a ha b hb).resolve_left (fun z => z hg) with h | ⟨h1, rfl⟩ | ⟨h1, h2⟩ | ⟨h1, rfl⟩ | ⟨h1, rfl⟩
  · subst h
    refine ⟨x, ?_, ?_, hx⟩
    · unfold f_X2_widened; rw [if_pos rfl]
    · unfold f_X11_widen; rw [if_pos rfl]
  · refine ⟨x, ?_, ?_, ?_⟩
    · unfold f_X2_widened
      by_cases c : nI a = nI 16
      · rw [if_pos c]
      · rw [if_neg c, if_neg (by decide), if_neg (by decide)]
    · unfold f_X11_widen
      by_cases c : nI a = nI 16
      · rw [if_pos c]
      · rw [if_neg c, if_pos (by decide)]
    · exact okv.any (by rw [show (8 : Int32) = nI 8 from rfl, nI_leI (by decide) (by omega)]; exact h1) hx
  · by_cases c : a = b
    · subst c
      refine ⟨x, ?_, ?_, hx⟩
      · unfold f_X2_widened; rw [if_pos rfl]
      · unfold f_X11_widen; rw [if_pos rfl]
    · have hne : ¬ nI a = nI b := fun z => c (hn z)
      refine ⟨x, ?_, ?_, ?_⟩
      · unfold f_X2_widened
        rw [if_neg hne]
        rcases h2 with rfl | rfl | rfl <;> rfl
      · unfold f_X11_widen
        rw [if_neg hne]
        rcases h2 with rfl | rfl | rfl <;> rfl
      · rcases h2 with rfl | rfl | rfl
        · exact okv.num ρ x (Or.inr (Or.inl rfl))
        · exact okv.num ρ x (Or.inr (Or.inr (Or.inr (Or.inl rfl))))
        · exact okv.num ρ x (Or.inr (Or.inr (Or.inr (Or.inr rfl))))
  · have hne : ¬ nI a = nI 6 := fun z => by have := hn z; omega
    obtain ⟨r, e1, e2, z, e3, e4⟩ := fb_whole x
    refine ⟨r, ?_, ?_, okv.fl ρ e2⟩
    · unfold f_X2_widened
      rw [if_neg hne, if_pos (by decide), e1]; rfl
    · unfold f_X11_widen
      rw [if_neg hne, if_neg (by decide), if_pos (by decide), if_pos (by decide), e3, ← e4]; rfl
  · have hne : ¬ nI a = nI 7 := fun z => by have := hn z; omega
    by_cases c : a = 6
    · subst c
      obtain ⟨r, e1, e2, m, e3, e4, e5⟩ := fb_conv (hx.2.1 rfl)
      refine ⟨r, ?_, ?_, okv.db ρ e2⟩
      · unfold f_X2_widened
        rw [if_neg hne, if_neg (by decide), if_pos (by decide), if_pos (by decide), e1]; rfl
      · unfold f_X11_widen
        rw [if_neg hne, if_neg (by decide), if_pos (by decide), if_neg (by decide), if_pos (by decide), e3, fb_most]
        simp only [o_cP]
        simp only [pk_lLE (by omega : m < 2 ^ 63) (by decide : (2 * 127 + 1) * 2 ^ 23 < 2 ^ 63)]
        by_cases c2 : m ≤ (2 * 127 + 1) * 2 ^ 23
        · rw [if_pos c2] at e5
          obtain ⟨a, z, q1, q2, q3, q4⟩ := e5
          rw [if_pos c2, q1]
          simp only [o_ck]
          rw [if_pos q2, q3, q4]
        · rw [if_neg c2] at e5
          rw [if_neg c2, e5]
    · have hne2 : ¬ nI a = 6 := fun z => c ((nI_eq (by omega) (by decide)).mp (show nI a = nI 6 from z))
      obtain ⟨r, e1, e2, z, e3, e4⟩ := db_whole x
      refine ⟨r, ?_, ?_, okv.db ρ e2⟩
      · unfold f_X2_widened
        rw [if_neg hne, if_neg (by decide), if_pos (by decide), if_neg hne2, e1]; rfl
      · unfold f_X11_widen
        rw [if_neg hne, if_neg (by decide), if_pos (by decide), if_neg (by decide), if_neg hne2, e3, ← e4]; rfl
theorem mask31 (y : Int64) : y &&& (2147483647 : Int64) = lN (y.toInt % 2147483648).toNat := by
  apply Int64.toBitVec_inj.mp
  apply BitVec.eq_of_toNat_eq
  have hm : (2147483647 : Int64).toBitVec.toNat = 2 ^ 31 - 1 := by decide
  have e : y.toInt = y.toBitVec.toInt := rfl
  rw [Int64.toBitVec_and, BitVec.toNat_and, hm, Nat.and_two_pow_sub_one_eq_mod, lN_tB (by omega), e, BitVec.toInt_eq_toNat_cond]
  generalize y.toBitVec.toNat = n
  split <;> omega
theorem low32 (v : Int64) : v.toInt32.toInt64.toInt = v.toInt.bmod 4294967296 := by
  rw [Int32.toInt_toInt64, Int64.toInt_toInt32]
theorem mask_low (v : Int64) : v &&& (2147483647 : Int64) = v.toInt32.toInt64 &&& (2147483647 : Int64) := by
  rw [mask31, mask31, low32]
  congr 2
  unfold Int.bmod
  simp only []
  split <;> omega
theorem bits_ok {ρ : eS} {k : Int32} (v : Int64) (hk : kindp k) : ∃ r, f_X2_fromBits k v = some r ∧ f_X11_cast v k = some r ∧ (k < 8 → okv ρ k r) ∧ (8 ≤ k → r = v) := by
  obtain ⟨a, ha, rfl⟩ := hk
  have h8 : nI a < 8 ↔ a < 8 := nI_ltI (a := a) (b := 8) (by omega) (by decide)
  have h9 : 8 ≤ nI a ↔ 8 ≤ a := nI_leI (a := 8) (b := a) (by decide) (by omega)
  rw [h8, h9]
  have lit : ∀ b : Nat, b < 17 → (nI a = nI b ↔ a = b) := fun b hb => nI_eq (by omega) (by omega)
  by_cases c0 : a = 0
  · subst c0
    refine ⟨if v = 0 then 0 else 1, ?_, ?_, fun _ => okv.truth ρ (by split <;> simp), fun h => absurd h (by decide)⟩
    · unfold f_X2_fromBits; rw [if_pos (by decide)]; split <;> rfl
    · unfold f_X11_cast; rw [if_pos (by decide)]; split <;> rfl
  by_cases c1 : a = 1
  · subst c1
    exact ⟨_, rfl, rfl, fun _ => okv.num ρ _ (Or.inl rfl), fun h => absurd h (by decide)⟩
  by_cases c2 : a = 2
  · subst c2
    exact ⟨_, rfl, rfl, fun _ => okv.num ρ _ (Or.inr (Or.inl rfl)), fun h => absurd h (by decide)⟩
  by_cases c3 : a = 3
  · subst c3
    exact ⟨_, rfl, rfl, fun _ => okv.num ρ _ (Or.inr (Or.inr (Or.inl rfl))), fun h => absurd h (by decide)⟩
  by_cases c4 : a = 4
  · subst c4
    exact ⟨_, rfl, rfl, fun _ => okv.num ρ _ (Or.inr (Or.inr (Or.inr (Or.inl rfl)))), fun h => absurd h (by decide)⟩
  by_cases c5 : a = 5
  · subst c5
    exact ⟨_, rfl, rfl, fun _ => okv.num ρ _ (Or.inr (Or.inr (Or.inr (Or.inr rfl)))), fun h => absurd h (by decide)⟩
  by_cases c6 : a = 6
  · subst c6
    have hl := low32 v
    obtain ⟨r, e1, e2, e3⟩ := fb_plain v.toInt32.toInt64 (by rw [hl]; unfold Int.bmod; simp only []; split <;> omega) (by rw [hl]; unfold Int.bmod; simp only []; split <;> omega)
    refine ⟨r, ?_, ?_, fun _ => okv.fl ρ e2, fun h => absurd h (by decide)⟩
    · show o_cP (f_X4_plain 0 v.toInt32.toInt64) (fun x1 => some x1) = some r
      rw [e1]; rfl
    · show (if v &&& (2147483647 : Int64) ≤ 2139095040 then some v.toInt32.toInt64 else some 2143289344) = some r
      rw [mask_low]; exact e3
  by_cases c7 : a = 7
  · subst c7
    obtain ⟨r, e1, e2, e3⟩ := db_plain v
    refine ⟨r, ?_, ?_, fun _ => okv.db ρ e2, fun h => absurd h (by decide)⟩
    · show o_cP (f_X4_plain 1 v) (fun x1 => some x1) = some r
      rw [e1]; rfl
    · exact e3
  · have n0 : ¬ nI a = 0 := fun z => c0 ((lit 0 (by decide)).mp z)
    have n1 : ¬ nI a = 1 := fun z => c1 ((lit 1 (by decide)).mp z)
    have n2 : ¬ nI a = 2 := fun z => c2 ((lit 2 (by decide)).mp z)
    have n3 : ¬ nI a = 3 := fun z => c3 ((lit 3 (by decide)).mp z)
    have n4 : ¬ nI a = 4 := fun z => c4 ((lit 4 (by decide)).mp z)
    have n5 : ¬ nI a = 5 := fun z => c5 ((lit 5 (by decide)).mp z)
    have n6 : ¬ nI a = 6 := fun z => c6 ((lit 6 (by decide)).mp z)
    have n7 : ¬ nI a = 7 := fun z => c7 ((lit 7 (by decide)).mp z)
    refine ⟨v, ?_, ?_, fun h => by omega, fun _ => rfl⟩
    · unfold f_X2_fromBits
      rw [if_neg n0, if_neg n1, if_neg n2, if_neg n3, if_neg n4, if_neg n6, if_neg n7, if_neg n5]
    · unfold f_X11_cast
      rw [if_neg n0, if_neg n1, if_neg n2, if_neg n3, if_neg n4, if_neg n6, if_neg n7, if_neg n5]
theorem sum_ok {ρ : eS} {a : Int32} {x y : Int64} (ha : nump a) (hx : okv ρ a x) (hy : okv ρ a y) : f_X7_sum a x y = some ((f_X7_sum a x y).getD 0) ∧ okv ρ a ((f_X7_sum a x y).getD 0) := by
  rcases ha with rfl | rfl | rfl | rfl
  · exact ⟨rfl, okv.num ρ _ (by simp)⟩
  · exact ⟨rfl, okv.num ρ _ (by simp)⟩
  · obtain ⟨r, e1, e2, -⟩ := fb_sum (hx.2.1 rfl) (hy.2.1 rfl)
    have : f_X7_sum 6 x y = some r := by
      show o_cP (f_X4_sumOf 0 x y) (fun x1 => some x1) = some r
      rw [e1]; rfl
    rw [this]; exact ⟨rfl, okv.fl ρ e2⟩
  · obtain ⟨r, e1, e2, -⟩ := db_sum (hx.2.2.1 rfl) (hy.2.2.1 rfl)
    have : f_X7_sum 7 x y = some r := by
      show o_cP (f_X4_sumOf 1 x y) (fun x1 => some x1) = some r
      rw [e1]; rfl
    rw [this]; exact ⟨rfl, okv.db ρ e2⟩
theorem abv_ok {ρ : eS} {a : Int32} {x y : Int64} (ha : nump a) (hx : okv ρ a x) (hy : okv ρ a y) : f_X7_isAbove a x y = some ((f_X7_isAbove a x y).getD 0) := by
  rcases ha with rfl | rfl | rfl | rfl
  · show (if x ≤ y then (some 0 : Option Int32) else some 1) = some ((if x ≤ y then (some 0 : Option Int32) else some 1).getD 0)
    split <;> rfl
  · show (if x ≤ y then (some 0 : Option Int32) else some 1) = some ((if x ≤ y then (some 0 : Option Int32) else some 1).getD 0)
    split <;> rfl
  · obtain ⟨r, e1, e2, -⟩ := fb_above (hx.2.1 rfl) (hy.2.1 rfl)
    have : f_X7_isAbove 6 x y = some r := by
      show o_cP (f_X4_isAbove 0 x y) (fun x1 => o_ck (x1 = 0 ∨ x1 = 1) (some x1)) = some r
      rw [e1]; show o_ck (r = 0 ∨ r = 1) (some r) = _; unfold o_ck; rw [if_pos e2]
    rw [this]; rfl
  · obtain ⟨r, e1, e2, -⟩ := db_above (hx.2.2.1 rfl) (hy.2.2.1 rfl)
    have : f_X7_isAbove 7 x y = some r := by
      show o_cP (f_X4_isAbove 1 x y) (fun x1 => o_ck (x1 = 0 ∨ x1 = 1) (some x1)) = some r
      rw [e1]; show o_ck (r = 0 ∨ r = 1) (some r) = _; unfold o_ck; rw [if_pos e2]
    rw [this]; rfl
theorem quo_ok6 {ρ : eS} {x y : Int64} (hx : okv ρ 6 x) (hy : okv ρ 6 y) : f_X4_quotientOf 0 x y = some ((f_X4_quotientOf 0 x y).getD 0) ∧ okv ρ 6 ((f_X4_quotientOf 0 x y).getD 0) := by
  obtain ⟨r, e1, e2, -⟩ := fb_quot (hx.2.1 rfl) (hy.2.1 rfl)
  rw [e1]; exact ⟨rfl, okv.fl ρ e2⟩
theorem quo_ok7 {ρ : eS} {x y : Int64} (hx : okv ρ 7 x) (hy : okv ρ 7 y) : f_X4_quotientOf 1 x y = some ((f_X4_quotientOf 1 x y).getD 0) ∧ okv ρ 7 ((f_X4_quotientOf 1 x y).getD 0) := by
  obtain ⟨r, e1, e2, -⟩ := db_quot (hx.2.2.1 rfl) (hy.2.2.1 rfl)
  rw [e1]; exact ⟨rfl, okv.db ρ e2⟩
