/-! what lies in the heap stays, where it is only added to -/
def s_ext (S S1 : wS) : Prop := ∀ b, s_K S b ≠ 0 → s_K S1 b = s_K S b ∧ (∀ i, s_I S1 i b = s_I S i b) ∧ (∀ i, s_L S1 i b = s_L S i b) ∧ (∀ i, s_R S1 i b = s_R S i b) ∧ s_n S1 b = s_n S b ∧ s_aI S1 b = s_aI S b ∧ s_aL S1 b = s_aL S b ∧ s_aR S1 b = s_aR S b
theorem s_ext.refl (S : wS) : s_ext S S := fun _ _ => ⟨rfl, fun _ => rfl, fun _ => rfl, fun _ => rfl, rfl, rfl, rfl, rfl⟩
theorem s_ext.trans {S S1 S2 : wS} (h : s_ext S S1) (k : s_ext S1 S2) : s_ext S S2 := fun b hb => by
  obtain ⟨a1, a2, a3, a4, a5, a6, a7, a8⟩ := h b hb
  obtain ⟨b1, b2, b3, b4, b5, b6, b7, b8⟩ := k b (by rw [a1]; exact hb)
  exact ⟨b1.trans a1, fun i => (b2 i).trans (a2 i), fun i => (b3 i).trans (a3 i), fun i => (b4 i).trans (a4 i), b5.trans a5, b6.trans a6, b7.trans a7, b8.trans a8⟩
section EXT
variable {S S1 : wS} {a i j N kd : Nat}
theorem s_ext.pI (h : s_ext S S1) (ha : s_K S a = 0) (v : Int32) : s_ext S (s_pI S1 i a v) := fun b hb => by
  obtain ⟨a1, a2, a3, a4, a5, a6, a7, a8⟩ := h b hb
  have hne : b ≠ a := fun z => hb (z ▸ ha)
  refine ⟨a1, fun k => ?_, a3, a4, a5, a6, a7, a8⟩
  show (if k = i ∧ b = a then v else s_I S1 k b) = _
  rw [if_neg (fun z => hne z.2)]; exact a2 k
theorem s_ext.pL (h : s_ext S S1) (ha : s_K S a = 0) (v : Int64) : s_ext S (s_pL S1 i a v) := fun b hb => by
  obtain ⟨a1, a2, a3, a4, a5, a6, a7, a8⟩ := h b hb
  have hne : b ≠ a := fun z => hb (z ▸ ha)
  refine ⟨a1, a2, fun k => ?_, a4, a5, a6, a7, a8⟩
  show (if k = i ∧ b = a then v else s_L S1 k b) = _
  rw [if_neg (fun z => hne z.2)]; exact a3 k
theorem s_ext.pR (h : s_ext S S1) (ha : s_K S a = 0) (v : Option Nat) : s_ext S (s_pR S1 i a v) := fun b hb => by
  obtain ⟨a1, a2, a3, a4, a5, a6, a7, a8⟩ := h b hb
  have hne : b ≠ a := fun z => hb (z ▸ ha)
  refine ⟨a1, a2, a3, fun k => ?_, a5, a6, a7, a8⟩
  show (if k = i ∧ b = a then v else s_R S1 k b) = _
  rw [if_neg (fun z => hne z.2)]; exact a4 k
theorem s_ext.wI (h : s_ext S S1) (ha : s_K S a = 0) (v : Int32) : s_ext S (s_wI S1 a i v) := fun b hb => by
  obtain ⟨a1, a2, a3, a4, a5, a6, a7, a8⟩ := h b hb
  have hne : b ≠ a := fun z => hb (z ▸ ha)
  refine ⟨a1, a2, a3, a4, a5, ?_, a7, a8⟩
  rw [← a6]
  funext k
  show (if b = a ∧ k = i then v else s_aI S1 b k) = _
  rw [if_neg (fun z => hne z.1)]
theorem s_ext.new (h : s_ext S S1) (ha : s_K S (s_nx S1) = 0) : s_ext S (s_new S1 kd N) := fun b hb => by
  obtain ⟨a1, a2, a3, a4, a5, a6, a7, a8⟩ := h b hb
  have hne : b ≠ s_nx S1 := fun z => hb (z ▸ ha)
  refine ⟨?_, fun k => ?_, fun k => ?_, fun k => ?_, a5, a6, a7, a8⟩
  · show (if b = s_nx S1 then kd else s_K S1 b) = _; rw [if_neg hne]; exact a1
  · show (if b = s_nx S1 then 0 else s_I S1 k b) = _; rw [if_neg hne]; exact a2 k
  · show (if b = s_nx S1 then 0 else s_L S1 k b) = _; rw [if_neg hne]; exact a3 k
  · show (if b = s_nx S1 then none else s_R S1 k b) = _; rw [if_neg hne]; exact a4 k
theorem s_ext.newA (h : s_ext S S1) (ha : s_K S (s_nx S1) = 0) : s_ext S (s_newA S1 kd N) := fun b hb => by
  obtain ⟨a1, a2, a3, a4, a5, a6, a7, a8⟩ := h b hb
  have hne : b ≠ s_nx S1 := fun z => hb (z ▸ ha)
  refine ⟨?_, a2, a3, a4, ?_, ?_, ?_, ?_⟩
  · show (if b = s_nx S1 then kd else s_K S1 b) = _; rw [if_neg hne]; exact a1
  · show (if b = s_nx S1 then N else s_n S1 b) = _; rw [if_neg hne]; exact a5
  · rw [← a6]; funext k; show (if b = s_nx S1 then 0 else s_aI S1 b k) = _; rw [if_neg hne]
  · rw [← a7]; funext k; show (if b = s_nx S1 then 0 else s_aL S1 b k) = _; rw [if_neg hne]
  · rw [← a8]; funext k; show (if b = s_nx S1 then none else s_aR S1 b k) = _; rw [if_neg hne]
theorem nz {n k : Nat} (h : n = k) (hk : k ≠ 0) : n ≠ 0 := by omega
theorem tyA.ext {t m : Nat} {k : Nat → Int32} {r : Int32} (e : s_ext S S1) (h : tyA S t m k r) : tyA S1 t m k r := by
  obtain ⟨h0, h1, h2, h3, ka, h4, h5, h6, h7⟩ := h
  obtain ⟨a1, a2, a3, a4, a5, a6, a7, a8⟩ := e t (nz h1 (by decide))
  obtain ⟨b1, b2, b3, b4, b5, b6, b7, b8⟩ := e ka (nz h5 (by decide))
  exact ⟨h0, a1.trans h1, (a2 12).trans h2, (a2 13).trans h3, ka, (a4 9).trans h4, b1.trans h5, b5.trans h6, fun j hj => by rw [b6]; exact h7 j hj⟩
theorem hdA.ext {C : hS} {ad : Nat → Nat} (e : s_ext S S1) (h : hdA C ad S i) : hdA C ad S1 i := by
  obtain ⟨h1, h2, h3, h4, h5, h6, h7, h8, h9⟩ := h
  obtain ⟨a1, a2, a3, a4, a5, a6, a7, a8⟩ := e _ (nz h1 (by decide))
  exact ⟨a1.trans h1, (a2 0).trans h2, (a2 1).trans h3, (a2 2).trans h4, (a2 3).trans h5, (a3 0).trans h6, (a2 4).trans h7, (a4 0).trans h8, h9.ext e⟩
theorem cHd.ext {C : hS} {ad : Nat → Nat} (e : s_ext S S1) (h : cHd ad C S) : cHd ad C S1 := by
  obtain ⟨h1, h2, h3, h4, h5, h6, h7⟩ := h
  obtain ⟨a1, a2, a3, a4, a5, a6, a7, a8⟩ := e (ad 3) (nz h1 (by decide))
  obtain ⟨b1, b2, b3, b4, b5, b6, b7, b8⟩ := e (ad 4) (nz h4 (by decide))
  exact ⟨a1.trans h1, (a4 1).trans h2, (a2 5).trans h3, b1.trans h4, b5.trans h5, h6, fun i hi => ⟨by rw [b8]; exact (h7 i hi).1, (h7 i hi).2.ext e⟩⟩
theorem cRn.ext {ρ : eS} {ad : Nat → Nat} (e : s_ext S S1) (h : cRn ad ρ S) : cRn ad ρ S1 := by
  obtain ⟨h1, h2, h3, h4, h5, h6, h7, h8, h9⟩ := h
  obtain ⟨a1, a2, a3, a4, a5, a6, a7, a8⟩ := e (ad 6) (nz h1 (by decide))
  obtain ⟨b1, b2, b3, b4, b5, b6, b7, b8⟩ := e (ad 7) (nz h5 (by decide))
  exact ⟨a1.trans h1, (a4 6).trans h2, (a4 7).trans h3, (a4 8).trans h4, b1.trans h5, b5.trans h6, (a2 8).trans h7, (a2 9).trans h8, (a2 10).trans h9⟩
theorem cOb.ext {Z : zS} {ad : Nat → Nat} (e : s_ext S S1) (h : cOb ad Z S) : cOb ad Z S1 := by
  obtain ⟨o1, o2, o3, o4, o5, o6, o7, o8, o9, o10, o11, o12, o13, o14, o15, o16, o17⟩ := h
  obtain ⟨a1, a2, a3, a4, a5, a6, a7, a8⟩ := e (ad 0) (nz o1 (by decide))
  obtain ⟨b1, b2, b3, b4, b5, b6, b7, b8⟩ := e (ad 5) (nz o7 (by decide))
  obtain ⟨c1, c2, c3, c4, c5, c6, c7, c8⟩ := e (ad 8) (nz o10 (by decide))
  exact ⟨a1.trans o1, (a4 10).trans o2, (a4 11).trans o3, (a4 12).trans o4, (a4 13).trans o5, (a4 14).trans o6, b1.trans o7, (b4 2).trans o8, (b4 3).trans o9, c1.trans o10, c5.trans o11, o12, fun j hj => by rw [c7]; exact o13 j hj, (a3 1).trans o14, (a2 14).trans o15, (a4 15).trans o16, o17.ext e⟩
theorem rwA.ext {ρ : eS} {ad ia : Nat → Nat} (e : s_ext S S1) (h2 : s_K S (ad 2) = 24) (h : rwA ad ρ S ia i) : rwA ad ρ S1 ia i := by
  obtain ⟨r1, r2, r3, r4, r5, r6, x, r7, r8, r9, r10⟩ := h
  obtain ⟨a1, a2, a3, a4, a5, a6, a7, a8⟩ := e (ia i) (nz r3 (by decide))
  obtain ⟨b1, b2, b3, b4, b5, b6, b7, b8⟩ := e x (nz r8 (by decide))
  obtain ⟨c1, c2, c3, c4, c5, c6, c7, c8⟩ := e (ad 2) (nz h2 (by decide))
  exact ⟨r1, r2, a1.trans r3, a5.trans r4, r5, fun j hj => by rw [a7]; exact r6 j hj, x, by rw [c8]; exact r7, b1.trans r8, (b2 6).trans r9, (b4 4).trans r10⟩
theorem cRw.ext {ρ : eS} {ad : Nat → Nat} (e : s_ext S S1) (h : cRw ad ρ S) : cRw ad ρ S1 := by
  obtain ⟨h1, h2, h3, h4, h5, h6, ia, k1, k2⟩ := h
  obtain ⟨a1, a2, a3, a4, a5, a6, a7, a8⟩ := e (ad 1) (nz h1 (by decide))
  obtain ⟨b1, b2, b3, b4, b5, b6, b7, b8⟩ := e (ad 2) (nz h4 (by decide))
  exact ⟨a1.trans h1, (a4 5).trans h2, (a2 7).trans h3, b1.trans h4, b5.trans h5, h6, ia, fun i hi => (k1 i hi).ext e h4, k2⟩
end EXT
/-! looking a row, a handle, a kind up -/
section LOOK
variable {ad : Nat → Nat} {C : hS} {ρ : eS} {Z : zS} {q : Nat} {S : wS}
theorem rows_no (h : cRw ad ρ S) {x : Int64} (hx : ¬ (0 ≤ x.toInt ∧ x.toInt < (e_R ρ : Int))) : f_X6_at (ad 1) x S = some (none, S) := by
  obtain ⟨h1, h2, h3, h4, h5, h6, -⟩ := h
  unfold f_X6_at
  by_cases c : x < 0
  · rw [if_pos c]
  · obtain ⟨k, hk, rfl⟩ := pk_lOf c
    rw [pk_lT hk] at hx
    rw [if_neg c, gI_s h1 h3, nI_l (by omega), if_pos ((pk_lLE (by omega) hk).mpr (by omega))]
theorem rows_yes (h : cRw ad ρ S) {x : Int64} {r : Option Nat} (hx : 0 ≤ x.toInt ∧ x.toInt < (e_R ρ : Int)) (hr : s_aR S (ad 2) (ix x) = r) : f_X6_at (ad 1) x S = some (r, S) := by
  obtain ⟨h1, h2, h3, h4, h5, h6, -⟩ := h
  unfold f_X6_at
  have c : ¬ x < 0 := by rw [Int64.lt_iff_toInt_lt, show (0 : Int64).toInt = 0 by decide]; omega
  obtain ⟨k, hk, rfl⟩ := pk_lOf c
  have hix : ix (lN k) = k := by show (lN k).toInt.toNat = k; rw [pk_lT hk]; rfl
  rw [hix] at hr
  rw [pk_lT hk] at hx
  rw [if_neg c, gI_s h1 h3, nI_l (by omega), if_neg (by rw [pk_lLE (by omega) hk]; omega), gR_s h1 h2, cs_s rfl, len_s h4 h5, nI_l (by decide), if_neg (by rw [pk_lLE (by decide) hk]; omega), gR_s h1 h2, cs_s rfl, rR_s h4 h5 (lN_i k) (by omega) (by decide) hr]
theorem row_has_yes {x ia z : Nat} {y : Int64} (k1 : s_K S x = 5) (k2 : s_R S 4 x = some ia) (k3 : s_K S ia = 22) (k4 : s_n S ia = z) (k5 : z ≤ 8) (hy : 0 ≤ y.toInt ∧ y.toInt < (z : Int)) : f_X5_has x y S = some (1, S) := by
  unfold f_X5_has
  have c : ¬ y < 0 := by rw [Int64.lt_iff_toInt_lt, show (0 : Int64).toInt = 0 by decide]; omega
  obtain ⟨k, hk, rfl⟩ := pk_lOf c
  rw [pk_lT hk] at hy
  rw [if_neg c, gR_s k1 k2, cs_s rfl, len_s k3 k4, nI_l (by omega), if_neg (by rw [pk_lLE (by omega) hk]; omega)]
theorem row_has_no {x ia z : Nat} {y : Int64} (k1 : s_K S x = 5) (k2 : s_R S 4 x = some ia) (k3 : s_K S ia = 22) (k4 : s_n S ia = z) (k5 : z ≤ 8) (hy : ¬ (0 ≤ y.toInt ∧ y.toInt < (z : Int))) : f_X5_has x y S = some (0, S) := by
  unfold f_X5_has
  by_cases c : y < 0
  · rw [if_pos c]
  · obtain ⟨k, hk, rfl⟩ := pk_lOf c
    rw [pk_lT hk] at hy
    rw [if_neg c, gR_s k1 k2, cs_s rfl, len_s k3 k4, nI_l (by omega), if_pos ((pk_lLE (by omega) hk).mpr (by omega))]
theorem ix_i32 {y : Int64} {z : Nat} (hy : 0 ≤ y.toInt ∧ y.toInt < (z : Int)) (hz : z < 2 ^ 31) : y.toInt32 = nI (ix y) := by
  have c : ¬ y < 0 := by rw [Int64.lt_iff_toInt_lt, show (0 : Int64).toInt = 0 by decide]; omega
  obtain ⟨k, hk, rfl⟩ := pk_lOf c
  rw [lN_i]
  congr 1
  show k = (lN k).toInt.toNat
  rw [pk_lT hk]; rfl
theorem row_get_yes {x ia z : Nat} {y : Int64} (k1 : s_K S x = 5) (k2 : s_R S 4 x = some ia) (k3 : s_K S ia = 22) (k4 : s_n S ia = z) (k5 : z ≤ 8) (hy : 0 ≤ y.toInt ∧ y.toInt < (z : Int)) : f_X5_get x y S = some (s_aL S ia (ix y), S) := by
  unfold f_X5_get
  rw [ck_t k1, call_s (row_has_yes k1 k2 k3 k4 k5 hy), if_neg (by decide), gR_s k1 k2, cs_s rfl, rL_s k3 k4 (ix_i32 hy (by omega)) (by show y.toInt.toNat < z; omega) (by omega) rfl]
theorem row_get_no {x ia z : Nat} {y : Int64} (k1 : s_K S x = 5) (k2 : s_R S 4 x = some ia) (k3 : s_K S ia = 22) (k4 : s_n S ia = z) (k5 : z ≤ 8) (hy : ¬ (0 ≤ y.toInt ∧ y.toInt < (z : Int))) : f_X5_get x y S = some (0, S) := by
  unfold f_X5_get
  rw [ck_t k1, call_s (row_has_no k1 k2 k3 k4 k5 hy), if_pos rfl]
theorem row_set {x ia z : Nat} {y v : Int64} (k1 : s_K S x = 5) (k2 : s_R S 4 x = some ia) (k3 : s_K S ia = 22) (k4 : s_n S ia = z) (k5 : z ≤ 8) (hy : 0 ≤ y.toInt ∧ y.toInt < (z : Int)) : f_X5_set x y v S = some ((), s_wL S ia (ix y) v) := by
  unfold f_X5_set
  rw [ck_t k1, call_s (row_has_yes k1 k2 k3 k4 k5 hy), if_neg (by decide), gR_s k1 k2, cs_s rfl, wL_s k3 k4 (ix_i32 hy (by omega)) (by show y.toInt.toNat < z; omega) (by omega)]
theorem row_many {x ia z : Nat} (k1 : s_K S x = 5) (k2 : s_R S 4 x = some ia) (k3 : s_K S ia = 22) (k4 : s_n S ia = z) : f_X5_many x S = some (nI z, S) := by
  unfold f_X5_many
  rw [gR_s k1 k2, cs_s rfl, len_s k3 k4]
theorem hnd_yes (h : cHd ad C S) {i : Nat} (hi : i < h_n C) : f_X1_at (ad 3) (nI i) S = some (some (ad (2 * i + 20)), S) := by
  obtain ⟨h1, h2, h3, h4, h5, h6, h7⟩ := h
  unfold f_X1_at
  rw [if_neg (nI_pos (by omega)), gI_s h1 h3, if_neg (by rw [nI_leI (by omega) (by omega)]; omega), gR_s h1 h2, cs_s rfl, len_s h4 h5, if_neg (by rw [nI_leI (by omega) (by omega)]; omega), gR_s h1 h2, cs_s rfl, rR_s h4 h5 rfl (by omega) (by decide) (h7 i hi).1]
theorem hnd_no (h : cHd ad C S) {x : Int32} (hx : ∀ i, i < h_n C → x ≠ nI i) : f_X1_at (ad 3) x S = some (none, S) := by
  obtain ⟨h1, h2, h3, h4, h5, h6, h7⟩ := h
  unfold f_X1_at
  rcases pk_ix x (n := h_n C) (by omega) with c | c | ⟨j, c1, c2⟩
  · rw [if_pos c]
  · by_cases c0 : x < 0
    · rw [if_pos c0]
    · rw [if_neg c0, gI_s h1 h3, if_pos c]
  · exact absurd c2 (hx j c1)
theorem ty_yes (h : cHd ad C S) {i : Nat} (hi : i < h_n C) : f_X1_typeAt (ad 3) (nI i) S = some (some (ad (2 * i + 21)), S) := by
  have hd := (h.2.2.2.2.2.2 i hi).2
  unfold f_X1_typeAt
  rw [ck_t h.1, call_s (hnd_yes h hi), cs_s rfl, gR_s hd.1 hd.2.2.2.2.2.2.2.1]
theorem ty_no (h : cHd ad C S) {x : Int32} (hx : ∀ i, i < h_n C → x ≠ nI i) : f_X1_typeAt (ad 3) x S = some (none, S) := by
  unfold f_X1_typeAt
  rw [ck_t h.1, call_s (hnd_no h hx)]
  rfl
theorem kind_yes {t m j : Nat} {k : Nat → Int32} {r : Int32} (h : tyA S t m k r) (hj : j < m) : f_X9_kind t (nI j) S = some (k j, S) := by
  obtain ⟨h0, h1, h2, h3, ka, h4, h5, h6, h7⟩ := h
  unfold f_X9_kind
  rw [if_neg (nI_pos (by omega)), gI_s h1 h3, if_neg (by rw [nI_leI (by omega) (by omega)]; omega), gR_s h1 h4, cs_s rfl, len_s h5 h6, if_neg (by rw [nI_leI (by omega) (by omega)]; omega), gR_s h1 h4, cs_s rfl, rI_s h5 h6 rfl (by omega) (by decide) (h7 j hj)]
theorem kind_no {t m : Nat} {k : Nat → Int32} {r x : Int32} (h : tyA S t m k r) (hx : ∀ j, j < m → x ≠ nI j) : f_X9_kind t x S = some (-1, S) := by
  obtain ⟨h0, h1, h2, h3, -⟩ := h
  unfold f_X9_kind
  rcases pk_ix x (n := m) (by omega) with c | c | ⟨j, c1, c2⟩
  · rw [if_pos c]
  · by_cases c0 : x < 0
    · rw [if_pos c0]
    · rw [if_neg c0, gI_s h1 h3, if_pos c]
  · exact absurd c2 (hx j c1)
end LOOK
