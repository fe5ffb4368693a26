/-! make: both alike -/
section JMK
variable {q o : Nat} {S : wS} {σ : mS}
theorem j_make (h : jInv o (q + 1) S σ) (s a b c : Int32) (v : Int64) : jStep o q (f_X10_make o s a b c v S) (f_X11_make s a b c v σ) := by
  obtain ⟨ad, C, ρ, Z, rfl, k, m, hC, hV, hS, hZ⟩ := h
  rcases in_rng s (n := 22) (by decide) with ⟨j, hj, rfl, -⟩ | ⟨h1, h2, -⟩
  · have hx : j = 0 ∨ j = 1 ∨ j = 2 ∨ j = 3 ∨ j = 4 ∨ j = 5 ∨ j = 6 ∨ j = 7 ∨ j = 8 ∨ j = 9 ∨ j = 10 ∨ j = 11 ∨ j = 12 ∨ j = 13 ∨ j = 14 ∨ j = 15 ∨ j = 16 ∨ j = 17 ∨ j = 18 ∨ j = 19 ∨ j = 20 ∨ j = 21 ∨ j = 22 := by omega
    rcases hx with rfl | rfl | rfl | rfl | rfl | rfl | rfl | rfl | rfl | rfl | rfl | rfl | rfl | rfl | rfl | rfl | rfl | rfl | rfl | rfl | rfl | rfl | rfl
    · exact mk_0 k m hC hV hS hZ
    · exact mk_1 k m hC hV hS hZ
    · exact mk_2 k m hC hV hS hZ
    · exact mk_3 k m hC hV hS hZ
    · exact mk_4 k m hC hV hS hZ
    · exact mk_5 k m hC hV hS hZ
    · exact mk_6 k m hC hV hS hZ
    · exact mk_7 k m hC hV hS hZ
    · exact mk_8 k m hC hV hS hZ
    · exact mk_9 k m hC hV hS hZ
    · exact mk_10 k m hC hV hS hZ
    · exact mk_11 k m hC hV hS hZ
    · exact mk_12 k m hC hV hS hZ
    · exact mk_13 k m hC hV hS hZ
    · exact mk_14 k m hC hV hS hZ
    · exact mk_15 k m hC hV hS hZ
    · exact mk_16 k m hC hV hS hZ
    · exact mk_17 k m hC hV hS hZ
    · exact mk_18 k m hC hV hS hZ
    · exact mk_19 k m hC hV hS hZ
    · exact mk_20 k m hC hV hS hZ
    · exact mk_21 k m hC hV hS hZ
    · exact mk_22 k m hC hV hS hZ
  · have hs : f_X8_isSort s = some 0 := by
      unfold f_X8_isSort
      rcases h1 with h1 | h1
      · rw [if_pos h1]
      · by_cases z : s < 0
        · rw [if_pos z]
        · rw [if_neg z, if_pos (show (22 : Int32) < s from h1)]
    have am : ∀ x, f_X8_isAmong s x = some 0 := fun x => by
      unfold f_X8_isAmong
      rw [cP_s hs, if_pos rfl]
    obtain ⟨S2, f1, f2, f3, f4⟩ := make_new (o := ad 0) (so := s) (a := a) (b := b) (c := c) (v := v) (k.room.le (by decide) (by decide)) (am _) (am _) (am _)
    have k2 := k.grow f2 (by decide) (by decide)
    have hO := k2.1.2.2.2
    have k5 := hO.2.2.2.2.2.2.1
    have told : f_X3_isTold (ad 5) (s_nx S) S2 = some (0, S2) := by
      unfold f_X3_isTold
      rw [gI_s f3.1 f3.2.1, cP_s hs, if_pos rfl]
    have ref : f_X11_make s a b c v σ = some (-1, σ) := by
      unfold f_X11_make
      rw [cP_s (show f_X11_in s.toInt64 0 22 = some 0 from h2), if_pos rfl]
    rw [f1, ref]
    unfold mk_rest
    rw [gR_s hO.1 hO.2.2.2.1, cs_s rfl, ck_t k5, call_s told, if_pos rfl]
    exact ⟨_, _, _, rfl, rfl, ad, C, ρ, Z, rfl, k2, m, hC, hV, hS, hZ⟩
end JMK
