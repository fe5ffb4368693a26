/-! Real: what the bits of a number stand for -/
def en (W : Nat) (s : Bool) (m : Nat) : Nat := (if s then 2 ^ W else 0) + m
def sg (F m : Nat) : Nat := if m < 2 ^ F then m else m % 2 ^ F + 2 ^ F
def pw (F B m : Nat) : Int := ((if m / 2 ^ F ≤ 1 then 1 else m / 2 ^ F : Nat) : Int) - B - F
theorem kk.nums {k F B W : Nat} (h : kk k F B W) : (F = 23 ∧ B = 127 ∧ W = 31) ∨ (F = 52 ∧ B = 1023 ∧ W = 63) := by
  rcases h with ⟨-, h⟩ | ⟨-, h⟩; exact Or.inl h; exact Or.inr h
theorem r_decode {k F B W : Nat} (hk : kk k F B W) (s : Bool) {m : Nat} (hm : m < 2 ^ W) : FP.Core.decode (kf k) (en W s m) = if (2 * B + 1) * 2 ^ F < m then .nan else if m = (2 * B + 1) * 2 ^ F then .inf s else .fin s (sg F m) (pw F B m) := by
  obtain ⟨f1, f2, f3, f4⟩ := hk.f
  have hpw := hk.pw
  have hn := hk.nums
  have hc : 0 < 2 ^ F := Nat.pow_pos (by decide)
  have hmin : (kf k).qmin = 1 - (B : Int) - F := by unfold FP.Core.Fmt.qmin; rw [f2, f1]; omega
  unfold en sg pw
  generalize hcc : 2 ^ F = c at *
  have hdm := Nat.div_add_mod m c
  have hlt := Nat.mod_lt m hc
  have hE : m / c < 2 * B + 2 := by rw [Nat.div_lt_iff_lt_mul hc, ← hpw]; exact hm
  have hT : FP.Core.fieldT (kf k) ((if s then 2 ^ W else 0) + m) = m % c := by
    unfold FP.Core.fieldT; rw [f4]
    cases s with
    | false => simp
    | true => simp only [if_true]; rw [hpw, Nat.mul_comm, Nat.add_comm, Nat.add_mul_mod_self_left]
  have hdv : ((if s then 2 ^ W else 0) + m) / c = (if s then 2 * B + 2 else 0) + m / c := by
    cases s with
    | false => simp
    | true => simp only [if_true]; rw [hpw, Nat.mul_comm, Nat.add_comm, Nat.add_mul_div_left _ _ hc, Nat.add_comm]
  have hEe : FP.Core.fieldE (kf k) ((if s then 2 ^ W else 0) + m) = m / c := by
    unfold FP.Core.fieldE; rw [f4, f3, hdv]
    cases s with
    | false => simp only [Bool.false_eq_true, if_false, Nat.zero_add]; exact Nat.mod_eq_of_lt hE
    | true => simp only [if_true]; rw [Nat.add_mod_left]; exact Nat.mod_eq_of_lt hE
  have hS : FP.Core.fieldS (kf k) ((if s then 2 ^ W else 0) + m) = s := by
    unfold FP.Core.fieldS; rw [f4, f3, hdv]
    cases s with
    | false => simp only [Bool.false_eq_true, if_false, Nat.zero_add]; rw [Nat.div_eq_of_lt hE]; rfl
    | true => simp only [if_true]; rw [Nat.add_div_left _ (by omega), Nat.div_eq_of_lt hE]; rfl
  unfold FP.Core.decode
  rw [hEe, hT, hS, f3, f4, hmin]
  have hm2 : m = c * (m / c) + m % c := hdm.symm
  generalize m / c = E at *
  generalize m % c = T at *
  by_cases h1 : E = 2 * B + 2 - 1
  · rw [if_pos h1]
    have e1 : c * E = (2 * B + 1) * c := by rw [h1, Nat.mul_comm]; rfl
    by_cases h2 : T = 0
    · rw [if_pos h2, if_neg (by omega), if_pos (by omega)]
    · rw [if_neg h2, if_pos (by omega)]
  · rw [if_neg h1]
    have e1 : c * E + c ≤ (2 * B + 1) * c := by
      have : (E + 1) * c ≤ (2 * B + 1) * c := Nat.mul_le_mul_right _ (by omega)
      rw [Nat.add_mul, Nat.one_mul, Nat.mul_comm E] at this; exact this
    have n1 : ¬ (2 * B + 1) * c < m := by omega
    have n2 : ¬ m = (2 * B + 1) * c := by omega
    rw [if_neg n1, if_neg n2]
    by_cases h2 : E = 0
    · subst h2
      rw [if_pos rfl, if_pos (by omega), if_pos (by omega)]
      congr 1
      omega
    · rw [if_neg h2]
      have e2 : c ≤ c * E := Nat.le_mul_of_pos_right _ (by omega)
      rw [if_neg (by omega)]
      congr 1
      · omega
      · split <;> omega
theorem r_hid {k F B W : Nat} (hk : kk k F B W) : (1 : Int64) <<< ((rc_f k).toInt64 &&& 63) = lN (2 ^ F) := by
  rcases hk with ⟨rfl, rfl, rfl, rfl⟩ | ⟨rfl, rfl, rfl, rfl⟩ <;> decide +kernel
theorem r_significand {k F B W : Nat} (hk : kk k F B W) {x : Int64} {s : Bool} {m : Nat} (h : Cs W x s m) : f_X4_significand k x = some (lN (sg F m)) := by
  have hn := hk.nums
  have hW : 2 ^ W ≤ 2 ^ 63 := Nat.pow_le_pow_right (by decide) (by omega)
  have hF : 2 ^ F < 2 ^ 63 := Nat.pow_lt_pow_right (by decide) (by omega)
  have hF0 : 0 < 2 ^ F := Nat.pow_pos (by decide)
  have hm := h.1
  unfold f_X4_significand
  simp only [o_let, o_cP]
  rw [r_magnitude hk h]
  dsimp only
  rw [r_hid hk]
  simp only [pk_lLE hF (by omega : m < 2 ^ 63)]
  unfold sg
  by_cases hc : m < 2 ^ F
  · rw [if_neg (by omega), if_pos hc]
  · rw [if_pos (by omega), if_neg hc]
    congr 1
    rw [show (1 : Int64) = lN 1 from rfl, lN_sub (by omega), qs_and (by omega) (by omega), Nat.and_two_pow_sub_one_eq_mod]
    have h1 : m % 2 ^ F < 2 ^ F := Nat.mod_lt _ hF0
    rw [qs_or (by omega) (by omega)]
    congr 1
    rw [Nat.or_comm, Nat.add_comm]
    have := Nat.two_pow_add_eq_or_of_lt h1 1
    rw [Nat.mul_one] at this
    exact this.symm
theorem r_power {k F B W : Nat} (hk : kk k F B W) {x : Int64} {s : Bool} {m : Nat} (h : Cs W x s m) : f_X4_power k x = some (jI (pw F B m)) := by
  have hn := hk.nums
  have hpw := hk.pw
  obtain ⟨g1, g2, -, -, -⟩ := hk.rf
  have hW : 2 ^ W ≤ 2 ^ 63 := Nat.pow_le_pow_right (by decide) (by omega)
  have hF0 : 0 < 2 ^ F := Nat.pow_pos (by decide)
  have hm := h.1
  have hE : m / 2 ^ F < 2 * B + 2 := by rw [Nat.div_lt_iff_lt_mul hF0, ← hpw]; exact hm
  unfold f_X4_power
  simp only [o_let, o_cP]
  rw [r_magnitude hk h]
  dsimp only
  rw [g1, g2, qs_shr (by omega) (by omega), lN_i]
  unfold pw
  generalize m / 2 ^ F = E at *
  simp only [show (1 : Int32) = nI 1 from rfl, nI_ltI (by decide : 1 < 2 ^ 31) (by omega : E < 2 ^ 31)]
  have e : (if 1 < E then nI E else nI 1) = jI ((if E ≤ 1 then 1 else E : Nat) : Int) := by
    by_cases hc : 1 < E
    · rw [if_pos hc, if_neg (by omega), jI_nI (by omega)]
    · rw [if_neg hc, if_pos (by omega), jI_nI (by decide)]
  rw [e, jI_nI (by omega), jI_nI (by omega), jI_sub, jI_sub]
theorem r_isNo {k F B W : Nat} (hk : kk k F B W) {x : Int64} {s : Bool} {m : Nat} (h : Cs W x s m) : f_X4_isNoNumber k x = some (if (2 * B + 1) * 2 ^ F < m then 1 else 0) := by
  have hn := hk.nums
  have hpw := hk.pw
  have hW : 2 ^ W ≤ 2 ^ 63 := Nat.pow_le_pow_right (by decide) (by omega)
  have hm := h.1
  have hi : (2 * B + 1) * 2 ^ F ≤ (2 * B + 2) * 2 ^ F := Nat.mul_le_mul_right _ (by omega)
  have hF0 : 0 < 2 ^ F := Nat.pow_pos (by decide)
  have hi2 : (2 * B + 2) * 2 ^ F = (2 * B + 1) * 2 ^ F + 2 ^ F := by rw [← Nat.succ_mul]
  unfold f_X4_isNoNumber
  simp only [o_cP]
  rw [r_magnitude hk h, hk.inf]
  dsimp only
  simp only [pk_lLE (by omega : m < 2 ^ 63) (by omega : (2 * B + 1) * 2 ^ F < 2 ^ 63)]
  by_cases hc : (2 * B + 1) * 2 ^ F < m
  · rw [if_neg (by omega), if_pos hc]
  · rw [if_pos (by omega), if_neg hc]
theorem r_plain {k F B W : Nat} (hk : kk k F B W) {x : Int64} {s : Bool} {m : Nat} (h : Cs W x s m) : f_X4_plain k x = some (if (2 * B + 1) * 2 ^ F < m then lN ((2 * B + 1) * 2 ^ F + 2 ^ (F - 1)) else x) := by
  unfold f_X4_plain
  simp only [o_cP]
  rw [r_isNo hk h, hk.non]
  dsimp only
  by_cases hc : (2 * B + 1) * 2 ^ F < m
  · rw [if_pos hc, if_pos hc, if_neg (by decide)]
  · rw [if_neg hc, if_neg hc, if_pos rfl]
