/-! Real: sums -/
def stk (C D : Nat) : Nat := if C * 256 % 2 ^ D = 0 then C * 256 / 2 ^ D else 2 * (C * 256 / 2 ^ D / 2) + 1
set_option maxRecDepth 20000 in
theorem sum_core {f : FP.Core.Fmt} {F A C D : Nat} {sA sC : Bool} (hp : f.p = F + 1) (hF : F = 23 ∨ F = 52) (hA : A < 2 * 2 ^ F) (hC : C < 2 * 2 ^ F) (hn : 9 ≤ D → 2 ^ F ≤ A) :
    (FP.Core.signed sA (A * 256 : Nat) + FP.Core.signed sC (stk C D) = 0 ↔ FP.Core.signed sA (A * 2 ^ D : Nat) + FP.Core.signed sC C = 0) ∧
    (FP.Core.signed sA (A * 256 : Nat) + FP.Core.signed sC (stk C D) < 0 ↔ FP.Core.signed sA (A * 2 ^ D : Nat) + FP.Core.signed sC C < 0) ∧
    (FP.Core.signed sA (A * 256 : Nat) + FP.Core.signed sC (stk C D)).natAbs < 2 ^ 63 ∧
    (∀ (u : Bool) (e : Int), FP.Core.roundRatio f u (FP.Core.signed sA (A * 2 ^ D : Nat) + FP.Core.signed sC C).natAbs 1 e = FP.Core.roundRatio f u (FP.Core.signed sA (A * 256 : Nat) + FP.Core.signed sC (stk C D)).natAbs 1 (e + D - 8)) := by
  have hD : 0 < 2 ^ D := Nat.pow_pos (by decide)
  have hF2 : 2 ^ F ≤ 2 ^ 52 := Nat.pow_le_pow_right (by decide) (by omega)
  have hF3 : 2 ^ 23 ≤ 2 ^ F := Nat.pow_le_pow_right (by decide) (by omega)
  have hdm := Nat.div_add_mod (C * 256) (2 ^ D)
  have hml := Nat.mod_lt (C * 256) hD
  have hle : C * 256 / 2 ^ D ≤ C * 256 := Nat.div_le_self _ _
  unfold stk
  by_cases hz : C * 256 % 2 ^ D = 0
  · rw [if_pos hz]
    rw [hz, Nat.add_zero] at hdm
    generalize C * 256 / 2 ^ D = K at *
    -- 256 V = t 2^D
    have hV : (FP.Core.signed sA (A * 2 ^ D : Nat) + FP.Core.signed sC C) * 256 = (FP.Core.signed sA (A * 256 : Nat) + FP.Core.signed sC K) * ((2 ^ D : Nat) : Int) := by
      have h1 : ((2 ^ D : Nat) : Int) * (K : Int) = (C : Int) * 256 := by rw [← Int.natCast_mul, hdm, Int.natCast_mul]; rfl
      have h2 : ((A * 2 ^ D : Nat) : Int) = (A : Int) * ((2 ^ D : Nat) : Int) := Int.natCast_mul _ _
      have h3 : ((A * 256 : Nat) : Int) = (A : Int) * 256 := Int.natCast_mul _ _
      have h4 : (A : Int) * ((2 ^ D : Nat) : Int) * 256 = (A : Int) * 256 * ((2 ^ D : Nat) : Int) := by rw [Int.mul_assoc, Int.mul_assoc, Int.mul_comm ((2 ^ D : Nat) : Int)]
      unfold FP.Core.signed
      rw [h2, h3]
      generalize ((2 ^ D : Nat) : Int) = d at *
      rw [Int.mul_comm d] at h1
      cases sA <;> cases sC <;> simp only [Bool.false_eq_true, if_false, if_true, Int.add_mul, Int.neg_mul] <;> omega
    have hd : (0 : Int) < ((2 ^ D : Nat) : Int) := by exact_mod_cast hD
    have hb : (FP.Core.signed sA (A * 256 : Nat) + FP.Core.signed sC K).natAbs < 2 ^ 63 := by
      unfold FP.Core.signed; cases sA <;> cases sC <;> simp only [Bool.false_eq_true, if_false, if_true] <;> omega
    generalize FP.Core.signed sA (A * 2 ^ D : Nat) + FP.Core.signed sC C = V at *
    generalize FP.Core.signed sA (A * 256 : Nat) + FP.Core.signed sC K = t at *
    refine ⟨?_, ?_, hb, ?_⟩
    · constructor
      · intro z; rw [z, Int.zero_mul] at hV; omega
      · intro z
        rw [z, Int.zero_mul] at hV
        rcases Int.mul_eq_zero.mp hV.symm with y | y
        · exact y
        · omega
    · constructor
      · intro z
        have : t * ((2 ^ D : Nat) : Int) < 0 := Int.mul_neg_of_neg_of_pos z hd
        omega
      · intro z
        by_cases y : t < 0
        · exact y
        · exfalso
          have : 0 ≤ t * ((2 ^ D : Nat) : Int) := Int.mul_nonneg (by omega) (by omega)
          omega
    · intro u e
      have hN : V.natAbs * 2 ^ 8 = t.natAbs * 2 ^ D := by
        have := congrArg Int.natAbs hV
        rw [Int.natAbs_mul, Int.natAbs_mul] at this
        exact this
      have h1 : FP.Core.roundRatio f u V.natAbs 1 e = FP.Core.roundRatio f u (V.natAbs * 2 ^ 8) 1 (e - 8) := by
        rw [fp_scale_num (by decide)]; congr 1; omega
      rw [h1, hN, fp_scale_num (by decide)]
      congr 1; omega
  · rw [if_neg hz]
    have hD9 : 9 ≤ D := by
      rcases Nat.lt_or_ge D 9 with y | y
      · exfalso
        apply hz
        have h256 : 256 = 2 ^ D * 2 ^ (8 - D) := by rw [← Nat.pow_add, show D + (8 - D) = 8 by omega]
        rw [h256, Nat.mul_left_comm]
        exact Nat.mul_mod_right _ _
      · exact y
    have hA1 := hn hD9
    have hK : C * 256 / 2 ^ D < 2 ^ F := by
      rw [Nat.div_lt_iff_lt_mul hD]
      have : 2 ^ 9 ≤ 2 ^ D := Nat.pow_le_pow_right (by decide) hD9
      have h2 : 2 ^ F * 2 ^ 9 ≤ 2 ^ F * 2 ^ D := Nat.mul_le_mul_left _ this
      omega
    generalize hKK : C * 256 / 2 ^ D = K at *
    generalize C * 256 % 2 ^ D = R at *
    obtain ⟨T, hT⟩ : ∃ T, 2 * (K / 2) + 1 = T := ⟨_, rfl⟩
    rw [hT]
    have hTb : T ≤ 2 ^ F := by omega
    have t1 : (T - 1) * 2 ^ D < C * 256 := by
      have : (T - 1) * 2 ^ D ≤ K * 2 ^ D := Nat.mul_le_mul_right _ (by omega)
      rw [Nat.mul_comm K] at this; omega
    have t2 : C * 256 < (T + 1) * 2 ^ D := by
      have : (K + 1) * 2 ^ D ≤ (T + 1) * 2 ^ D := Nat.mul_le_mul_right _ (by omega)
      rw [Nat.add_mul, Nat.one_mul, Nat.mul_comm K] at this; omega
    -- the other one is the greater
    have hCA : C < A * 2 ^ D := by
      have h2 : 2 ^ F * 2 ^ 9 ≤ A * 2 ^ D := Nat.mul_le_mul hA1 (Nat.pow_le_pow_right (by decide) hD9)
      omega
    have e1 : (T - 1) * 2 ^ D = T * 2 ^ D - 2 ^ D := by rw [Nat.sub_mul, Nat.one_mul]
    have e2 : (T + 1) * 2 ^ D = T * 2 ^ D + 2 ^ D := by rw [Nat.add_mul, Nat.one_mul]
    have e3 : (A * 256) * 2 ^ D = A * 2 ^ D * 256 := by rw [Nat.mul_assoc, Nat.mul_assoc, Nat.mul_comm 256]
    have eT : 2 ^ D ≤ T * 2 ^ D := Nat.le_mul_of_pos_left _ (by omega)
    have hsize : 2 ^ (f.p + 1) ≤ A * 256 - T := by
      rw [hp, Nat.pow_succ, Nat.pow_succ]; omega
    have eAT : T * 2 ^ D < A * 256 * 2 ^ D := Nat.mul_lt_mul_of_pos_right (by omega) hD
    refine ⟨?_, ?_, ?_, ?_⟩
    · unfold FP.Core.signed; cases sA <;> cases sC <;> simp only [Bool.false_eq_true, if_false, if_true] <;> omega
    · unfold FP.Core.signed; cases sA <;> cases sC <;> simp only [Bool.false_eq_true, if_false, if_true] <;> omega
    · unfold FP.Core.signed; cases sA <;> cases sC <;> simp only [Bool.false_eq_true, if_false, if_true] <;> omega
    · intro u e
      have key : ∀ V t : Nat, t % 2 = 1 → 2 ^ (f.p + 1) ≤ t → (t - 1) * 2 ^ D < V * 2 ^ 8 → V * 2 ^ 8 < (t + 1) * 2 ^ D → FP.Core.roundRatio f u V 1 e = FP.Core.roundRatio f u t 1 (e + D - 8) := by
        intro V t k1 k2 k3 k4
        rw [← fp_sticky (by omega) hD k1 k2 k3 k4]
        have h1 : FP.Core.roundRatio f u V 1 e = FP.Core.roundRatio f u (V * 2 ^ 8) 1 (e - 8) := by
          rw [fp_scale_num (by decide)]; congr 1; omega
        rw [h1, ← fp_scale_den (j := D) (by decide), Nat.one_mul]
        congr 1; omega
      by_cases hs : sA = sC
      · subst hs
        have n1 : (FP.Core.signed sA (A * 2 ^ D : Nat) + FP.Core.signed sA C).natAbs = A * 2 ^ D + C := by
          unfold FP.Core.signed; cases sA <;> simp only [Bool.false_eq_true, if_false, if_true] <;> omega
        have n2 : (FP.Core.signed sA (A * 256 : Nat) + FP.Core.signed sA T).natAbs = A * 256 + T := by
          unfold FP.Core.signed; cases sA <;> simp only [Bool.false_eq_true, if_false, if_true] <;> omega
        rw [n1, n2]
        have m1 : (A * 256 + T - 1) * 2 ^ D = A * 256 * 2 ^ D + T * 2 ^ D - 2 ^ D := by rw [Nat.sub_mul, Nat.add_mul, Nat.one_mul]
        have m2 : (A * 256 + T + 1) * 2 ^ D = A * 256 * 2 ^ D + T * 2 ^ D + 2 ^ D := by rw [Nat.add_mul, Nat.add_mul, Nat.one_mul]
        refine key _ _ (by omega) (by omega) ?_ ?_
        · rw [m1]; omega
        · rw [m2]; omega
      · have n1 : (FP.Core.signed sA (A * 2 ^ D : Nat) + FP.Core.signed sC C).natAbs = A * 2 ^ D - C := by
          unfold FP.Core.signed; cases sA <;> cases sC <;> first | exact absurd rfl hs | (simp only [Bool.false_eq_true, if_false, if_true]; omega)
        have n2 : (FP.Core.signed sA (A * 256 : Nat) + FP.Core.signed sC T).natAbs = A * 256 - T := by
          unfold FP.Core.signed; cases sA <;> cases sC <;> first | exact absurd rfl hs | (simp only [Bool.false_eq_true, if_false, if_true]; omega)
        rw [n1, n2]
        have m1 : (A * 256 - T - 1) * 2 ^ D = A * 256 * 2 ^ D - T * 2 ^ D - 2 ^ D := by rw [Nat.sub_mul, Nat.sub_mul, Nat.one_mul]
        have m2 : (A * 256 - T + 1) * 2 ^ D = A * 256 * 2 ^ D - T * 2 ^ D + 2 ^ D := by rw [Nat.add_mul, Nat.sub_mul, Nat.one_mul]
        refine key _ _ (by omega) (by omega) ?_ ?_
        · rw [m1]; omega
        · rw [m2]; omega
theorem jL_i {z : Int} (h1 : -9223372036854775808 ≤ z) (h2 : z < 9223372036854775808) : (jL z = 0) ↔ z = 0 := by
  rw [show (0 : Int64) = jL 0 from rfl, jL_eq h1 h2 (by decide) (by decide)]
theorem r_aligned {k F B W : Nat} (hk : kk k F B W) {x : Int64} {s : Bool} {m D : Nat} {q : Int} (h : Cs W x s m) (hD : q - pw F B m = D) (hD2 : D < 2 ^ 30) : f_X4_aligned k x (jI q) = some (jL (FP.Core.signed s (stk (sg F m) D))) := by
  have hb := r_bnd hk
  have hn := hk.nums
  have hF2 : 2 ^ F ≤ 2 ^ 52 := Nat.pow_le_pow_right (by decide) (by omega)
  have hs : sg F m < 2 * 2 ^ F := sg_lt
  have hp := pw_le hk h.1
  unfold f_X4_aligned
  simp only [o_cP]
  rw [r_significand hk h, r_power hk h]
  dsimp only
  rw [jI_sub, hD, ← jI_nI (by omega), show (8 : Int32) = nI 8 from rfl, qs_shl (by omega) (by omega)]
  generalize hw : sg F m * 2 ^ 8 = w
  have hw2 : w < 2 ^ 62 := by omega
  have hw3 : sg F m * 256 = w := hw
  have hdm := Nat.div_add_mod w (2 ^ D)
  have hle : w / 2 ^ D ≤ w := Nat.div_le_self _ _
  -- what stands for the number below
  have fin : ∀ z : Int32, (z = 0 ↔ w % 2 ^ D = 0) → f_X4_aligned_b75 x (lN (w / 2 ^ D)) z = some (jL (FP.Core.signed s (stk (sg F m) D))) := by
    intro z hz
    unfold f_X4_aligned_b75 stk FP.Core.signed
    rw [hw3]
    have hor : lN (w / 2 ^ D) ||| (1 : Int64) = lN (2 * (w / 2 ^ D / 2) + 1) := by
      rw [show (1 : Int64) = lN 1 from rfl, qs_or (by omega) (by decide), qs_or1]
    rw [hor, jL_lN (by omega : w / 2 ^ D < 2 ^ 63), jL_lN (by omega : 2 * (w / 2 ^ D / 2) + 1 < 2 ^ 63)]
    by_cases c1 : w % 2 ^ D = 0
    · rw [if_pos (hz.mpr c1), if_pos c1]
      cases s with
      | false => rw [if_pos (h.neg.mpr rfl)]; rfl
      | true => rw [if_neg (fun z => absurd (h.neg.mp z) (by decide)), jL_neg]; rfl
    · rw [if_neg (fun y => c1 (hz.mp y)), if_neg c1]
      cases s with
      | false => rw [if_pos (h.neg.mpr rfl)]; rfl
      | true => rw [if_neg (fun z => absurd (h.neg.mp z) (by decide)), jL_neg]; rfl
  unfold f_X4_aligned_b35
  simp only [show (62 : Int32) = nI 62 from rfl, nI_leI (by omega : D < 2 ^ 31) (by decide : 62 < 2 ^ 31)]
  by_cases c : D ≤ 62
  · rw [if_pos c, if_pos c, qs_shr (by omega) (by omega)]
    have hkd : w / 2 ^ D * 2 ^ D ≤ w := Nat.div_mul_le_self _ _
    rw [qs_shl (by omega) (by omega)]
    simp only [pk_lEQ (by omega : w / 2 ^ D * 2 ^ D < 2 ^ 63) (by omega : w < 2 ^ 63)]
    have heq : w / 2 ^ D * 2 ^ D = w ↔ w % 2 ^ D = 0 := by rw [Nat.mul_comm]; omega
    by_cases c1 : w / 2 ^ D * 2 ^ D = w
    · rw [if_pos c1]; exact fin 0 ⟨fun _ => heq.mp c1, fun _ => rfl⟩
    · rw [if_neg c1]; exact fin 1 ⟨fun y => absurd y (by decide), fun y => absurd (heq.mpr y) c1⟩
  · rw [if_neg c, if_neg c]
    have hbig : 2 ^ 63 ≤ 2 ^ D := Nat.pow_le_pow_right (by decide) (by omega)
    have h0 : w / 2 ^ D = 0 := Nat.div_eq_of_lt (by omega)
    have h1 : w % 2 ^ D = w := Nat.mod_eq_of_lt (by omega)
    rw [h0, h1] at fin
    simp only [lN_eq0 (by omega : w < 2 ^ 63)]
    by_cases c1 : w = 0
    · rw [if_pos c1]; exact fin 0 ⟨fun _ => c1, fun _ => rfl⟩
    · rw [if_neg c1]; exact fin 1 ⟨fun y => absurd y (by decide), fun y => absurd y c1⟩
