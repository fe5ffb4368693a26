/-! the encoding of what is rounded, as the class lays it -/
theorem fp_nearest_lo (a b : Nat) : a / b ≤ FP.Core.nearest a b := by
  unfold FP.Core.nearest; split
  · exact Nat.le_refl _
  · split
    · exact Nat.le_succ _
    · exact Nat.le_add_right _ _
theorem fp_nearest_hi (a b : Nat) : FP.Core.nearest a b ≤ a / b + 1 := by
  unfold FP.Core.nearest; split
  · exact Nat.le_succ _
  · split
    · exact Nat.le_refl _
    · have := Nat.mod_lt (a / b) (show 2 > 0 by decide); omega
theorem fp_enc {f : FP.Core.Fmt} {F B : Nat} (hp : f.p = F + 1) (hB : f.emax = B) (hx : f.exps = 2 * B + 2) (hF1 : 2 ≤ F) (hF2 : F ≤ 60) (hB1 : 1 ≤ B) {s : Bool} {c : Nat} {q ex : Int} (hc : 0 < c) (hc2 : c < 2 ^ 63) (hex : q + c.log2 + B = ex) :
    FP.Core.encode f (FP.Core.roundRatio f s c 1 q) = if 2 * (B : Int) + 1 ≤ ex then FP.Core.assemble f s (2 * B + 1) 0 else FP.Core.assemble f s 0 0 + ((if ex < 1 then 0 else (ex - 1).toNat * 2 ^ F) + FP.Core.nearest (c * 2 ^ (62 - c.log2)) (2 ^ (62 - F + (if ex < 1 then (1 - ex).toNat else 0)))) := by
  have hL : c.log2 ≤ 62 := by
    have := (Nat.log2_lt (by omega : c ≠ 0)).mpr hc2; omega
  have l1 : 2 ^ c.log2 ≤ c := Nat.log2_self_le (by omega)
  have l2 : c < 2 ^ (c.log2 + 1) := Nat.lt_log2_self
  have ht : f.tails = 2 ^ F := by unfold FP.Core.Fmt.tails; rw [hp]; rfl
  have hmin : f.qmin = 1 - (B : Int) - F := by unfold FP.Core.Fmt.qmin; rw [hB, hp]; omega
  have hmax : f.qmax = (B : Int) - F := by unfold FP.Core.Fmt.qmax; rw [hB, hp]; omega
  have htp : 2 ^ f.p = 2 * 2 ^ F := by rw [hp, Nat.pow_succ']
  -- the full significand
  have full1 : 2 ^ 62 ≤ c * 2 ^ (62 - c.log2) := by
    have : 2 ^ c.log2 * 2 ^ (62 - c.log2) ≤ c * 2 ^ (62 - c.log2) := Nat.mul_le_mul_right _ l1
    rw [← Nat.pow_add] at this
    rwa [show c.log2 + (62 - c.log2) = 62 by omega] at this
  have full2 : c * 2 ^ (62 - c.log2) < 2 ^ 63 := by
    have : c * 2 ^ (62 - c.log2) < 2 ^ (c.log2 + 1) * 2 ^ (62 - c.log2) := Nat.mul_lt_mul_of_pos_right l2 (Nat.pow_pos (by decide))
    rw [← Nat.pow_add] at this
    rwa [show c.log2 + 1 + (62 - c.log2) = 63 by omega] at this
  unfold FP.Core.roundRatio
  rw [if_neg (by omega)]
  unfold FP.Core.quantum
  rw [fp_lead_one hc, hmin]
  generalize hQ : max (1 - (B : Int) - F) ((c.log2 : Int) + q - ((f.p : Int) - 1)) = Q
  have hpI : (f.p : Int) = F + 1 := by rw [hp]; omega
  rw [hpI] at hQ
  generalize hdn : 62 - F + (if ex < 1 then (1 - ex).toNat else 0) = dn
  have hdQ : (dn : Int) = 62 - c.log2 + Q - q := by rw [← hdn]; split <;> omega
  unfold FP.Core.roundAt FP.Core.unitsNum FP.Core.unitsDen
  have hX : FP.Core.nearest (c * 2 ^ (q - Q).toNat) (1 * 2 ^ (Q - q).toNat) = FP.Core.nearest (c * 2 ^ (62 - c.log2)) (2 ^ dn) := by
    refine fp_nearest_eq (by rw [Nat.one_mul]; exact Nat.pow_pos (by decide)) (Nat.pow_pos (by decide)) ?_
    rw [Nat.one_mul, Nat.mul_assoc, Nat.mul_assoc, ← Nat.pow_add, ← Nat.pow_add]
    congr 2; omega
  rw [hX]
  -- its bounds
  have hX1 : c * 2 ^ (62 - c.log2) / 2 ^ dn ≤ FP.Core.nearest (c * 2 ^ (62 - c.log2)) (2 ^ dn) := fp_nearest_lo _ _
  have hX2 := fp_nearest_hi (c * 2 ^ (62 - c.log2)) (2 ^ dn)
  generalize hXX : FP.Core.nearest (c * 2 ^ (62 - c.log2)) (2 ^ dn) = X at *
  generalize c * 2 ^ (62 - c.log2) = full at *
  have hFpos : 0 < 2 ^ F := Nat.pow_pos (by decide)
  have asm : ∀ (e t : Nat), FP.Core.assemble f s e t = FP.Core.assemble f s 0 0 + (e * 2 ^ F + t) := by
    intro e t; unfold FP.Core.assemble; simp only [ht, Nat.add_zero, Nat.add_mul, Nat.add_assoc]
  by_cases hs : ex < 1
  · -- below the least exponent
    rw [if_neg (by omega), if_pos hs]
    have hQ2 : Q = 1 - (B : Int) - F := by omega
    have hdn2 : 63 - F ≤ dn := by omega
    have hXle : X ≤ 2 ^ F := by
      have h1 : full / 2 ^ dn ≤ full / 2 ^ (63 - F) := Nat.div_le_div_left (Nat.pow_le_pow_right (by decide) hdn2) (Nat.pow_pos (by decide))
      have h2 : full / 2 ^ (63 - F) < 2 ^ F := by
        rw [Nat.div_lt_iff_lt_mul (Nat.pow_pos (by decide)), ← Nat.pow_add]
        rwa [show F + (63 - F) = 63 by omega]
      omega
    unfold FP.Core.settle
    rw [if_pos (by rw [htp]; omega)]
    unfold FP.Core.bound
    rw [if_pos (by rw [hQ2, hmax]; omega)]
    show (if X < f.tails then FP.Core.assemble f s 0 X else FP.Core.assemble f s ((Q - f.qmin).toNat + 1) (X - f.tails)) = _
    rw [ht, hmin]
    split
    · rw [asm 0 X]; omega
    · rw [asm _ (X - 2 ^ F), show (Q - (1 - (B : Int) - F)).toNat = 0 by omega]; omega
  · rw [if_neg hs]
    have hdn2 : dn = 62 - F := by rw [← hdn, if_neg hs]; rfl
    have hQ2 : Q = ex - B - F := by omega
    have hX1' : 2 ^ F ≤ X := by
      refine Nat.le_trans ?_ hX1
      rw [Nat.le_div_iff_mul_le (Nat.pow_pos (by decide)), hdn2, ← Nat.pow_add]
      rwa [show F + (62 - F) = 62 by omega]
    have hX2' : X ≤ 2 * 2 ^ F := by
      have h2 : full / 2 ^ dn < 2 * 2 ^ F := by
        rw [Nat.div_lt_iff_lt_mul (Nat.pow_pos (by decide)), hdn2, ← Nat.pow_succ', ← Nat.pow_add]
        rwa [show F + 1 + (62 - F) = 63 by omega]
      omega
    unfold FP.Core.settle FP.Core.bound
    by_cases hov : 2 * (B : Int) + 1 ≤ ex
    · rw [if_pos hov]
      by_cases hlt : X < 2 ^ f.p
      · rw [if_pos hlt, if_neg (by rw [hQ2, hmax]; omega)]
        show FP.Core.assemble f s (f.exps - 1) 0 = _
        rw [hx]; rfl
      · rw [if_neg hlt, if_neg (by rw [hQ2, hmax]; omega)]
        show FP.Core.assemble f s (f.exps - 1) 0 = _
        rw [hx]; rfl
    · rw [if_neg hov]
      obtain ⟨E, rfl⟩ : ∃ E : Nat, ex = E + 1 := ⟨(ex - 1).toNat, by omega⟩
      rw [show ((E : Int) + 1 - 1).toNat = E by omega]
      by_cases hlt : X < 2 ^ f.p
      · rw [if_pos hlt, if_pos (by rw [hQ2, hmax]; omega)]
        show (if X < f.tails then FP.Core.assemble f s 0 X else FP.Core.assemble f s ((Q - f.qmin).toNat + 1) (X - f.tails)) = _
        rw [ht, hmin, if_neg (by omega), asm _ (X - 2 ^ F), show (Q - (1 - (B : Int) - F)).toNat = E by omega, Nat.add_mul]
        omega
      · rw [if_neg hlt]
        have hXeq : X = 2 * 2 ^ F := by rw [htp] at hlt; omega
        split
        · next h =>
          show (if f.tails < f.tails then FP.Core.assemble f s 0 f.tails else FP.Core.assemble f s ((Q + 1 - f.qmin).toNat + 1) (f.tails - f.tails)) = _
          rw [if_neg (Nat.lt_irrefl _), ht, hmin, asm _ (2 ^ F - 2 ^ F), show (Q + 1 - (1 - (B : Int) - F)).toNat = E + 1 by omega, Nat.add_mul, Nat.add_mul, hXeq]
          omega
        · next h =>
          show FP.Core.assemble f s (f.exps - 1) 0 = _
          rw [hQ2, hmax] at h
          have hE : E + 1 = 2 * B := by omega
          rw [hx, asm _ 0, show 2 * B + 2 - 1 = E + 2 by omega, Nat.add_mul, hXeq]
          omega
