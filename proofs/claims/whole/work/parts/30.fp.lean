/-! rounding, in whole numbers -/
theorem fp_nearest_mul (a b k : Nat) (hk : 0 < k) : FP.Core.nearest (a * k) (b * k) = FP.Core.nearest a b := by
  unfold FP.Core.nearest
  rw [Nat.mul_mod_mul_right, Nat.mul_div_mul_right _ _ hk, ← Nat.mul_assoc]
  have h1 : (2 * (a % b) * k < b * k) ↔ (2 * (a % b) < b) := Nat.mul_lt_mul_right hk
  have h2 : (b * k < 2 * (a % b) * k) ↔ (b < 2 * (a % b)) := Nat.mul_lt_mul_right hk
  simp only [h1, h2]
theorem fp_nearest_eq {a b c d : Nat} (hb : 0 < b) (hd : 0 < d) (h : a * d = c * b) : FP.Core.nearest a b = FP.Core.nearest c d := by
  rw [← fp_nearest_mul a b d hd, ← fp_nearest_mul c d b hb, h, Nat.mul_comm b d]
theorem fp_lead {a b : Nat} (ha : 0 < a) (hb : 0 < b) : b * 2 ^ (FP.Core.leading a b).toNat ≤ a * 2 ^ (-(FP.Core.leading a b)).toNat ∧ a * 2 ^ (-(FP.Core.leading a b + 1)).toNat < b * 2 ^ (FP.Core.leading a b + 1).toNat := by
  have a1 : 2 ^ a.log2 ≤ a := Nat.log2_self_le (by omega)
  have a2 : a < 2 ^ (a.log2 + 1) := Nat.lt_log2_self
  have b1 : 2 ^ b.log2 ≤ b := Nat.log2_self_le (by omega)
  have b2 : b < 2 ^ (b.log2 + 1) := Nat.lt_log2_self
  generalize hla : a.log2 = la at *
  generalize hlb : b.log2 = lb at *
  have key : FP.Core.leading a b = if b * 2 ^ ((la : Int) - lb).toNat ≤ a * 2 ^ (-((la : Int) - lb)).toNat then ((la : Int) - lb) else (la : Int) - lb - 1 := by
    unfold FP.Core.leading; rw [hla, hlb]
  rw [key]
  by_cases hd : lb ≤ la
  · obtain ⟨d, rfl⟩ : ∃ d, la = lb + d := ⟨la - lb, by omega⟩
    have e1 : (((lb + d : Nat) : Int) - lb).toNat = d := by omega
    have e2 : (-(((lb + d : Nat) : Int) - lb)).toNat = 0 := by omega
    rw [e1, e2]
    split
    · next h =>
      have e3 : (((lb + d : Nat) : Int) - lb + 1).toNat = d + 1 := by omega
      have e4 : (-(((lb + d : Nat) : Int) - lb + 1)).toNat = 0 := by omega
      rw [e1, e2, e3, e4]
      refine ⟨h, ?_⟩
      have h3 : 2 ^ lb * 2 ^ (d + 1) ≤ b * 2 ^ (d + 1) := Nat.mul_le_mul_right _ b1
      rw [← Nat.pow_add] at h3
      have h4 : lb + (d + 1) = lb + d + 1 := by omega
      rw [h4] at h3
      omega
    · next h =>
      have e3 : (((lb + d : Nat) : Int) - lb - 1 + 1).toNat = d := by omega
      have e4 : (-(((lb + d : Nat) : Int) - lb - 1 + 1)).toNat = 0 := by omega
      rw [e3, e4]
      refine ⟨?_, by omega⟩
      cases d with
      | zero =>
        have e5 : (((lb + 0 : Nat) : Int) - lb - 1).toNat = 0 := by omega
        have e6 : (-(((lb + 0 : Nat) : Int) - lb - 1)).toNat = 1 := by omega
        rw [e5, e6]
        rw [Nat.add_zero] at a1
        have := Nat.pow_succ (n := 2) (m := lb)
        omega
      | succ d =>
        have e5 : (((lb + (d + 1) : Nat) : Int) - lb - 1).toNat = d := by omega
        have e6 : (-(((lb + (d + 1) : Nat) : Int) - lb - 1)).toNat = 0 := by omega
        rw [e5, e6]
        have h3 : b * 2 ^ d ≤ 2 ^ (lb + 1) * 2 ^ d := Nat.mul_le_mul_right _ (by omega)
        rw [← Nat.pow_add] at h3
        have h4 : lb + 1 + d = lb + (d + 1) := by omega
        rw [h4] at h3
        omega
  · obtain ⟨d, rfl⟩ : ∃ d, lb = la + d + 1 := ⟨lb - la - 1, by omega⟩
    have e1 : ((la : Int) - (la + d + 1 : Nat)).toNat = 0 := by omega
    have e2 : (-((la : Int) - (la + d + 1 : Nat))).toNat = d + 1 := by omega
    rw [e1, e2]
    split
    · next h =>
      have e3 : ((la : Int) - (la + d + 1 : Nat) + 1).toNat = 0 := by omega
      have e4 : (-((la : Int) - (la + d + 1 : Nat) + 1)).toNat = d := by omega
      rw [e1, e2, e3, e4]
      refine ⟨h, ?_⟩
      have h3 : (a + 1) * 2 ^ d ≤ 2 ^ (la + 1) * 2 ^ d := Nat.mul_le_mul_right _ (by omega)
      rw [← Nat.pow_add] at h3
      have h4 : la + 1 + d = la + d + 1 := by omega
      rw [h4, Nat.add_mul] at h3
      have h5 : 0 < 2 ^ d := Nat.pow_pos (by decide)
      omega
    · next h =>
      have e3 : ((la : Int) - (la + d + 1 : Nat) - 1 + 1).toNat = 0 := by omega
      have e4 : (-((la : Int) - (la + d + 1 : Nat) - 1 + 1)).toNat = d + 1 := by omega
      have e5 : ((la : Int) - (la + d + 1 : Nat) - 1).toNat = 0 := by omega
      have e6 : (-((la : Int) - (la + d + 1 : Nat) - 1)).toNat = d + 2 := by omega
      rw [e3, e4, e5, e6]
      refine ⟨?_, by omega⟩
      have h3 : 2 ^ la * 2 ^ (d + 2) ≤ a * 2 ^ (d + 2) := Nat.mul_le_mul_right _ a1
      rw [← Nat.pow_add] at h3
      have h4 : la + (d + 2) = la + d + 1 + 1 := by omega
      rw [h4] at h3
      omega
theorem fp_lead_eq {a b L : Nat} (hb : 0 < b) (h1 : b * 2 ^ L ≤ a) (h2 : a < b * 2 ^ (L + 1)) : FP.Core.leading a b = L := by
  have hL : 0 < 2 ^ L := Nat.pow_pos (by decide)
  have ha : 0 < a := Nat.lt_of_lt_of_le (Nat.mul_pos hb hL) h1
  obtain ⟨k1, k2⟩ := fp_lead ha hb
  generalize FP.Core.leading a b = k at k1 k2
  rcases Int.lt_trichotomy k L with h | h | h
  · exfalso
    by_cases hk : 0 ≤ k + 1
    · have e1 : (-(k + 1)).toNat = 0 := by omega
      rw [e1] at k2
      have h3 : b * 2 ^ (k + 1).toNat ≤ b * 2 ^ L := Nat.mul_le_mul_left _ (Nat.pow_le_pow_right (by decide) (by omega))
      omega
    · have e1 : (k + 1).toNat = 0 := by omega
      rw [e1] at k2
      have h3 : a * 1 ≤ a * 2 ^ (-(k + 1)).toNat := Nat.mul_le_mul_left _ (Nat.pow_pos (by decide))
      have h4 : b * 1 ≤ b * 2 ^ L := Nat.mul_le_mul_left _ hL
      omega
  · exact h
  · exfalso
    have e1 : (-k).toNat = 0 := by omega
    rw [e1] at k1
    have h3 : b * 2 ^ (L + 1) ≤ b * 2 ^ k.toNat := Nat.mul_le_mul_left _ (Nat.pow_le_pow_right (by decide) (by omega))
    omega
theorem fp_lead_one {a : Nat} (ha : 0 < a) : FP.Core.leading a 1 = a.log2 :=
  fp_lead_eq (by decide) (by rw [Nat.one_mul]; exact Nat.log2_self_le (by omega)) (by rw [Nat.one_mul]; exact Nat.lt_log2_self)
/-- what lies strictly beside an odd number rounds as that number -/
theorem fp_nearest_sticky {num den T g : Nat} (hd : 0 < den) (hT : T % 2 = 1) (hg : 2 ≤ g) (h1 : (T - 1) * den < num) (h2 : num < (T + 1) * den) : FP.Core.nearest num (den * 2 ^ g) = FP.Core.nearest T (2 ^ g) := by
  obtain ⟨g', rfl⟩ : ∃ g', g = g' + 2 := ⟨g - 2, by omega⟩
  have hG : 2 ^ (g' + 2) = 4 * 2 ^ g' := by rw [Nat.pow_add, Nat.mul_comm]
  have hp : 0 < 2 ^ g' := Nat.pow_pos (by decide)
  generalize 2 ^ g' = h at hG hp
  rw [hG]
  have hTd := Nat.div_add_mod T (4 * h)
  have ht := Nat.mod_lt T (show 4 * h > 0 by omega)
  generalize T / (4 * h) = q at *
  generalize T % (4 * h) = t at *
  have htp : t % 2 = 1 := by
    have : 4 * h * q = 2 * (2 * h * q) := by rw [← Nat.mul_assoc, ← Nat.mul_assoc]
    omega
  -- the rest of num
  have e1 : (T - 1) * den = 4 * h * q * den + (t - 1) * den := by rw [← Nat.add_mul]; congr 1; omega
  have e2 : (T + 1) * den = 4 * h * q * den + (t + 1) * den := by rw [← Nat.add_mul]; congr 1; omega
  obtain ⟨r, rfl⟩ : ∃ r, num = 4 * h * q * den + r := ⟨num - 4 * h * q * den, by omega⟩
  have r1 : (t - 1) * den < r := by omega
  have r2 : r < (t + 1) * den := by omega
  have e3 : 4 * h * q * den + r = r + den * (4 * h) * q := by rw [Nat.add_comm, Nat.mul_comm (4 * h * q) den, ← Nat.mul_assoc]
  have r3 : r < den * (4 * h) := by
    have : (t + 1) * den ≤ 4 * h * den := Nat.mul_le_mul_right _ (by omega)
    rw [Nat.mul_comm den]; omega
  have c1 : 2 * r < den * (4 * h) ↔ 2 * t < 4 * h := by
    constructor
    · intro z
      rcases Nat.lt_or_ge (2 * t) (4 * h) with y | y
      · exact y
      · exfalso
        have : 2 * h * den ≤ (t - 1) * den := Nat.mul_le_mul_right _ (by omega)
        have e : den * (4 * h) = 2 * (2 * h * den) := by rw [Nat.mul_comm den, ← Nat.mul_assoc, ← Nat.mul_assoc]
        omega
    · intro z
      have : (t + 1) * den ≤ 2 * h * den := Nat.mul_le_mul_right _ (by omega)
      have e : den * (4 * h) = 2 * (2 * h * den) := by rw [Nat.mul_comm den, ← Nat.mul_assoc, ← Nat.mul_assoc]
      omega
  have c2 : den * (4 * h) < 2 * r ↔ 4 * h < 2 * t := by
    constructor
    · intro z
      rcases Nat.lt_or_ge (4 * h) (2 * t) with y | y
      · exact y
      · exfalso
        have : (t + 1) * den ≤ 2 * h * den := Nat.mul_le_mul_right _ (by omega)
        have e : den * (4 * h) = 2 * (2 * h * den) := by rw [Nat.mul_comm den, ← Nat.mul_assoc, ← Nat.mul_assoc]
        omega
    · intro z
      have : 2 * h * den ≤ (t - 1) * den := Nat.mul_le_mul_right _ (by omega)
      have e : den * (4 * h) = 2 * (2 * h * den) := by rw [Nat.mul_comm den, ← Nat.mul_assoc, ← Nat.mul_assoc]
      omega
  have d1 : T / (4 * h) = q := by
    rw [← hTd]; exact (Nat.div_eq_of_lt_le (by rw [Nat.mul_comm]; omega) (by rw [Nat.add_mul, Nat.mul_comm q]; omega))
  have d2 : T % (4 * h) = t := by
    rw [← hTd, Nat.mul_add_mod]; exact Nat.mod_eq_of_lt ht
  unfold FP.Core.nearest
  rw [e3, Nat.add_mul_mod_self_left, Nat.mod_eq_of_lt r3, Nat.add_mul_div_left _ _ (by omega : 0 < den * (4 * h)), Nat.div_eq_of_lt r3, Nat.zero_add, d1, d2]
  simp only [c1, c2]
theorem fp_sticky {f : FP.Core.Fmt} {s : Bool} {num den T : Nat} {e : Int} (hp : 1 ≤ f.p) (hd : 0 < den) (hT : T % 2 = 1) (hbig : 2 ^ (f.p + 1) ≤ T) (h1 : (T - 1) * den < num) (h2 : num < (T + 1) * den) : FP.Core.roundRatio f s num den e = FP.Core.roundRatio f s T 1 e := by
  have hT0 : 0 < T := by omega
  have l1 : 2 ^ T.log2 ≤ T := Nat.log2_self_le (by omega)
  have l2 : T < 2 ^ (T.log2 + 1) := Nat.lt_log2_self
  have hL : f.p + 1 ≤ T.log2 := (Nat.le_log2 (by omega)).mpr hbig
  have ev : 2 ^ T.log2 = 2 * 2 ^ (T.log2 - 1) := by rw [← Nat.pow_succ']; congr 1; omega
  have ev2 : 2 ^ (T.log2 + 1) = 2 * 2 ^ T.log2 := Nat.pow_succ'
  have hlead : FP.Core.leading num den = T.log2 := by
    refine fp_lead_eq hd ?_ ?_
    · have : 2 ^ T.log2 * den ≤ (T - 1) * den := Nat.mul_le_mul_right _ (by omega)
      rw [Nat.mul_comm]; omega
    · have : (T + 1) * den ≤ 2 ^ (T.log2 + 1) * den := Nat.mul_le_mul_right _ (by omega)
      rw [Nat.mul_comm den]; omega
  have hn : 0 < num := by omega
  unfold FP.Core.roundRatio
  rw [if_neg (by omega), if_neg (by omega)]
  unfold FP.Core.quantum
  rw [hlead, fp_lead_one hT0]
  have hq : e + 2 ≤ max f.qmin ((T.log2 : Int) + e - ((f.p : Int) - 1)) := by omega
  generalize max f.qmin ((T.log2 : Int) + e - ((f.p : Int) - 1)) = q at hq
  unfold FP.Core.roundAt FP.Core.unitsNum FP.Core.unitsDen
  have e1 : (e - q).toNat = 0 := by omega
  rw [e1, Nat.pow_zero, Nat.mul_one, Nat.mul_one, Nat.one_mul, fp_nearest_sticky hd hT (by omega) h1 h2]
theorem fp_scale_num {f : FP.Core.Fmt} {s : Bool} {num den j : Nat} {e : Int} (hd : 0 < den) : FP.Core.roundRatio f s (num * 2 ^ j) den e = FP.Core.roundRatio f s num den (e + j) := by
  have hj : 0 < 2 ^ j := Nat.pow_pos (by decide)
  by_cases hn : num = 0
  · subst hn; unfold FP.Core.roundRatio; simp
  have hn0 : 0 < num := by omega
  have hz : num * 2 ^ j ≠ 0 := Nat.mul_ne_zero (by omega) (by omega)
  have hlead : FP.Core.leading (num * 2 ^ j) den = FP.Core.leading num den + j := by
    obtain ⟨k1, k2⟩ := fp_lead (a := num * 2 ^ j) (by omega) hd
    obtain ⟨m1, m2⟩ := fp_lead hn0 hd
    generalize FP.Core.leading (num * 2 ^ j) den = k at *
    generalize FP.Core.leading num den = m at *
    -- both are the exponent of the leading digit
    rw [Nat.mul_assoc, ← Nat.pow_add] at k1 k2
    have cmp : ∀ (x y u v : Nat), den * 2 ^ x ≤ num * 2 ^ y → num * 2 ^ u < den * 2 ^ v → x + u < y + v := by
      intro x y u v h1 h2
      rcases Nat.lt_or_ge (x + u) (y + v) with z | z
      · exact z
      · exfalso
        have h3 : den * 2 ^ x * 2 ^ u ≤ num * 2 ^ y * 2 ^ u := Nat.mul_le_mul_right _ h1
        have h4 : num * 2 ^ u * 2 ^ y < den * 2 ^ v * 2 ^ y := Nat.mul_lt_mul_of_pos_right h2 (Nat.pow_pos (by decide))
        have h5 : den * 2 ^ (y + v) ≤ den * 2 ^ (x + u) := Nat.mul_le_mul_left _ (Nat.pow_le_pow_right (by decide) z)
        rw [Nat.mul_assoc, ← Nat.pow_add] at h3 h4
        rw [Nat.mul_assoc, ← Nat.pow_add] at h3 h4
        rw [Nat.add_comm v y, Nat.add_comm u y] at h4
        omega
    have c1 := cmp _ _ _ _ k1 m2
    have c2 := cmp _ _ _ _ m1 k2
    omega
  unfold FP.Core.roundRatio
  rw [if_neg hz, if_neg hn]
  unfold FP.Core.quantum
  rw [hlead]
  have hq : (max f.qmin (FP.Core.leading num den + (j : Int) + e - ((f.p : Int) - 1))) = max f.qmin (FP.Core.leading num den + (e + j) - ((f.p : Int) - 1)) := by congr 1; omega
  rw [hq]
  generalize max f.qmin (FP.Core.leading num den + (e + j) - ((f.p : Int) - 1)) = q
  unfold FP.Core.roundAt FP.Core.unitsNum FP.Core.unitsDen
  congr 1
  refine fp_nearest_eq (Nat.mul_pos hd (Nat.pow_pos (by decide))) (Nat.mul_pos hd (Nat.pow_pos (by decide))) ?_
  rw [Nat.mul_assoc, Nat.mul_assoc, Nat.mul_assoc, Nat.mul_left_comm (2 ^ (e - q).toNat), Nat.mul_left_comm (2 ^ j), Nat.mul_left_comm (2 ^ (e + ↑j - q).toNat), ← Nat.pow_add, ← Nat.pow_add, ← Nat.pow_add]
  congr 3; omega
theorem fp_scale_den {f : FP.Core.Fmt} {s : Bool} {num den j : Nat} {e : Int} (hd : 0 < den) : FP.Core.roundRatio f s num (den * 2 ^ j) (e + j) = FP.Core.roundRatio f s num den e := by
  have hj : 0 < 2 ^ j := Nat.pow_pos (by decide)
  by_cases hn : num = 0
  · subst hn; unfold FP.Core.roundRatio; simp
  have hn0 : 0 < num := by omega
  have hd2 : 0 < den * 2 ^ j := Nat.mul_pos hd hj
  have hlead : FP.Core.leading num (den * 2 ^ j) = FP.Core.leading num den - j := by
    obtain ⟨k1, k2⟩ := fp_lead (b := den * 2 ^ j) hn0 hd2
    obtain ⟨m1, m2⟩ := fp_lead hn0 hd
    generalize FP.Core.leading num (den * 2 ^ j) = k at *
    generalize FP.Core.leading num den = m at *
    rw [Nat.mul_assoc, ← Nat.pow_add] at k1 k2
    have cmp : ∀ (x y u v : Nat), den * 2 ^ x ≤ num * 2 ^ y → num * 2 ^ u < den * 2 ^ v → x + u < y + v := by
      intro x y u v h1 h2
      rcases Nat.lt_or_ge (x + u) (y + v) with z | z
      · exact z
      · exfalso
        have h3 : den * 2 ^ x * 2 ^ u ≤ num * 2 ^ y * 2 ^ u := Nat.mul_le_mul_right _ h1
        have h4 : num * 2 ^ u * 2 ^ y < den * 2 ^ v * 2 ^ y := Nat.mul_lt_mul_of_pos_right h2 (Nat.pow_pos (by decide))
        have h5 : den * 2 ^ (y + v) ≤ den * 2 ^ (x + u) := Nat.mul_le_mul_left _ (Nat.pow_le_pow_right (by decide) z)
        rw [Nat.mul_assoc, ← Nat.pow_add] at h3 h4
        rw [Nat.mul_assoc, ← Nat.pow_add] at h3 h4
        rw [Nat.add_comm v y, Nat.add_comm u y] at h4
        omega
    have c1 := cmp _ _ _ _ k1 m2
    have c2 := cmp _ _ _ _ m1 k2
    omega
  unfold FP.Core.roundRatio
  rw [if_neg hn, if_neg hn]
  unfold FP.Core.quantum
  rw [hlead]
  have hq : (max f.qmin (FP.Core.leading num den - (j : Int) + (e + j) - ((f.p : Int) - 1))) = max f.qmin (FP.Core.leading num den + e - ((f.p : Int) - 1)) := by congr 1; omega
  rw [hq]
  generalize max f.qmin (FP.Core.leading num den + e - ((f.p : Int) - 1)) = q
  unfold FP.Core.roundAt FP.Core.unitsNum FP.Core.unitsDen
  congr 1
  refine fp_nearest_eq (Nat.mul_pos hd2 (Nat.pow_pos (by decide))) (Nat.mul_pos hd (Nat.pow_pos (by decide))) ?_
  rw [Nat.mul_assoc, Nat.mul_assoc, Nat.mul_assoc, Nat.mul_left_comm (2 ^ (e + ↑j - q).toNat), Nat.mul_left_comm (2 ^ (e - q).toNat) den, ← Nat.pow_add, ← Nat.pow_add, ← Nat.pow_add]
  congr 3; omega
