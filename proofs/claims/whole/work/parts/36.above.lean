/-! Real: which of two is above -/
theorem fv_lt {F B m n : Nat} (h : m < n) : pw F B m ≤ pw F B n ∧ sg F m * 2 ^ (pw F B m - pw F B m).toNat < sg F n * 2 ^ (pw F B n - pw F B m).toNat := by
  have hc : 0 < 2 ^ F := Nat.pow_pos (by decide)
  have hm := Nat.div_add_mod m (2 ^ F)
  have hn := Nat.div_add_mod n (2 ^ F)
  have hm2 := Nat.mod_lt m hc
  have hn2 := Nat.mod_lt n hc
  have hdiv : m / 2 ^ F ≤ n / 2 ^ F := Nat.div_le_div_right (Nat.le_of_lt h)
  have hsm : sg F m < 2 * 2 ^ F := sg_lt
  have e0 : (pw F B m - pw F B m).toNat = 0 := by omega
  rw [e0, Nat.pow_zero, Nat.mul_one]
  unfold pw
  generalize hE : m / 2 ^ F = E at *
  generalize hE' : n / 2 ^ F = E' at *
  refine ⟨by split <;> split <;> omega, ?_⟩
  by_cases hs : (if E ≤ 1 then 1 else E) = (if E' ≤ 1 then 1 else E')
  · rw [hs, show ((((if E' ≤ 1 then 1 else E' : Nat) : Int) - B - F) - (((if E' ≤ 1 then 1 else E' : Nat) : Int) - B - F)).toNat = 0 by omega, Nat.pow_zero, Nat.mul_one]
    unfold sg
    by_cases h1 : E' ≤ 1
    · have h2 : E ≤ 1 := by omega
      rcases Nat.le_one_iff_eq_zero_or_eq_one.mp h1 with z | z <;> rcases Nat.le_one_iff_eq_zero_or_eq_one.mp h2 with y | y <;> subst z <;> subst y <;> simp only [Nat.mul_zero, Nat.mul_one, Nat.zero_add] at hm hn <;> split <;> split <;> omega
    · rw [if_neg h1] at hs
      have h2 : E = E' := by split at hs <;> omega
      subst h2
      have h3 : 2 ^ F ≤ 2 ^ F * E := Nat.le_mul_of_pos_right _ (by omega)
      rw [if_neg (by omega), if_neg (by omega)]
      omega
  · have h1 : ¬ E' ≤ 1 := by intro z; apply hs; rw [if_pos z, if_pos (by omega)]
    rw [if_neg h1] at hs ⊢
    have h3 : 2 ^ F ≤ 2 ^ F * E' := Nat.le_mul_of_pos_right _ (by omega)
    have hsn : 2 ^ F ≤ sg F n := by unfold sg; rw [if_neg (by omega)]; omega
    have hex : 1 ≤ (((E' : Nat) : Int) - B - F - (((if E ≤ 1 then 1 else E : Nat) : Int) - B - F)).toNat := by
      split <;> split at hs <;> omega
    generalize (((E' : Nat) : Int) - B - F - (((if E ≤ 1 then 1 else E : Nat) : Int) - B - F)).toNat = j at hex
    have h4 : 2 ^ 1 ≤ 2 ^ j := Nat.pow_le_pow_right (by decide) hex
    have h5 : sg F n * 2 ^ 1 ≤ sg F n * 2 ^ j := Nat.mul_le_mul_left _ h4
    omega
theorem cmp_gt (a b : Int) : compare a b = .gt ↔ b < a := by
  show compareOfLessAndEq a b = .gt ↔ _
  unfold compareOfLessAndEq
  split
  · exact ⟨fun z => (by cases z), fun z => (by omega)⟩
  · split
    · exact ⟨fun z => (by cases z), fun z => (by omega)⟩
    · exact ⟨fun _ => by omega, fun _ => rfl⟩
theorem fv_ord {F B m n : Nat} {s t : Bool} : compare (FP.Core.signed s (FP.Core.inUnits (sg F m) (pw F B m) (min (pw F B m) (pw F B n)))) (FP.Core.signed t (FP.Core.inUnits (sg F n) (pw F B n) (min (pw F B m) (pw F B n)))) = .gt ↔ FP.Core.signed t n < FP.Core.signed s m := by
  rw [cmp_gt]
  have z0 : ∀ j, j = 0 → sg F j = 0 := fun j h => by subst h; unfold sg; rw [if_pos (Nat.pow_pos (by decide))]
  have hp : ∀ j (q e : Int), (0 < FP.Core.inUnits (sg F j) q e ↔ 0 < j) := by
    intro j q e
    unfold FP.Core.inUnits
    constructor
    · intro h
      rcases Nat.eq_zero_or_pos j with y | y
      · rw [z0 j y] at h; omega
      · exact y
    · intro h; exact Nat.mul_pos (sg_pos h) (Nat.pow_pos (by decide))
  have h1 := hp m (pw F B m) (min (pw F B m) (pw F B n))
  have h2 := hp n (pw F B n) (min (pw F B m) (pw F B n))
  have h3 : m < n → FP.Core.inUnits (sg F m) (pw F B m) (min (pw F B m) (pw F B n)) < FP.Core.inUnits (sg F n) (pw F B n) (min (pw F B m) (pw F B n)) := by
    intro h
    obtain ⟨k1, k2⟩ := fv_lt (F := F) (B := B) h
    rw [Int.min_eq_left k1]
    exact k2
  have h4 : n < m → FP.Core.inUnits (sg F n) (pw F B n) (min (pw F B m) (pw F B n)) < FP.Core.inUnits (sg F m) (pw F B m) (min (pw F B m) (pw F B n)) := by
    intro h
    obtain ⟨k1, k2⟩ := fv_lt (F := F) (B := B) h
    rw [Int.min_eq_right k1]
    exact k2
  have h5 : m = n → FP.Core.inUnits (sg F m) (pw F B m) (min (pw F B m) (pw F B n)) = FP.Core.inUnits (sg F n) (pw F B n) (min (pw F B m) (pw F B n)) := by
    intro h; subst h; rfl
  generalize FP.Core.inUnits (sg F m) (pw F B m) (min (pw F B m) (pw F B n)) = a at *
  generalize FP.Core.inUnits (sg F n) (pw F B n) (min (pw F B m) (pw F B n)) = b at *
  unfold FP.Core.signed
  cases s <;> cases t <;> simp only [Bool.false_eq_true, if_false, if_true] <;> omega
theorem r_ordered {k F B W : Nat} (hk : kk k F B W) {x : Int64} {s : Bool} {m : Nat} (h : Cs W x s m) : f_X4_ordered k x = some (jL (FP.Core.signed s m)) := by
  have hb := r_bnd hk
  have hm := h.1
  unfold f_X4_ordered
  simp only [o_cP]
  rw [r_magnitude hk h]
  dsimp only
  unfold FP.Core.signed
  cases s with
  | false => rw [if_pos (h.neg.mpr rfl), jL_lN (by omega)]; rfl
  | true => rw [if_neg (fun z => absurd (h.neg.mp z) (by decide)), jL_lN (by omega), jL_neg]; rfl
theorem r_isAbove {k F B W : Nat} (hk : kk k F B W) {x y : Int64} {s t : Bool} {m n : Nat} (hx : Cs W x s m) (hy : Cs W y t n) : f_X4_isAbove k x y = some (if FP.Core.cmp (kf k) (en W s m) (en W t n) = some .gt then 1 else 0) := by
  obtain ⟨b1, b2, b3, b4⟩ := r_bnd hk
  have hm := hx.1
  have hn := hy.1
  unfold f_X4_isAbove FP.Core.cmp
  simp only [o_cP]
  rw [r_isNo hk hx, r_isNo hk hy, r_ordered hk hx, r_ordered hk hy, r_decode hk s hm, r_decode hk t hn]
  dsimp only
  have hs : ∀ (u : Bool) (j : Nat), j < 2 ^ W → -9223372036854775808 ≤ FP.Core.signed u j ∧ FP.Core.signed u j < 9223372036854775808 := by
    intro u j hj; unfold FP.Core.signed; split <;> omega
  have hs1 := hs s m hm
  have hs2 := hs t n hn
  have hI0 : 0 < (2 * B + 1) * 2 ^ F := Nat.mul_pos (by omega) b1
  generalize hI : (2 * B + 1) * 2 ^ F = I at *
  by_cases c1 : I < m
  · rw [if_pos c1, if_neg (by decide), if_pos c1]
    unfold FP.Core.order
    rfl
  · rw [if_neg c1, if_pos rfl, if_neg c1]
    by_cases c2 : I < n
    · rw [if_pos c2, if_neg (by decide), if_pos c2]
      by_cases c3 : m = I
      · rw [if_pos c3]; rfl
      · rw [if_neg c3]; rfl
    · rw [if_neg c2, if_pos rfl, if_neg c2]
      simp only [jL_le hs1.1 hs1.2 hs2.1 hs2.2]
      have key : ∀ o : Option Ordering, (o = some .gt ↔ FP.Core.signed t n < FP.Core.signed s m) → (if FP.Core.signed s m ≤ FP.Core.signed t n then (some 0 : Option Int32) else some 1) = some (if o = some .gt then 1 else 0) := by
        intro o ho
        by_cases z : FP.Core.signed s m ≤ FP.Core.signed t n
        · rw [if_pos z, if_neg (fun y => by have := ho.mp y; omega)]
        · rw [if_neg z, if_pos (ho.mpr (by omega))]
      refine key _ ?_
      by_cases c3 : m = I
      · rw [if_pos c3]
        by_cases c4 : n = I
        · rw [if_pos c4]
          show some _ = some _ ↔ _
          rw [Option.some.injEq, cmp_gt]
          unfold FP.Core.signed
          cases s <;> cases t <;> simp only [Bool.false_eq_true, if_false, if_true] <;> omega
        · rw [if_neg c4]
          show some _ = some _ ↔ _
          rw [Option.some.injEq, cmp_gt]
          unfold FP.Core.signed
          cases s <;> cases t <;> simp only [Bool.false_eq_true, if_false, if_true] <;> omega
      · rw [if_neg c3]
        by_cases c4 : n = I
        · rw [if_pos c4]
          show some _ = some _ ↔ _
          rw [Option.some.injEq, cmp_gt]
          unfold FP.Core.signed
          cases s <;> cases t <;> simp only [Bool.false_eq_true, if_false, if_true] <;> omega
        · rw [if_neg c4]
          show some _ = some _ ↔ _
          rw [Option.some.injEq]
          exact fv_ord
