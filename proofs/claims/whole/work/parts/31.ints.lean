/-! ints and longs as whole numbers -/
def jI (z : Int) : Int32 := Int32.ofInt z
theorem jI_toInt {z : Int} (h1 : -2147483648 ≤ z) (h2 : z < 2147483648) : (jI z).toInt = z := by
  unfold jI
  rw [Int32.toInt_ofInt]
  show z.bmod 4294967296 = z
  exact Int.bmod_eq_of_le (by omega) (by omega)
theorem jI_inj {a b : Int32} (h : a.toInt = b.toInt) : a = b := Int32.toInt_inj.mp h
theorem jI_of (x : Int32) : x = jI x.toInt := by unfold jI; exact (Int32.ofInt_toInt x).symm
theorem jI_add (a b : Int) : jI a + jI b = jI (a + b) := (Int32.ofInt_add a b).symm
theorem jI_sub (a b : Int) : jI a - jI b = jI (a - b) := (Int32.ofInt_sub a b).symm
theorem jI_nI {n : Nat} (h : n < 2 ^ 31) : nI n = jI n := jI_inj (by rw [nI_toInt h, jI_toInt (by omega) (by omega)])
theorem jI_lt {a b : Int} (a1 : -2147483648 ≤ a) (a2 : a < 2147483648) (b1 : -2147483648 ≤ b) (b2 : b < 2147483648) : jI a < jI b ↔ a < b := by
  rw [Int32.lt_iff_toInt_lt, jI_toInt a1 a2, jI_toInt b1 b2]
theorem jI_le {a b : Int} (a1 : -2147483648 ≤ a) (a2 : a < 2147483648) (b1 : -2147483648 ≤ b) (b2 : b < 2147483648) : jI a ≤ jI b ↔ a ≤ b := by
  rw [Int32.le_iff_toInt_le, jI_toInt a1 a2, jI_toInt b1 b2]
def jL (z : Int) : Int64 := Int64.ofInt z
theorem jL_toInt {z : Int} (h1 : -9223372036854775808 ≤ z) (h2 : z < 9223372036854775808) : (jL z).toInt = z := by
  unfold jL
  rw [Int64.toInt_ofInt]
  show z.bmod 18446744073709551616 = z
  exact Int.bmod_eq_of_le (by omega) (by omega)
theorem jL_inj {a b : Int64} (h : a.toInt = b.toInt) : a = b := Int64.toInt_inj.mp h
theorem jL_of (x : Int64) : x = jL x.toInt := by unfold jL; exact (Int64.ofInt_toInt x).symm
theorem jL_add (a b : Int) : jL a + jL b = jL (a + b) := (Int64.ofInt_add a b).symm
theorem jL_sub (a b : Int) : jL a - jL b = jL (a - b) := (Int64.ofInt_sub a b).symm
theorem jL_neg (a : Int) : -jL a = jL (-a) := (Int64.ofInt_neg a).symm
theorem jL_lN {n : Nat} (h : n < 2 ^ 63) : lN n = jL n := jL_inj (by rw [pk_lT h, jL_toInt (by omega) (by omega)])
theorem jL_lt {a b : Int} (a1 : -9223372036854775808 ≤ a) (a2 : a < 9223372036854775808) (b1 : -9223372036854775808 ≤ b) (b2 : b < 9223372036854775808) : jL a < jL b ↔ a < b := by
  rw [Int64.lt_iff_toInt_lt, jL_toInt a1 a2, jL_toInt b1 b2]
theorem jL_le {a b : Int} (a1 : -9223372036854775808 ≤ a) (a2 : a < 9223372036854775808) (b1 : -9223372036854775808 ≤ b) (b2 : b < 9223372036854775808) : jL a ≤ jL b ↔ a ≤ b := by
  rw [Int64.le_iff_toInt_le, jL_toInt a1 a2, jL_toInt b1 b2]
theorem jL_eq {a b : Int} (a1 : -9223372036854775808 ≤ a) (a2 : a < 9223372036854775808) (b1 : -9223372036854775808 ≤ b) (b2 : b < 9223372036854775808) : jL a = jL b ↔ a = b := by
  rw [← Int64.toInt_inj, jL_toInt a1 a2, jL_toInt b1 b2]
theorem lN_tB {n : Nat} (h : n < 2 ^ 64) : (lN n).toBitVec.toNat = n := Nat.mod_eq_of_lt h
theorem qs_amt : ∀ s : Nat, s < 64 → (((nI s).toInt64 &&& 63).toBitVec.smod 64).toNat = s := by decide +kernel
theorem qs_amtU : ∀ s : Nat, s < 64 → (((nI s).toInt64.toUInt64 &&& Int64.toUInt64 63).toBitVec % 64).toNat = s := by decide +kernel
theorem qs_shlT (x : Int64) {s : Nat} (hs : s < 64) : (x <<< ((nI s).toInt64 &&& 63)).toBitVec.toNat = x.toBitVec.toNat * 2 ^ s % 2 ^ 64 := by
  show (x.toBitVec <<< (((nI s).toInt64 &&& 63).toBitVec.smod 64).toNat).toNat = _
  rw [qs_amt s hs, BitVec.toNat_shiftLeft, Nat.shiftLeft_eq]
theorem qs_shl {n s : Nat} (hs : s < 64) (h : n * 2 ^ s < 2 ^ 64) : lN n <<< ((nI s).toInt64 &&& 63) = lN (n * 2 ^ s) := by
  apply Int64.toBitVec_inj.mp
  apply BitVec.eq_of_toNat_eq
  have hn : n < 2 ^ 64 := Nat.lt_of_le_of_lt (Nat.le_mul_of_pos_right n (Nat.two_pow_pos s)) h
  rw [qs_shlT _ hs, lN_tB hn, lN_tB h, Nat.mod_eq_of_lt h]
theorem qs_ushr {n s : Nat} (hs : s < 64) (h : n < 2 ^ 64) : ((lN n).toUInt64 >>> ((nI s).toInt64.toUInt64 &&& Int64.toUInt64 63)).toInt64 = lN (n / 2 ^ s) := by
  apply Int64.toBitVec_inj.mp
  apply BitVec.eq_of_toNat_eq
  have e : ((lN n).toUInt64 >>> ((nI s).toInt64.toUInt64 &&& Int64.toUInt64 63)).toInt64.toBitVec = (lN n).toBitVec >>> s :=
    (UInt64.toBitVec_shiftRight _ _).trans (congrArg (fun t : Nat => (lN n).toBitVec >>> t) (qs_amtU s hs))
  rw [e, BitVec.toNat_ushiftRight, Nat.shiftRight_eq_div_pow, lN_tB h, lN_tB (Nat.lt_of_le_of_lt (Nat.div_le_self _ _) h)]
theorem qs_shr {n s : Nat} (hs : s < 64) (h : n < 2 ^ 63) : lN n >>> ((nI s).toInt64 &&& 63) = lN (n / 2 ^ s) := by
  apply Int64.toInt_inj.mp
  show ((lN n).toBitVec.sshiftRight (((nI s).toInt64 &&& 63).toBitVec.smod 64).toNat).toInt = _
  rw [qs_amt s hs, BitVec.toInt_sshiftRight]
  show (lN n).toInt >>> s = _
  have h2 : n / 2 ^ s ≤ n := Nat.div_le_self _ _
  rw [pk_lT h, pk_lT (by omega), Int.shiftRight_eq_div_pow]
  rfl
theorem qs_and {n m : Nat} (hn : n < 2 ^ 64) (hm : m < 2 ^ 64) : lN n &&& lN m = lN (n &&& m) := by
  apply Int64.toBitVec_inj.mp
  apply BitVec.eq_of_toNat_eq
  rw [Int64.toBitVec_and, BitVec.toNat_and, lN_tB hn, lN_tB hm, lN_tB (Nat.lt_of_le_of_lt Nat.and_le_left hn)]
theorem qs_or {n m : Nat} (hn : n < 2 ^ 64) (hm : m < 2 ^ 64) : lN n ||| lN m = lN (n ||| m) := by
  apply Int64.toBitVec_inj.mp
  apply BitVec.eq_of_toNat_eq
  rw [Int64.toBitVec_or, BitVec.toNat_or, lN_tB hn, lN_tB hm, lN_tB (Nat.or_lt_two_pow hn hm)]
theorem qs_or1 (n : Nat) : n ||| 1 = 2 * (n / 2) + 1 := by
  have h1 : (n ||| 1) / 2 = n / 2 := by rw [Nat.or_div_two]; simp
  have h2 : (n ||| 1) % 2 = 1 := by rw [Nat.or_mod_two_eq_one]; exact Or.inr rfl
  omega
