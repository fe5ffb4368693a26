/-! Real: rounding on the bits is rounding -/
def kk (k F B W : Nat) : Prop := (k = 0 ∧ F = 23 ∧ B = 127 ∧ W = 31) ∨ (k = 1 ∧ F = 52 ∧ B = 1023 ∧ W = 63)
def kf (k : Nat) : FP.Core.Fmt := if k = 0 then FP.Core.b32 else FP.Core.b64
def sb (s : Bool) : Int32 := if s then 1 else 0
/-- x holds, as the bits of a number of format k, the sign s and the rest m -/
def Cs (W : Nat) (x : Int64) (s : Bool) (m : Nat) : Prop := m < 2 ^ W ∧ x.toInt = (m : Int) - (if s then 2 ^ W else 0)
theorem kk.pw {k F B W : Nat} (h : kk k F B W) : 2 ^ W = (2 * B + 2) * 2 ^ F := by
  rcases h with ⟨rfl, rfl, rfl, rfl⟩ | ⟨rfl, rfl, rfl, rfl⟩ <;> decide +kernel
theorem kk.f {k F B W : Nat} (h : kk k F B W) : (kf k).p = F + 1 ∧ (kf k).emax = B ∧ (kf k).exps = 2 * B + 2 ∧ (kf k).tails = 2 ^ F := by
  rcases h with ⟨rfl, rfl, rfl, rfl⟩ | ⟨rfl, rfl, rfl, rfl⟩ <;> decide +kernel
theorem kk.rf {k F B W : Nat} (h : kk k F B W) : rc_f k = nI F ∧ rc_b k = nI B ∧ rc_y k = nI (2 * B + 1) ∧ rc_s k = jL (-(2 ^ W : Nat)) ∧ k < 2 := by
  rcases h with ⟨rfl, rfl, rfl, rfl⟩ | ⟨rfl, rfl, rfl, rfl⟩ <;> decide +kernel
theorem kk.inf {k F B W : Nat} (h : kk k F B W) : f_X4_infinity k = some (lN ((2 * B + 1) * 2 ^ F)) := by
  rcases h with ⟨rfl, rfl, rfl, rfl⟩ | ⟨rfl, rfl, rfl, rfl⟩ <;> decide +kernel
theorem kk.non {k F B W : Nat} (h : kk k F B W) : f_X4_noNumber k = some (lN ((2 * B + 1) * 2 ^ F + 2 ^ (F - 1))) := by
  rcases h with ⟨rfl, rfl, rfl, rfl⟩ | ⟨rfl, rfl, rfl, rfl⟩ <;> decide +kernel
theorem Cs.neg {W : Nat} {x : Int64} {s : Bool} {m : Nat} (h : Cs W x s m) : 0 ≤ x ↔ s = false := by
  obtain ⟨h1, h2⟩ := h
  rw [Int64.le_iff_toInt_le, h2, show (0 : Int64).toInt = 0 by decide]
  have : ((2 ^ W : Nat) : Int) = 2 ^ W := by simp
  cases s <;> simp <;> omega
theorem Cs.tb {W : Nat} (hW : W < 64) {x : Int64} {s : Bool} {m : Nat} (h : Cs W x s m) : x.toBitVec.toNat % 2 ^ W = m := by
  obtain ⟨h1, h2⟩ := h
  have e : x.toInt = x.toBitVec.toInt := rfl
  rw [e, BitVec.toInt_eq_toNat_cond] at h2
  have hlt := x.toBitVec.isLt
  generalize x.toBitVec.toNat = n at *
  have hp : (2 ^ 64 : Nat) = 2 ^ W * 2 ^ (64 - W) := by rw [← Nat.pow_add]; congr 1; omega
  generalize hz : 2 ^ (64 - W) = z at hp
  have hc : ((2 ^ W : Nat) : Int) = 2 ^ W := by simp
  generalize hw : (2 ^ W : Nat) = w at *
  rw [← hc] at h2
  have key : n = m ∨ n + w = m + w * z ∨ n = m + w * z ∨ n + w = m := by
    rw [hp] at h2
    cases s <;> simp only [Bool.false_eq_true, if_false, if_true] at h2 <;> split at h2 <;> omega
  rcases key with q | q | q | q
  · rw [q]; exact Nat.mod_eq_of_lt h1
  · have : (n + w) % w = (m + w * z) % w := by rw [q]
    rw [Nat.add_mod_right, Nat.add_mul_mod_self_left, Nat.mod_eq_of_lt h1] at this; exact this
  · rw [q, Nat.add_mul_mod_self_left]; exact Nat.mod_eq_of_lt h1
  · omega
theorem r_magnitude {k F B W : Nat} (hk : kk k F B W) {x : Int64} {s : Bool} {m : Nat} (h : Cs W x s m) : f_X4_magnitude k x = some (lN m) := by
  have hW : W < 64 := by unfold kk at hk; omega
  unfold f_X4_magnitude o_let
  show some (x &&& (rc_s k ^^^ (-1 : Int64))) = some (lN m)
  congr 1
  apply Int64.toBitVec_inj.mp
  apply BitVec.eq_of_toNat_eq
  have hm : (rc_s k ^^^ (-1 : Int64)).toBitVec.toNat = 2 ^ W - 1 := by
    rcases hk with ⟨rfl, rfl, rfl, rfl⟩ | ⟨rfl, rfl, rfl, rfl⟩ <;> decide +kernel
  have hlt : 2 ^ W < 2 ^ 64 := Nat.pow_lt_pow_right (by decide) hW
  rw [Int64.toBitVec_and, BitVec.toNat_and, hm, Nat.and_two_pow_sub_one_eq_mod, h.tb hW, lN_tB (by have := h.1; omega)]
theorem r_signed {k F B W : Nat} (hk : kk k F B W) {s : Bool} {m : Nat} (h : m < 2 ^ W) : ∃ r, f_X4_signed k (sb s) (lN m) = some r ∧ Cs W r s m := by
  have hW : W < 64 := by unfold kk at hk; omega
  have hW2 : 2 ^ W ≤ 2 ^ 63 := Nat.pow_le_pow_right (by decide) (by omega)
  have hc : ((2 ^ W : Nat) : Int) = 2 ^ W := by simp
  cases s with
  | false =>
    refine ⟨lN m, ?_, h, ?_⟩
    · unfold f_X4_signed sb; simp
    · rw [pk_lT (by omega)]; simp
  | true =>
    refine ⟨lN m ||| rc_s k, ?_, h, ?_⟩
    · unfold f_X4_signed sb o_let; simp
    · have hs : (rc_s k).toBitVec.toNat = 2 ^ 64 - 2 ^ W := by
        rcases hk with ⟨rfl, rfl, rfl, rfl⟩ | ⟨rfl, rfl, rfl, rfl⟩ <;> decide +kernel
      have e : (lN m ||| rc_s k).toBitVec.toNat = m + (2 ^ 64 - 2 ^ W) := by
        rw [Int64.toBitVec_or, BitVec.toNat_or, hs, lN_tB (by omega)]
        have hp : (2 ^ 64 : Nat) = 2 ^ W * 2 ^ (64 - W) := by rw [← Nat.pow_add]; congr 1; omega
        have e2 : 2 ^ 64 - 2 ^ W = 2 ^ W * (2 ^ (64 - W) - 1) := by rw [hp, Nat.mul_sub, Nat.mul_one]
        rw [e2, Nat.or_comm, ← Nat.two_pow_add_eq_or_of_lt h, Nat.add_comm]
      show (lN m ||| rc_s k).toBitVec.toInt = _
      rw [BitVec.toInt_eq_toNat_cond, e, ← hc]
      simp only [if_true]
      split <;> omega
theorem lN_eq0 {n : Nat} (h : n < 2 ^ 63) : lN n = 0 ↔ n = 0 := by
  rw [show (0 : Int64) = lN 0 from rfl, pk_lEQ h (by decide)]
theorem r_room_b6 {c L top : Nat} (h1 : 2 ^ L ≤ c) (h2 : c < 2 ^ (L + 1)) (ht : top ≤ 62) (ht2 : 32 ≤ top + 1) (hL : L ≤ top) : ∀ (j n room : Nat), j < 6 → j + 2 ≤ n → room ≤ top - L → top - L < room + 2 ^ (j + 1) → f_X4_roomAbove_b6 n (lN c) (nI top) (nI room) (nI (2 ^ j)) = some (nI (top - L)) := by
  intro j
  have step : ∀ (j n room : Nat), j < 6 → room ≤ top - L → f_X4_roomAbove_b6 (n + 1) (lN c) (nI top) (nI room) (nI (2 ^ j)) = f_X4_roomAbove_b6 n (lN c) (nI top) (nI (if room + 2 ^ j ≤ top - L then room + 2 ^ j else room)) (nI (2 ^ j) >>> ((1 : Int32) &&& 31)) := by
    intro j n room hj hr
    have hj1 : 2 ^ j ≤ 32 := by
      have : 2 ^ j ≤ 2 ^ 5 := Nat.pow_le_pow_right (by decide) (by omega)
      omega
    have hj0 : 0 < 2 ^ j := Nat.pow_pos (by decide)
    have hc1 : c * 2 ^ room < 2 ^ 63 := by
      have a1 : c * 2 ^ room < 2 ^ (L + 1) * 2 ^ room := Nat.mul_lt_mul_of_pos_right h2 (Nat.pow_pos (by decide))
      rw [← Nat.pow_add] at a1
      exact Nat.lt_of_lt_of_le a1 (Nat.pow_le_pow_right (by decide) (by omega))
    rw [f_X4_roomAbove_b6.eq_2]
    generalize hg : 2 ^ j = P at *
    rw [if_neg (by rw [show (0 : Int32) = nI 0 from rfl, nI_leI (by omega) (by decide)]; omega)]
    rw [qs_shl (by omega) (by omega), show nI top + (1 : Int32) = nI (top + 1) from nI_1 top, pk_sub (by omega), qs_ushr (by omega) (by omega)]
    have hb : c * 2 ^ room / 2 ^ (top + 1 - P) ≤ c * 2 ^ room := Nat.div_le_self _ _
    have hiff : (lN (c * 2 ^ room / 2 ^ (top + 1 - P)) = 0) ↔ room + P ≤ top - L := by
      rw [lN_eq0 (by omega), Nat.div_eq_zero_iff_lt (Nat.pow_pos (by decide))]
      constructor
      · intro z
        rcases Nat.lt_or_ge (top - L) (room + P) with y | y
        · exfalso
          have a1 : 2 ^ L * 2 ^ room ≤ c * 2 ^ room := Nat.mul_le_mul_right _ h1
          rw [← Nat.pow_add] at a1
          have a2 : 2 ^ (top + 1 - P) ≤ 2 ^ (L + room) := Nat.pow_le_pow_right (by decide) (by omega)
          omega
        · exact y
      · intro z
        have a1 : c * 2 ^ room < 2 ^ (L + 1) * 2 ^ room := Nat.mul_lt_mul_of_pos_right h2 (Nat.pow_pos (by decide))
        rw [← Nat.pow_add] at a1
        exact Nat.lt_of_lt_of_le a1 (Nat.pow_le_pow_right (by decide) (by omega))
    by_cases hc : room + P ≤ top - L
    · rw [if_pos (hiff.mpr hc), if_pos hc, nI_add]
    · rw [if_neg (fun z => hc (hiff.mp z)), if_neg hc]
  induction j with
  | zero =>
    intro n room hj hn hr1 hr2
    obtain ⟨n, rfl⟩ : ∃ n', n = n' + 2 := ⟨n - 2, by omega⟩
    rw [step 0 (n + 1) room (by decide) hr1, show nI (2 ^ 0) >>> ((1 : Int32) &&& 31) = 0 by decide, f_X4_roomAbove_b6.eq_2, if_pos (by decide)]
    simp only [Nat.pow_zero, Nat.zero_add, Nat.pow_one] at hr2 ⊢
    congr 2
    split <;> omega
  | succ j ih =>
    intro n room hj hn hr1 hr2
    obtain ⟨n, rfl⟩ : ∃ n', n = n' + 1 := ⟨n - 1, by omega⟩
    have e : nI (2 ^ (j + 1)) >>> ((1 : Int32) &&& 31) = nI (2 ^ j) := by
      have : 2 ^ (j + 1) ≤ 2 ^ 5 := Nat.pow_le_pow_right (by decide) (by omega)
      rw [pk_shrN (by omega) _ 1 (by decide), Nat.pow_succ, Nat.pow_one, Nat.mul_div_cancel _ (by decide)]
    rw [step (j + 1) n room hj hr1, e]
    refine ih n _ (by omega) (by omega) ?_ ?_
    · split <;> omega
    · have : 2 ^ (j + 1 + 1) = 2 * 2 ^ (j + 1) := Nat.pow_succ'
      split <;> omega
theorem r_room {c top : Nat} (hc : 0 < c) (ht : top = 62 ∨ top = 52) (hc2 : c < 2 ^ (top + 1)) : f_X4_roomAbove (lN c) (nI top) = some (nI (top - c.log2)) := by
  have hL : c.log2 ≤ top := by
    have := (Nat.log2_lt (by omega : c ≠ 0)).mpr hc2; omega
  unfold f_X4_roomAbove
  exact r_room_b6 (Nat.log2_self_le (by omega)) Nat.lt_log2_self (by omega) (by omega) hL 5 12 0 (by decide) (by decide) (by omega) (by omega)
theorem r_rounded {k F B W : Nat} (hk : kk k F B W) {s : Bool} {c : Nat} {q : Int} (hc : 0 < c) (hc2 : c < 2 ^ 63) (hq1 : -100000 ≤ q) (hq2 : q ≤ 100000) :
    ∃ r m, f_X4_rounded k (sb s) (lN c) (jI q) = some r ∧ Cs W r s m ∧ m ≤ (2 * B + 1) * 2 ^ F ∧ FP.Core.encode (kf k) (FP.Core.roundRatio (kf k) s c 1 q) = (if s then 2 ^ W else 0) + m := by
  have hL : c.log2 ≤ 62 := by
    have := (Nat.log2_lt (by omega : c ≠ 0)).mpr hc2; omega
  obtain ⟨f1, f2, f3, f4⟩ := hk.f
  obtain ⟨g1, g2, g3, -, -⟩ := hk.rf
  have hpw := hk.pw
  have hFB : (F = 23 ∧ B = 127 ∧ W = 31) ∨ (F = 52 ∧ B = 1023 ∧ W = 63) := by
    rcases hk with ⟨-, h⟩ | ⟨-, h⟩; exact Or.inl h; exact Or.inr h
  obtain ⟨ex, hex⟩ : ∃ ex, q + c.log2 + B = ex := ⟨_, rfl⟩
  have henc := fp_enc f1 f2 f3 (by omega) (by omega) (by omega) (s := s) hc hc2 hex
  have hasm : FP.Core.assemble (kf k) s 0 0 = (if s then 2 ^ W else 0) := by
    unfold FP.Core.assemble; rw [f3, f4, hpw]; cases s <;> simp
  have hasm2 : FP.Core.assemble (kf k) s (2 * B + 1) 0 = (if s then 2 ^ W else 0) + (2 * B + 1) * 2 ^ F := by
    unfold FP.Core.assemble; rw [f3, f4, hpw]; cases s <;> simp [Nat.add_mul] <;> omega
  have full2 : c * 2 ^ (62 - c.log2) < 2 ^ 63 := by
    have : c * 2 ^ (62 - c.log2) < 2 ^ (c.log2 + 1) * 2 ^ (62 - c.log2) := Nat.mul_lt_mul_of_pos_right Nat.lt_log2_self (Nat.pow_pos (by decide))
    rw [← Nat.pow_add] at this
    rwa [show c.log2 + 1 + (62 - c.log2) = 63 by omega] at this
  have eex : jI q - nI (62 - c.log2) + (62 : Int32) + nI B = jI ex := by
    rw [jI_nI (by omega), jI_nI (by omega), jI_sub, show (62 : Int32) = jI 62 by decide, jI_add, jI_add]
    congr 1; omega
  have hFp : 0 < 2 ^ F := Nat.pow_pos (by decide)
  unfold f_X4_rounded
  rw [show (62 : Int32) = nI 62 from rfl, r_room hc (Or.inl rfl) hc2]
  simp only [o_cP, o_let]
  rw [g1, g2, g3, show nI 62 = (62 : Int32) from rfl, eex]
  by_cases hov : 2 * (B : Int) + 1 ≤ ex
  · rw [if_pos hov] at henc
    rw [if_neg (by rw [jI_nI (by omega), jI_lt (by omega) (by omega) (by omega) (by omega)]; omega), hk.inf]
    obtain ⟨r, e1, e2⟩ := r_signed hk (s := s) (m := (2 * B + 1) * 2 ^ F) (by rw [hpw]; exact Nat.mul_lt_mul_of_pos_right (by omega) hFp)
    refine ⟨r, _, ?_, e2, Nat.le_refl _, by rw [henc, hasm2]⟩
    dsimp only
    rw [e1]
  · rw [if_neg hov] at henc
    rw [if_pos (by rw [jI_nI (by omega), jI_lt (by omega) (by omega) (by omega) (by omega)]; omega)]
    rw [qs_shl (by omega) (by omega)]
    -- both ways come to the same place, with the number of bits that go
    generalize hdn : 62 - F + (if ex < 1 then (1 - ex).toNat else 0) = dn at henc
    have hb69 : ∀ t0 : Int32, ((62 : Int32) - nI F) + t0 = nI dn → ∃ r m, f_X4_rounded_b69 k (sb s) (lN (c * 2 ^ (62 - c.log2))) (jI ex) t0 ((62 : Int32) - nI F) = some r ∧ Cs W r s m ∧ m ≤ (2 * B + 1) * 2 ^ F ∧ FP.Core.encode (kf k) (FP.Core.roundRatio (kf k) s c 1 q) = (if s then 2 ^ W else 0) + m := by
      intro t0 ht0
      have hdn1 : 1 ≤ dn := by rw [← hdn]; omega
      have hdn3 : dn < 2 ^ 30 := by rw [← hdn]; split <;> omega
      unfold f_X4_rounded_b69
      rw [ht0]
      generalize hfull : c * 2 ^ (62 - c.log2) = full at *
      -- the end, with what is kept and rounded
      have hX : ∀ X : Nat, X = FP.Core.nearest full (2 ^ dn) → ∃ r m, f_X4_rounded_b142 k (sb s) (jI ex) (lN X) = some r ∧ Cs W r s m ∧ m ≤ (2 * B + 1) * 2 ^ F ∧ FP.Core.encode (kf k) (FP.Core.roundRatio (kf k) s c 1 q) = (if s then 2 ^ W else 0) + m := by
        intro X hX
        rw [← hX] at henc
        have hX2 : X ≤ full / 2 ^ dn + 1 := by rw [hX]; exact fp_nearest_hi _ _
        have hX3 : X ≤ 2 * 2 ^ F := by
          have h1 : full / 2 ^ dn ≤ full / 2 ^ (62 - F) := Nat.div_le_div_left (Nat.pow_le_pow_right (by decide) (by omega)) (Nat.pow_pos (by decide))
          have h2 : full / 2 ^ (62 - F) < 2 * 2 ^ F := by
            rw [Nat.div_lt_iff_lt_mul (Nat.pow_pos (by decide)), ← Nat.pow_succ', ← Nat.pow_add]
            rwa [show F + 1 + (62 - F) = 63 by omega]
          omega
        unfold f_X4_rounded_b142
        simp only [o_cP, o_let]
        by_cases hs : ex < 1
        · rw [if_neg (by rw [show (1 : Int32) = jI 1 by decide, jI_le (by omega) (by omega) (by omega) (by omega)]; omega)]
          rw [if_pos hs, Nat.zero_add, hasm] at henc
          rw [show (0 : Int64) = lN 0 from rfl, lN_add, Nat.zero_add]
          have hB2 : 2 * 2 ^ F ≤ (2 * B + 1) * 2 ^ F := Nat.mul_le_mul_right _ (by omega)
          obtain ⟨r, e1, e2⟩ := r_signed hk (s := s) (m := X) (by rw [hpw, Nat.add_mul]; rw [Nat.add_mul] at hB2; omega)
          exact ⟨r, X, by rw [e1], e2, by omega, henc⟩
        · rw [if_pos (by rw [show (1 : Int32) = jI 1 by decide, jI_le (by omega) (by omega) (by omega) (by omega)]; omega)]
          rw [if_neg hs, hasm] at henc
          obtain ⟨E, rfl⟩ : ∃ E : Nat, ex = E + 1 := ⟨(ex - 1).toNat, by omega⟩
          rw [show ((E : Int) + 1 - 1).toNat = E by omega] at henc
          have hEB : E * 2 ^ F ≤ (2 * B - 1) * 2 ^ F := Nat.mul_le_mul_right _ (by omega)
          have hB2 : (2 * B - 1) * 2 ^ F + 2 * 2 ^ F + 2 ^ F = (2 * B + 2) * 2 ^ F := by rw [← Nat.add_mul, ← Nat.succ_mul]; congr 1; omega
          have hW63 : 2 ^ W ≤ 2 ^ 63 := Nat.pow_le_pow_right (by decide) (by omega)
          rw [show jI ((E : Int) + 1) - (1 : Int32) = nI E by rw [show (1 : Int32) = jI 1 by decide, jI_sub, jI_nI (by omega)]; congr 1; omega, g1, nI_l (by omega), qs_shl (by omega) (by omega), lN_add]
          obtain ⟨r, e1, e2⟩ := r_signed hk (s := s) (m := E * 2 ^ F + X) (by omega)
          have hB3 : (2 * B - 1) * 2 ^ F + 2 * 2 ^ F = (2 * B + 1) * 2 ^ F := by rw [← Nat.add_mul]; congr 1; omega
          exact ⟨r, _, by rw [e1], e2, by omega, henc⟩
      by_cases h63 : dn ≤ 63
      · rw [if_pos (by rw [show (63 : Int32) = nI 63 from rfl, nI_leI (by omega) (by decide)]; exact h63)]
        rw [qs_ushr (by omega) (by omega)]
        have hkd : full / 2 ^ dn * 2 ^ dn ≤ full := Nat.div_mul_le_self _ _
        rw [qs_shl (by omega) (by omega), lN_sub hkd, show nI dn - (1 : Int32) = nI (dn - 1) from pk_sub hdn1, show (1 : Int64) = lN 1 from rfl, qs_shl (by omega) (by rw [Nat.one_mul]; exact Nat.pow_lt_pow_right (by decide) (by omega)), Nat.one_mul]
        have hlost : full - full / 2 ^ dn * 2 ^ dn = full % 2 ^ dn := by have := Nat.div_add_mod' full (2 ^ dn); omega
        rw [hlost]
        have hmod : full % 2 ^ dn < 2 ^ dn := Nat.mod_lt _ (Nat.pow_pos (by decide))
        have hhalf : 2 ^ dn = 2 * 2 ^ (dn - 1) := by rw [← Nat.pow_succ']; congr 1; omega
        have hhalf2 : 2 ^ (dn - 1) < 2 ^ 63 := Nat.pow_lt_pow_right (by decide) (by omega)
        have hmle : full % 2 ^ dn ≤ full := Nat.mod_le _ _
        have hkle : full / 2 ^ dn ≤ full := Nat.div_le_self _ _
        have hand : lN (full / 2 ^ dn) &&& lN 1 = lN (full / 2 ^ dn % 2) := by
          rw [qs_and (by omega) (by decide)]
          congr 1; exact Nat.and_two_pow_sub_one_eq_mod _ 1
        have hup : lN (full / 2 ^ dn) + lN 1 = lN (full / 2 ^ dn + 1) := lN_add _ _
        simp only [pk_lLT hhalf2 (by omega : full % 2 ^ dn < 2 ^ 63), pk_lEQ (by omega : full % 2 ^ dn < 2 ^ 63) hhalf2, hand, hup]
        have hm2 := Nat.mod_lt (full / 2 ^ dn) (show 2 > 0 by decide)
        simp only [pk_lEQ (by omega : full / 2 ^ dn % 2 < 2 ^ 63) (by decide : 1 < 2 ^ 63)]
        have hne : FP.Core.nearest full (2 ^ dn) = if 2 ^ (dn - 1) < full % 2 ^ dn then full / 2 ^ dn + 1 else if full % 2 ^ dn = 2 ^ (dn - 1) then (if full / 2 ^ dn % 2 = 1 then full / 2 ^ dn + 1 else full / 2 ^ dn) else full / 2 ^ dn := by
          unfold FP.Core.nearest
          generalize full % 2 ^ dn = lo at *
          generalize 2 ^ (dn - 1) = hf at *
          rw [hhalf]
          by_cases z1 : hf < lo
          · rw [if_neg (by omega), if_pos (by omega), if_pos z1]
          · rw [if_neg z1]
            by_cases z2 : lo = hf
            · rw [if_pos z2, if_neg (by omega), if_neg (by omega)]
              split <;> omega
            · rw [if_neg z2, if_pos (by omega)]
        by_cases z1 : 2 ^ (dn - 1) < full % 2 ^ dn
        · rw [if_pos z1]
          exact hX _ (by rw [hne, if_pos z1])
        · rw [if_neg z1]
          by_cases z2 : full % 2 ^ dn = 2 ^ (dn - 1)
          · rw [if_pos z2]
            by_cases z3 : full / 2 ^ dn % 2 = 1
            · rw [if_pos z3]; exact hX _ (by rw [hne, if_neg z1, if_pos z2, if_pos z3])
            · rw [if_neg z3]; exact hX _ (by rw [hne, if_neg z1, if_pos z2, if_neg z3])
          · rw [if_neg z2]; exact hX _ (by rw [hne, if_neg z1, if_neg z2])
      · rw [if_neg (by rw [show (63 : Int32) = nI 63 from rfl, nI_leI (by omega) (by decide)]; omega)]
        have hz : FP.Core.nearest full (2 ^ dn) = 0 := by
          have h1 : 2 ^ 64 ≤ 2 ^ dn := Nat.pow_le_pow_right (by decide) (by omega)
          unfold FP.Core.nearest
          rw [Nat.mod_eq_of_lt (by omega), if_pos (by omega), Nat.div_eq_of_lt (by omega)]
        have hs : ex < 1 := by
          by_cases z : ex < 1
          · exact z
          · exfalso; rw [if_neg z] at hdn; omega
        rw [hz, if_pos hs, hasm] at henc
        obtain ⟨r, e1, e2⟩ := r_signed hk (s := s) (m := 0) (Nat.pow_pos (by decide))
        simp only [o_cP]
        rw [show (0 : Int64) = lN 0 from rfl, e1]
        exact ⟨r, 0, rfl, e2, Nat.zero_le _, henc⟩
    by_cases hs : ex < 1
    · rw [if_neg (by rw [show (1 : Int32) = jI 1 by decide, jI_le (by omega) (by omega) (by omega) (by omega)]; omega)]
      refine hb69 _ ?_
      rw [show (1 : Int32) = jI 1 by decide, show (62 : Int32) = jI 62 by decide, jI_nI (by omega), jI_nI (by rw [← hdn]; split <;> omega), jI_sub, jI_sub, jI_add]
      congr 1; rw [← hdn, if_pos hs]; omega
    · rw [if_pos (by rw [show (1 : Int32) = jI 1 by decide, jI_le (by omega) (by omega) (by omega) (by omega)]; omega)]
      refine hb69 _ ?_
      rw [show (0 : Int32) = jI 0 by decide, show (62 : Int32) = jI 62 by decide, jI_nI (by omega), jI_nI (by rw [← hdn]; split <;> omega), jI_sub, jI_add]
      congr 1; rw [← hdn, if_neg hs]; omega
