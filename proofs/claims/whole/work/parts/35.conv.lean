/-! Real: from whole numbers and from one format to the other -/
theorem r_bnd {k F B W : Nat} (hk : kk k F B W) : 0 < 2 ^ F ∧ 2 ^ F < 2 ^ 60 ∧ 2 ^ W = (2 * B + 1) * 2 ^ F + 2 ^ F ∧ 2 ^ W ≤ 2 ^ 63 := by
  have hn := hk.nums
  refine ⟨Nat.pow_pos (by decide), Nat.pow_lt_pow_right (by decide) (by omega), ?_, Nat.pow_le_pow_right (by decide) (by omega)⟩
  rw [hk.pw, ← Nat.succ_mul]
theorem r_asm {k F B W : Nat} (hk : kk k F B W) (s : Bool) (e t : Nat) : FP.Core.assemble (kf k) s e t = en W s (e * 2 ^ F + t) := by
  obtain ⟨f1, f2, f3, f4⟩ := hk.f
  unfold FP.Core.assemble en; rw [f3, f4, hk.pw]
  cases s
  · simp
  · simp [Nat.add_mul, Nat.add_assoc]
theorem r_encN {k F B W : Nat} (hk : kk k F B W) : FP.Core.encode (kf k) .nan = en W false ((2 * B + 1) * 2 ^ F + 2 ^ (F - 1)) := by
  obtain ⟨f1, f2, f3, f4⟩ := hk.f
  show FP.Core.assemble (kf k) false ((kf k).exps - 1) (2 ^ ((kf k).p - 2)) = _
  rw [r_asm hk, f3, f1]; rfl
theorem r_encI {k F B W : Nat} (hk : kk k F B W) (s : Bool) : FP.Core.encode (kf k) (.inf s) = en W s ((2 * B + 1) * 2 ^ F) := by
  obtain ⟨f1, f2, f3, f4⟩ := hk.f
  show FP.Core.assemble (kf k) s ((kf k).exps - 1) 0 = _
  rw [r_asm hk, f3]; rfl
theorem r_enc0 {k F B W : Nat} (hk : kk k F B W) (s : Bool) (q : Int) : FP.Core.encode (kf k) (.fin s 0 q) = en W s 0 := by
  obtain ⟨f1, f2, f3, f4⟩ := hk.f
  unfold FP.Core.encode
  dsimp only
  rw [if_pos (by rw [f4]; exact (r_bnd hk).1), r_asm hk]
  simp
theorem r_round0 {f : FP.Core.Fmt} {s : Bool} {den : Nat} {e : Int} : FP.Core.roundRatio f s 0 den e = .fin s 0 f.qmin := by
  unfold FP.Core.roundRatio; rw [if_pos rfl]
theorem Cs.zero (W : Nat) : Cs W 0 false 0 := ⟨Nat.pow_pos (by decide), by simp⟩
theorem r_fromWhole {k F B W : Nat} (hk : kk k F B W) (x : Int64) : ∃ r u l, f_X4_fromWhole k x = some r ∧ Cs W r u l ∧ l ≤ (2 * B + 1) * 2 ^ F ∧ FP.Core.fromInt (kf k) x.toInt = en W u l := by
  unfold f_X4_fromWhole FP.Core.fromInt FP.Core.ofInt FP.Core.round
  have hx1 := Int64.le_toInt x
  have hx2 := Int64.toInt_lt x
  by_cases h0 : x = 0
  · subst h0
    refine ⟨0, false, 0, by rw [if_pos rfl], Cs.zero W, Nat.zero_le _, ?_⟩
    dsimp only
    rw [show (0 : Int64).toInt.natAbs = 0 from rfl, r_round0, r_enc0 hk]; rfl
  · rw [if_neg h0]
    have h0' : x.toInt ≠ 0 := fun z => h0 (Int64.toInt_inj.mp (z.trans (by decide)))
    dsimp only
    by_cases h1 : x = -9223372036854775808
    · subst h1
      rw [if_neg (by decide : ¬ (0 : Int64) ≤ (if (0 : Int64) < -9223372036854775808 then -9223372036854775808 else - -9223372036854775808))]
      have e : (-9223372036854775808 : Int64).toInt.natAbs = 2 ^ 62 * 2 ^ 1 := by decide
      rw [e, fp_scale_num (by decide)]
      obtain ⟨r, m, e1, e2, e3, e4⟩ := r_rounded hk (s := true) (c := 2 ^ 62) (q := 1) (by decide) (by decide) (by decide) (by decide)
      have hd : decide ((-9223372036854775808 : Int64).toInt < 0) = true := by decide
      rw [hd]
      have e5 : f_X4_rounded k 1 4611686018427387904 1 = some r := e1
      refine ⟨r, true, m, by rw [e5]; rfl, e2, e3, ?_⟩
      exact e4
    · have h1' : x.toInt ≠ -9223372036854775808 := fun z => h1 (Int64.toInt_inj.mp (z.trans (by decide)))
      have hz : (0 : Int64).toInt = 0 := by decide
      have habs : (if 0 < x then x else -x) = lN x.toInt.natAbs := by
        rw [jL_lN (by omega)]
        by_cases hp : 0 < x
        · rw [if_pos hp]
          rw [Int64.lt_iff_toInt_lt, hz] at hp
          rw [jL_of x, jL_toInt (by omega) (by omega)]; congr 1; omega
        · rw [if_neg hp]
          rw [Int64.lt_iff_toInt_lt, hz] at hp
          rw [jL_of x, jL_neg, jL_toInt (by omega) (by omega)]; congr 1; omega
      have hge : (0 : Int64) ≤ lN x.toInt.natAbs := by
        rw [Int64.le_iff_toInt_le, hz, jL_lN (by omega), jL_toInt (by omega) (by omega)]; omega
      rw [habs, if_pos hge]
      by_cases hp : 0 ≤ x
      · rw [if_pos hp]
        rw [Int64.le_iff_toInt_le, hz] at hp
        obtain ⟨r, m, e1, e2, e3, e4⟩ := r_rounded hk (s := false) (c := x.toInt.natAbs) (q := 0) (by omega) (by omega) (by decide) (by decide)
        rw [decide_eq_false (by omega : ¬ x.toInt < 0)]
        refine ⟨r, false, m, ?_, e2, e3, e4⟩
        have e5 : f_X4_rounded k 0 (lN x.toInt.natAbs) 0 = some r := e1
        rw [e5]; rfl
      · rw [if_neg hp]
        rw [Int64.le_iff_toInt_le, hz] at hp
        obtain ⟨r, m, e1, e2, e3, e4⟩ := r_rounded hk (s := true) (c := x.toInt.natAbs) (q := 0) (by omega) (by omega) (by decide) (by decide)
        rw [decide_eq_true (by omega : x.toInt < 0)]
        refine ⟨r, true, m, ?_, e2, e3, e4⟩
        have e5 : f_X4_rounded k 1 (lN x.toInt.natAbs) 0 = some r := e1
        rw [e5]; rfl
theorem sg_pos {F m : Nat} (h : 0 < m) : 0 < sg F m := by
  unfold sg; split
  · exact h
  · exact Nat.lt_of_lt_of_le (Nat.pow_pos (by decide) : 0 < 2 ^ F) (Nat.le_add_left _ _)
theorem sg_lt {F m : Nat} : sg F m < 2 * 2 ^ F := by
  have hc : 0 < 2 ^ F := Nat.pow_pos (by decide)
  have := Nat.mod_lt m hc
  unfold sg; split <;> omega
theorem pw_le {k F B W : Nat} (hk : kk k F B W) {m : Nat} (hm : m < 2 ^ W) : 1 - (B : Int) - F ≤ pw F B m ∧ pw F B m ≤ (B : Int) + 1 - F := by
  have hF0 : 0 < 2 ^ F := Nat.pow_pos (by decide)
  have hE : m / 2 ^ F < 2 * B + 2 := by rw [Nat.div_lt_iff_lt_mul hF0, ← hk.pw]; exact hm
  have hn := hk.nums
  unfold pw
  split <;> omega
theorem r_fromSingle {x : Int64} {s : Bool} {m : Nat} (h : Cs 31 x s m) : ∃ r u l, f_X4_fromSingle 1 x = some r ∧ Cs 63 r u l ∧ (m ≤ (2 * 127 + 1) * 2 ^ 23 → l ≤ (2 * 1023 + 1) * 2 ^ 52) ∧ FP.Core.convert FP.Core.b32 FP.Core.b64 (en 31 s m) = en 63 u l := by
  have hk : kk 0 23 127 31 := Or.inl ⟨rfl, rfl, rfl, rfl⟩
  have hq : kk 1 52 1023 63 := Or.inr ⟨rfl, rfl, rfl, rfl⟩
  have hm := h.1
  have hfs : f_X4_fromSingle 1 x = f_X4_fromSingle_b11 1 x (sb s) := by
    unfold f_X4_fromSingle
    cases s with
    | false => rw [if_pos (h.neg.mpr rfl)]; rfl
    | true => rw [if_neg (fun z => absurd (h.neg.mp z) (by decide))]; rfl
  rw [hfs]
  unfold f_X4_fromSingle_b11 FP.Core.convert
  simp only [o_cP]
  rw [r_magnitude hk h, hk.inf, hq.inf, hq.non, r_significand hk h, r_power hk h]
  rw [show FP.Core.b32 = kf 0 from rfl, show FP.Core.b64 = kf 1 from rfl, r_decode hk s hm]
  dsimp only
  simp only [pk_lLE (by omega : m < 2 ^ 63) (by decide : (2 * 127 + 1) * 2 ^ 23 < 2 ^ 63), pk_lEQ (by omega : m < 2 ^ 63) (by decide : (2 * 127 + 1) * 2 ^ 23 < 2 ^ 63), lN_eq0 (by omega : m < 2 ^ 63)]
  by_cases c1 : (2 * 127 + 1) * 2 ^ 23 < m
  · rw [if_neg (by omega), if_pos c1]
    refine ⟨_, false, (2 * 1023 + 1) * 2 ^ 52 + 2 ^ (52 - 1), rfl, ⟨by decide, by decide +kernel⟩, by omega, ?_⟩
    exact r_encN hq
  · rw [if_pos (by omega), if_neg c1]
    by_cases c2 : m = (2 * 127 + 1) * 2 ^ 23
    · rw [if_pos c2, if_pos c2]
      obtain ⟨r, e1, e2⟩ := r_signed hq (s := s) (m := (2 * 1023 + 1) * 2 ^ 52) (by decide)
      exact ⟨r, s, _, by rw [e1], e2, fun _ => Nat.le_refl _, r_encI hq s⟩
    · rw [if_neg c2, if_neg c2]
      by_cases c3 : m = 0
      · subst c3
        rw [if_pos rfl]
        obtain ⟨r, e1, e2⟩ := r_signed hq (s := s) (m := 0) (by decide)
        refine ⟨r, s, 0, ?_, e2, fun _ => Nat.zero_le _, ?_⟩
        · rw [show (0 : Int64) = lN 0 from rfl, e1]
        · have : sg 23 0 = 0 := by decide
          rw [this]
          show FP.Core.encode (kf 1) (FP.Core.roundRatio (kf 1) s 0 1 _) = _
          rw [r_round0, r_enc0 hq]
      · rw [if_neg c3]
        have p1 := pw_le hk hm
        have p2 : sg 23 m < 2 * 2 ^ 23 := sg_lt
        obtain ⟨r, l, e1, e2, e3, e4⟩ := r_rounded hq (s := s) (c := sg 23 m) (q := pw 23 127 m) (sg_pos (by omega)) (by omega) (by omega) (by omega)
        exact ⟨r, s, l, by rw [e1], e2, fun _ => e3, e4⟩
