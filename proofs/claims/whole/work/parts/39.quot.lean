/-! Real: quotientOf is the quotient -/
theorem fp_cancel {f : FP.Core.Fmt} {s : Bool} {num den k : Nat} {e : Int} (hd : 0 < den) (hk : 0 < k) : FP.Core.roundRatio f s (num * k) (den * k) e = FP.Core.roundRatio f s num den e := by
  by_cases hn : num = 0
  · subst hn; unfold FP.Core.roundRatio; simp
  have hn0 : 0 < num := by omega
  have hd2 : 0 < den * k := Nat.mul_pos hd hk
  have hz : num * k ≠ 0 := Nat.mul_ne_zero hn (by omega)
  have hlead : FP.Core.leading (num * k) (den * k) = FP.Core.leading num den := by
    obtain ⟨k1, k2⟩ := fp_lead (a := num * k) (b := den * k) (by omega) hd2
    obtain ⟨m1, m2⟩ := fp_lead hn0 hd
    generalize FP.Core.leading (num * k) (den * k) = u at *
    generalize FP.Core.leading num den = m at *
    rw [Nat.mul_right_comm den, Nat.mul_right_comm num] at k1 k2
    have k1' := Nat.le_of_mul_le_mul_right k1 hk
    have k2' := Nat.lt_of_mul_lt_mul_right k2
    have cmp : ∀ (x y u v : Nat), den * 2 ^ x ≤ num * 2 ^ y → num * 2 ^ u < den * 2 ^ v → x + u < y + v := by
      intro x y u v h1 h2
      rcases Nat.lt_or_ge (x + u) (y + v) with z | z
      · exact z
      · exfalso
        have h3 : den * 2 ^ x * 2 ^ u ≤ num * 2 ^ y * 2 ^ u := Nat.mul_le_mul_right _ h1
        have h4 : num * 2 ^ u * 2 ^ y < den * 2 ^ v * 2 ^ y := Nat.mul_lt_mul_of_pos_right h2 (Nat.pow_pos (by decide))
        have h5 : den * 2 ^ (y + v) ≤ den * 2 ^ (x + u) := Nat.mul_le_mul_left _ (Nat.pow_le_pow_right (by decide) z)
        rw [Nat.mul_assoc, ← Nat.pow_add] at h3 h4
        rw [Nat.mul_assoc, ← Nat.pow_add] at h3 h4
        rw [Nat.add_comm v y, Nat.add_comm u y] at h4
        omega
    have c1 := cmp _ _ _ _ k1' m2
    have c2 := cmp _ _ _ _ m1 k2'
    omega
  unfold FP.Core.roundRatio
  rw [if_neg hz, if_neg hn]
  unfold FP.Core.quantum
  rw [hlead]
  generalize max f.qmin (FP.Core.leading num den + e - ((f.p : Int) - 1)) = q
  unfold FP.Core.roundAt FP.Core.unitsNum FP.Core.unitsDen
  congr 1
  refine fp_nearest_eq (Nat.mul_pos hd2 (Nat.pow_pos (by decide))) (Nat.mul_pos hd (Nat.pow_pos (by decide))) ?_
  generalize 2 ^ (e - q).toNat = x
  generalize 2 ^ (q - e).toNat = y
  rw [Nat.mul_right_comm num, Nat.mul_right_comm den, Nat.mul_assoc (num * x), Nat.mul_comm k]
theorem r_div_loop {k : Nat} {l1 l7 l8 : Int32} {l2 l4 : Int64} {X Y : Nat} (hY0 : 0 < Y) (hY : Y < 2 ^ 53) : ∀ (i j n Q R : Nat), i + j = 6 → i + 1 ≤ n → R < Y → Q < 2 * 1024 ^ j → Q * Y + R = X * 1024 ^ j →
    ∃ Q' R', R' < Y ∧ Q' < 2 ^ 61 ∧ Q' * Y + R' = X * 2 ^ 60 ∧ f_X4_divided_b88 n k l1 l2 l4 l7 l8 (lN R) (lN Y) (lN Q) (nI j) = f_X4_divided_b88 1 k l1 l2 l4 l7 l8 (lN R') (lN Y) (lN Q') (nI 6) := by
  intro i
  induction i with
  | zero =>
    intro j n Q R hj hn hR hQ hE
    have hj6 : j = 6 := by omega
    subst hj6
    obtain ⟨n, rfl⟩ : ∃ n', n = n' + 1 := ⟨n - 1, by omega⟩
    refine ⟨Q, R, hR, by omega, hE, ?_⟩
    rw [f_X4_divided_b88.eq_2, f_X4_divided_b88.eq_2, if_pos (by decide), if_pos (by decide)]
  | succ i ih =>
    intro j n Q R hj hn hR hQ hE
    obtain ⟨n, rfl⟩ : ∃ n', n = n' + 1 := ⟨n - 1, by omega⟩
    have hp : 1024 ^ j ≤ 1024 ^ 5 := Nat.pow_le_pow_right (by decide) (by omega)
    have hp2 : 1024 ^ (j + 1) = 1024 ^ j * 1024 := by rw [Nat.pow_succ]
    have hd0 : R * 1024 / Y < 1024 := by rw [Nat.div_lt_iff_lt_mul hY0]; omega
    have hdm := Nat.div_add_mod (R * 1024) Y
    have hml := Nat.mod_lt (R * 1024) hY0
    have hcomm := Nat.mul_comm Y (R * 1024 / Y)
    obtain ⟨Q', R', e1, e2, e3, e4⟩ := ih (j + 1) n (Q * 1024 + R * 1024 / Y) (R * 1024 % Y) (by omega) (by omega) hml (by omega) (by
      rw [hp2, ← Nat.mul_assoc, ← hE, Nat.add_mul, Nat.add_mul, Nat.mul_right_comm Q, Nat.add_assoc]
      omega)
    refine ⟨Q', R', e1, e2, e3, ?_⟩
    rw [← e4, f_X4_divided_b88.eq_2, if_neg (by rw [show (6 : Int32) = nI 6 from rfl, nI_leI (by decide) (by omega)]; omega)]
    have hne : ¬ lN Y = 0 := by rw [lN_eq0 (by omega)]; omega
    have hshR : lN R <<< (((10 : Int32)).toInt64 &&& 63) = lN (R * 1024) := by
      rw [show (10 : Int32) = nI 10 from rfl, qs_shl (by decide) (by omega)]
    have hshQ : lN Q <<< (((10 : Int32)).toInt64 &&& 63) = lN (Q * 1024) := by
      rw [show (10 : Int32) = nI 10 from rfl, qs_shl (by decide) (by omega)]
    simp only [o_ck, o_let]
    rw [if_pos hne, if_pos hne, hshR, hshQ, pk_lRem (by omega) hY0 (by omega), pk_lDiv (by omega) hY0 (by omega), qs_or (by omega) (by omega), nI_1]
    congr 2
    have := Nat.two_pow_add_eq_or_of_lt (i := 10) hd0 Q
    rw [Nat.mul_comm]; exact this.symm
theorem r_divided {k F B W : Nat} (hk : kk k F B W) {s : Bool} {m n : Nat} (hm : m < 2 ^ W) (hn : n < 2 ^ W) (hm0 : 0 < m) (hn0 : 0 < n) :
    ∃ r l, f_X4_divided k (sb s) (lN m) (lN n) = some r ∧ Cs W r s l ∧ l ≤ (2 * B + 1) * 2 ^ F ∧ FP.Core.encode (kf k) (FP.Core.roundRatio (kf k) s (sg F m) (sg F n) (pw F B m - pw F B n)) = en W s l := by
  obtain ⟨b1, b2, b3, b4⟩ := r_bnd hk
  have hnum := hk.nums
  have csm : Cs W (lN m) false m := ⟨hm, by rw [pk_lT (by omega)]; simp⟩
  have csn : Cs W (lN n) false n := ⟨hn, by rw [pk_lT (by omega)]; simp⟩
  have hF2 : 2 ^ F ≤ 2 ^ 52 := Nat.pow_le_pow_right (by decide) (by omega)
  have s1 : sg F m < 2 * 2 ^ F := sg_lt
  have s2 : sg F n < 2 * 2 ^ F := sg_lt
  have s3 : 0 < sg F m := sg_pos hm0
  have s4 : 0 < sg F n := sg_pos hn0
  have p1 := pw_le hk hm
  have p2 := pw_le hk hn
  have L1 : (sg F m).log2 ≤ 52 := by have := (Nat.log2_lt (by omega : sg F m ≠ 0)).mpr (by omega : sg F m < 2 ^ 53); omega
  have L2 : (sg F n).log2 ≤ 52 := by have := (Nat.log2_lt (by omega : sg F n ≠ 0)).mpr (by omega : sg F n < 2 ^ 53); omega
  have up : ∀ c : Nat, 0 < c → c.log2 ≤ 52 → 2 ^ 52 ≤ c * 2 ^ (52 - c.log2) ∧ c * 2 ^ (52 - c.log2) < 2 ^ 53 := by
    intro c h0 h1
    have a1 : 2 ^ c.log2 ≤ c := Nat.log2_self_le (by omega)
    have a2 : c < 2 ^ (c.log2 + 1) := Nat.lt_log2_self
    have a3 : 2 ^ c.log2 * 2 ^ (52 - c.log2) ≤ c * 2 ^ (52 - c.log2) := Nat.mul_le_mul_right _ a1
    have a4 : c * 2 ^ (52 - c.log2) < 2 ^ (c.log2 + 1) * 2 ^ (52 - c.log2) := Nat.mul_lt_mul_of_pos_right a2 (Nat.pow_pos (by decide))
    rw [← Nat.pow_add] at a3 a4
    rw [show c.log2 + (52 - c.log2) = 52 by omega] at a3
    rw [show c.log2 + 1 + (52 - c.log2) = 53 by omega] at a4
    exact ⟨a3, a4⟩
  have u1 := up _ s3 L1
  have u2 := up _ s4 L2
  unfold f_X4_divided
  simp only [o_let, o_cP]
  rw [r_significand hk csm, r_significand hk csn]
  dsimp only
  rw [show rc_f 1 = nI 52 from rfl, r_room s3 (Or.inr rfl) (by omega), r_room s4 (Or.inr rfl) (by omega)]
  dsimp only
  rw [qs_shl (by omega) (by omega), qs_shl (by omega) (by omega)]
  generalize hcm : sg F m = c at *
  generalize hdm : sg F n = d at *
  generalize ha : 52 - c.log2 = a at *
  generalize hb : 52 - d.log2 = b at *
  generalize hX : c * 2 ^ a = X at *
  generalize hY : d * 2 ^ b = Y at *
  have hY0 : ¬ lN Y = 0 := by rw [lN_eq0 (by omega)]; omega
  have hY1 : 0 < lN Y := by rw [show (0 : Int64) = lN 0 from rfl, pk_lLT (by decide) (by omega)]; omega
  simp only [o_ck]
  rw [if_pos hY1, if_pos hY0, if_pos hY0, pk_lRem (by omega) (by omega) (by omega), pk_lDiv (by omega) (by omega) (by omega)]
  have hq2 : X / Y < 2 := by rw [Nat.div_lt_iff_lt_mul (by omega)]; omega
  obtain ⟨Q, R, e1, e2, e3, e4⟩ := r_div_loop (k := k) (l1 := sb s) (l7 := nI a) (l8 := nI b) (l2 := lN m) (l4 := lN n) (X := X) (Y := Y) (by omega) (by omega) 6 0 12 (X / Y) (X % Y) (by decide) (by decide) (Nat.mod_lt _ (by omega)) (by omega) (by
    rw [Nat.pow_zero, Nat.mul_one, Nat.mul_comm]; exact Nat.div_add_mod X Y)
  rw [show (0 : Int32) = nI 0 from rfl, e4, f_X4_divided_b88.eq_2, if_pos (by decide)]
  simp only [o_cP]
  rw [r_power hk csm, r_power hk csn]
  dsimp only
  have hsh : lN Q <<< (((1 : Int32)).toInt64 &&& 63) = lN (Q * 2) := by
    rw [show (1 : Int32) = nI 1 from rfl, qs_shl (by decide) (by omega)]
  have hor0 : lN (Q * 2) ||| (((0 : Int32)).toInt64) = lN (2 * Q) := by
    rw [show ((0 : Int32)).toInt64 = lN 0 from rfl, qs_or (by omega) (by decide), Nat.or_zero, Nat.mul_comm]
  have hor1 : lN (Q * 2) ||| (((1 : Int32)).toInt64) = lN (2 * Q + 1) := by
    rw [show ((1 : Int32)).toInt64 = lN 1 from rfl, qs_or (by omega) (by decide), qs_or1]; congr 1; omega
  have hpw : (((((jI (pw F B m) - nI a) - jI (pw F B n)) + nI b) - (60 : Int32)) - (1 : Int32)) = jI (pw F B m - pw F B n - a + b - 61) := by
    rw [jI_nI (by omega), jI_nI (by omega), show (60 : Int32) = jI 60 from rfl, show (1 : Int32) = jI 1 from rfl, jI_sub, jI_sub, jI_add, jI_sub, jI_sub]
    congr 1; omega
  rw [hsh, hor0, hor1, hpw]
  -- the exact quotient, with the digits that were reckoned
  have hrr : ∀ e : Int, FP.Core.roundRatio (kf k) s c d e = FP.Core.roundRatio (kf k) s (2 * (X * 2 ^ 60)) Y (e - a + b - 61) := by
    intro e
    have h1 : 2 * (X * 2 ^ 60) = c * 2 ^ (a + 61) := by
      rw [← hX, Nat.pow_add, show (2 : Nat) ^ 61 = 2 * 2 ^ 60 by decide]
      generalize (2 : Nat) ^ 60 = z
      rw [Nat.mul_assoc, Nat.mul_left_comm 2, Nat.mul_left_comm 2 (2 ^ a) z]
    rw [h1, fp_scale_num (by omega), ← hY]
    have h2 : e - a + b - 61 + ((a + 61 : Nat) : Int) = e + b := by omega
    rw [h2, fp_scale_den s4]
  have hQ59 : 2 ^ 59 ≤ Q := by
    rcases Nat.lt_or_ge Q (2 ^ 59) with z | z
    · exfalso
      have h1 : (Q + 1) * Y ≤ 2 ^ 59 * Y := Nat.mul_le_mul_right _ z
      rw [Nat.add_mul, Nat.one_mul] at h1
      have h2 : 2 ^ 59 * Y < 2 ^ 59 * (2 * X) := Nat.mul_lt_mul_of_pos_left (by omega) (by decide)
      omega
    · exact z
  rw [hrr]
  by_cases hR : R = 0
  · subst hR
    rw [if_pos (by rfl)]
    have hc : FP.Core.roundRatio (kf k) s (2 * (X * 2 ^ 60)) Y (pw F B m - pw F B n - a + b - 61) = FP.Core.roundRatio (kf k) s (2 * Q) 1 (pw F B m - pw F B n - a + b - 61) := by
      rw [← e3, Nat.add_zero, ← Nat.mul_assoc]
      have := fp_cancel (f := kf k) (s := s) (num := 2 * Q) (den := 1) (k := Y) (e := pw F B m - pw F B n - a + b - 61) (by decide) (by omega)
      rw [Nat.one_mul] at this; exact this
    rw [hc]
    obtain ⟨r, l, q1, q2, q3, q4⟩ := r_rounded hk (s := s) (c := 2 * Q) (q := pw F B m - pw F B n - a + b - 61) (by omega) (by omega) (by omega) (by omega)
    exact ⟨r, l, by rw [q1], q2, q3, q4⟩
  · rw [if_neg (by rw [lN_eq0 (by omega)]; exact hR)]
    have hp : (kf k).p = F + 1 := hk.f.1
    have hbig : 2 ^ ((kf k).p + 1) ≤ 2 * Q + 1 := by
      have : 2 ^ ((kf k).p + 1) ≤ 2 ^ 59 := Nat.pow_le_pow_right (by decide) (by omega)
      omega
    have hc : FP.Core.roundRatio (kf k) s (2 * (X * 2 ^ 60)) Y (pw F B m - pw F B n - a + b - 61) = FP.Core.roundRatio (kf k) s (2 * Q + 1) 1 (pw F B m - pw F B n - a + b - 61) := by
      refine fp_sticky (by omega) (by omega) (by omega) hbig ?_ ?_
      · rw [← e3, Nat.add_sub_cancel, Nat.mul_assoc]; omega
      · rw [← e3, show 2 * Q + 1 + 1 = 2 * (Q + 1) by omega, Nat.mul_assoc, Nat.add_mul, Nat.one_mul]; omega
    rw [hc]
    obtain ⟨r, l, q1, q2, q3, q4⟩ := r_rounded hk (s := s) (c := 2 * Q + 1) (q := pw F B m - pw F B n - a + b - 61) (by omega) (by omega) (by omega) (by omega)
    exact ⟨r, l, by rw [q1], q2, q3, q4⟩
theorem r_quot44 {k F B W : Nat} (hk : kk k F B W) {x y : Int64} {m n : Nat} (hm : m < 2 ^ W) (hn : n < 2 ^ W) : ∀ z : Int32, f_X4_quotientOf_b44 k x y (lN m) (lN n) z = f_X4_quotientOf_b76 k x y (lN m) (lN n) z (if m = n ∧ (m = 0 ∨ m = (2 * B + 1) * 2 ^ F) then 1 else 0) := by
  obtain ⟨b1, b2, b3, b4⟩ := r_bnd hk
  intro z
  unfold f_X4_quotientOf_b44
  simp only [o_cP, hk.inf, pk_lEQ (by omega : m < 2 ^ 63) (by omega : n < 2 ^ 63), lN_eq0 (by omega : m < 2 ^ 63), pk_lEQ (by omega : m < 2 ^ 63) (by omega : (2 * B + 1) * 2 ^ F < 2 ^ 63)]
  by_cases c1 : m = n
  · by_cases c2 : m = 0
    · rw [if_pos c1, if_pos c2, if_pos ⟨c1, Or.inl c2⟩]
    · by_cases c3 : m = (2 * B + 1) * 2 ^ F
      · rw [if_pos c1, if_neg c2, if_pos c3, if_pos ⟨c1, Or.inr c3⟩]
      · rw [if_pos c1, if_neg c2, if_neg c3, if_neg (fun w => w.2.elim c2 c3)]
  · rw [if_neg c1, if_neg (fun w => c1 w.1)]
theorem r_quot76 {k F B W : Nat} (hk : kk k F B W) {x y : Int64} {s t : Bool} {m n : Nat} (hx : Cs W x s m) (hy : Cs W y t n) : f_X4_quotientOf k x y = f_X4_quotientOf_b76 k x y (lN m) (lN n) (sb (s != t)) (if m = n ∧ (m = 0 ∨ m = (2 * B + 1) * 2 ^ F) then 1 else 0) := by
  obtain ⟨b1, b2, b3, b4⟩ := r_bnd hk
  have hm := hx.1
  have hn := hy.1
  have h44 := r_quot44 hk (x := x) (y := y) hm hn
  have e0 : f_X4_quotientOf k x y = if 0 ≤ x then f_X4_quotientOf_b25 k x y (lN m) (lN n) 0 else f_X4_quotientOf_b25 k x y (lN m) (lN n) 1 := by
    unfold f_X4_quotientOf
    rw [r_magnitude hk hx, r_magnitude hk hy]
    rfl
  have n1 := hx.neg
  have n2 := hy.neg
  rw [e0]
  unfold f_X4_quotientOf_b25
  rw [h44, h44]
  generalize (if m = n ∧ (m = 0 ∨ m = (2 * B + 1) * 2 ^ F) then (1 : Int32) else 0) = w
  have z1 : ¬ (0 : Int32) = 1 := by decide
  have z2 : ¬ (1 : Int32) = 0 := by decide
  cases s <;> cases t
  · rw [if_pos (n1.mpr rfl), if_pos (n2.mpr rfl), if_pos rfl]; rfl
  · rw [if_pos (n1.mpr rfl), if_neg (fun z => absurd (n2.mp z) (by decide)), if_neg z1]; rfl
  · rw [if_neg (fun z => absurd (n1.mp z) (by decide)), if_pos (n2.mpr rfl), if_neg z2]; rfl
  · rw [if_neg (fun z => absurd (n1.mp z) (by decide)), if_neg (fun z => absurd (n2.mp z) (by decide)), if_pos rfl]; rfl
set_option maxRecDepth 20000 in
theorem r_quotientOf {k F B W : Nat} (hk : kk k F B W) {x y : Int64} {s t : Bool} {m n : Nat} (hx : Cs W x s m) (hy : Cs W y t n) :
    ∃ r u l, f_X4_quotientOf k x y = some r ∧ Cs W r u l ∧ FP.Core.div (kf k) (en W s m) (en W t n) = en W u l ∧ (¬ ((2 * B + 1) * 2 ^ F < m ∨ (2 * B + 1) * 2 ^ F < n ∨ (m = n ∧ (m = 0 ∨ m = (2 * B + 1) * 2 ^ F))) → l ≤ (2 * B + 1) * 2 ^ F) := by
  obtain ⟨b1, b2, b3, b4⟩ := r_bnd hk
  have hm := hx.1
  have hn := hy.1
  have hNo : Cs W (lN ((2 * B + 1) * 2 ^ F + 2 ^ (F - 1))) false ((2 * B + 1) * 2 ^ F + 2 ^ (F - 1)) := by
    rcases hk with ⟨rfl, rfl, rfl, rfl⟩ | ⟨rfl, rfl, rfl, rfl⟩ <;> exact ⟨by decide, by decide +kernel⟩
  have hI0 : 0 < (2 * B + 1) * 2 ^ F := Nat.mul_pos (by omega) b1
  have hs0 : ∀ j, sg F j = 0 ↔ j = 0 := by
    intro j
    constructor
    · intro h
      rcases Nat.eq_zero_or_pos j with y | y
      · exact y
      · have := sg_pos (F := F) y; omega
    · intro h; subst h; unfold sg; rw [if_pos b1]
  have h76 := r_quot76 hk hx hy
  rw [h76]
  unfold f_X4_quotientOf_b76 FP.Core.div
  simp only [o_cP]
  rw [r_isNo hk hx, r_isNo hk hy, hk.inf, hk.non, r_decode hk s hm, r_decode hk t hn]
  dsimp only
  simp only [lN_eq0 (by omega : m < 2 ^ 63), lN_eq0 (by omega : n < 2 ^ 63), pk_lEQ (by omega : m < 2 ^ 63) (by omega : (2 * B + 1) * 2 ^ F < 2 ^ 63), pk_lEQ (by omega : n < 2 ^ 63) (by omega : (2 * B + 1) * 2 ^ F < 2 ^ 63)]
  have hI := r_encI hk
  have hN := r_encN hk
  have h0 := r_enc0 hk
  have hdiv := @r_divided k F B W hk (s != t) m n hm hn
  have hsg := @r_signed k F B W hk (s != t)
  generalize hII : (2 * B + 1) * 2 ^ F = I at *
  by_cases c1 : I < m
  · rw [if_pos c1, if_neg (by decide), if_pos c1]
    refine ⟨_, false, _, rfl, hNo, ?_, fun z => absurd (Or.inl c1) z⟩
    rw [show FP.Core.quotient (kf k) FP.Core.Datum.nan (if I < n then .nan else if n = I then .inf t else .fin t (sg F n) (pw F B n)) = .nan from rfl, hN]
  rw [if_neg c1, if_pos rfl, if_neg c1]
  by_cases c2 : I < n
  · rw [if_pos c2, if_neg (by decide), if_pos c2]
    refine ⟨_, false, _, rfl, hNo, ?_, fun z => absurd (Or.inr (Or.inl c2)) z⟩
    rw [show FP.Core.quotient (kf k) (if m = I then .inf s else .fin s (sg F m) (pw F B m)) FP.Core.Datum.nan = .nan by split <;> rfl, hN]
  rw [if_neg c2, if_pos rfl, if_neg c2]
  by_cases c3 : m = n ∧ (m = 0 ∨ m = I)
  · rw [if_pos c3, if_neg (by decide)]
    refine ⟨_, false, _, rfl, hNo, ?_, fun z => absurd (Or.inr (Or.inr c3)) z⟩
    obtain ⟨rfl, c4⟩ := c3
    rcases c4 with c4 | c4
    · have : ¬ m = I := by omega
      rw [if_neg this, if_neg this]
      show FP.Core.encode (kf k) (if sg F m = 0 then (if sg F m = 0 then .nan else .inf (s != t)) else _) = _
      rw [if_pos ((hs0 m).mpr c4), if_pos ((hs0 m).mpr c4), hN]
    · rw [if_pos c4, if_pos c4]
      exact hN
  rw [if_neg c3, if_pos rfl]
  by_cases c4 : m = I
  · have c5 : ¬ n = I := fun z => c3 ⟨by omega, Or.inr c4⟩
    rw [if_pos c4, if_pos c4, if_neg c5]
    obtain ⟨r, e1, e2⟩ := hsg (m := I) (by omega)
    refine ⟨r, s != t, I, by rw [e1], e2, ?_, fun _ => Nat.le_refl _⟩
    exact hI _
  rw [if_neg c4, if_neg c4]
  by_cases c6 : n = 0
  · have c7 : ¬ m = 0 := fun z => c3 ⟨by omega, Or.inl z⟩
    have c8 : ¬ n = I := by omega
    rw [if_pos c6, if_neg c8]
    obtain ⟨r, e1, e2⟩ := hsg (m := I) (by omega)
    refine ⟨r, s != t, I, by rw [e1], e2, ?_, fun _ => Nat.le_refl _⟩
    show FP.Core.encode (kf k) (if sg F n = 0 then (if sg F m = 0 then .nan else .inf (s != t)) else _) = _
    rw [if_pos ((hs0 n).mpr c6), if_neg (fun z => c7 ((hs0 m).mp z)), hI]
  rw [if_neg c6]
  obtain ⟨r0, e1, e2⟩ := hsg (m := 0) (by omega)
  have e1' : f_X4_signed k (sb (s != t)) 0 = some r0 := e1
  by_cases c7 : m = 0
  · rw [if_pos c7]
    refine ⟨r0, s != t, 0, by rw [e1'], e2, ?_, fun _ => Nat.zero_le _⟩
    by_cases c8 : n = I
    · rw [if_pos c8]
      exact h0 _ _
    · rw [if_neg c8]
      show FP.Core.encode (kf k) (if sg F n = 0 then (if sg F m = 0 then .nan else .inf (s != t)) else FP.Core.roundRatio (kf k) (s != t) (sg F m) (sg F n) (pw F B m - pw F B n)) = _
      rw [if_neg (fun z => c6 ((hs0 n).mp z)), (hs0 m).mpr c7, r_round0, h0]
  rw [if_neg c7]
  by_cases c8 : n = I
  · rw [if_pos c8, if_pos c8]
    refine ⟨r0, s != t, 0, by rw [e1'], e2, ?_, fun _ => Nat.zero_le _⟩
    exact h0 _ _
  · rw [if_neg c8, if_neg c8]
    obtain ⟨r, l, e3, e4, e5, e6⟩ := hdiv (by omega) (by omega)
    refine ⟨r, s != t, l, by rw [e3], e4, ?_, fun _ => e5⟩
    show FP.Core.encode (kf k) (if sg F n = 0 then (if sg F m = 0 then .nan else .inf (s != t)) else FP.Core.roundRatio (kf k) (s != t) (sg F m) (sg F n) (pw F B m - pw F B n)) = _
    rw [if_neg (fun z => c6 ((hs0 n).mp z)), e6]
