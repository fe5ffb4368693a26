/-! floats and doubles: what the class reckons on bits is what the machine reckons -/
def fw (F B W : Nat) (x : Int64) : Prop := ∃ s m, Cs W x s m ∧ (m ≤ (2 * B + 1) * 2 ^ F ∨ (s = false ∧ m = (2 * B + 1) * 2 ^ F + 2 ^ (F - 1)))
theorem k0 : kk 0 23 127 31 := Or.inl ⟨rfl, rfl, rfl, rfl⟩
theorem k1 : kk 1 52 1023 63 := Or.inr ⟨rfl, rfl, rfl, rfl⟩
theorem en_inj {W : Nat} {s t : Bool} {m n : Nat} (hm : m < 2 ^ W) (hn : n < 2 ^ W) (h : en W s m = en W t n) : s = t ∧ m = n := by
  unfold en at h
  cases s <;> cases t <;> simp only [Bool.false_eq_true, if_false, if_true] at h <;> first | exact ⟨rfl, by omega⟩ | (exfalso; omega)
theorem en_lt {W : Nat} {s : Bool} {m : Nat} (hm : m < 2 ^ W) : en W s m < 2 ^ (W + 1) := by
  unfold en; rw [Nat.pow_succ]; cases s <;> simp <;> omega
theorem fp_cmp_self {f : FP.Core.Fmt} {n : Nat} (h : FP.Core.decode f n ≠ .nan) : FP.Core.cmp f n n = some .eq := by
  have hc : ∀ a : Int, compare a a = .eq := fun a => by
    show compareOfLessAndEq a a = _
    unfold compareOfLessAndEq
    rw [if_neg (by omega), if_pos rfl]
  unfold FP.Core.cmp
  generalize FP.Core.decode f n = d at *
  cases d with
  | nan => exact absurd rfl h
  | inf s => show some (compare (FP.Core.signed s 1) (FP.Core.signed s 1)) = _; rw [hc]
  | fin s c q => show some (compare _ _) = _; rw [hc]
theorem fw_hi {k F B W : Nat} (hk : kk k F B W) : (2 * B + 1) * 2 ^ F + 2 ^ (F - 1) < 2 ^ W := by
  rcases hk with ⟨rfl, rfl, rfl, rfl⟩ | ⟨rfl, rfl, rfl, rfl⟩ <;> decide
theorem fw_half {k F B W : Nat} (hk : kk k F B W) : 0 < 2 ^ (F - 1) := Nat.pow_pos (by decide)
theorem r_num {k F B W : Nat} (hk : kk k F B W) {s : Bool} {m : Nat} (hm : m ≤ (2 * B + 1) * 2 ^ F) : FP.Core.decode (kf k) (en W s m) ≠ .nan := by
  have := r_bnd hk
  rw [r_decode hk s (by omega), if_neg (by omega)]
  split <;> simp
/-- of a sum, or a quotient, that is none -/
theorem r_sum_nan {k F B W : Nat} (hk : kk k F B W) {s t : Bool} {m n : Nat} (hm : m < 2 ^ W) (hn : n < 2 ^ W) (h : (2 * B + 1) * 2 ^ F < m ∨ (2 * B + 1) * 2 ^ F < n ∨ (m = (2 * B + 1) * 2 ^ F ∧ n = (2 * B + 1) * 2 ^ F ∧ s ≠ t)) :
    FP.Core.add (kf k) (en W s m) (en W t n) = en W false ((2 * B + 1) * 2 ^ F + 2 ^ (F - 1)) := by
  rw [← r_encN hk]
  unfold FP.Core.add
  congr 1
  rw [r_decode hk s hm, r_decode hk t hn]
  generalize (2 * B + 1) * 2 ^ F = I at *
  by_cases c1 : I < m
  · rw [if_pos c1]; rfl
  rw [if_neg c1]
  by_cases c2 : I < n
  · rw [if_pos c2]; split <;> rfl
  rw [if_neg c2]
  rcases h with h | h | ⟨h1, h2, h3⟩
  · exact absurd h c1
  · exact absurd h c2
  · rw [if_pos h1, if_pos h2]
    show FP.Core.round (kf k) (if s = t then .inf s else .nan) = _
    rw [if_neg h3]; rfl
theorem r_div_nan {k F B W : Nat} (hk : kk k F B W) {s t : Bool} {m n : Nat} (hm : m < 2 ^ W) (hn : n < 2 ^ W) (h : (2 * B + 1) * 2 ^ F < m ∨ (2 * B + 1) * 2 ^ F < n ∨ (m = n ∧ (m = 0 ∨ m = (2 * B + 1) * 2 ^ F))) :
    FP.Core.div (kf k) (en W s m) (en W t n) = en W false ((2 * B + 1) * 2 ^ F + 2 ^ (F - 1)) := by
  rw [← r_encN hk]
  unfold FP.Core.div
  congr 1
  have b1 := (r_bnd hk).1
  have hI0 : 0 < (2 * B + 1) * 2 ^ F := Nat.mul_pos (by omega) b1
  rw [r_decode hk s hm, r_decode hk t hn]
  generalize (2 * B + 1) * 2 ^ F = I at *
  by_cases c1 : I < m
  · rw [if_pos c1]; rfl
  rw [if_neg c1]
  by_cases c2 : I < n
  · rw [if_pos c2]; split <;> rfl
  rw [if_neg c2]
  rcases h with h | h | ⟨h1, h2⟩
  · exact absurd h c1
  · exact absurd h c2
  · subst h1
    rcases h2 with h2 | h2
    · have z : ¬ m = I := by omega
      rw [if_neg z, if_neg z]
      subst h2
      have s0 : sg F 0 = 0 := by unfold sg; rw [if_pos b1]
      show (if sg F 0 = 0 then (if sg F 0 = 0 then FP.Core.Datum.nan else .inf (s != t)) else _) = _
      rw [if_pos s0, if_pos s0]
    · rw [if_pos h2, if_pos h2]; rfl
theorem fw_of {k F B W : Nat} (hk : kk k F B W) {r : Int64} {u : Bool} {l e : Nat} {P : Prop} (h : Cs W r u l) (he : e = en W u l) (hn : P → e = en W false ((2 * B + 1) * 2 ^ F + 2 ^ (F - 1))) (hp : ¬ P → l ≤ (2 * B + 1) * 2 ^ F) : fw F B W r ∧ (P → r = lN ((2 * B + 1) * 2 ^ F + 2 ^ (F - 1))) := by
  have hW : 2 ^ W ≤ 2 ^ 63 := (r_bnd hk).2.2.2
  have hc : P → u = false ∧ l = (2 * B + 1) * 2 ^ F + 2 ^ (F - 1) := fun p => en_inj h.1 (fw_hi hk) (he.symm.trans (hn p))
  refine ⟨⟨u, l, h, ?_⟩, fun p => ?_⟩
  · by_cases p : P
    · exact Or.inr (hc p)
    · exact Or.inl (hp p)
  · obtain ⟨rfl, rfl⟩ := hc p
    refine h.inj ⟨h.1, ?_⟩
    rw [pk_lT (by have := fw_hi hk; omega)]; simp

theorem fb_nat {x : Int64} {s : Bool} {m : Nat} (h : Cs 31 x s m) : x.toInt32.toUInt32.toNat = en 31 s m := by
  obtain ⟨h1, h2⟩ := h
  have e0 : x.toInt32.toBitVec.toInt = (m : Int) - (if s then 2 ^ 31 else 0) := by
    rw [← h2]
    show x.toInt32.toInt = x.toInt
    rw [Int64.toInt_toInt32]
    show x.toInt.bmod 4294967296 = x.toInt
    refine Int.bmod_eq_of_le ?_ ?_ <;> (rw [h2]; cases s <;> simp only [Bool.false_eq_true, if_false, if_true] <;> omega)
  rw [BitVec.toInt_eq_toNat_cond] at e0
  have hlt := x.toInt32.toBitVec.isLt
  show x.toInt32.toBitVec.toNat = _
  generalize x.toInt32.toBitVec.toNat = n at *
  unfold en
  cases s <;> simp only [Bool.false_eq_true, if_false, if_true] at e0 ⊢ <;> split at e0 <;> omega
theorem fb_cs {y : UInt32} {u : Bool} {l : Nat} (h : l < 2 ^ 31) (e : y.toNat = en 31 u l) : Cs 31 (y.toInt32.toInt64) u l := by
  refine ⟨h, ?_⟩
  rw [Int32.toInt_toInt64]
  have e1 : y.toInt32.toInt = y.toBitVec.toInt := rfl
  have e2 : y.toBitVec.toNat = en 31 u l := e
  rw [e1, BitVec.toInt_eq_toNat_cond, e2]
  unfold en
  cases u <;> simp only [Bool.false_eq_true, if_false, if_true] <;> split <;> omega
theorem fb_mask {y : UInt32} {u : Bool} {l : Nat} (h : l < 2 ^ 31) (e : y.toNat = en 31 u l) : (y &&& 0x7fffffff).toNat = l := by
  have hm : (0x7fffffff : UInt32).toNat = 2 ^ 31 - 1 := by decide
  rw [UInt32.toNat_and, e, hm, Nat.and_two_pow_sub_one_eq_mod]
  unfold en
  cases u
  · simp only [Bool.false_eq_true, if_false, Nat.zero_add]; exact Nat.mod_eq_of_lt h
  · simp only [if_true]; rw [Nat.add_mod_left]; exact Nat.mod_eq_of_lt h
theorem fb_num {y : UInt32} {u : Bool} {l : Nat} (h : l ≤ (2 * 127 + 1) * 2 ^ 23) (e : y.toNat = en 31 u l) : y &&& 0x7fffffff ≤ 0x7f800000 := by
  rw [UInt32.le_iff_toNat_le, fb_mask (by omega) e]
  have : (0x7f800000 : UInt32).toNat = (2 * 127 + 1) * 2 ^ 23 := by decide
  omega
theorem fb_bits {y : UInt32} {u : Bool} {l : Nat} (h : l ≤ (2 * 127 + 1) * 2 ^ 23) (e : y.toNat = en 31 u l) : f_Jxf58ca_floatToIntBits_5c35a y = some (y.toInt32) := by
  have hc : FP.fcmp y y = some .eq := by
    show FP.Core.cmp (kf 0) y.toNat y.toNat = _
    rw [e]; exact fp_cmp_self (r_num k0 h)
  unfold f_Jxf58ca_floatToIntBits_5c35a f_Jxf58ca_isNaN_12338
  rw [hc]
  rfl
theorem fb_of {x : Int64} (hx : fw 23 127 31 x) : f_X11_floatOf x = some (x.toInt32.toUInt32) := by
  obtain ⟨s, m, hc, hm⟩ := hx
  have e := fb_nat hc
  have em := fb_mask hc.1 e
  unfold f_X11_floatOf
  have hs : vn_sni2f (x.toInt32) = false := by
    unfold vn_sni2f
    show (decide (x.toInt32.toUInt32 &&& 0x7fffffff > 0x7f800000) && (x.toInt32.toUInt32 &&& 0x00400000 == 0)) = false
    rcases hm with hm | ⟨rfl, rfl⟩
    · have : ¬ (x.toInt32.toUInt32 &&& 0x7fffffff > 0x7f800000) := by
        have h1 := fb_num hm e
        intro z
        rw [UInt32.le_iff_toNat_le] at h1
        have z2 : (0x7f800000 : UInt32) < x.toInt32.toUInt32 &&& 0x7fffffff := z
        rw [UInt32.lt_iff_toNat_lt] at z2
        omega
      rw [decide_eq_false this]; rfl
    · have : x.toInt32.toUInt32 = 0x7fc00000 := by
        apply UInt32.toNat_inj.mp
        rw [e]; decide
      rw [this]; decide
  rw [hs]; rfl
theorem fb_size {x : Int64} {s : Bool} {m : Nat} (h : Cs 31 x s m) : f_X11_sizeBits x 6 = some (lN m) := by
  have h1 := r_magnitude k0 h
  have h2 : rc_s 0 ^^^ (-1 : Int64) = 2147483647 := by decide
  have h3 : some (x &&& (rc_s 0 ^^^ (-1 : Int64))) = some (lN m) := h1
  rw [h2] at h3
  exact h3
theorem fb_most : f_X11_most 6 = some (lN ((2 * 127 + 1) * 2 ^ 23)) := by decide
theorem fb_none : f_X11_none 6 = some (lN ((2 * 127 + 1) * 2 ^ 23 + 2 ^ (23 - 1))) := by decide
theorem fb_gives {x y : Int64} {s t : Bool} {m n : Nat} (hx : Cs 31 x s m) (hy : Cs 31 y t n) :
    f_X11_givesNone x y 6 1 = some (if ((2 * 127 + 1) * 2 ^ 23 < m ∨ (2 * 127 + 1) * 2 ^ 23 < n ∨ (m = (2 * 127 + 1) * 2 ^ 23 ∧ n = (2 * 127 + 1) * 2 ^ 23 ∧ s ≠ t)) then 1 else 0) ∧
    f_X11_givesNone x y 6 0 = some (if ((2 * 127 + 1) * 2 ^ 23 < m ∨ (2 * 127 + 1) * 2 ^ 23 < n ∨ (m = n ∧ (m = 0 ∨ m = (2 * 127 + 1) * 2 ^ 23))) then 1 else 0) := by
  have hm := hx.1
  have hn := hy.1
  have hxy : m = n → (x = y ↔ s = t) := fun e => ⟨fun z => by subst z; exact (hx.uniq hy).1, fun z => by subst z; subst e; exact hx.inj hy⟩
  unfold f_X11_givesNone f_X11_givesNone_b43
  simp only [o_cP, fb_size hx, fb_size hy, fb_most]
  simp only [pk_lEQ (by omega : m < 2 ^ 63) (by decide : (2 * 127 + 1) * 2 ^ 23 < 2 ^ 63), pk_lEQ (by omega : n < 2 ^ 63) (by decide : (2 * 127 + 1) * 2 ^ 23 < 2 ^ 63), pk_lLT (by decide : (2 * 127 + 1) * 2 ^ 23 < 2 ^ 63) (by omega : m < 2 ^ 63), pk_lLT (by decide : (2 * 127 + 1) * 2 ^ 23 < 2 ^ 63) (by omega : n < 2 ^ 63), lN_eq0 (by omega : m < 2 ^ 63), lN_eq0 (by omega : n < 2 ^ 63)]
  have hI0 : 0 < (2 * 127 + 1) * 2 ^ 23 := by decide
  generalize (2 * 127 + 1) * 2 ^ 23 = I at *
  by_cases c1 : I < m
  · have d1 : ¬ m = I := by omega
    constructor
    · rw [if_neg d1, if_pos c1, if_pos (Or.inl c1)]
    · rw [if_neg d1, if_pos c1, if_pos (Or.inl c1)]
  by_cases c2 : I < n
  · have d2 : ¬ n = I := by omega
    constructor
    · rw [if_pos (Or.inr (Or.inl c2) : I < m ∨ I < n ∨ (m = I ∧ n = I ∧ s ≠ t))]
      by_cases d1 : m = I
      · rw [if_pos d1, if_neg d2, if_neg c1, if_pos c2]
      · rw [if_neg d1, if_neg c1, if_pos c2]
    · rw [if_pos (Or.inr (Or.inl c2) : I < m ∨ I < n ∨ (m = n ∧ (m = 0 ∨ m = I)))]
      by_cases d1 : m = I
      · rw [if_pos d1, if_neg d2, if_neg c1, if_pos c2]
      · rw [if_neg d1, if_neg c1, if_pos c2]
  by_cases d1 : m = I
  · by_cases d2 : n = I
    · have emn : m = n := by omega
      constructor
      · rw [if_pos d1, if_pos d2, if_neg c1, if_neg c2, if_neg (by decide), if_neg (by decide)]
        by_cases c3 : s = t
        · rw [if_pos ((hxy emn).mpr c3), if_neg (fun w => by rcases w with w | w | w; exact c1 w; exact c2 w; exact w.2.2 c3)]
        · rw [if_neg (fun z => c3 ((hxy emn).mp z)), if_pos (Or.inr (Or.inr ⟨d1, d2, c3⟩))]
      · rw [if_pos d1, if_pos d2, if_neg c1, if_neg c2, if_pos (by trivial), if_neg (by decide), if_pos (Or.inr (Or.inr ⟨emn, Or.inr d1⟩))]
    · constructor
      · rw [if_pos d1, if_neg d2, if_neg c1, if_neg c2, if_neg (by decide), if_pos (by trivial), if_neg (fun w => by rcases w with w | w | w; exact c1 w; exact c2 w; exact d2 w.2.1)]
      · rw [if_pos d1, if_neg d2, if_neg c1, if_neg c2, if_pos (by trivial), if_pos (by trivial), if_neg (by omega : ¬ m = 0), if_neg (fun w => by rcases w with w | w | w; exact c1 w; exact c2 w; exact d2 (w.1.symm.trans d1))]
  · constructor
    · rw [if_neg d1, if_neg c1, if_neg c2, if_neg (by decide), if_pos (by trivial), if_neg (fun w => by rcases w with w | w | w; exact c1 w; exact c2 w; exact d1 w.1)]
    · rw [if_neg d1, if_neg c1, if_neg c2, if_pos (by trivial), if_pos (by trivial)]
      by_cases z1 : m = 0
      · by_cases z2 : n = 0
        · rw [if_pos z1, if_pos z2, if_pos (Or.inr (Or.inr ⟨by omega, Or.inl z1⟩))]
        · rw [if_pos z1, if_neg z2, if_neg (fun w => by rcases w with w | w | w; exact c1 w; exact c2 w; exact z2 (w.1.symm.trans z1))]
      · rw [if_neg z1, if_neg (fun w => by rcases w with w | w | w; exact c1 w; exact c2 w; exact w.2.elim z1 d1)]
theorem fb_sum {x y : Int64} (hx : fw 23 127 31 x) (hy : fw 23 127 31 y) : ∃ r, f_X4_sumOf 0 x y = some r ∧ fw 23 127 31 r ∧ ((f_X11_givesNone x y 6 1 = some 1 ∧ f_X11_none 6 = some r) ∨ (f_X11_givesNone x y 6 1 = some 0 ∧
    ∃ a b, f_X11_floatOf x = some a ∧ f_X11_floatOf y = some b ∧ (FP.fadd a b) &&& 0x7fffffff ≤ 0x7f800000 ∧ ∃ z, f_Jxf58ca_floatToIntBits_5c35a (FP.fadd a b) = some z ∧ z.toInt64 = r)) := by
  have ox := fb_of hx
  have oy := fb_of hy
  obtain ⟨s, m, cx, hm⟩ := hx
  obtain ⟨t, n, cy, hn⟩ := hy
  obtain ⟨r, u, l, e1, e2, e3, e4⟩ := r_sumOf k0 cx cy
  obtain ⟨w1, w2⟩ := fw_of k0 e2 e3 (r_sum_nan k0 cx.1 cy.1) e4
  refine ⟨r, e1, w1, ?_⟩
  rw [(fb_gives cx cy).1]
  by_cases p : ((2 * 127 + 1) * 2 ^ 23 < m ∨ (2 * 127 + 1) * 2 ^ 23 < n ∨ (m = (2 * 127 + 1) * 2 ^ 23 ∧ n = (2 * 127 + 1) * 2 ^ 23 ∧ s ≠ t))
  · left
    rw [if_pos p, w2 p, fb_none]
    exact ⟨rfl, rfl⟩
  · right
    rw [if_neg p]
    have hy : (FP.fadd (x.toInt32.toUInt32) (y.toInt32.toUInt32)).toNat = en 31 u l := by
      show (UInt32.ofNat (FP.Core.add (kf 0) (x.toInt32.toUInt32).toNat (y.toInt32.toUInt32).toNat)).toNat = _
      rw [fb_nat cx, fb_nat cy, e3]
      exact Nat.mod_eq_of_lt (en_lt e2.1)
    refine ⟨rfl, _, _, ox, oy, fb_num (e4 p) hy, _, fb_bits (e4 p) hy, ?_⟩
    exact (fb_cs e2.1 hy).inj e2
theorem fb_quot {x y : Int64} (hx : fw 23 127 31 x) (hy : fw 23 127 31 y) : ∃ r, f_X4_quotientOf 0 x y = some r ∧ fw 23 127 31 r ∧ ((f_X11_givesNone x y 6 0 = some 1 ∧ f_X11_none 6 = some r) ∨ (f_X11_givesNone x y 6 0 = some 0 ∧
    ∃ a b, f_X11_floatOf x = some a ∧ f_X11_floatOf y = some b ∧ (FP.fdiv a b) &&& 0x7fffffff ≤ 0x7f800000 ∧ ∃ z, f_Jxf58ca_floatToIntBits_5c35a (FP.fdiv a b) = some z ∧ z.toInt64 = r)) := by
  have ox := fb_of hx
  have oy := fb_of hy
  obtain ⟨s, m, cx, hm⟩ := hx
  obtain ⟨t, n, cy, hn⟩ := hy
  obtain ⟨r, u, l, e1, e2, e3, e4⟩ := r_quotientOf k0 cx cy
  obtain ⟨w1, w2⟩ := fw_of k0 e2 e3 (r_div_nan k0 cx.1 cy.1) e4
  refine ⟨r, e1, w1, ?_⟩
  rw [(fb_gives cx cy).2]
  by_cases p : ((2 * 127 + 1) * 2 ^ 23 < m ∨ (2 * 127 + 1) * 2 ^ 23 < n ∨ (m = n ∧ (m = 0 ∨ m = (2 * 127 + 1) * 2 ^ 23)))
  · left
    rw [if_pos p, w2 p, fb_none]
    exact ⟨rfl, rfl⟩
  · right
    rw [if_neg p]
    have hy : (FP.fdiv (x.toInt32.toUInt32) (y.toInt32.toUInt32)).toNat = en 31 u l := by
      show (UInt32.ofNat (FP.Core.div (kf 0) (x.toInt32.toUInt32).toNat (y.toInt32.toUInt32).toNat)).toNat = _
      rw [fb_nat cx, fb_nat cy, e3]
      exact Nat.mod_eq_of_lt (en_lt e2.1)
    refine ⟨rfl, _, _, ox, oy, fb_num (e4 p) hy, _, fb_bits (e4 p) hy, ?_⟩
    exact (fb_cs e2.1 hy).inj e2
theorem fb_above {x y : Int64} (hx : fw 23 127 31 x) (hy : fw 23 127 31 y) : ∃ r, f_X4_isAbove 0 x y = some r ∧ (r = 0 ∨ r = 1) ∧ ∃ a b, f_X11_floatOf x = some a ∧ f_X11_floatOf y = some b ∧ (Op.cmpValue (FP.fcmp a b) .l ≤ 0 ↔ r = 0) := by
  have ox := fb_of hx
  have oy := fb_of hy
  obtain ⟨s, m, cx, hm⟩ := hx
  obtain ⟨t, n, cy, hn⟩ := hy
  have h := r_isAbove k0 cx cy
  refine ⟨_, h, by split <;> simp, _, _, ox, oy, ?_⟩
  have hc : FP.fcmp (x.toInt32.toUInt32) (y.toInt32.toUInt32) = FP.Core.cmp (kf 0) (en 31 s m) (en 31 t n) := by
    show FP.Core.cmp (kf 0) (x.toInt32.toUInt32).toNat (y.toInt32.toUInt32).toNat = _
    rw [fb_nat cx, fb_nat cy]
  rw [hc]
  generalize FP.Core.cmp (kf 0) (en 31 s m) (en 31 t n) = o
  rcases o with _ | o
  · decide
  · cases o <;> decide
theorem fb_whole (x : Int64) : ∃ r, f_X4_fromWhole 0 x = some r ∧ fw 23 127 31 r ∧ ∃ z, f_Jxf58ca_floatToIntBits_5c35a (FP.l2f x) = some z ∧ z.toInt64 = r := by
  obtain ⟨r, u, l, e1, e2, e3, e4⟩ := r_fromWhole k0 x
  have hy : (FP.l2f x).toNat = en 31 u l := by
    show (UInt32.ofNat (FP.Core.fromInt (kf 0) x.toInt)).toNat = _
    rw [e4]
    exact Nat.mod_eq_of_lt (en_lt e2.1)
  exact ⟨r, e1, ⟨u, l, e2, Or.inl e3⟩, _, fb_bits e3 hy, (fb_cs e2.1 hy).inj e2⟩
theorem fb_all (x : Int64) (h1 : -2147483648 ≤ x.toInt) (h2 : x.toInt < 2147483648) : ∃ s m, Cs 31 x s m := by
  have h3 := h1
  by_cases h : 0 ≤ x.toInt
  · exact ⟨false, x.toInt.toNat, by omega, by simp only [Bool.false_eq_true, if_false]; omega⟩
  · exact ⟨true, (x.toInt + 2 ^ 31).toNat, by omega, by simp only [if_true]; omega⟩
theorem fb_plain (x : Int64) (h1 : -2147483648 ≤ x.toInt) (h2 : x.toInt < 2147483648) : ∃ r, f_X4_plain 0 x = some r ∧ fw 23 127 31 r ∧ (if x &&& (2147483647 : Int64) ≤ 2139095040 then (some x : Option Int64) else some 2143289344) = some r := by
  obtain ⟨s, m, hc⟩ := fb_all x h1 h2
  have hp := r_plain k0 hc
  have hs := fb_size hc
  have hs2 : x &&& (2147483647 : Int64) = lN m := Option.some.inj hs
  have hm := hc.1
  have hh := fw_hi k0
  rw [hs2, show (2139095040 : Int64) = lN ((2 * 127 + 1) * 2 ^ 23) by decide, show (2143289344 : Int64) = lN ((2 * 127 + 1) * 2 ^ 23 + 2 ^ (23 - 1)) by decide]
  simp only [pk_lLE (by omega : m < 2 ^ 63) (by decide : (2 * 127 + 1) * 2 ^ 23 < 2 ^ 63)]
  rw [hp]
  by_cases c : (2 * 127 + 1) * 2 ^ 23 < m
  · rw [if_pos c, if_neg (by omega)]
    exact ⟨_, rfl, ⟨false, _, ⟨hh, by rw [pk_lT (by omega)]; simp⟩, Or.inr ⟨rfl, rfl⟩⟩, rfl⟩
  · rw [if_neg c, if_pos (by omega)]
    exact ⟨_, rfl, ⟨s, m, hc, Or.inl (by omega)⟩, rfl⟩

theorem db_nat {x : Int64} {s : Bool} {m : Nat} (h : Cs 63 x s m) : x.toUInt64.toNat = en 63 s m := by
  obtain ⟨h1, h2⟩ := h
  have e0 : x.toBitVec.toInt = (m : Int) - (if s then 2 ^ 63 else 0) := by
    exact h2
  rw [BitVec.toInt_eq_toNat_cond] at e0
  have hlt := x.toBitVec.isLt
  show x.toBitVec.toNat = _
  generalize x.toBitVec.toNat = n at *
  unfold en
  cases s <;> simp only [Bool.false_eq_true, if_false, if_true] at e0 ⊢ <;> split at e0 <;> omega
theorem db_cs {y : UInt64} {u : Bool} {l : Nat} (h : l < 2 ^ 63) (e : y.toNat = en 63 u l) : Cs 63 (y.toInt64) u l := by
  refine ⟨h, ?_⟩
  have e1 : y.toInt64.toInt = y.toBitVec.toInt := rfl
  have e2 : y.toBitVec.toNat = en 63 u l := e
  rw [e1, BitVec.toInt_eq_toNat_cond, e2]
  unfold en
  cases u <;> simp only [Bool.false_eq_true, if_false, if_true] <;> split <;> omega
theorem db_mask {y : UInt64} {u : Bool} {l : Nat} (h : l < 2 ^ 63) (e : y.toNat = en 63 u l) : (y &&& 0x7fffffffffffffff).toNat = l := by
  have hm : (0x7fffffffffffffff : UInt64).toNat = 2 ^ 63 - 1 := by decide
  rw [UInt64.toNat_and, e, hm, Nat.and_two_pow_sub_one_eq_mod]
  unfold en
  cases u
  · simp only [Bool.false_eq_true, if_false, Nat.zero_add]; exact Nat.mod_eq_of_lt h
  · simp only [if_true]; rw [Nat.add_mod_left]; exact Nat.mod_eq_of_lt h
theorem db_num {y : UInt64} {u : Bool} {l : Nat} (h : l ≤ (2 * 1023 + 1) * 2 ^ 52) (e : y.toNat = en 63 u l) : y &&& 0x7fffffffffffffff ≤ 0x7ff0000000000000 := by
  rw [UInt64.le_iff_toNat_le, db_mask (by omega) e]
  have : (0x7ff0000000000000 : UInt64).toNat = (2 * 1023 + 1) * 2 ^ 52 := by decide
  omega
theorem db_bits {y : UInt64} {u : Bool} {l : Nat} (h : l ≤ (2 * 1023 + 1) * 2 ^ 52) (e : y.toNat = en 63 u l) : f_Jxe99ae_doubleToLongBits_ccdee y = some (y.toInt64) := by
  have hc : FP.dcmp y y = some .eq := by
    show FP.Core.cmp (kf 1) y.toNat y.toNat = _
    rw [e]; exact fp_cmp_self (r_num k1 h)
  unfold f_Jxe99ae_doubleToLongBits_ccdee f_Jxe99ae_isNaN_b9ae7
  rw [hc]
  rfl
theorem db_of {x : Int64} (hx : fw 52 1023 63 x) : f_X11_doubleOf x = some (x.toUInt64) := by
  obtain ⟨s, m, hc, hm⟩ := hx
  have e := db_nat hc
  have em := db_mask hc.1 e
  unfold f_X11_doubleOf
  have hs : vn_snl2d (x) = false := by
    unfold vn_snl2d
    show (decide (x.toUInt64 &&& 0x7fffffffffffffff > 0x7ff0000000000000) && (x.toUInt64 &&& 0x0008000000000000 == 0)) = false
    rcases hm with hm | ⟨rfl, rfl⟩
    · have : ¬ (x.toUInt64 &&& 0x7fffffffffffffff > 0x7ff0000000000000) := by
        have h1 := db_num hm e
        intro z
        rw [UInt64.le_iff_toNat_le] at h1
        have z2 : (0x7ff0000000000000 : UInt64) < x.toUInt64 &&& 0x7fffffffffffffff := z
        rw [UInt64.lt_iff_toNat_lt] at z2
        omega
      rw [decide_eq_false this]; rfl
    · have : x.toUInt64 = 0x7ff8000000000000 := by
        apply UInt64.toNat_inj.mp
        rw [e]; decide
      rw [this]; decide
  rw [hs]; rfl
theorem db_size {x : Int64} {s : Bool} {m : Nat} (h : Cs 63 x s m) : f_X11_sizeBits x 7 = some (lN m) := by
  have h1 := r_magnitude k1 h
  have h2 : rc_s 1 ^^^ (-1 : Int64) = 9223372036854775807 := by decide
  have h3 : some (x &&& (rc_s 1 ^^^ (-1 : Int64))) = some (lN m) := h1
  rw [h2] at h3
  exact h3
theorem db_most : f_X11_most 7 = some (lN ((2 * 1023 + 1) * 2 ^ 52)) := by decide
theorem db_none : f_X11_none 7 = some (lN ((2 * 1023 + 1) * 2 ^ 52 + 2 ^ (52 - 1))) := by decide
theorem db_gives {x y : Int64} {s t : Bool} {m n : Nat} (hx : Cs 63 x s m) (hy : Cs 63 y t n) :
    f_X11_givesNone x y 7 1 = some (if ((2 * 1023 + 1) * 2 ^ 52 < m ∨ (2 * 1023 + 1) * 2 ^ 52 < n ∨ (m = (2 * 1023 + 1) * 2 ^ 52 ∧ n = (2 * 1023 + 1) * 2 ^ 52 ∧ s ≠ t)) then 1 else 0) ∧
    f_X11_givesNone x y 7 0 = some (if ((2 * 1023 + 1) * 2 ^ 52 < m ∨ (2 * 1023 + 1) * 2 ^ 52 < n ∨ (m = n ∧ (m = 0 ∨ m = (2 * 1023 + 1) * 2 ^ 52))) then 1 else 0) := by
  have hm := hx.1
  have hn := hy.1
  have hxy : m = n → (x = y ↔ s = t) := fun e => ⟨fun z => by subst z; exact (hx.uniq hy).1, fun z => by subst z; subst e; exact hx.inj hy⟩
  unfold f_X11_givesNone f_X11_givesNone_b43
  simp only [o_cP, db_size hx, db_size hy, db_most]
  simp only [pk_lEQ (by omega : m < 2 ^ 63) (by decide : (2 * 1023 + 1) * 2 ^ 52 < 2 ^ 63), pk_lEQ (by omega : n < 2 ^ 63) (by decide : (2 * 1023 + 1) * 2 ^ 52 < 2 ^ 63), pk_lLT (by decide : (2 * 1023 + 1) * 2 ^ 52 < 2 ^ 63) (by omega : m < 2 ^ 63), pk_lLT (by decide : (2 * 1023 + 1) * 2 ^ 52 < 2 ^ 63) (by omega : n < 2 ^ 63), lN_eq0 (by omega : m < 2 ^ 63), lN_eq0 (by omega : n < 2 ^ 63)]
  have hI0 : 0 < (2 * 1023 + 1) * 2 ^ 52 := by decide
  generalize (2 * 1023 + 1) * 2 ^ 52 = I at *
  by_cases c1 : I < m
  · have d1 : ¬ m = I := by omega
    constructor
    · rw [if_neg d1, if_pos c1, if_pos (Or.inl c1)]
    · rw [if_neg d1, if_pos c1, if_pos (Or.inl c1)]
  by_cases c2 : I < n
  · have d2 : ¬ n = I := by omega
    constructor
    · rw [if_pos (Or.inr (Or.inl c2) : I < m ∨ I < n ∨ (m = I ∧ n = I ∧ s ≠ t))]
      by_cases d1 : m = I
      · rw [if_pos d1, if_neg d2, if_neg c1, if_pos c2]
      · rw [if_neg d1, if_neg c1, if_pos c2]
    · rw [if_pos (Or.inr (Or.inl c2) : I < m ∨ I < n ∨ (m = n ∧ (m = 0 ∨ m = I)))]
      by_cases d1 : m = I
      · rw [if_pos d1, if_neg d2, if_neg c1, if_pos c2]
      · rw [if_neg d1, if_neg c1, if_pos c2]
  by_cases d1 : m = I
  · by_cases d2 : n = I
    · have emn : m = n := by omega
      constructor
      · rw [if_pos d1, if_pos d2, if_neg c1, if_neg c2, if_neg (by decide), if_neg (by decide)]
        by_cases c3 : s = t
        · rw [if_pos ((hxy emn).mpr c3), if_neg (fun w => by rcases w with w | w | w; exact c1 w; exact c2 w; exact w.2.2 c3)]
        · rw [if_neg (fun z => c3 ((hxy emn).mp z)), if_pos (Or.inr (Or.inr ⟨d1, d2, c3⟩))]
      · rw [if_pos d1, if_pos d2, if_neg c1, if_neg c2, if_pos (by trivial), if_neg (by decide), if_pos (Or.inr (Or.inr ⟨emn, Or.inr d1⟩))]
    · constructor
      · rw [if_pos d1, if_neg d2, if_neg c1, if_neg c2, if_neg (by decide), if_pos (by trivial), if_neg (fun w => by rcases w with w | w | w; exact c1 w; exact c2 w; exact d2 w.2.1)]
      · rw [if_pos d1, if_neg d2, if_neg c1, if_neg c2, if_pos (by trivial), if_pos (by trivial), if_neg (by omega : ¬ m = 0), if_neg (fun w => by rcases w with w | w | w; exact c1 w; exact c2 w; exact d2 (w.1.symm.trans d1))]
  · constructor
    · rw [if_neg d1, if_neg c1, if_neg c2, if_neg (by decide), if_pos (by trivial), if_neg (fun w => by rcases w with w | w | w; exact c1 w; exact c2 w; exact d1 w.1)]
    · rw [if_neg d1, if_neg c1, if_neg c2, if_pos (by trivial), if_pos (by trivial)]
      by_cases z1 : m = 0
      · by_cases z2 : n = 0
        · rw [if_pos z1, if_pos z2, if_pos (Or.inr (Or.inr ⟨by omega, Or.inl z1⟩))]
        · rw [if_pos z1, if_neg z2, if_neg (fun w => by rcases w with w | w | w; exact c1 w; exact c2 w; exact z2 (w.1.symm.trans z1))]
      · rw [if_neg z1, if_neg (fun w => by rcases w with w | w | w; exact c1 w; exact c2 w; exact w.2.elim z1 d1)]
theorem db_sum {x y : Int64} (hx : fw 52 1023 63 x) (hy : fw 52 1023 63 y) : ∃ r, f_X4_sumOf 1 x y = some r ∧ fw 52 1023 63 r ∧ ((f_X11_givesNone x y 7 1 = some 1 ∧ f_X11_none 7 = some r) ∨ (f_X11_givesNone x y 7 1 = some 0 ∧
    ∃ a b, f_X11_doubleOf x = some a ∧ f_X11_doubleOf y = some b ∧ (FP.dadd a b) &&& 0x7fffffffffffffff ≤ 0x7ff0000000000000 ∧ ∃ z, f_Jxe99ae_doubleToLongBits_ccdee (FP.dadd a b) = some z ∧ z = r)) := by
  have ox := db_of hx
  have oy := db_of hy
  obtain ⟨s, m, cx, hm⟩ := hx
  obtain ⟨t, n, cy, hn⟩ := hy
  obtain ⟨r, u, l, e1, e2, e3, e4⟩ := r_sumOf k1 cx cy
  obtain ⟨w1, w2⟩ := fw_of k1 e2 e3 (r_sum_nan k1 cx.1 cy.1) e4
  refine ⟨r, e1, w1, ?_⟩
  rw [(db_gives cx cy).1]
  by_cases p : ((2 * 1023 + 1) * 2 ^ 52 < m ∨ (2 * 1023 + 1) * 2 ^ 52 < n ∨ (m = (2 * 1023 + 1) * 2 ^ 52 ∧ n = (2 * 1023 + 1) * 2 ^ 52 ∧ s ≠ t))
  · left
    rw [if_pos p, w2 p, db_none]
    exact ⟨rfl, rfl⟩
  · right
    rw [if_neg p]
    have hy : (FP.dadd (x.toUInt64) (y.toUInt64)).toNat = en 63 u l := by
      show (UInt64.ofNat (FP.Core.add (kf 1) (x.toUInt64).toNat (y.toUInt64).toNat)).toNat = _
      rw [db_nat cx, db_nat cy, e3]
      exact Nat.mod_eq_of_lt (en_lt e2.1)
    refine ⟨rfl, _, _, ox, oy, db_num (e4 p) hy, _, db_bits (e4 p) hy, ?_⟩
    exact (db_cs e2.1 hy).inj e2
theorem db_quot {x y : Int64} (hx : fw 52 1023 63 x) (hy : fw 52 1023 63 y) : ∃ r, f_X4_quotientOf 1 x y = some r ∧ fw 52 1023 63 r ∧ ((f_X11_givesNone x y 7 0 = some 1 ∧ f_X11_none 7 = some r) ∨ (f_X11_givesNone x y 7 0 = some 0 ∧
    ∃ a b, f_X11_doubleOf x = some a ∧ f_X11_doubleOf y = some b ∧ (FP.ddiv a b) &&& 0x7fffffffffffffff ≤ 0x7ff0000000000000 ∧ ∃ z, f_Jxe99ae_doubleToLongBits_ccdee (FP.ddiv a b) = some z ∧ z = r)) := by
  have ox := db_of hx
  have oy := db_of hy
  obtain ⟨s, m, cx, hm⟩ := hx
  obtain ⟨t, n, cy, hn⟩ := hy
  obtain ⟨r, u, l, e1, e2, e3, e4⟩ := r_quotientOf k1 cx cy
  obtain ⟨w1, w2⟩ := fw_of k1 e2 e3 (r_div_nan k1 cx.1 cy.1) e4
  refine ⟨r, e1, w1, ?_⟩
  rw [(db_gives cx cy).2]
  by_cases p : ((2 * 1023 + 1) * 2 ^ 52 < m ∨ (2 * 1023 + 1) * 2 ^ 52 < n ∨ (m = n ∧ (m = 0 ∨ m = (2 * 1023 + 1) * 2 ^ 52)))
  · left
    rw [if_pos p, w2 p, db_none]
    exact ⟨rfl, rfl⟩
  · right
    rw [if_neg p]
    have hy : (FP.ddiv (x.toUInt64) (y.toUInt64)).toNat = en 63 u l := by
      show (UInt64.ofNat (FP.Core.div (kf 1) (x.toUInt64).toNat (y.toUInt64).toNat)).toNat = _
      rw [db_nat cx, db_nat cy, e3]
      exact Nat.mod_eq_of_lt (en_lt e2.1)
    refine ⟨rfl, _, _, ox, oy, db_num (e4 p) hy, _, db_bits (e4 p) hy, ?_⟩
    exact (db_cs e2.1 hy).inj e2
theorem db_above {x y : Int64} (hx : fw 52 1023 63 x) (hy : fw 52 1023 63 y) : ∃ r, f_X4_isAbove 1 x y = some r ∧ (r = 0 ∨ r = 1) ∧ ∃ a b, f_X11_doubleOf x = some a ∧ f_X11_doubleOf y = some b ∧ (Op.cmpValue (FP.dcmp a b) .l ≤ 0 ↔ r = 0) := by
  have ox := db_of hx
  have oy := db_of hy
  obtain ⟨s, m, cx, hm⟩ := hx
  obtain ⟨t, n, cy, hn⟩ := hy
  have h := r_isAbove k1 cx cy
  refine ⟨_, h, by split <;> simp, _, _, ox, oy, ?_⟩
  have hc : FP.dcmp (x.toUInt64) (y.toUInt64) = FP.Core.cmp (kf 1) (en 63 s m) (en 63 t n) := by
    show FP.Core.cmp (kf 1) (x.toUInt64).toNat (y.toUInt64).toNat = _
    rw [db_nat cx, db_nat cy]
  rw [hc]
  generalize FP.Core.cmp (kf 1) (en 63 s m) (en 63 t n) = o
  rcases o with _ | o
  · decide
  · cases o <;> decide
theorem db_whole (x : Int64) : ∃ r, f_X4_fromWhole 1 x = some r ∧ fw 52 1023 63 r ∧ ∃ z, f_Jxe99ae_doubleToLongBits_ccdee (FP.l2d x) = some z ∧ z = r := by
  obtain ⟨r, u, l, e1, e2, e3, e4⟩ := r_fromWhole k1 x
  have hy : (FP.l2d x).toNat = en 63 u l := by
    show (UInt64.ofNat (FP.Core.fromInt (kf 1) x.toInt)).toNat = _
    rw [e4]
    exact Nat.mod_eq_of_lt (en_lt e2.1)
  exact ⟨r, e1, ⟨u, l, e2, Or.inl e3⟩, _, db_bits e3 hy, (db_cs e2.1 hy).inj e2⟩
theorem db_all (x : Int64) : ∃ s m, Cs 63 x s m := by
  have h1 := Int64.le_toInt x
  have h2 := Int64.toInt_lt x
  by_cases h : 0 ≤ x.toInt
  · exact ⟨false, x.toInt.toNat, by omega, by simp only [Bool.false_eq_true, if_false]; omega⟩
  · exact ⟨true, (x.toInt + 2 ^ 63).toNat, by omega, by simp only [if_true]; omega⟩
theorem db_plain (x : Int64) : ∃ r, f_X4_plain 1 x = some r ∧ fw 52 1023 63 r ∧ (if x &&& (9223372036854775807 : Int64) ≤ 9218868437227405312 then (some x : Option Int64) else some 9221120237041090560) = some r := by
  obtain ⟨s, m, hc⟩ := db_all x
  have hp := r_plain k1 hc
  have hs := db_size hc
  have hs2 : x &&& (9223372036854775807 : Int64) = lN m := Option.some.inj hs
  have hm := hc.1
  have hh := fw_hi k1
  rw [hs2, show (9218868437227405312 : Int64) = lN ((2 * 1023 + 1) * 2 ^ 52) by decide, show (9221120237041090560 : Int64) = lN ((2 * 1023 + 1) * 2 ^ 52 + 2 ^ (52 - 1)) by decide]
  simp only [pk_lLE (by omega : m < 2 ^ 63) (by decide : (2 * 1023 + 1) * 2 ^ 52 < 2 ^ 63)]
  rw [hp]
  by_cases c : (2 * 1023 + 1) * 2 ^ 52 < m
  · rw [if_pos c, if_neg (by omega)]
    exact ⟨_, rfl, ⟨false, _, ⟨hh, by rw [pk_lT (by omega)]; simp⟩, Or.inr ⟨rfl, rfl⟩⟩, rfl⟩
  · rw [if_neg c, if_pos (by omega)]
    exact ⟨_, rfl, ⟨s, m, hc, Or.inl (by omega)⟩, rfl⟩

theorem fb_conv {x : Int64} (hx : fw 23 127 31 x) : ∃ r, f_X4_fromSingle 1 x = some r ∧ fw 52 1023 63 r ∧ ∃ m, f_X11_sizeBits x 6 = some (lN m) ∧ m < 2 ^ 31 ∧
    (if m ≤ (2 * 127 + 1) * 2 ^ 23 then (∃ a z, f_X11_floatOf x = some a ∧ (FP.f2d a) &&& 0x7fffffffffffffff ≤ 0x7ff0000000000000 ∧ f_Jxe99ae_doubleToLongBits_ccdee (FP.f2d a) = some z ∧ z = r) else f_X11_none 7 = some r) := by
  have ox := fb_of hx
  obtain ⟨s, m, cx, hm⟩ := hx
  obtain ⟨r, u, l, e1, e2, e3, e4⟩ := r_fromSingle cx
  have hcv : (2 * 127 + 1) * 2 ^ 23 < m → FP.Core.convert FP.Core.b32 FP.Core.b64 (en 31 s m) = en 63 false ((2 * 1023 + 1) * 2 ^ 52 + 2 ^ (52 - 1)) := by
    intro h
    unfold FP.Core.convert
    rw [show FP.Core.b32 = kf 0 from rfl, show FP.Core.b64 = kf 1 from rfl, r_decode k0 s cx.1, if_pos h]
    exact r_encN k1
  obtain ⟨w1, w2⟩ := fw_of k1 (P := (2 * 127 + 1) * 2 ^ 23 < m) e2 e4 hcv (fun h => e3 (by omega))
  refine ⟨r, e1, w1, m, fb_size cx, cx.1, ?_⟩
  by_cases c : m ≤ (2 * 127 + 1) * 2 ^ 23
  · rw [if_pos c]
    have hn : FP.Core.fIsNaN x.toInt32.toUInt32 = false := by
      show decide (FP.Core.decode (kf 0) x.toInt32.toUInt32.toNat = .nan) = false
      rw [fb_nat cx]
      exact decide_eq_false (r_num k0 c)
    have hf : FP.f2d x.toInt32.toUInt32 = FP.Core.f2d x.toInt32.toUInt32 := by
      unfold FP.f2d; rw [hn]; rfl
    have hy : (FP.f2d x.toInt32.toUInt32).toNat = en 63 u l := by
      rw [hf]
      show (UInt64.ofNat (FP.Core.convert FP.Core.b32 FP.Core.b64 x.toInt32.toUInt32.toNat)).toNat = _
      rw [fb_nat cx, e4]
      exact Nat.mod_eq_of_lt (en_lt e2.1)
    exact ⟨_, _, ox, db_num (e3 c) hy, db_bits (e3 c) hy, (db_cs e2.1 hy).inj e2⟩
  · rw [if_neg c, db_none, w2 (by omega)]
