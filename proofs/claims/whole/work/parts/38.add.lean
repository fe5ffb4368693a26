/-! Real: sumOf is the sum -/
theorem Cs.inj {W : Nat} {x y : Int64} {s : Bool} {m : Nat} (h1 : Cs W x s m) (h2 : Cs W y s m) : x = y := Int64.toInt_inj.mp (h1.2.trans h2.2.symm)
theorem Cs.uniq {W : Nat} {x : Int64} {s t : Bool} {m n : Nat} (h1 : Cs W x s m) (h2 : Cs W x t n) : s = t ∧ m = n := by
  obtain ⟨a1, a2⟩ := h1
  obtain ⟨b1, b2⟩ := h2
  have hc : ((2 ^ W : Nat) : Int) = 2 ^ W := by simp
  rw [a2] at b2
  rw [← hc] at b2
  cases s <;> cases t <;> simp only [Bool.false_eq_true, if_false, if_true] at b2 <;> first | exact ⟨rfl, by omega⟩ | (exfalso; omega)
theorem r_beyond {k F B W : Nat} (hk : kk k F B W) {x y : Int64} {s t : Bool} {m n : Nat} (hx : Cs W x s m) (hy : Cs W y t n) (hh : (2 * B + 1) * 2 ^ F ≤ m ∨ (2 * B + 1) * 2 ^ F ≤ n) :
    ∃ r u l, f_X4_sumBeyond k x y = some r ∧ Cs W r u l ∧ FP.Core.add (kf k) (en W s m) (en W t n) = en W u l ∧ (¬ ((2 * B + 1) * 2 ^ F < m ∨ (2 * B + 1) * 2 ^ F < n ∨ (m = (2 * B + 1) * 2 ^ F ∧ n = (2 * B + 1) * 2 ^ F ∧ s ≠ t)) → l ≤ (2 * B + 1) * 2 ^ F) := by
  obtain ⟨b1, b2, b3, b4⟩ := r_bnd hk
  have hm := hx.1
  have hn := hy.1
  have hNo : Cs W (lN ((2 * B + 1) * 2 ^ F + 2 ^ (F - 1))) false ((2 * B + 1) * 2 ^ F + 2 ^ (F - 1)) := by
    rcases hk with ⟨rfl, rfl, rfl, rfl⟩ | ⟨rfl, rfl, rfl, rfl⟩ <;> exact ⟨by decide, by decide +kernel⟩
  unfold f_X4_sumBeyond FP.Core.add
  simp only [o_cP]
  rw [r_magnitude hk hx, r_magnitude hk hy, r_decode hk s hm, r_decode hk t hn]
  dsimp only
  simp only [pk_lEQ (by omega : m < 2 ^ 63) (by omega : n < 2 ^ 63)]
  have hb19 : ∀ z : Int32, f_X4_sumBeyond_b19 k x y z = if (2 * B + 1) * 2 ^ F < m ∨ (2 * B + 1) * 2 ^ F < n ∨ (z ≠ 0 ∧ x ≠ y) then some (lN ((2 * B + 1) * 2 ^ F + 2 ^ (F - 1))) else some (if m = (2 * B + 1) * 2 ^ F then x else y) := by
    intro z
    unfold f_X4_sumBeyond_b19
    simp only [o_cP]
    rw [r_isNo hk hx, r_isNo hk hy, hk.non, r_magnitude hk hx, hk.inf]
    dsimp only
    simp only [pk_lEQ (by omega : m < 2 ^ 63) (by omega : (2 * B + 1) * 2 ^ F < 2 ^ 63)]
    by_cases c1 : (2 * B + 1) * 2 ^ F < m
    · rw [if_pos (Or.inl c1 : (2 * B + 1) * 2 ^ F < m ∨ (2 * B + 1) * 2 ^ F < n ∨ (z ≠ 0 ∧ x ≠ y)), if_pos c1, if_neg (by decide)]
    · rw [if_neg c1, if_pos rfl]
      by_cases c2 : (2 * B + 1) * 2 ^ F < n
      · rw [if_pos (Or.inr (Or.inl c2) : (2 * B + 1) * 2 ^ F < m ∨ (2 * B + 1) * 2 ^ F < n ∨ (z ≠ 0 ∧ x ≠ y)), if_pos c2, if_neg (by decide)]
      · rw [if_neg c2, if_pos rfl]
        by_cases c3 : z = 0
        · have nP : ¬ ((2 * B + 1) * 2 ^ F < m ∨ (2 * B + 1) * 2 ^ F < n ∨ (z ≠ 0 ∧ x ≠ y)) := fun w => by
            rcases w with w | w | w
            · exact c1 w
            · exact c2 w
            · exact w.1 c3
          rw [if_neg nP, if_pos c3]
          split <;> rfl
        · rw [if_neg c3]
          by_cases c4 : x = y
          · have nP : ¬ ((2 * B + 1) * 2 ^ F < m ∨ (2 * B + 1) * 2 ^ F < n ∨ (z ≠ 0 ∧ x ≠ y)) := fun w => by
              rcases w with w | w | w
              · exact c1 w
              · exact c2 w
              · exact w.2 c4
            rw [if_neg nP, if_pos c4]
            split <;> rfl
          · rw [if_pos (Or.inr (Or.inr ⟨c3, c4⟩) : (2 * B + 1) * 2 ^ F < m ∨ (2 * B + 1) * 2 ^ F < n ∨ (z ≠ 0 ∧ x ≠ y)), if_neg c4]
  have hI := r_encI hk
  have hN := r_encN hk
  generalize hII : (2 * B + 1) * 2 ^ F = I at *
  by_cases c1 : I < m
  · have e1 : FP.Core.round (kf k) (FP.Core.exactSum FP.Core.Datum.nan (if I < n then .nan else if n = I then .inf t else .fin t (sg F n) (pw F B n))) = .nan := rfl
    rw [if_pos c1, e1, hN]
    refine ⟨_, false, _, ?_, hNo, rfl, fun z => absurd (Or.inl c1) z⟩
    split <;> rw [hb19, if_pos (Or.inl c1)]
  · rw [if_neg c1]
    by_cases c2 : I < n
    · have e1 : FP.Core.round (kf k) (FP.Core.exactSum (if m = I then .inf s else .fin s (sg F m) (pw F B m)) FP.Core.Datum.nan) = .nan := by split <;> rfl
      rw [if_pos c2, e1, hN]
      refine ⟨_, false, _, ?_, hNo, rfl, fun z => absurd (Or.inr (Or.inl c2)) z⟩
      split <;> rw [hb19, if_pos (Or.inr (Or.inl c2))]
    · rw [if_neg c2]
      by_cases c3 : m = I
      · rw [if_pos c3]
        by_cases c4 : n = I
        · rw [if_pos c4, if_pos (c3.trans c4.symm), hb19]
          by_cases c5 : s = t
          · subst c5
            have e1 : FP.Core.round (kf k) (FP.Core.exactSum (.inf s) (.inf s)) = .inf s := by
              show FP.Core.round (kf k) (if s = s then .inf s else .nan) = _
              rw [if_pos rfl]; rfl
            have hxy : x = y := by subst c3; subst c4; exact hx.inj hy
            have nP : ¬ (I < m ∨ I < n ∨ ((1 : Int32) ≠ 0 ∧ x ≠ y)) := fun w => by
              rcases w with w | w | w
              · exact c1 w
              · exact c2 w
              · exact w.2 hxy
            rw [e1, hI, if_neg nP, if_pos c3]
            exact ⟨x, s, m, rfl, hx, by rw [c3], fun _ => by omega⟩
          · have e1 : FP.Core.round (kf k) (FP.Core.exactSum (.inf s) (.inf t)) = .nan := by
              show FP.Core.round (kf k) (if s = t then .inf s else .nan) = _
              rw [if_neg c5]; rfl
            have hxy : x ≠ y := fun z => c5 (by subst z; exact (hx.uniq hy).1)
            rw [e1, hN, if_pos (Or.inr (Or.inr ⟨by decide, hxy⟩))]
            exact ⟨_, false, _, rfl, hNo, rfl, fun z => absurd (Or.inr (Or.inr ⟨c3, c4, c5⟩)) z⟩
        · have nP : ¬ (I < m ∨ I < n ∨ ((0 : Int32) ≠ 0 ∧ x ≠ y)) := fun w => by
            rcases w with w | w | w
            · exact c1 w
            · exact c2 w
            · exact w.1 rfl
          have nE : ¬ m = n := by omega
          rw [if_neg c4, if_neg nE, hb19, if_neg nP, if_pos c3]
          have e1 : FP.Core.round (kf k) (FP.Core.exactSum (.inf s) (.fin t (sg F n) (pw F B n))) = .inf s := rfl
          rw [e1, hI]
          exact ⟨x, s, m, rfl, hx, by rw [c3], fun _ => by omega⟩
      · rw [if_neg c3]
        have c4 : n = I := by omega
        have nP : ¬ (I < m ∨ I < n ∨ ((0 : Int32) ≠ 0 ∧ x ≠ y)) := fun w => by
          rcases w with w | w | w
          · exact c1 w
          · exact c2 w
          · exact w.1 rfl
        have nE : ¬ m = n := by omega
        rw [if_pos c4, if_neg nE, hb19, if_neg nP, if_neg c3]
        have e1 : FP.Core.round (kf k) (FP.Core.exactSum (.fin s (sg F m) (pw F B m)) (.inf t)) = .inf t := rfl
        rw [e1, hI]
        exact ⟨y, t, n, rfl, hy, by rw [c4], fun _ => by omega⟩
theorem r_sumOf {k F B W : Nat} (hk : kk k F B W) {x y : Int64} {s t : Bool} {m n : Nat} (hx : Cs W x s m) (hy : Cs W y t n) :
    ∃ r u l, f_X4_sumOf k x y = some r ∧ Cs W r u l ∧ FP.Core.add (kf k) (en W s m) (en W t n) = en W u l ∧ (¬ ((2 * B + 1) * 2 ^ F < m ∨ (2 * B + 1) * 2 ^ F < n ∨ (m = (2 * B + 1) * 2 ^ F ∧ n = (2 * B + 1) * 2 ^ F ∧ s ≠ t)) → l ≤ (2 * B + 1) * 2 ^ F) := by
  obtain ⟨b1, b2, b3, b4⟩ := r_bnd hk
  have hm := hx.1
  have hn := hy.1
  have hnum := hk.nums
  by_cases hc : (2 * B + 1) * 2 ^ F ≤ m ∨ (2 * B + 1) * 2 ^ F ≤ n
  · obtain ⟨r, u, l, q1, q2⟩ := r_beyond hk hx hy hc
    refine ⟨r, u, l, ?_, q2⟩
    unfold f_X4_sumOf
    simp only [o_cP]
    rw [r_magnitude hk hx, r_magnitude hk hy, hk.inf]
    dsimp only
    simp only [pk_lLE (by omega : (2 * B + 1) * 2 ^ F < 2 ^ 63) (by omega : m < 2 ^ 63), pk_lLT (by omega : n < 2 ^ 63) (by omega : (2 * B + 1) * 2 ^ F < 2 ^ 63)]
    by_cases c1 : (2 * B + 1) * 2 ^ F ≤ m
    · rw [if_pos c1, q1]
    · rw [if_neg c1, if_neg (by omega), q1]
  · have hc1 : m < (2 * B + 1) * 2 ^ F := by omega
    have hc2 : n < (2 * B + 1) * 2 ^ F := by omega
    have p1 := pw_le hk hm
    have p2 := pw_le hk hn
    have s1 : sg F m < 2 * 2 ^ F := sg_lt
    have s2 : sg F n < 2 * 2 ^ F := sg_lt
    -- the part that is the same whichever is the greater
    have fin : ∀ (q : Int) (D1 D2 : Nat), q - pw F B m = D1 → q - pw F B n = D2 → D1 < 2 ^ 30 → D2 < 2 ^ 30 →
        (if pw F B m < pw F B n then pw F B n else pw F B m) = q →
        ∀ T V : Int, T = FP.Core.signed s (stk (sg F m) D1) + FP.Core.signed t (stk (sg F n) D2) →
        (T = 0 ↔ V = 0) → (T < 0 ↔ V < 0) → T.natAbs < 2 ^ 63 → (∀ u : Bool, FP.Core.roundRatio (kf k) u V.natAbs 1 (min (pw F B m) (pw F B n)) = FP.Core.roundRatio (kf k) u T.natAbs 1 (q - 8)) →
        FP.Core.sumUnits s (sg F m) (pw F B m) t (sg F n) (pw F B n) (min (pw F B m) (pw F B n)) = V →
        ∃ r u l, f_X4_sumOf k x y = some r ∧ Cs W r u l ∧ FP.Core.add (kf k) (en W s m) (en W t n) = en W u l ∧ l ≤ (2 * B + 1) * 2 ^ F := by
      intro q D1 D2 d1 d2 d3 d4 hq T V hT h0 hneg hb hr hV
      have hadd : FP.Core.add (kf k) (en W s m) (en W t n) = FP.Core.encode (kf k) (FP.Core.roundRatio (kf k) (FP.Core.sumSign s t V) V.natAbs 1 (min (pw F B m) (pw F B n))) := by
        unfold FP.Core.add
        rw [r_decode hk s hm, r_decode hk t hn, if_neg (by omega), if_neg (by omega), if_neg (by omega), if_neg (by omega)]
        show FP.Core.encode (kf k) (FP.Core.roundRatio (kf k) (FP.Core.sumSign s t (FP.Core.sumUnits s (sg F m) (pw F B m) t (sg F n) (pw F B n) (min (pw F B m) (pw F B n)))) (FP.Core.sumUnits s (sg F m) (pw F B m) t (sg F n) (pw F B n) (min (pw F B m) (pw F B n))).natAbs 1 (min (pw F B m) (pw F B n))) = _
        rw [hV]
      rw [hadd]
      unfold f_X4_sumOf
      simp only [o_cP]
      rw [r_magnitude hk hx, r_magnitude hk hy, hk.inf, r_power hk hx, r_power hk hy]
      dsimp only
      have hqq : (if jI (pw F B m) < jI (pw F B n) then jI (pw F B n) else jI (pw F B m)) = jI q := by
        rw [← hq]
        by_cases z : pw F B m < pw F B n
        · rw [if_pos ((jI_lt (by omega) (by omega) (by omega) (by omega)).mpr z), if_pos z]
        · rw [if_neg (fun y => z ((jI_lt (by omega) (by omega) (by omega) (by omega)).mp y)), if_neg z]
      rw [hqq, r_aligned hk hx d1 d3, r_aligned hk hy d2 d4]
      simp only [pk_lLE (by omega : (2 * B + 1) * 2 ^ F < 2 ^ 63) (by omega : m < 2 ^ 63), pk_lLT (by omega : n < 2 ^ 63) (by omega : (2 * B + 1) * 2 ^ F < 2 ^ 63)]
      rw [if_neg (by omega), if_pos hc2, jL_add, ← hT, show jI q - (8 : Int32) = jI (q - 8) from jI_sub q 8]
      have hqb : -100000 ≤ q - 8 ∧ q - 8 ≤ 100000 := by
        constructor <;> (rw [← hq]; split <;> omega)
      by_cases c0 : T = 0
      · rw [if_pos ((jL_i (by omega) (by omega)).mpr c0)]
        have hv0 := h0.mp c0
        subst hv0
        rw [show (0 : Int).natAbs = 0 from rfl, r_round0, r_enc0 hk]
        have hss : FP.Core.sumSign s t 0 = (s && t) := by unfold FP.Core.sumSign; rw [if_pos rfl]
        rw [hss]
        have hsel : ∀ u : Bool, ∃ r, (match f_X4_signed k (sb u) 0 with | some q => some q | none => none) = some r ∧ Cs W r u 0 := by
          intro u
          obtain ⟨r, e1, e2⟩ := r_signed hk (s := u) (m := 0) (by omega)
          exact ⟨r, by rw [show (0 : Int64) = lN 0 from rfl, e1], e2⟩
        cases s with
        | false =>
          rw [if_pos (hx.neg.mpr rfl)]
          obtain ⟨r, e1, e2⟩ := hsel false
          exact ⟨r, false, 0, e1, e2, rfl, Nat.zero_le _⟩
        | true =>
          rw [if_neg (fun z => absurd (hx.neg.mp z) (by decide))]
          cases t with
          | false =>
            rw [if_pos (hy.neg.mpr rfl)]
            obtain ⟨r, e1, e2⟩ := hsel false
            exact ⟨r, false, 0, e1, e2, rfl, Nat.zero_le _⟩
          | true =>
            rw [if_neg (fun z => absurd (hy.neg.mp z) (by decide))]
            obtain ⟨r, e1, e2⟩ := hsel true
            exact ⟨r, true, 0, e1, e2, rfl, Nat.zero_le _⟩
      · rw [if_neg (fun z => c0 ((jL_i (by omega) (by omega)).mp z))]
        have hv0 : V ≠ 0 := fun z => c0 (h0.mpr z)
        have hss : FP.Core.sumSign s t V = decide (V < 0) := by unfold FP.Core.sumSign; rw [if_neg hv0]
        rw [hss, hr]
        have habs : (if 0 < jL T then jL T else -jL T) = lN T.natAbs := by
          rw [jL_lN (by omega), show (0 : Int64) = jL 0 from rfl]
          by_cases hp : 0 < T
          · rw [if_pos ((jL_lt (by decide) (by decide) (by omega) (by omega)).mpr hp)]; congr 1; omega
          · rw [if_neg (fun z => hp ((jL_lt (by decide) (by decide) (by omega) (by omega)).mp z)), jL_neg]; congr 1; omega
        rw [habs]
        have h0T : (0 : Int64) ≤ jL T ↔ 0 ≤ T := by rw [show (0 : Int64) = jL 0 from rfl, jL_le (by decide) (by decide) (by omega) (by omega)]
        by_cases hp : 0 ≤ T
        · rw [if_pos (h0T.mpr hp)]
          obtain ⟨r, l, e1, e2, e3, e4⟩ := r_rounded hk (s := false) (c := T.natAbs) (q := q - 8) (by omega) hb hqb.1 hqb.2
          rw [decide_eq_false (by rw [← hneg]; omega : ¬ V < 0)]
          have e5 : f_X4_rounded k 0 (lN T.natAbs) (jI (q - 8)) = some r := e1
          exact ⟨r, false, l, by rw [e5], e2, e4, e3⟩
        · rw [if_neg (fun z => hp (h0T.mp z))]
          obtain ⟨r, l, e1, e2, e3, e4⟩ := r_rounded hk (s := true) (c := T.natAbs) (q := q - 8) (by omega) hb hqb.1 hqb.2
          rw [decide_eq_true (by rw [← hneg]; omega : V < 0)]
          have e5 : f_X4_rounded k 1 (lN T.natAbs) (jI (q - 8)) = some r := e1
          exact ⟨r, true, l, by rw [e5], e2, e4, e3⟩
    have big : ∀ a b : Nat, a < 2 ^ W → b < 2 ^ W → 9 ≤ (pw F B a - pw F B b).toNat → 2 ^ F ≤ sg F a := by
      intro a b ha hb h9
      unfold pw at h9
      unfold sg
      have h2 : ¬ a / 2 ^ F ≤ 1 := by intro z; rw [if_pos z] at h9; split at h9 <;> omega
      have h3 : ¬ a < 2 ^ F := by intro z; rw [Nat.div_eq_of_lt z] at h2; omega
      rw [if_neg h3]; omega
    have s0 : ∀ (j : Nat) , stk j 0 = j * 256 := by intro j; unfold stk; rw [Nat.pow_zero, Nat.mod_one, if_pos rfl, Nat.div_one]
    have fits : (kf k).p = F + 1 := hk.f.1
    by_cases hle : pw F B n ≤ pw F B m
    · obtain ⟨D, hD⟩ : ∃ D : Nat, pw F B m - pw F B n = D := ⟨(pw F B m - pw F B n).toNat, by omega⟩
      obtain ⟨k1, k2, k3, k4⟩ := sum_core (f := kf k) (sA := s) (sC := t) (D := D) fits (by omega) s1 s2 (fun h => big m n hm hn (by omega))
      rw [← s0 (sg F m)] at k1 k2 k3 k4
      obtain ⟨r, u, l, e1, e2, e3, e4⟩ := fin (pw F B m) 0 D (by omega) hD (by decide) (by omega) (by rw [if_neg (by omega)]) _ _ rfl k1 k2 k3 (fun u => by rw [Int.min_eq_right hle, k4 u]; congr 1; omega) (by
        unfold FP.Core.sumUnits FP.Core.inUnits
        rw [Int.min_eq_right hle, hD, show (pw F B n - pw F B n).toNat = 0 by omega, Nat.pow_zero, Nat.mul_one]; rfl)
      exact ⟨r, u, l, e1, e2, e3, fun _ => e4⟩
    · obtain ⟨D, hD⟩ : ∃ D : Nat, pw F B n - pw F B m = D := ⟨(pw F B n - pw F B m).toNat, by omega⟩
      obtain ⟨k1, k2, k3, k4⟩ := sum_core (f := kf k) (sA := t) (sC := s) (D := D) fits (by omega) s2 s1 (fun h => big n m hn hm (by omega))
      rw [← s0 (sg F n), Int.add_comm (FP.Core.signed t (stk (sg F n) 0))] at k1 k2 k3 k4
      obtain ⟨r, u, l, e1, e2, e3, e4⟩ := fin (pw F B n) D 0 hD (by omega) (by omega) (by decide) (by rw [if_pos (by omega)]) _ _ rfl k1 k2 k3 (fun u => by rw [Int.min_eq_left (by omega), k4 u]; congr 1; omega) (by
        unfold FP.Core.sumUnits FP.Core.inUnits
        rw [Int.min_eq_left (by omega), hD, show (pw F B m - pw F B m).toNat = 0 by omega, Nat.pow_zero, Nat.mul_one, Int.add_comm]; rfl)
      exact ⟨r, u, l, e1, e2, e3, fun _ => e4⟩
