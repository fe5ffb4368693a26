/-! the class runs what reckons nothing by others -/
def pOut (ad : Nat → Nat) (C : hS) (Z : zS) (q : Nat) (S : wS) (lim : Nat) (o : eO) (res : Option (Int64 × wS)) : Prop :=
  ∃ r S1, res = some (r, S1) ∧ cI ad C o.2.2 Z q S1 ∧ s_I S1 11 (ad 6) = o.1 ∧ (o.1 = 0 → r = o.2.1) ∧ ∀ i, i < lim → s_aL S1 (ad 7) i = s_aL S (ad 7) i
section ACT
variable {ad : Nat → Nat} {C : hS} {ρ : eS} {Z : zS} {q lim : Nat} {S : wS}
theorem pOut.ret {v r : Int64} (h : cI ad C ρ Z q S) (h0 : s_I S 11 (ad 6) = 0) (hv : r = v) : pOut ad C Z q S lim (e_ret v ρ) (some (r, S)) := ⟨r, S, rfl, h, h0, fun _ => hv, fun _ _ => rfl⟩
theorem code_nz {c : Int32} (hc : c ≠ 0) : (if e_F ρ = 24 then 7 else c) ≠ 0 := by
  split
  · decide
  · exact hc
theorem pOut.fl {k x : Nat} {c : Int32} {f : Int64 → wS → Option (Int64 × wS)} (h : cI ad C ρ Z q S) (hF : e_F ρ ≤ 24) (hx : s_K S x = 1) (hn : s_I S 4 x = nI k) (hc : c ≠ 0) (hf : ∀ v S1, f v S1 = some (v, S1)) : pOut ad C Z q S lim (e_fl k c ρ) (o_ck (s_K S (ad 6) = 7) (o_call (f_X7_fail (ad 6) x c S) f)) := by
  obtain ⟨S1, e1, e2, e3, e4⟩ := run_fail h hF hx hn c
  rw [ck_t h.2.1, call_s e1, hf]
  exact ⟨0, S1, rfl, e2, e3, fun z => absurd z (code_nz hc), fun i _ => by rw [e4]⟩
theorem run_read (h : cI ad C ρ Z q S) (h0 : s_I S 11 (ad 6) = 0) (hF : e_F ρ ≤ 24) {k p : Nat} (hx : s_K S p = 1) (hn : s_I S 4 p = nI k) (x y : Int64) : pOut ad C Z q S lim (tr_rd k x y ρ) (f_X7_read (ad 6) p x y S) := by
  obtain ⟨⟨-, -, hR, -⟩, hN⟩ := id h
  unfold f_X7_read tr_rd
  rw [gR_s hN.1 hN.2.2.1, cs_s rfl, ck_t hR.1]
  by_cases c1 : 0 ≤ x.toInt ∧ x.toInt < (e_R ρ : Int)
  · obtain ⟨ia, k1, -⟩ := hR.2.2.2.2.2.2
    obtain ⟨-, -, r3, r4, r5, r6, r, r7, r8, r9, r10⟩ := k1 (ix x) (by show x.toInt.toNat < _; omega)
    rw [if_pos c1, call_s (rows_yes hR c1 r7), cs_s rfl, ck_t r8]
    by_cases c2 : 0 ≤ y.toInt ∧ y.toInt < (e_sz ρ (ix x) : Int)
    · rw [if_pos c2, call_s (row_has_yes r8 r10 r3 r4 r5 c2), if_neg (by decide), ck_t r8, call_s (row_get_yes r8 r10 r3 r4 r5 c2)]
      exact pOut.ret h h0 (r6 _ (by show y.toInt.toNat < _; omega))
    · rw [if_neg c2, call_s (row_has_no r8 r10 r3 r4 r5 c2), if_pos rfl]
      exact pOut.fl h hF hx hn (by decide) (fun _ _ => rfl)
  · rw [if_neg c1, call_s (rows_no hR c1)]
    exact pOut.fl h hF hx hn (by decide) (fun _ _ => rfl)
theorem cI.item (h : cI ad C ρ Z q S) {i j a : Nat} {v : Int64} {ia : Nat → Nat} (hi : i < e_R ρ) (k1 : ∀ i, i < e_R ρ → rwA ad ρ S ia i) (k2 : ∀ i j, i < e_R ρ → j < e_R ρ → ia i = ia j → i = j) (ha : a = ia i) : cI ad C (e_set ρ i j v) Z q (s_wL S a j v) := by
  subst ha
  obtain ⟨⟨h1, h2, ⟨q1, q2, q3, q4, q5, q6, -⟩, ⟨o1, o2, o3, o4, o5, o6, o7, o8, o9, o10, o11, o12, o13, o14⟩⟩, h5⟩ := h
  have hii := k1 i hi
  refine ⟨⟨h1, h2, ⟨q1, q2, q3, q4, q5, q6, ia, fun n hn => ?_, k2⟩, ⟨o1, o2, o3, o4, o5, o6, o7, o8, o9, o10, o11, o12, fun n hn => ?_, o14⟩⟩, h5⟩
  · obtain ⟨r1, r2, r3, r4, r5, r6, r7⟩ := k1 n hn
    refine ⟨r1, r2, r3, r4, r5, fun m hm => ?_, r7⟩
    show (if ia n = ia i ∧ m = j then v else s_aL S (ia n) m) = (if n = i ∧ m = j then v else e_it ρ n m)
    by_cases c : n = i ∧ m = j
    · rw [if_pos c, if_pos ⟨by rw [c.1], c.2⟩]
    · rw [if_neg c, if_neg (fun z => c ⟨k2 n i hn hi z.1, z.2⟩)]
      exact r6 m hm
  · show (if ad 8 = ia i ∧ n = j then v else s_aL S (ad 8) n) = _
    rw [if_neg (fun z => hii.2.1 z.1.symm)]
    exact o13 n hn
theorem run_write (h : cI ad C ρ Z q S) (h0 : s_I S 11 (ad 6) = 0) (hF : e_F ρ ≤ 24) {k p : Nat} (hx : s_K S p = 1) (hn : s_I S 4 p = nI k) (x y v : Int64) : pOut ad C Z q S lim (tr_wr k x y v ρ) (f_X7_write (ad 6) p x y v S) := by
  obtain ⟨⟨-, -, hR, -⟩, hN⟩ := id h
  unfold f_X7_write
  obtain ⟨r, S1, e1, e2, e3, e4, e5⟩ := run_read (lim := 168) h h0 hF hx hn x y
  rw [ck_t hN.1, call_s e1]
  have hN1 := e2.2
  have hR1 := e2.1.2.2.1
  rw [gR_s hN1.1 hN1.2.2.1, cs_s rfl, ck_t hR1.1]
  unfold tr_wr
  unfold tr_rd at e2 e3 e4 hR1
  by_cases c1 : 0 ≤ x.toInt ∧ x.toInt < (e_R ρ : Int)
  · rw [if_pos c1] at e2 e3 e4 hR1 ⊢
    by_cases c2 : 0 ≤ y.toInt ∧ y.toInt < (e_sz ρ (ix x) : Int)
    · rw [if_pos c2] at e2 e3 e4 hR1 ⊢
      have hR2 : cRw ad ρ S1 := hR1
      obtain ⟨ia, k1, k2⟩ := hR2.2.2.2.2.2.2
      have hxi : ix x < e_R ρ := by show x.toInt.toNat < _; omega
      obtain ⟨-, -, r3, r4, r5, r6, r0, r7, r8, r9, r10⟩ := k1 (ix x) hxi
      have e2' : cI ad C ρ Z q S1 := e2
      have hv : r = e_it ρ (ix x) (ix y) := e4 rfl
      have hf0 : s_I S1 11 (ad 6) = 0 := e3
      rw [call_s (rows_yes hR2 c1 r7), cs_s rfl, gI_s hN1.1 hf0, if_pos rfl, ck_t r8, call_s (row_set r8 r10 r3 r4 r5 c2)]
      refine ⟨r, _, rfl, e2'.item hxi k1 k2 rfl, e3, fun _ => hv, fun i hi => ?_⟩
      show (if ad 7 = ia (ix x) ∧ i = ix y then v else s_aL S1 (ad 7) i) = _
      rw [if_neg (fun z => (k1 (ix x) hxi).1 z.1.symm)]
      by_cases c3 : i < 168
      · exact e5 i c3
      · -- nothing is read out there; the read changed nothing
        have hS : S1 = S := by
          have e1' := e1
          unfold f_X7_read at e1'
          obtain ⟨ia0, k10, -⟩ := hR.2.2.2.2.2.2
          obtain ⟨-, -, s3, s4, s5, s6, s0, s7, s8, s9, s10⟩ := k10 (ix x) hxi
          rw [gR_s hN.1 hN.2.2.1, cs_s rfl, ck_t hR.1, call_s (rows_yes hR c1 s7), cs_s rfl, ck_t s8, call_s (row_has_yes s8 s10 s3 s4 s5 c2), if_neg (by decide), ck_t s8, call_s (row_get_yes s8 s10 s3 s4 s5 c2)] at e1'
          injection e1' with e1'
          injection e1' with e1' e1''
          exact e1''.symm
        rw [hS]
    · rw [if_neg c2] at e2 e3 e4 hR1 ⊢
      have hR2 : cRw ad ρ S1 := hR1
      obtain ⟨ia, k1, k2⟩ := hR2.2.2.2.2.2.2
      obtain ⟨-, -, r3, r4, r5, r6, r0, r7, r8, r9, r10⟩ := k1 (ix x) (by show x.toInt.toNat < _; omega)
      have hc : (if e_F ρ = 24 then 7 else (2 : Int32)) ≠ 0 := code_nz (by decide)
      rw [call_s (rows_yes hR2 c1 r7), cs_s rfl, gI_s hN1.1 (show s_I S1 11 (ad 6) = (if e_F ρ = 24 then 7 else 2) from e3), if_neg hc]
      refine ⟨r, S1, rfl, e2, e3, fun z => absurd z hc, fun i hi => ?_⟩
      by_cases c3 : i < 168
      · exact e5 i c3
      · have e1' := e1
        unfold f_X7_read at e1'
        obtain ⟨ia0, k10, -⟩ := hR.2.2.2.2.2.2
        obtain ⟨-, -, s3, s4, s5, s6, s0, s7, s8, s9, s10⟩ := k10 (ix x) (by show x.toInt.toNat < _; omega)
        obtain ⟨T, t1, t2, t3, t4⟩ := run_fail h hF hx hn 2
        rw [gR_s hN.1 hN.2.2.1, cs_s rfl, ck_t hR.1, call_s (rows_yes hR c1 s7), cs_s rfl, ck_t s8, call_s (row_has_no s8 s10 s3 s4 s5 c2), if_pos rfl, ck_t hN.1, call_s t1] at e1'
        injection e1' with e1'
        injection e1' with e1' e1''
        rw [← e1'', t4]
  · rw [if_neg c1] at e2 e3 e4 hR1 ⊢
    have hc : (if e_F ρ = 24 then 7 else (1 : Int32)) ≠ 0 := code_nz (by decide)
    have hR2 : cRw ad ρ S1 := hR1
    rw [call_s (rows_no hR2 c1)]
    have hcs : ∀ f : Nat → Option (Int64 × wS), o_cs none (o_gI 7 11 (ad 6) S1 fun x5 => if x5 = 0 then some (r, S1) else some (r, S1)) f = some (r, S1) := by
      intro f
      show o_gI 7 11 (ad 6) S1 (fun x5 => if x5 = 0 then some (r, S1) else some (r, S1)) = _
      rw [gI_s hN1.1 rfl]; split <;> rfl
    rw [hcs]
    refine ⟨r, S1, rfl, e2, e3, fun z => absurd z hc, fun i hi => ?_⟩
    by_cases c3 : i < 168
    · exact e5 i c3
    · have e1' := e1
      unfold f_X7_read at e1'
      obtain ⟨T, t1, t2, t3, t4⟩ := run_fail h hF hx hn 1
      rw [gR_s hN.1 hN.2.2.1, cs_s rfl, ck_t hR.1, call_s (rows_no hR c1)] at e1'
      have e2' : o_ck (s_K S (ad 6) = 7) (o_call (f_X7_fail (ad 6) p 1 S) fun x6 S5 => some (x6, S5)) = some (r, S1) := e1'
      rw [ck_t hN.1, call_s t1] at e2'
      injection e2' with e2'
      injection e2' with e2' e2''
      rw [← e2'', t4]
theorem run_size (h : cI ad C ρ Z q S) (h0 : s_I S 11 (ad 6) = 0) (hF : e_F ρ ≤ 24) {k p : Nat} (hx : s_K S p = 1) (hn : s_I S 4 p = nI k) (x : Int64) : pOut ad C Z q S lim (t_sz k x ρ) (f_X7_sizeOf (ad 6) p x S) := by
  obtain ⟨⟨-, -, hR, -⟩, hN⟩ := id h
  unfold f_X7_sizeOf t_sz
  rw [gR_s hN.1 hN.2.2.1, cs_s rfl, ck_t hR.1]
  by_cases c1 : 0 ≤ x.toInt ∧ x.toInt < (e_R ρ : Int)
  · obtain ⟨ia, k1, -⟩ := hR.2.2.2.2.2.2
    obtain ⟨-, -, r3, r4, r5, r6, r, r7, r8, r9, r10⟩ := k1 (ix x) (by show x.toInt.toNat < _; omega)
    rw [if_pos c1, call_s (rows_yes hR c1 r7), cs_s rfl, ck_t r8, call_s (row_many r8 r10 r3 r4)]
    exact pOut.ret h h0 (nI_l (by omega))
  · rw [if_neg c1, call_s (rows_no hR c1)]
    exact pOut.fl h hF hx hn (by decide) (fun _ _ => rfl)
theorem clamp8 {n : Nat} (hn : n ≤ 8) : (if 0 < (if 8 < nI n then 8 else nI n) then (if 8 < nI n then 8 else nI n) else 0) = nI n := by
  rw [if_neg (show ¬ (8 : Int32) < nI n by rw [show (8 : Int32) = nI 8 from rfl, nI_ltI (by decide) (by omega)]; omega)]
  by_cases c : n = 0
  · subst c; rfl
  · rw [if_pos (by rw [show (0 : Int32) = nI 0 from rfl, nI_ltI (by decide) (by omega)]; omega)]
theorem rows_add (h : cI ad C ρ Z q S) (hR : e_R ρ < 16) (a : Int32) {n : Nat} (hn : n ≤ 8) : ∃ S1, f_X6_added (ad 1) a (nI n) S = some (nI (e_R ρ), S1) ∧ cI ad C (e_new ρ a n) Z q S1 ∧ s_I S1 11 (ad 6) = s_I S 11 (ad 6) ∧ s_aL S1 (ad 7) = s_aL S (ad 7) := by
  obtain ⟨⟨⟨hw, hc, hs⟩, h2, ⟨q1, q2, q3, q4, q5, q6, ia, k1, k2⟩, hO⟩, hN⟩ := h
  obtain ⟨nx, hnx⟩ : ∃ nx, s_nx S = nx := ⟨_, rfl⟩
  have w0 : s_K S nx = 0 := hw nx (by omega)
  have w1 : s_K S (nx + 1) = 0 := hw (nx + 1) (by omega)
  have lt : ∀ b, s_K S b ≠ 0 → b < nx := fun b hb => by have := s_wf.lt hw hb; omega
  -- the heap when the new row is there, not yet kept
  obtain ⟨A1, hA1⟩ : ∃ A1, s_new S 5 2 = A1 := ⟨_, rfl⟩
  obtain ⟨A2, hA2⟩ : ∃ A2, s_pI A1 6 nx a = A2 := ⟨_, rfl⟩
  obtain ⟨A3, hA3⟩ : ∃ A3, s_newA A2 22 n = A3 := ⟨_, rfl⟩
  obtain ⟨A4, hA4⟩ : ∃ A4, s_pR A3 4 nx (some (nx + 1)) = A4 := ⟨_, rfl⟩
  have n1 : s_nx A1 = nx + 1 := by rw [← hA1]; show s_nx S + 1 = _; omega
  have n2 : s_nx A2 = nx + 1 := by rw [← hA2]; exact n1
  have K1 : s_K A1 nx = 5 := by rw [← hA1]; show (if nx = s_nx S then 5 else s_K S nx) = 5; rw [if_pos hnx.symm]
  have K2 : s_K A2 nx = 5 := by rw [← hA2]; exact K1
  have K3 : s_K A3 nx = 5 := by rw [← hA3]; show (if nx = s_nx A2 then 22 else s_K A2 nx) = 5; rw [if_neg (by omega)]; exact K2
  have K4 : s_K A4 nx = 5 := by rw [← hA4]; exact K3
  have K4' : s_K A4 (nx + 1) = 22 := by rw [← hA4]; show s_K A3 (nx + 1) = 22; rw [← hA3]; show (if nx + 1 = s_nx A2 then 22 else _) = 22; rw [if_pos n2.symm]
  have N4 : s_n A4 (nx + 1) = n := by rw [← hA4]; show s_n A3 (nx + 1) = n; rw [← hA3]; show (if nx + 1 = s_nx A2 then n else _) = n; rw [if_pos n2.symm]
  have L4 : ∀ j, s_aL A4 (nx + 1) j = 0 := by intro j; rw [← hA4]; show s_aL A3 (nx + 1) j = 0; rw [← hA3]; show (if nx + 1 = s_nx A2 then 0 else _) = (0 : Int64); rw [if_pos n2.symm]
  have I4 : s_I A4 6 nx = a := by rw [← hA4]; show s_I A3 6 nx = a; rw [← hA3]; show s_I A2 6 nx = a; rw [← hA2]; show (if 6 = 6 ∧ nx = nx then a else _) = a; simp
  have R4 : s_R A4 4 nx = some (nx + 1) := by rw [← hA4]; show (if 4 = 4 ∧ nx = nx then some (nx + 1) else _) = _; simp
  have E1 : s_ext S A1 := by rw [← hA1]; exact (s_ext.refl S).new (by rw [hnx]; exact w0)
  have E2 : s_ext S A2 := by rw [← hA2]; exact E1.pI w0 a
  have E3 : s_ext S A3 := by rw [← hA3]; exact E2.newA (by rw [n2]; exact w1)
  have E4 : s_ext S A4 := by rw [← hA4]; exact E3.pR w0 _
  obtain ⟨j1, j2, j3, j4, j5, j6, ja, l1, l2⟩ := cRw.ext E4 ⟨q1, q2, q3, q4, q5, q6, ia, k1, k2⟩
  have hN4 := cRn.ext E4 hN
  have hO4 := cOb.ext E4 hO
  have h24 := cHd.ext E4 h2
  have nx4 : s_nx A4 = nx + 2 := by rw [← hA4]; show s_nx A3 = _; rw [← hA3]; show s_nx A2 + 1 = _; omega
  have x7 : s_aL A4 (ad 7) = s_aL S (ad 7) := (E4 (ad 7) (nz hN.2.2.2.2.1 (by decide))).2.2.2.2.2.2.1
  have i11 : s_I A4 11 (ad 6) = s_I S 11 (ad 6) := (E4 (ad 6) (nz hN.1 (by decide))).2.1 11
  have kw4 : ∀ b, nx + 2 ≤ b → s_K A4 b = 0 := by
    intro b hb
    rw [← hA4]; show s_K A3 b = 0; rw [← hA3]; show (if b = s_nx A2 then 22 else s_K A2 b) = 0
    rw [if_neg (by omega), ← hA2]; show s_K A1 b = 0; rw [← hA1]; show (if b = s_nx S then 5 else s_K S b) = 0
    rw [if_neg (by omega)]; exact hw b (by omega)
  have rm : (s_lm A4 = s_lm S ∧ s_sm A4 = s_sm S) ∧ s_sl A4 = s_sl S + 2 + n := by rw [← hA4, ← hA3, ← hA2, ← hA1]; exact ⟨⟨rfl, rfl⟩, rfl⟩
  have a24 : s_K S (ad 2) ≠ 0 := nz q4 (by decide)
  refine ⟨s_pI (s_wR A4 (ad 2) (e_R ρ) (some nx)) 7 (ad 1) (nI (e_R ρ) + 1), ?_, ⟨⟨⟨?_, ?_, ?_⟩, ?_, ?_, ?_⟩, ?_⟩, ?_, ?_⟩
  · unfold f_X6_added
    rw [gI_s q1 q3, gR_s q1 q2, cs_s rfl, len_s q4 q5, if_pos (nI_lt hR (by decide)), gR_s q1 q2, gI_s q1 q3, new_s (by omega), hnx, hA1, cs_s rfl]
    have hinit : f_X5_init nx a (nI n) A1 = some ((), A4) := by
      unfold f_X5_init
      rw [pI_s K1, hA2, clamp8 hn, newA_s rfl (by omega) (by rw [n2, ← hA2, ← hA1]; show nx + 1 + 1 ≤ s_lm S ∧ s_sl S + 2 + n ≤ s_sm S; omega), hA3, n2, pR_s K3, hA4]
    rw [call_s hinit, wR_s j4 K4 j5 rfl hR (by decide), gI_s (show s_K (s_wR A4 (ad 2) (e_R ρ) (some nx)) (ad 1) = 6 from j1) (show s_I (s_wR A4 (ad 2) (e_R ρ) (some nx)) 7 (ad 1) = nI (e_R ρ) from j3), pI_s (show s_K (s_wR A4 (ad 2) (e_R ρ) (some nx)) (ad 1) = 6 from j1), gI_s (x := nI (e_R ρ) + 1) (show s_K (s_pI (s_wR A4 (ad 2) (e_R ρ) (some nx)) 7 (ad 1) (nI (e_R ρ) + 1)) (ad 1) = 6 from j1) (by show (if 7 = 7 ∧ ad 1 = ad 1 then nI (e_R ρ) + 1 else _) = _; simp), nI_1, nI_pred]
  · intro b hb
    have hb2 : nx + 2 ≤ b := by rw [← nx4]; exact hb
    exact kw4 b hb2
  · show s_nx A4 + 2 * (16 - (e_R ρ + 1)) + 8 * q ≤ s_lm A4
    rw [nx4, rm.1.1]; omega
  · show s_sl A4 + 10 * (16 - (e_R ρ + 1)) + 40 * q ≤ s_sm A4
    rw [rm.2, rm.1.2]; omega
  · obtain ⟨g1, g2, g3, g4, g5, g6, g7⟩ := h24
    refine ⟨g1, g2, g3, g4, g5, g6, fun i hi => ⟨?_, (g7 i hi).2⟩⟩
    show (if ad 4 = ad 2 ∧ i = e_R ρ then some nx else s_aR A4 (ad 4) i) = _
    rw [if_neg (fun z => by have := z.1; rw [this] at g4; rw [j4] at g4; exact absurd g4 (by decide))]
    exact (g7 i hi).1
  · refine ⟨j1, j2, ?_, j4, j5, hR, (fun i => if i = e_R ρ then nx + 1 else ia i), fun i hi => ?_, fun i j hi hj he => ?_⟩
    · show (if 7 = 7 ∧ ad 1 = ad 1 then nI (e_R ρ) + 1 else _) = nI (e_R ρ + 1)
      rw [nI_1]; simp
    · have hi2 : i < e_R ρ + 1 := hi
      by_cases c : i = e_R ρ
      · subst c
        have z1 : (if e_R ρ = e_R ρ then nx + 1 else ia (e_R ρ)) = nx + 1 := if_pos rfl
        have z2 : e_sz (e_new ρ a n) (e_R ρ) = n := if_pos rfl
        have z3 : e_ln (e_new ρ a n) (e_R ρ) = a := if_pos rfl
        refine ⟨?_, ?_, ?_, ?_, ?_, ?_, nx, ?_, ?_, ?_, ?_⟩
        · show (if e_R ρ = e_R ρ then nx + 1 else _) ≠ ad 7
          rw [z1]; have := lt (ad 7) (nz hN.2.2.2.2.1 (by decide)); omega
        · show (if e_R ρ = e_R ρ then nx + 1 else _) ≠ ad 8
          rw [z1]; have := lt (ad 8) (nz hO.2.2.2.2.2.2.2.2.2.1 (by decide)); omega
        · show s_K A4 (if e_R ρ = e_R ρ then nx + 1 else _) = 22
          rw [z1]; exact K4'
        · show s_n A4 (if e_R ρ = e_R ρ then nx + 1 else _) = _
          rw [z1, z2]; exact N4
        · rw [z2]; exact hn
        · intro j _
          show s_aL A4 (if e_R ρ = e_R ρ then nx + 1 else _) j = (if e_R ρ = e_R ρ then 0 else _)
          rw [z1, if_pos rfl]; exact L4 j
        · show (if ad 2 = ad 2 ∧ e_R ρ = e_R ρ then some nx else _) = some nx
          simp
        · exact K4
        · rw [z3]
          show (if 6 = 7 ∧ nx = ad 1 then nI (e_R ρ) + 1 else s_I A4 6 nx) = a
          rw [if_neg (by simp)]; exact I4
        · show s_R A4 4 nx = some (if e_R ρ = e_R ρ then nx + 1 else _)
          rw [z1]; exact R4
      · obtain ⟨r1, r2, r3, r4, r5, r6, x, r7, r8, r9, r10⟩ := (k1 i (by omega)).ext E4 q4
        have z1 : (if i = e_R ρ then nx + 1 else ia i) = ia i := if_neg c
        have z2 : e_sz (e_new ρ a n) i = e_sz ρ i := if_neg c
        have z3 : e_ln (e_new ρ a n) i = e_ln ρ i := if_neg c
        refine ⟨?_, ?_, ?_, ?_, ?_, ?_, x, ?_, r8, ?_, ?_⟩
        · show (if i = e_R ρ then nx + 1 else ia i) ≠ ad 7
          rw [z1]; exact r1
        · show (if i = e_R ρ then nx + 1 else ia i) ≠ ad 8
          rw [z1]; exact r2
        · show s_K A4 (if i = e_R ρ then nx + 1 else ia i) = 22
          rw [z1]; exact r3
        · show s_n A4 (if i = e_R ρ then nx + 1 else ia i) = _
          rw [z1, z2]; exact r4
        · rw [z2]; exact r5
        · intro j hj
          rw [z2] at hj
          show s_aL A4 (if i = e_R ρ then nx + 1 else ia i) j = (if i = e_R ρ then 0 else e_it ρ i j)
          rw [z1, if_neg c]; exact r6 j hj
        · show (if ad 2 = ad 2 ∧ i = e_R ρ then some nx else s_aR A4 (ad 2) i) = some x
          rw [if_neg (fun z => c z.2)]; exact r7
        · rw [z3]
          show (if 6 = 7 ∧ x = ad 1 then nI (e_R ρ) + 1 else s_I A4 6 x) = _
          rw [if_neg (by simp)]; exact r9
        · show s_R A4 4 x = some (if i = e_R ρ then nx + 1 else ia i)
          rw [z1]; exact r10
    · have hi2 : i < e_R ρ + 1 := hi
      have hj2 : j < e_R ρ + 1 := hj
      have old : ∀ i, i < e_R ρ → ia i < nx := fun i hi => lt _ (nz (k1 i hi).2.2.1 (by decide))
      have he2 : (if i = e_R ρ then nx + 1 else ia i) = (if j = e_R ρ then nx + 1 else ia j) := he
      by_cases c : i = e_R ρ
      · by_cases d : j = e_R ρ
        · omega
        · rw [if_pos c, if_neg d] at he2
          have := old j (by omega); omega
      · by_cases d : j = e_R ρ
        · rw [if_neg c, if_pos d] at he2
          have := old i (by omega); omega
        · rw [if_neg c, if_neg d] at he2
          exact k2 i j (by omega) (by omega) he2
  · exact hO4
  · exact hN4
  · exact i11
  · exact x7
theorem rows_full (h : cI ad C ρ Z q S) (hR : e_R ρ = 16) (a b : Int32) : f_X6_added (ad 1) a b S = some (-2, S) := by
  obtain ⟨⟨-, -, ⟨q1, q2, q3, q4, q5, q6, -⟩, -⟩, -⟩ := h
  unfold f_X6_added
  rw [gI_s q1 q3, gR_s q1 q2, cs_s rfl, len_s q4 q5, if_neg (by rw [hR]; decide)]
theorem run_new (h : cI ad C ρ Z q S) (h0 : s_I S 11 (ad 6) = 0) (hF : e_F ρ ≤ 24) {k p : Nat} {a : Int32} (hx : s_K S p = 1) (hn : s_I S 4 p = nI k) (ha : s_I S 1 p = a) (x : Int64) : pOut ad C Z q S lim (t_new k a x ρ) (f_X7_newRow (ad 6) p x S) := by
  obtain ⟨⟨-, -, hR, -⟩, hN⟩ := id h
  unfold f_X7_newRow t_new
  have e0 : 0 ≤ x ↔ ¬ x < 0 := by rw [Int64.le_iff_toInt_le, Int64.lt_iff_toInt_lt]; omega
  have e8 : x ≤ 8 ↔ ¬ 8 < x := by rw [Int64.le_iff_toInt_le, Int64.lt_iff_toInt_lt]; omega
  by_cases c1 : x < 0
  · rw [if_pos c1, if_neg (fun z => (e0.mp z) c1)]
    exact pOut.fl h hF hx hn (by decide) (fun _ _ => rfl)
  rw [if_neg c1, if_pos (e0.mpr c1)]
  by_cases c2 : 8 < x
  · rw [if_pos (Or.inl c2), if_neg (fun z => (e8.mp z) c2)]
    exact pOut.fl h hF hx hn (by decide) (fun _ _ => rfl)
  rw [if_pos (e8.mpr c2), gR_s hN.1 hN.2.2.1, gI_s hx ha, cs_s rfl, ck_t hR.1]
  obtain ⟨n, hn2, rfl⟩ := pk_lOf c1
  have hn8 : n ≤ 8 := by
    have := e8.mpr c2
    rw [show (8 : Int64) = lN 8 from rfl, pk_lLE hn2 (by decide)] at this; exact this
  have hix : ix (lN n) = n := by show (lN n).toInt.toNat = n; rw [pk_lT hn2]; rfl
  rw [lN_i, hix]
  by_cases c3 : e_R ρ = 16
  · rw [if_pos (Or.inr c3), call_s (rows_full h c3 _ _), if_pos rfl]
    exact pOut.fl h hF hx hn (by decide) (fun _ _ => rfl)
  · obtain ⟨S1, e1, e2, e3, e4⟩ := rows_add h (by have := hR.2.2.2.2.2.1; omega) a hn8
    rw [if_neg (fun z => z.elim c2 c3), call_s e1, if_neg (by
      intro z
      have : (nI (e_R ρ)).toInt = (-2 : Int32).toInt := by rw [z]
      rw [nI_toInt (by have := hR.2.2.2.2.2.1; omega), show (-2 : Int32).toInt = -2 by decide] at this
      omega)]
    exact ⟨_, S1, rfl, e2, e3.trans h0, fun _ => nI_l (by have := hR.2.2.2.2.2.1; omega), fun i _ => by rw [e4]⟩
theorem rows_may (h : cRw ad ρ S) {a : Int32} (ha : lanep a) (x : Int64) : f_X6_mayBe (ad 1) (8 + a) x S = some (if x = -1 ∨ ((0 ≤ x.toInt ∧ x.toInt < (e_R ρ : Int)) ∧ e_ln ρ (ix x) = a) then 1 else 0, S) := by
  obtain ⟨j, hj, rfl⟩ := ha
  have e1 : 8 + nI j = nI (8 + j) := nI_add 8 j
  have er : f_X2_isRow (nI (8 + j)) = some 1 := by
    unfold f_X2_isRow
    rw [if_neg (by rw [show (8 : Int32) = nI 8 from rfl, nI_ltI (by omega) (by decide)]; omega), if_neg (by rw [show (16 : Int32) = nI 16 from rfl, nI_ltI (by decide) (by omega)]; omega)]
  have e16 : ¬ nI (8 + j) = 16 := by rw [show (16 : Int32) = nI 16 from rfl, nI_eq (by omega) (by decide)]; omega
  have esub : nI (8 + j) - (8 : Int32) = nI j := by rw [show (8 : Int32) = nI 8 from rfl, pk_sub (by omega)]; congr 1; omega
  unfold f_X6_mayBe
  rw [e1, cP_s er, if_neg (by decide)]
  by_cases c1 : x = -1
  · rw [if_pos c1, if_pos (Or.inl c1)]
  rw [if_neg c1, ck_t h.1]
  by_cases c2 : 0 ≤ x.toInt ∧ x.toInt < (e_R ρ : Int)
  · obtain ⟨ia, k1, -⟩ := h.2.2.2.2.2.2
    obtain ⟨-, -, r3, r4, r5, r6, r, r7, r8, r9, r10⟩ := k1 (ix x) (by show x.toInt.toNat < _; omega)
    rw [call_s (rows_yes h c2 r7), cs_s rfl, if_neg e16, gI_s r8 r9, esub]
    by_cases c3 : e_ln ρ (ix x) = nI j
    · rw [if_pos c3, if_pos (Or.inr ⟨c2, c3⟩)]
    · rw [if_neg c3, if_neg (fun z => z.elim c1 (fun y => c3 y.2))]
  · rw [call_s (rows_no h c2), if_neg (fun z => z.elim c1 (fun y => c2 y.1))]
    rfl
theorem rows_any (h : cRw ad ρ S) (x : Int64) : f_X6_mayBe (ad 1) 16 x S = some (if x = -1 ∨ (0 ≤ x.toInt ∧ x.toInt < (e_R ρ : Int)) then 1 else 0, S) := by
  unfold f_X6_mayBe
  rw [cP_s (show f_X2_isRow 16 = some 1 from rfl), if_neg (by decide)]
  by_cases c1 : x = -1
  · rw [if_pos c1, if_pos (Or.inl c1)]
  rw [if_neg c1, ck_t h.1]
  by_cases c2 : 0 ≤ x.toInt ∧ x.toInt < (e_R ρ : Int)
  · obtain ⟨ia, k1, -⟩ := h.2.2.2.2.2.2
    obtain ⟨-, -, r3, r4, r5, r6, r, r7, r8, r9, r10⟩ := k1 (ix x) (by show x.toInt.toNat < _; omega)
    rw [call_s (rows_yes h c2 r7), cs_s rfl, if_pos rfl, if_pos (Or.inr c2)]
  · rw [call_s (rows_no h c2), if_neg (fun z => z.elim c1 c2)]
    rfl
theorem run_cast (h : cI ad C ρ Z q S) (h0 : s_I S 11 (ad 6) = 0) (hF : e_F ρ ≤ 24) {k p : Nat} {a : Int32} (hx : s_K S p = 1) (hn : s_I S 4 p = nI k) (ha : s_I S 1 p = a) (hl : lanep a) (x : Int64) : pOut ad C Z q S lim (t_cast k a x ρ)
    (o_gR 7 7 (ad 6) S fun x16 => o_gI 1 1 p S fun x17 => o_cs x16 none fun a2 => o_ck (s_K S a2 = 6) (o_call (f_X6_mayBe a2 (8 + x17) x S) fun x18 S11 => if x18 = 0 then o_ck (s_K S11 (ad 6) = 7) (o_call (f_X7_fail (ad 6) p 5 S11) fun x19 S12 => some (x19, S12)) else some (x, S11))) := by
  obtain ⟨⟨-, -, hR, -⟩, hN⟩ := id h
  unfold t_cast
  rw [gR_s hN.1 hN.2.2.1, gI_s hx ha, cs_s rfl, ck_t hR.1, call_s (rows_may hR hl x)]
  by_cases c : x = -1 ∨ ((0 ≤ x.toInt ∧ x.toInt < (e_R ρ : Int)) ∧ e_ln ρ (ix x) = a)
  · rw [if_pos c, if_pos c, if_neg (by decide)]
    exact pOut.ret h h0 rfl
  · rw [if_neg c, if_neg c, if_pos rfl]
    exact pOut.fl h hF hx hn (by decide) (fun _ _ => rfl)
end ACT
