/-! the class's run of a handle is what a run is -/
section PERFORM
variable {ad : Nat → Nat} {C : hS} {ρ : eS} {Z : zS} {q : Nat} {S : wS} {h dep : Nat} {p : Nat → Int64}
theorem act_run (hC : wfC C) (hh : h < h_n C) (hd : dep ≤ 40) (hS : okS ρ) (k : cI ad C ρ Z q S) (h0 : s_I S 11 (ad 6) = 0) (hF : ∀ j, j < h_m C h → s_aL S (ad 7) (4 * dep + j) = p j) {P : eP} {lim : Nat}
    (hs : h_so C h = 0 ∨ h_so C h = 1 ∨ h_so C h = 2 ∨ h_so C h = 3 ∨ h_so C h = 4 ∨ h_so C h = 5 ∨ h_so C h = 9 ∨ h_so C h = 10) :
    pOut ad C Z q S lim (e_act C P h p ρ) (f_X7_act (ad 6) (ad (2 * h + 20)) (nI dep) S) := by
  obtain ⟨⟨hm4, hkr, hkk⟩, hw⟩ := hC.2 h hh
  obtain ⟨x1, x2, x3, x4, x5, x6, x7, x8, x9⟩ := k.hd hh
  have t0 := run_taken k (d := dep) (j := 0) (by omega) (by decide)
  have t1 := run_taken k (d := dep) (j := 1) (by omega) (by decide)
  have t2 := run_taken k (d := dep) (j := 2) (by omega) (by decide)
  have hF24 := hS.2.2.1
  unfold f_X7_act
  rw [ck_t k.2.1, call_s (show f_X7_taken (ad 6) (nI dep) 0 S = _ from t0), ck_t k.2.1, call_s (show f_X7_taken (ad 6) (nI dep) 1 S = _ from t1), gI_s x1 x2]
  rcases hw with ⟨hs2, w1, w2, w3, w4⟩ | ⟨hs2, w1, w2, w3, w4⟩ | ⟨hs2, w1, w2, w3, w4⟩ | ⟨hs2, w1, w2, w3, w4⟩ | ⟨hs2, w1, w2, w3, w4⟩ | ⟨hs2, w1, w2, w3, w4⟩ | ⟨hs2, w1, w2, w3, w4⟩ | ⟨hs2, w1, w2, w3, w4⟩ | ⟨hs2, w1, w2, w3, w4⟩ | ⟨hs2, w1, w5, w2, w3, w4⟩ | ⟨hs2, w1, w2, w3, w4⟩ |
    ⟨hs2, -⟩ | ⟨hs2, -⟩ | ⟨hs2, -⟩ | ⟨hs2, -⟩ | ⟨hs2, -⟩ | ⟨hs2, -⟩ | ⟨hs2, -⟩ | ⟨hs2, -⟩ | ⟨hs2, -⟩ | ⟨hs2, -⟩ | ⟨hs2, -⟩ | ⟨hs2, -⟩
  · rw [act_0 hs2, hs2, if_pos rfl, gL_s x1 x6]
    exact pOut.ret k h0 rfl
  · rw [act_1 hs2, hs2, if_neg (by decide), if_pos rfl]
    exact pOut.ret k h0 (hF 0 (by omega))
  · rw [act_2 hs2, hs2, if_neg (by decide), if_neg (by decide), if_pos rfl, ck_t k.2.1, call_id, hF 0 (by omega), hF 1 (by omega)]
    exact run_read k h0 hF24 x1 x7 _ _
  · rw [act_3 hs2, hs2, if_neg (by decide), if_neg (by decide), if_neg (by decide), if_pos rfl, ck_t k.2.1, call_s (show f_X7_taken (ad 6) (nI dep) 2 S = _ from t2), ck_t k.2.1, call_id, hF 0 (by omega), hF 1 (by omega), hF 2 (by omega)]
    exact run_write k h0 hF24 x1 x7 _ _ _
  · rw [act_4 hs2, hs2, if_neg (by decide), if_neg (by decide), if_neg (by decide), if_neg (by decide), if_pos rfl, ck_t k.2.1, call_id, hF 0 (by omega)]
    exact run_size k h0 hF24 x1 x7 _
  · rw [act_5 hs2, hs2, if_neg (by decide), if_neg (by decide), if_neg (by decide), if_neg (by decide), if_neg (by decide), if_pos rfl, ck_t k.2.1, call_id, hF 0 (by omega)]
    exact run_new k h0 hF24 x1 x7 x3 _
  · rw [hs2] at hs; exact absurd hs (by decide)
  · rw [hs2] at hs; exact absurd hs (by decide)
  · rw [hs2] at hs; exact absurd hs (by decide)
  · rw [act_9 hs2, hs2, if_neg (by decide), if_neg (by decide), if_neg (by decide), if_neg (by decide), if_neg (by decide), if_neg (by decide), if_pos rfl, gI_s x1 x4]
    exact pOut.fl k hF24 x1 x7 (nz_code w5) (fun _ _ => rfl)
  · rw [act_10 hs2, hs2, if_neg (by decide), if_neg (by decide), if_neg (by decide), if_neg (by decide), if_neg (by decide), if_neg (by decide), if_neg (by decide), if_neg (by decide), hF 0 (by omega)]
    exact run_cast k h0 hF24 x1 x7 x3 w1 _
  all_goals (rw [hs2] at hs; exact absurd hs (by decide))
theorem blame_run (k : cI ad C ρ Z q S) {lim : Nat} : pOut ad C Z q S lim (7, 0, e_blame h ρ) (o_ck (s_K S (ad 6) = 7) (o_call (f_X7_spent (ad 6) (nI h) S) fun x3 S2 => some (x3, S2))) := by
  obtain ⟨S', e1, e2, e3, e4⟩ := run_spent k h
  rw [ck_t k.2.1, call_s e1]
  exact ⟨0, S', rfl, e2, e3, fun z => absurd (show (7 : Int32) = 0 from z) (by decide), fun i _ => by rw [e4]⟩
theorem quo_run (hC : wfC C) (hh : h < h_n C) (hS : okS ρ) (k : cI ad C ρ Z q S) (h0 : s_I S 11 (ad 6) = 0) {lim : Nat} {x y : Int64} (w1 : nump (h_a C h)) (vx : okv ρ (h_a C h) x) (vy : okv ρ (h_a C h) y) :
    pOut ad C Z q S lim (t_quo h (h_a C h) x y ρ) (f_X7_quotient (ad 6) (ad (2 * h + 20)) x y S) := by
  obtain ⟨x1, x2, x3, x4, x5, x6, x7, x8, x9⟩ := k.hd hh
  unfold f_X7_quotient t_quo
  rw [gI_s x1 x3]
  by_cases c6 : h_a C h = 6
  · rw [if_pos c6, if_pos c6]
    rw [c6] at vx vy
    rw [cP_s (quo_ok6 vx vy).1]
    exact pOut.ret k h0 rfl
  rw [if_neg c6, if_neg c6, gI_s x1 x3]
  by_cases c7 : h_a C h = 7
  · rw [if_pos c7, if_pos c7]
    rw [c7] at vx vy
    rw [cP_s (quo_ok7 vx vy).1]
    exact pOut.ret k h0 rfl
  rw [if_neg c7, if_neg c7]
  by_cases c0 : y = 0
  · rw [if_pos c0, if_pos c0]
    exact pOut.fl k hS.2.2.1 x1 x7 (by decide) (fun _ _ => rfl)
  rw [if_neg c0, if_neg c0, gI_s x1 x3]
  by_cases c4 : h_a C h = 4
  · rw [if_pos c4, if_pos c4, ck_t c0]
    exact pOut.ret k h0 rfl
  · rw [if_neg c4, if_neg c4, ck_t c0]
    exact pOut.ret k h0 rfl
theorem run_perform (hC : wfC C) : ∀ (d h : Nat) (p : Nat → Int64) (ρ : eS) (S : wS) (dep : Nat), h < d → h < h_n C → dep + h ≤ 40 → okS ρ → wfV C ρ → okA C h ρ p → cI ad C ρ Z q S → s_I S 11 (ad 6) = 0 → (∀ j, j < h_m C h → s_aL S (ad 7) (4 * dep + j) = p j) →
    pOut ad C Z q S (4 * (dep + 1)) (eE C d h p ρ) (f_X7_perform d (ad 6) (nI h) (nI dep) S) := by
  intro d
  induction d with
  | zero => intro h p ρ S dep hd; omega
  | succ d ih =>
    intro h p ρ S dep hd hh hdep hS hV hp k h0 hF
    have h32 := hC.1
    have hP : pHyp ad C Z q h (eE C d) (f_X7_perform d) := fun g p ρ S dep g1 g2 g3 g4 g5 g6 g7 g8 => ih g p ρ S dep (by omega) (by omega) g2 g3 g4 g5 g6 g7 g8
    have hO : ∀ g q ρ1, g < h → okS ρ1 → wfV C ρ1 → okA C g ρ1 q → okO C g ρ1 (eE C d g q ρ1) := fun g q ρ1 g1 g2 g3 g4 => eE_ok hC d g q ρ1 (by omega) g2 g3 g4
    rw [f_X7_perform.eq_2, gR_s k.2.1 k.2.2.1, cs_s rfl, ck_t k.1.2.1.1, call_s (hnd_yes k.1.2.1 hh), cs_s rfl, if_neg (by rw [show (40 : Int32) = nI 40 from rfl, nI_ltI (by decide) (by omega)]; omega), gI_s k.2.1 k.2.2.2.2.2.2.2.1]
    have hT := hS.2.1
    unfold eE
    by_cases cT : e_T ρ = 2000
    · rw [if_pos cT, if_pos (by rw [cT]; rfl)]
      exact blame_run k
    rw [if_neg cT, if_neg (by rw [show (2000 : Int32) = nI 2000 from rfl, nI_eq (by omega) (by decide)]; exact cT), gI_s k.2.1 k.2.2.2.2.2.2.2.1, pI_s k.2.1]
    have k1 : cI ad C (e_tick ρ) Z q (s_pI S 8 (ad 6) (nI (e_T ρ) + (1 : Int32))) := by
      obtain ⟨hJ, r1, r2, r3, r4, r5, r6, r7, r8, r9⟩ := k
      refine ⟨cJ.pI (by simp) hJ, r1, r2, r3, r4, r5, r6, ?_, r8, r9⟩
      show (if 8 = 8 ∧ ad 6 = ad 6 then nI (e_T ρ) + (1 : Int32) else _) = nI (e_T ρ + 1)
      rw [nI_1]; simp
    have h01 : s_I (s_pI S 8 (ad 6) (nI (e_T ρ) + (1 : Int32))) 11 (ad 6) = 0 := h0
    have hF1 : ∀ j, j < h_m C h → s_aL (s_pI S 8 (ad 6) (nI (e_T ρ) + (1 : Int32))) (ad 7) (4 * dep + j) = p j := hF
    have hS1 : okS (e_tick ρ) := hS.tick (by omega)
    have hV1 : wfV C (e_tick ρ) := hV.mono (le_tick ρ)
    have hp1 : okA C h (e_tick ρ) p := hp.mono (le_tick ρ)
    have hm : ∀ {o res}, pOut ad C Z q (s_pI S 8 (ad 6) (nI (e_T ρ) + (1 : Int32))) (4 * (dep + 1)) o res → pOut ad C Z q S (4 * (dep + 1)) o res := fun k => k.mono (Nat.le_refl _) (fun i hi => rfl)
    generalize hS1g : s_pI S 8 (ad 6) (nI (e_T ρ) + (1 : Int32)) = S1 at *
    refine hm ?_
    generalize hρ1 : e_tick ρ = ρ1 at *
    clear hm k h0 hF hS hV hp hS1g hρ1 cT hT ih
    obtain ⟨x1, x2, x3, x4, x5, x6, x7, x8, x9⟩ := k1.hd hh
    have hCh := hC.2 h hh
    obtain ⟨⟨hm4, hkr, hkk⟩, hw⟩ := hCh
    have t0 := run_taken k1 (d := dep) (j := 0) (by omega) (by decide)
    have t1 := run_taken k1 (d := dep) (j := 1) (by omega) (by decide)
    rw [gI_s x1 x2]
    rcases hw with ⟨hs, w1, w2, w3, w4⟩ | ⟨hs, w1, w2, w3, w4⟩ | ⟨hs, w1, w2, w3, w4⟩ | ⟨hs, w1, w2, w3, w4⟩ | ⟨hs, w1, w2, w3, w4⟩ | ⟨hs, w1, w2, w3, w4⟩ | ⟨hs, w1, w2, w3, w4⟩ | ⟨hs, w1, w2, w3, w4⟩ | ⟨hs, w1, w2, w3, w4⟩ | ⟨hs, w1, w5, w2, w3, w4⟩ | ⟨hs, w1, w2, w3, w4⟩ |
      ⟨hs, A, B, a1, a2, a3, a4, a5, a6, w2, w3, w4⟩ | ⟨hs, A, B, a1, a2, a3, a4, w2, w3, w4⟩ | ⟨hs, A, a1, a2, a3, a4, w2, w3, w4⟩ | ⟨hs, A, a1, a2, a3, w2, w3, w4⟩ |
      ⟨hs, A, B, G, a1, a2, a3, a4, a5, a6, a7, a8, w2, w3, w4⟩ | ⟨hs, A, G, a1, a2, a3, a4, a5, a6, a7, a8, w2, w3, w4⟩ | ⟨hs, A, G, a1, a2, a3, a4, a5, a6, w2, w3, w4⟩ |
      ⟨hs, A, B, G, a1, a2, a3, a4, a5, a6, a7, a8, a9, ⟨b1, b2, b3⟩, w2, w3, w4⟩ | ⟨hs, A, G, a1, a2, a3, a4, a5, a6, a7, a8, a9, b1, w2, w3, w4⟩ | ⟨hs, A, G, a1, a2, a3, a4, a5, a6, a7, a8, a9, b1, w2, w3, w4⟩ |
      ⟨hs, A, a1, a2, a3, a4, a5, w2, w3, w4⟩ | ⟨hs, A, a1, a2, a3, a4, a5⟩
    · rw [hs, if_neg (by decide), if_neg (by decide), if_neg (by decide), if_neg (by decide), if_neg (by decide), if_neg (by decide), if_neg (by decide), if_neg (by decide), if_neg (by decide), if_neg (by decide), if_neg (by decide), if_neg (by decide), if_neg (by decide), ck_t k1.2.1, call_id]
      exact act_run hC hh (by omega) hS1 k1 h01 hF1 (by simp [hs])
    · rw [hs, if_neg (by decide), if_neg (by decide), if_neg (by decide), if_neg (by decide), if_neg (by decide), if_neg (by decide), if_neg (by decide), if_neg (by decide), if_neg (by decide), if_neg (by decide), if_neg (by decide), if_neg (by decide), if_neg (by decide), ck_t k1.2.1, call_id]
      exact act_run hC hh (by omega) hS1 k1 h01 hF1 (by simp [hs])
    · rw [hs, if_neg (by decide), if_neg (by decide), if_neg (by decide), if_neg (by decide), if_neg (by decide), if_neg (by decide), if_neg (by decide), if_neg (by decide), if_neg (by decide), if_neg (by decide), if_neg (by decide), if_neg (by decide), if_neg (by decide), ck_t k1.2.1, call_id]
      exact act_run hC hh (by omega) hS1 k1 h01 hF1 (by simp [hs])
    · rw [hs, if_neg (by decide), if_neg (by decide), if_neg (by decide), if_neg (by decide), if_neg (by decide), if_neg (by decide), if_neg (by decide), if_neg (by decide), if_neg (by decide), if_neg (by decide), if_neg (by decide), if_neg (by decide), if_neg (by decide), ck_t k1.2.1, call_id]
      exact act_run hC hh (by omega) hS1 k1 h01 hF1 (by simp [hs])
    · rw [hs, if_neg (by decide), if_neg (by decide), if_neg (by decide), if_neg (by decide), if_neg (by decide), if_neg (by decide), if_neg (by decide), if_neg (by decide), if_neg (by decide), if_neg (by decide), if_neg (by decide), if_neg (by decide), if_neg (by decide), ck_t k1.2.1, call_id]
      exact act_run hC hh (by omega) hS1 k1 h01 hF1 (by simp [hs])
    · rw [hs, if_neg (by decide), if_neg (by decide), if_neg (by decide), if_neg (by decide), if_neg (by decide), if_neg (by decide), if_neg (by decide), if_neg (by decide), if_neg (by decide), if_neg (by decide), if_neg (by decide), if_neg (by decide), if_neg (by decide), ck_t k1.2.1, call_id]
      exact act_run hC hh (by omega) hS1 k1 h01 hF1 (by simp [hs])
    · have v0 := okv_cast (hp1 0 (by omega)) (w4 0 (by omega))
      have v1 := okv_cast (hp1 1 (by omega)) (w4 1 (by omega))
      rw [act_6 hs, hs, if_pos rfl, gI_s x1 x3, ck_t k1.2.1, call_s (show f_X7_taken (ad 6) (nI dep) 0 S1 = _ from t0), ck_t k1.2.1, call_s (show f_X7_taken (ad 6) (nI dep) 1 S1 = _ from t1), hF1 0 (by omega), hF1 1 (by omega), cP_s (sum_ok w1 v0 v1).1]
      exact pOut.ret k1 h01 rfl
    · have v0 := okv_cast (hp1 0 (by omega)) (w4 0 (by omega))
      have v1 := okv_cast (hp1 1 (by omega)) (w4 1 (by omega))
      rw [act_7 hs, hs, if_neg (by decide), if_pos rfl, ck_t k1.2.1, call_s (show f_X7_taken (ad 6) (nI dep) 0 S1 = _ from t0), ck_t k1.2.1, call_s (show f_X7_taken (ad 6) (nI dep) 1 S1 = _ from t1), hF1 0 (by omega), hF1 1 (by omega), ck_t k1.2.1, call_id]
      exact quo_run hC hh hS1 k1 h01 w1 v0 v1
    · have v0 := okv_cast (hp1 0 (by omega)) (w4 0 (by omega))
      have v1 := okv_cast (hp1 1 (by omega)) (w4 1 (by omega))
      rw [act_8 hs, hs, if_neg (by decide), if_neg (by decide), if_pos rfl, gI_s x1 x3, ck_t k1.2.1, call_s (show f_X7_taken (ad 6) (nI dep) 0 S1 = _ from t0), ck_t k1.2.1, call_s (show f_X7_taken (ad 6) (nI dep) 1 S1 = _ from t1), hF1 0 (by omega), hF1 1 (by omega), cP_s (abv_ok w1 v0 v1)]
      unfold t_abv
      by_cases c : (f_X7_isAbove (h_a C h) (p 0) (p 1)).getD 0 = 0
      · rw [if_pos c, if_pos c]; exact pOut.ret k1 h01 rfl
      · rw [if_neg c, if_neg c]; exact pOut.ret k1 h01 rfl
    · rw [hs, if_neg (by decide), if_neg (by decide), if_neg (by decide), if_neg (by decide), if_neg (by decide), if_neg (by decide), if_neg (by decide), if_neg (by decide), if_neg (by decide), if_neg (by decide), if_neg (by decide), if_neg (by decide), if_pos (by decide), ck_t k1.2.1, call_id]
      exact act_run hC hh (by omega) hS1 k1 h01 hF1 (by simp [hs])
    · rw [hs, if_neg (by decide), if_neg (by decide), if_neg (by decide), if_neg (by decide), if_neg (by decide), if_neg (by decide), if_neg (by decide), if_neg (by decide), if_neg (by decide), if_neg (by decide), if_neg (by decide), if_neg (by decide), if_pos (by decide), ck_t k1.2.1, call_id]
      exact act_run hC hh (by omega) hS1 k1 h01 hF1 (by simp [hs])
    · rw [act_11 hs, a2, a3, nt_nI (by omega), nt_nI (by omega), hs, if_neg (by decide), if_neg (by decide), if_neg (by decide), if_pos (by decide), ck_t k1.2.1, call_id]
      exact arr_drop hC hP hh hdep hS1 hV1 k1 h01 hF1 hs a1 a2 a3 a4 a5 w2 (kd_drop w2 w4 hp1)
    · rw [act_12 hs, a2, a3, nt_nI (by omega), nt_nI (by have := (hC.2 A (by omega)).1.1; omega), hs, if_neg (by decide), if_neg (by decide), if_neg (by decide), if_pos (by decide), ck_t k1.2.1, call_id]
      exact arr_swap hC hP hh hdep hS1 hV1 k1 h01 hF1 hs a1 a2 a3 a4 (hC.2 A (by omega)).1.1 w2 (kd_swap a4 w2 w4 hp1)
    · rw [act_13 hs, a2, nt_nI (by omega), hs, if_neg (by decide), if_neg (by decide), if_neg (by decide), if_pos (by decide), ck_t k1.2.1, call_id]
      exact arr_cons hC hP hh hdep hS1 hV1 k1 h01 hF1 (Or.inl hs) a1 a2 (hC.2 A (by omega)).1.1 (by omega) (fun _ => ⟨rfl, by omega⟩) (fun z => by rw [hs] at z; exact absurd z (by decide)) (kd_twice a3 a4 w2 w4 hp1)
    · have hv := (hV1 h hh).2 hs
      rw [a2, nt_nI (by omega)] at hv
      rw [act_14 hs, a2, nt_nI (by omega), hs, if_neg (by decide), if_neg (by decide), if_neg (by decide), if_pos (by decide), ck_t k1.2.1, call_id]
      exact arr_cons hC hP hh hdep hS1 hV1 k1 h01 hF1 (Or.inr hs) a1 a2 (hC.2 A (by omega)).1.1 (by omega) (fun z => by rw [hs] at z; exact absurd z (by decide)) (fun _ => rfl) (kd_cons a3 w2 w4 hp1 hv)
    · rw [act_15 hs, a3, a4, a5, nt_nI (by omega), nt_nI (by have := (hC.2 A (by omega)).1.1; omega), nt_nI (by omega), hs, if_neg (by decide), if_neg (by decide), if_neg (by decide), if_neg (by decide), if_pos (by decide), ck_t k1.2.1, call_id]
      exact run_filter hC hP hO hh hdep hS1 hV1 k1 h01 hF1 a1 a2 a3 a4 a5 (by omega) a7 w2.symm hm4 (kd_filG a6 a7 w2 w4 hp1) (kd_filA a8 w2 w4 hp1)
    · rw [act_16 hs, a3, a4, nt_nI (by omega), nt_nI (by omega), hs, if_neg (by decide), if_neg (by decide), if_neg (by decide), if_neg (by decide), if_neg (by decide), if_pos (by decide), ck_t k1.2.1, call_id]
      exact run_fold hC hP hO hh hdep hS1 hV1 k1 h01 hF1 a1 a2 a3 a4 (by omega) (by omega) (hC.2 A (by omega)).1.1 (kd_foldG a7 a8 w2 w4 hp1) (kd_foldA a5 a6 w2 w4 hp1)
    · rw [act_17 hs, a3, a4, nt_nI (by omega), nt_nI (by omega), hs, if_neg (by decide), if_neg (by decide), if_neg (by decide), if_neg (by decide), if_neg (by decide), if_neg (by decide), if_pos (by decide), ck_t k1.2.1, call_id]
      exact run_then hC hP hO hh hdep hS1 hV1 k1 h01 hF1 a1 a2 a3 a4 a5 w2.symm (hC.2 A (by omega)).1.1 (kd_same w2 w4 hp1) (kd_thenG a5 a6)
    · rw [act_18 hs, a4, a5, a6, nt_nI (by omega), nt_nI (by omega), nt_nI (by omega), hs, if_neg (by decide), if_neg (by decide), if_neg (by decide), if_neg (by decide), if_neg (by decide), if_neg (by decide), if_neg (by decide), if_pos (by decide), ck_t k1.2.1, call_id]
      exact run_guard hC hP hO hh hdep hS1 hV1 k1 h01 hF1 a1 a2 a3 a4 a5 a6 (by omega) w2.symm (b1.trans w2.symm) hm4 (kd_guardA a8 a9 w2 w4 hp1) (kd_guardB b1 b3 w2 w4 hp1)
    · rw [act_19 hs, a3, a4, nt_nI (by omega), nt_nI (by omega), hs, if_neg (by decide), if_neg (by decide), if_neg (by decide), if_neg (by decide), if_neg (by decide), if_neg (by decide), if_neg (by decide), if_neg (by decide), if_pos (by decide), ck_t k1.2.1, call_id]
      exact run_catch hC hP hO hh hdep hS1 hV1 k1 h01 hF1 a1 a2 a3 a4 (by omega) w2.symm hm4 (hC.2 G (by omega)).1.1 (kd_same w2 w4 hp1) (kd_catG a7 a9 b1 w2 w4 hp1)
    · rw [act_20 hs, a3, a4, nt_nI (by omega), nt_nI (by omega), hs, if_neg (by decide), if_neg (by decide), if_neg (by decide), if_neg (by decide), if_neg (by decide), if_neg (by decide), if_neg (by decide), if_neg (by decide), if_neg (by decide), if_pos (by decide), ck_t k1.2.1, call_id]
      have hA := kd_same w2 w4 hp1
      have okA1 := hO A p ρ1 a1 hS1 hV1 hA
      refine run_last hC hP hO hh hdep hS1 hV1 k1 h01 hF1 a1 a2 a3 a4 (by omega) w2.symm hm4 (hC.2 G (by omega)).1.1 hkr hA (kd_lastG a6 a7 a9 b1 w2 w4 hp1 _ _ _ okA1.2.1 ?_)
      by_cases c : (eE C d A p ρ1).1 = 0
      · rw [if_pos c]; exact okA1.2.2 c
      · rw [if_neg c, w3]; exact okv.tnone _ _
    · rw [hs, if_neg (by decide), if_neg (by decide), if_neg (by decide), if_neg (by decide), if_neg (by decide), if_neg (by decide), if_neg (by decide), if_neg (by decide), if_neg (by decide), if_neg (by decide), if_pos (by decide), ck_t k1.2.1, call_id, act_21 hs, a2, nt_nI (by omega)]
      exact run_loop hC hP hO hh hdep hS1 hV1 k1 h01 hF1 a1 a2 (by omega) w2.symm hm4 (kd_loop1 a3 a5 w2 w4 hp1) (kd_loop a4 a5 w2 w4 hp1)
    · rw [act_22 hs, a2, nt_nI (by omega), hs, if_neg (by decide), if_neg (by decide), if_neg (by decide), if_neg (by decide), if_neg (by decide), if_neg (by decide), if_neg (by decide), if_neg (by decide), if_neg (by decide), if_neg (by decide), if_neg (by decide), if_pos (by decide), ck_t k1.2.1, call_id]
      obtain ⟨⟨-, hAr, hAk⟩, -⟩ := hC.2 A (by omega)
      obtain ⟨g1, g2⟩ := kd_asA hkk hAk a3 a5 hp1
      exact run_as hC hP hO hh hdep hS1 hV1 k1 h01 hF1 a1 a2 a3 hm4 (fun j hj => by obtain ⟨r, e1, -⟩ := g2 j hj; exact ⟨r, e1⟩) g1 (fun v ρ2 hv => by obtain ⟨r, e1, -⟩ := wid_ok hAr hkr a4 hv; exact ⟨r, e1⟩)
end PERFORM
