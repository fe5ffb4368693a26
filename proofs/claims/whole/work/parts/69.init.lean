/-! where both begin -/
def s_0 (N : Nat) : wS := (((N, N + 600000), (0, 7302250)), fun _ => 0, fun _ _ => 0, fun _ _ => 0, fun _ _ => none, fun _ => 0, fun _ _ => 0, fun _ _ => 0, fun _ _ => none)
theorem nx_0 (N : Nat) : s_nx (s_0 N) = N := rfl
theorem K_0 (N : Nat) : s_K (s_0 N) = fun _ => 0 := rfl
theorem I_0 (N : Nat) : s_I (s_0 N) = fun _ _ => 0 := rfl
theorem L_0 (N : Nat) : s_L (s_0 N) = fun _ _ => 0 := rfl
theorem R_0 (N : Nat) : s_R (s_0 N) = fun _ _ => none := rfl
def C_0 : hS := (0, (fun _ => 0), (fun _ => 0), (fun _ => 0), (fun _ => 0), (fun _ => 0), (fun _ => 0), (fun _ _ => 0), fun _ => 0)
def r_0 : eS := ((0, 0, 0, -1), (fun _ => 0), (fun _ => 0), fun _ _ => 0)
def Z_0 : zS := ((0, 0), (fun _ => 0), 0, (fun _ => 0), 4)
section INI
variable {α : Type} {S : wS} {kd N j n : Nat}
theorem new_n {f : Nat → wS → Option α} (hn : s_nx S = n) (h : s_nx S + 1 ≤ s_lm S ∧ s_sl S + N ≤ s_sm S) : o_new kd N S f = f n (s_new S kd N) := by
  subst hn; exact new_s h
theorem newA_n {i : Int32} {f : Nat → wS → Option α} (hn : s_nx S = n) (hi : i = nI j) (hj : j ≤ 1000) (h : s_nx S + 1 ≤ s_lm S ∧ s_sl S + j ≤ s_sm S) : o_newA kd i S f = f n (s_newA S kd j) := by
  subst hn; exact newA_s hi hj h

set_option maxRecDepth 100000 in
set_option maxHeartbeats 4000000 in
def S_c (N : Nat) : wS := s_pR (s_pR (s_pI (s_pI (s_newA (s_new (s_pR (s_newA (s_pR (s_pI (s_pR (s_newA (s_pR (s_pR (s_new (s_pR (s_pR (s_pR (s_new (s_pR (s_pR (s_pR (s_newA (s_new (s_pR (s_newA (s_new (s_new (s_0 N) 9 8) 6 2) 24 16) 5 (N + 1) (some (N + 2))) 2 2) 23 32) 1 (N + 3) (some (N + 4))) 10 N (some (N + 1))) 11 N (some (N + 3))) 3 2) 2 (N + 5) (some (N + 3))) 3 (N + 5) (some (N + 1))) 12 N (some (N + 5))) 7 7) 6 (N + 6) (some (N + 3))) 7 (N + 6) (some (N + 1))) 22 168) 8 (N + 6) (some (N + 7))) 10 (N + 6) (-1)) 13 N (some (N + 6))) 22 4) 14 N (some (N + 8))) 8 3) 21 4) 12 (N + 9) 4) 13 (N + 9) 0) 9 (N + 9) (some (N + 10))) 15 N (some (N + 9))
set_option maxRecDepth 100000 in
set_option maxHeartbeats 4000000 in
theorem i10_run : f_X10_init N (s_new (s_0 N) 9 8) = some ((), S_c N) := by
    unfold f_X10_init
    rw [new_n (n := N + 1) rfl ⟨by show N + 1 + 1 ≤ N + 600000; omega, by show 8 + 2 ≤ 7302250; decide⟩]
    rw [call_s (show f_X6_init (N + 1) (s_new (s_new (s_0 N) 9 8) 6 2) = some ((), s_pR (s_newA (s_new (s_new (s_0 N) 9 8) 6 2) 24 16) 5 (N + 1) (some (N + 2))) from by
      unfold f_X6_init
      rw [newA_n (n := N + 2) (j := 16) (i := 16) rfl rfl (by decide) ⟨by show N + 2 + 1 ≤ N + 600000; omega, by show 10 + 16 ≤ 7302250; decide⟩]
      rw [pR_s (a := (N + 1)) (show s_K (s_newA (s_new (s_new (s_0 N) 9 8) 6 2) 24 16) (N + 1) = 6 from by simp [K_new, K_newA, K_pR, K_pI, K_pL, nx_new, nx_newA, nx_pR, nx_pI, nx_pL, Nat.add_assoc, nx_0])])]
    rw [new_n (n := N + 3) rfl ⟨by show N + 3 + 1 ≤ N + 600000; omega, by show 26 + 2 ≤ 7302250; decide⟩]
    rw [call_s (show f_X1_init (N + 3) (s_new (s_pR (s_newA (s_new (s_new (s_0 N) 9 8) 6 2) 24 16) 5 (N + 1) (some (N + 2))) 2 2) = some ((), s_pR (s_newA (s_new (s_pR (s_newA (s_new (s_new (s_0 N) 9 8) 6 2) 24 16) 5 (N + 1) (some (N + 2))) 2 2) 23 32) 1 (N + 3) (some (N + 4))) from by
      unfold f_X1_init
      rw [newA_n (n := N + 4) (j := 32) (i := 32) rfl rfl (by decide) ⟨by show N + 4 + 1 ≤ N + 600000; omega, by show 28 + 32 ≤ 7302250; decide⟩]
      rw [pR_s (a := (N + 3)) (show s_K (s_newA (s_new (s_pR (s_newA (s_new (s_new (s_0 N) 9 8) 6 2) 24 16) 5 (N + 1) (some (N + 2))) 2 2) 23 32) (N + 3) = 2 from by simp [K_new, K_newA, K_pR, K_pI, K_pL, nx_new, nx_newA, nx_pR, nx_pI, nx_pL, Nat.add_assoc, nx_0])])]
    rw [pR_s (a := N) (show s_K (s_pR (s_newA (s_new (s_pR (s_newA (s_new (s_new (s_0 N) 9 8) 6 2) 24 16) 5 (N + 1) (some (N + 2))) 2 2) 23 32) 1 (N + 3) (some (N + 4))) N = 9 from by simp [K_new, K_newA, K_pR, K_pI, K_pL, nx_new, nx_newA, nx_pR, nx_pI, nx_pL, Nat.add_assoc, nx_0])]
    rw [pR_s (a := N) (show s_K (s_pR (s_pR (s_newA (s_new (s_pR (s_newA (s_new (s_new (s_0 N) 9 8) 6 2) 24 16) 5 (N + 1) (some (N + 2))) 2 2) 23 32) 1 (N + 3) (some (N + 4))) 10 N (some (N + 1))) N = 9 from by simp [K_new, K_newA, K_pR, K_pI, K_pL, nx_new, nx_newA, nx_pR, nx_pI, nx_pL, Nat.add_assoc, nx_0])]
    rw [new_n (n := N + 5) rfl ⟨by show N + 5 + 1 ≤ N + 600000; omega, by show 60 + 2 ≤ 7302250; decide⟩]
    rw [call_s (show f_X3_init (N + 5) (N + 3) (N + 1) (s_new (s_pR (s_pR (s_pR (s_newA (s_new (s_pR (s_newA (s_new (s_new (s_0 N) 9 8) 6 2) 24 16) 5 (N + 1) (some (N + 2))) 2 2) 23 32) 1 (N + 3) (some (N + 4))) 10 N (some (N + 1))) 11 N (some (N + 3))) 3 2) = some ((), s_pR (s_pR (s_new (s_pR (s_pR (s_pR (s_newA (s_new (s_pR (s_newA (s_new (s_new (s_0 N) 9 8) 6 2) 24 16) 5 (N + 1) (some (N + 2))) 2 2) 23 32) 1 (N + 3) (some (N + 4))) 10 N (some (N + 1))) 11 N (some (N + 3))) 3 2) 2 (N + 5) (some (N + 3))) 3 (N + 5) (some (N + 1))) from by
      unfold f_X3_init
      rw [pR_s (a := (N + 5)) (show s_K (s_new (s_pR (s_pR (s_pR (s_newA (s_new (s_pR (s_newA (s_new (s_new (s_0 N) 9 8) 6 2) 24 16) 5 (N + 1) (some (N + 2))) 2 2) 23 32) 1 (N + 3) (some (N + 4))) 10 N (some (N + 1))) 11 N (some (N + 3))) 3 2) (N + 5) = 3 from by simp [K_new, K_newA, K_pR, K_pI, K_pL, nx_new, nx_newA, nx_pR, nx_pI, nx_pL, Nat.add_assoc, nx_0])]
      rw [pR_s (a := (N + 5)) (show s_K (s_pR (s_new (s_pR (s_pR (s_pR (s_newA (s_new (s_pR (s_newA (s_new (s_new (s_0 N) 9 8) 6 2) 24 16) 5 (N + 1) (some (N + 2))) 2 2) 23 32) 1 (N + 3) (some (N + 4))) 10 N (some (N + 1))) 11 N (some (N + 3))) 3 2) 2 (N + 5) (some (N + 3))) (N + 5) = 3 from by simp [K_new, K_newA, K_pR, K_pI, K_pL, nx_new, nx_newA, nx_pR, nx_pI, nx_pL, Nat.add_assoc, nx_0])])]
    rw [pR_s (a := N) (show s_K (s_pR (s_pR (s_new (s_pR (s_pR (s_pR (s_newA (s_new (s_pR (s_newA (s_new (s_new (s_0 N) 9 8) 6 2) 24 16) 5 (N + 1) (some (N + 2))) 2 2) 23 32) 1 (N + 3) (some (N + 4))) 10 N (some (N + 1))) 11 N (some (N + 3))) 3 2) 2 (N + 5) (some (N + 3))) 3 (N + 5) (some (N + 1))) N = 9 from by simp [K_new, K_newA, K_pR, K_pI, K_pL, nx_new, nx_newA, nx_pR, nx_pI, nx_pL, Nat.add_assoc, nx_0])]
    rw [new_n (n := N + 6) rfl ⟨by show N + 6 + 1 ≤ N + 600000; omega, by show 62 + 7 ≤ 7302250; decide⟩]
    rw [call_s (show f_X7_init (N + 6) (N + 3) (N + 1) (s_new (s_pR (s_pR (s_pR (s_new (s_pR (s_pR (s_pR (s_newA (s_new (s_pR (s_newA (s_new (s_new (s_0 N) 9 8) 6 2) 24 16) 5 (N + 1) (some (N + 2))) 2 2) 23 32) 1 (N + 3) (some (N + 4))) 10 N (some (N + 1))) 11 N (some (N + 3))) 3 2) 2 (N + 5) (some (N + 3))) 3 (N + 5) (some (N + 1))) 12 N (some (N + 5))) 7 7) = some ((), s_pI (s_pR (s_newA (s_pR (s_pR (s_new (s_pR (s_pR (s_pR (s_new (s_pR (s_pR (s_pR (s_newA (s_new (s_pR (s_newA (s_new (s_new (s_0 N) 9 8) 6 2) 24 16) 5 (N + 1) (some (N + 2))) 2 2) 23 32) 1 (N + 3) (some (N + 4))) 10 N (some (N + 1))) 11 N (some (N + 3))) 3 2) 2 (N + 5) (some (N + 3))) 3 (N + 5) (some (N + 1))) 12 N (some (N + 5))) 7 7) 6 (N + 6) (some (N + 3))) 7 (N + 6) (some (N + 1))) 22 168) 8 (N + 6) (some (N + 7))) 10 (N + 6) (-1)) from by
      unfold f_X7_init
      rw [pR_s (a := (N + 6)) (show s_K (s_new (s_pR (s_pR (s_pR (s_new (s_pR (s_pR (s_pR (s_newA (s_new (s_pR (s_newA (s_new (s_new (s_0 N) 9 8) 6 2) 24 16) 5 (N + 1) (some (N + 2))) 2 2) 23 32) 1 (N + 3) (some (N + 4))) 10 N (some (N + 1))) 11 N (some (N + 3))) 3 2) 2 (N + 5) (some (N + 3))) 3 (N + 5) (some (N + 1))) 12 N (some (N + 5))) 7 7) (N + 6) = 7 from by simp [K_new, K_newA, K_pR, K_pI, K_pL, nx_new, nx_newA, nx_pR, nx_pI, nx_pL, Nat.add_assoc, nx_0])]
      rw [pR_s (a := (N + 6)) (show s_K (s_pR (s_new (s_pR (s_pR (s_pR (s_new (s_pR (s_pR (s_pR (s_newA (s_new (s_pR (s_newA (s_new (s_new (s_0 N) 9 8) 6 2) 24 16) 5 (N + 1) (some (N + 2))) 2 2) 23 32) 1 (N + 3) (some (N + 4))) 10 N (some (N + 1))) 11 N (some (N + 3))) 3 2) 2 (N + 5) (some (N + 3))) 3 (N + 5) (some (N + 1))) 12 N (some (N + 5))) 7 7) 6 (N + 6) (some (N + 3))) (N + 6) = 7 from by simp [K_new, K_newA, K_pR, K_pI, K_pL, nx_new, nx_newA, nx_pR, nx_pI, nx_pL, Nat.add_assoc, nx_0])]
      rw [newA_n (n := N + 7) (j := 168) (i := 168) rfl rfl (by decide) ⟨by show N + 7 + 1 ≤ N + 600000; omega, by show 69 + 168 ≤ 7302250; decide⟩]
      rw [pR_s (a := (N + 6)) (show s_K (s_newA (s_pR (s_pR (s_new (s_pR (s_pR (s_pR (s_new (s_pR (s_pR (s_pR (s_newA (s_new (s_pR (s_newA (s_new (s_new (s_0 N) 9 8) 6 2) 24 16) 5 (N + 1) (some (N + 2))) 2 2) 23 32) 1 (N + 3) (some (N + 4))) 10 N (some (N + 1))) 11 N (some (N + 3))) 3 2) 2 (N + 5) (some (N + 3))) 3 (N + 5) (some (N + 1))) 12 N (some (N + 5))) 7 7) 6 (N + 6) (some (N + 3))) 7 (N + 6) (some (N + 1))) 22 168) (N + 6) = 7 from by simp [K_new, K_newA, K_pR, K_pI, K_pL, nx_new, nx_newA, nx_pR, nx_pI, nx_pL, Nat.add_assoc, nx_0])]
      rw [pI_s (a := (N + 6)) (show s_K (s_pR (s_newA (s_pR (s_pR (s_new (s_pR (s_pR (s_pR (s_new (s_pR (s_pR (s_pR (s_newA (s_new (s_pR (s_newA (s_new (s_new (s_0 N) 9 8) 6 2) 24 16) 5 (N + 1) (some (N + 2))) 2 2) 23 32) 1 (N + 3) (some (N + 4))) 10 N (some (N + 1))) 11 N (some (N + 3))) 3 2) 2 (N + 5) (some (N + 3))) 3 (N + 5) (some (N + 1))) 12 N (some (N + 5))) 7 7) 6 (N + 6) (some (N + 3))) 7 (N + 6) (some (N + 1))) 22 168) 8 (N + 6) (some (N + 7))) (N + 6) = 7 from by simp [K_new, K_newA, K_pR, K_pI, K_pL, nx_new, nx_newA, nx_pR, nx_pI, nx_pL, Nat.add_assoc, nx_0])])]
    rw [pR_s (a := N) (show s_K (s_pI (s_pR (s_newA (s_pR (s_pR (s_new (s_pR (s_pR (s_pR (s_new (s_pR (s_pR (s_pR (s_newA (s_new (s_pR (s_newA (s_new (s_new (s_0 N) 9 8) 6 2) 24 16) 5 (N + 1) (some (N + 2))) 2 2) 23 32) 1 (N + 3) (some (N + 4))) 10 N (some (N + 1))) 11 N (some (N + 3))) 3 2) 2 (N + 5) (some (N + 3))) 3 (N + 5) (some (N + 1))) 12 N (some (N + 5))) 7 7) 6 (N + 6) (some (N + 3))) 7 (N + 6) (some (N + 1))) 22 168) 8 (N + 6) (some (N + 7))) 10 (N + 6) (-1)) N = 9 from by simp [K_new, K_newA, K_pR, K_pI, K_pL, nx_new, nx_newA, nx_pR, nx_pI, nx_pL, Nat.add_assoc, nx_0])]
    rw [newA_n (n := N + 8) (j := 4) (i := 4) rfl rfl (by decide) ⟨by show N + 8 + 1 ≤ N + 600000; omega, by show 237 + 4 ≤ 7302250; decide⟩]
    rw [pR_s (a := N) (show s_K (s_newA (s_pR (s_pI (s_pR (s_newA (s_pR (s_pR (s_new (s_pR (s_pR (s_pR (s_new (s_pR (s_pR (s_pR (s_newA (s_new (s_pR (s_newA (s_new (s_new (s_0 N) 9 8) 6 2) 24 16) 5 (N + 1) (some (N + 2))) 2 2) 23 32) 1 (N + 3) (some (N + 4))) 10 N (some (N + 1))) 11 N (some (N + 3))) 3 2) 2 (N + 5) (some (N + 3))) 3 (N + 5) (some (N + 1))) 12 N (some (N + 5))) 7 7) 6 (N + 6) (some (N + 3))) 7 (N + 6) (some (N + 1))) 22 168) 8 (N + 6) (some (N + 7))) 10 (N + 6) (-1)) 13 N (some (N + 6))) 22 4) N = 9 from by simp [K_new, K_newA, K_pR, K_pI, K_pL, nx_new, nx_newA, nx_pR, nx_pI, nx_pL, Nat.add_assoc, nx_0])]
    rw [new_n (n := N + 9) rfl ⟨by show N + 9 + 1 ≤ N + 600000; omega, by show 241 + 3 ≤ 7302250; decide⟩]
    rw [newA_n (n := N + 10) (j := 4) (i := 4) rfl rfl (by decide) ⟨by show N + 10 + 1 ≤ N + 600000; omega, by show 244 + 4 ≤ 7302250; decide⟩]
    rw [call_s (show f_X9_init (N + 9) 4 0 (N + 10) (s_newA (s_new (s_pR (s_newA (s_pR (s_pI (s_pR (s_newA (s_pR (s_pR (s_new (s_pR (s_pR (s_pR (s_new (s_pR (s_pR (s_pR (s_newA (s_new (s_pR (s_newA (s_new (s_new (s_0 N) 9 8) 6 2) 24 16) 5 (N + 1) (some (N + 2))) 2 2) 23 32) 1 (N + 3) (some (N + 4))) 10 N (some (N + 1))) 11 N (some (N + 3))) 3 2) 2 (N + 5) (some (N + 3))) 3 (N + 5) (some (N + 1))) 12 N (some (N + 5))) 7 7) 6 (N + 6) (some (N + 3))) 7 (N + 6) (some (N + 1))) 22 168) 8 (N + 6) (some (N + 7))) 10 (N + 6) (-1)) 13 N (some (N + 6))) 22 4) 14 N (some (N + 8))) 8 3) 21 4) = some ((), s_pR (s_pI (s_pI (s_newA (s_new (s_pR (s_newA (s_pR (s_pI (s_pR (s_newA (s_pR (s_pR (s_new (s_pR (s_pR (s_pR (s_new (s_pR (s_pR (s_pR (s_newA (s_new (s_pR (s_newA (s_new (s_new (s_0 N) 9 8) 6 2) 24 16) 5 (N + 1) (some (N + 2))) 2 2) 23 32) 1 (N + 3) (some (N + 4))) 10 N (some (N + 1))) 11 N (some (N + 3))) 3 2) 2 (N + 5) (some (N + 3))) 3 (N + 5) (some (N + 1))) 12 N (some (N + 5))) 7 7) 6 (N + 6) (some (N + 3))) 7 (N + 6) (some (N + 1))) 22 168) 8 (N + 6) (some (N + 7))) 10 (N + 6) (-1)) 13 N (some (N + 6))) 22 4) 14 N (some (N + 8))) 8 3) 21 4) 12 (N + 9) 4) 13 (N + 9) 0) 9 (N + 9) (some (N + 10))) from by
      unfold f_X9_init
      rw [pI_s (a := (N + 9)) (show s_K (s_newA (s_new (s_pR (s_newA (s_pR (s_pI (s_pR (s_newA (s_pR (s_pR (s_new (s_pR (s_pR (s_pR (s_new (s_pR (s_pR (s_pR (s_newA (s_new (s_pR (s_newA (s_new (s_new (s_0 N) 9 8) 6 2) 24 16) 5 (N + 1) (some (N + 2))) 2 2) 23 32) 1 (N + 3) (some (N + 4))) 10 N (some (N + 1))) 11 N (some (N + 3))) 3 2) 2 (N + 5) (some (N + 3))) 3 (N + 5) (some (N + 1))) 12 N (some (N + 5))) 7 7) 6 (N + 6) (some (N + 3))) 7 (N + 6) (some (N + 1))) 22 168) 8 (N + 6) (some (N + 7))) 10 (N + 6) (-1)) 13 N (some (N + 6))) 22 4) 14 N (some (N + 8))) 8 3) 21 4) (N + 9) = 8 from by simp [K_new, K_newA, K_pR, K_pI, K_pL, nx_new, nx_newA, nx_pR, nx_pI, nx_pL, Nat.add_assoc, nx_0])]
      rw [pI_s (a := (N + 9)) (show s_K (s_pI (s_newA (s_new (s_pR (s_newA (s_pR (s_pI (s_pR (s_newA (s_pR (s_pR (s_new (s_pR (s_pR (s_pR (s_new (s_pR (s_pR (s_pR (s_newA (s_new (s_pR (s_newA (s_new (s_new (s_0 N) 9 8) 6 2) 24 16) 5 (N + 1) (some (N + 2))) 2 2) 23 32) 1 (N + 3) (some (N + 4))) 10 N (some (N + 1))) 11 N (some (N + 3))) 3 2) 2 (N + 5) (some (N + 3))) 3 (N + 5) (some (N + 1))) 12 N (some (N + 5))) 7 7) 6 (N + 6) (some (N + 3))) 7 (N + 6) (some (N + 1))) 22 168) 8 (N + 6) (some (N + 7))) 10 (N + 6) (-1)) 13 N (some (N + 6))) 22 4) 14 N (some (N + 8))) 8 3) 21 4) 12 (N + 9) 4) (N + 9) = 8 from by simp [K_new, K_newA, K_pR, K_pI, K_pL, nx_new, nx_newA, nx_pR, nx_pI, nx_pL, Nat.add_assoc, nx_0])]
      rw [pR_s (a := (N + 9)) (show s_K (s_pI (s_pI (s_newA (s_new (s_pR (s_newA (s_pR (s_pI (s_pR (s_newA (s_pR (s_pR (s_new (s_pR (s_pR (s_pR (s_new (s_pR (s_pR (s_pR (s_newA (s_new (s_pR (s_newA (s_new (s_new (s_0 N) 9 8) 6 2) 24 16) 5 (N + 1) (some (N + 2))) 2 2) 23 32) 1 (N + 3) (some (N + 4))) 10 N (some (N + 1))) 11 N (some (N + 3))) 3 2) 2 (N + 5) (some (N + 3))) 3 (N + 5) (some (N + 1))) 12 N (some (N + 5))) 7 7) 6 (N + 6) (some (N + 3))) 7 (N + 6) (some (N + 1))) 22 168) 8 (N + 6) (some (N + 7))) 10 (N + 6) (-1)) 13 N (some (N + 6))) 22 4) 14 N (some (N + 8))) 8 3) 21 4) 12 (N + 9) 4) 13 (N + 9) 0) (N + 9) = 8 from by simp [K_new, K_newA, K_pR, K_pI, K_pL, nx_new, nx_newA, nx_pR, nx_pI, nx_pL, Nat.add_assoc, nx_0])])]
    rw [pR_s (a := N) (show s_K (s_pR (s_pI (s_pI (s_newA (s_new (s_pR (s_newA (s_pR (s_pI (s_pR (s_newA (s_pR (s_pR (s_new (s_pR (s_pR (s_pR (s_new (s_pR (s_pR (s_pR (s_newA (s_new (s_pR (s_newA (s_new (s_new (s_0 N) 9 8) 6 2) 24 16) 5 (N + 1) (some (N + 2))) 2 2) 23 32) 1 (N + 3) (some (N + 4))) 10 N (some (N + 1))) 11 N (some (N + 3))) 3 2) 2 (N + 5) (some (N + 3))) 3 (N + 5) (some (N + 1))) 12 N (some (N + 5))) 7 7) 6 (N + 6) (some (N + 3))) 7 (N + 6) (some (N + 1))) 22 168) 8 (N + 6) (some (N + 7))) 10 (N + 6) (-1)) 13 N (some (N + 6))) 22 4) 14 N (some (N + 8))) 8 3) 21 4) 12 (N + 9) 4) 13 (N + 9) 0) 9 (N + 9) (some (N + 10))) N = 9 from by simp [K_new, K_newA, K_pR, K_pI, K_pL, nx_new, nx_newA, nx_pR, nx_pI, nx_pL, Nat.add_assoc, nx_0])]
    rfl
theorem i10_nx : s_nx (S_c N) = N + 11 := rfl
theorem i10_sl : s_sl (S_c N) = 248 := rfl
theorem i10_lm : s_lm (S_c N) = N + 600000 := rfl
theorem i10_sm : s_sm (S_c N) = 7302250 := rfl
set_option maxRecDepth 100000 in
set_option maxHeartbeats 4000000 in
theorem i10_wf : s_wf (S_c N) := by
  intro a ha
  have ha : N + 11 ≤ a := ha
  unfold S_c
  simp only [K_new, K_newA, K_pR, K_pI, K_pL, nx_new, nx_newA, nx_pR, nx_pI, nx_pL, Nat.add_assoc, nx_0, K_0]
  repeat rw [if_neg (by omega)]
  exact (if_neg (show ¬ a = N + 1 by omega)).trans (if_neg (show ¬ a = N by omega))
set_option maxRecDepth 100000 in
set_option maxHeartbeats 4000000 in
theorem i10_hd : cHd (fun i => N + i) C_0 (S_c N) := by
  refine ⟨?_, ?_, ?_, ?_, ?_, Nat.zero_le _, fun i hi => absurd hi (Nat.not_lt_zero i)⟩ <;> simp [S_c, C_0, h_n, K_new, K_newA, K_pR, K_pI, K_pL, nx_new, nx_newA, nx_pR, nx_pI, nx_pL, Nat.add_assoc, I_new, I_newA, I_pR, I_pI, I_pL, L_new, L_newA, L_pR, L_pI, L_pL, R_new, R_newA, R_pR, R_pI, R_pL, n_new, n_newA, n_pR, n_pI, n_pL, aI_new, aI_newA, aI_pR, aI_pI, aI_pL, aL_new, aL_newA, aL_pR, aL_pI, aL_pL, aR_new, aR_newA, aR_pR, aR_pI, aR_pL, nx_0, K_0, I_0, L_0, R_0]
  rfl
set_option maxRecDepth 100000 in
set_option maxHeartbeats 4000000 in
theorem i10_rw : cRw (fun i => N + i) r_0 (S_c N) := by
  refine ⟨?_, ?_, ?_, ?_, ?_, Nat.zero_le _, fun _ => 0, fun i hi => absurd hi (Nat.not_lt_zero i), fun i _ hi => absurd hi (Nat.not_lt_zero i)⟩ <;> simp [S_c, r_0, e_R, K_new, K_newA, K_pR, K_pI, K_pL, nx_new, nx_newA, nx_pR, nx_pI, nx_pL, Nat.add_assoc, I_new, I_newA, I_pR, I_pI, I_pL, L_new, L_newA, L_pR, L_pI, L_pL, R_new, R_newA, R_pR, R_pI, R_pL, n_new, n_newA, n_pR, n_pI, n_pL, aI_new, aI_newA, aI_pR, aI_pI, aI_pL, aL_new, aL_newA, aL_pR, aL_pI, aL_pL, aR_new, aR_newA, aR_pR, aR_pI, aR_pL, nx_0, K_0, I_0, L_0, R_0]
  rfl
set_option maxRecDepth 100000 in
set_option maxHeartbeats 4000000 in
theorem i10_rn : cRn (fun i => N + i) r_0 (S_c N) := by
  refine ⟨?_, ?_, ?_, ?_, ?_, ?_, ?_, ?_, ?_⟩ <;> simp [S_c, r_0, e_T, e_F, e_b, K_new, K_newA, K_pR, K_pI, K_pL, nx_new, nx_newA, nx_pR, nx_pI, nx_pL, Nat.add_assoc, I_new, I_newA, I_pR, I_pI, I_pL, L_new, L_newA, L_pR, L_pI, L_pL, R_new, R_newA, R_pR, R_pI, R_pL, n_new, n_newA, n_pR, n_pI, n_pL, aI_new, aI_newA, aI_pR, aI_pI, aI_pL, aL_new, aL_newA, aL_pR, aL_pI, aL_pL, aR_new, aR_newA, aR_pR, aR_pI, aR_pL, nx_0, K_0, I_0, L_0, R_0]
  all_goals rfl
set_option maxRecDepth 100000 in
set_option maxHeartbeats 4000000 in
theorem i10_ob : cOb (fun i => N + i) Z_0 (S_c N) := by
  refine ⟨?_, ?_, ?_, ?_, ?_, ?_, ?_, ?_, ?_, ?_, ?_, ?_, fun j _ => ?_, ?_, ?_, ?_, ?_, ?_, ?_, ?_, N + 10, ?_, ?_, ?_, fun j hj => absurd hj (Nat.not_lt_zero j)⟩ <;> simp [S_c, Z_0, z_g, z_v, z_n, z_m, z_r, K_new, K_newA, K_pR, K_pI, K_pL, nx_new, nx_newA, nx_pR, nx_pI, nx_pL, Nat.add_assoc, I_new, I_newA, I_pR, I_pI, I_pL, L_new, L_newA, L_pR, L_pI, L_pL, R_new, R_newA, R_pR, R_pI, R_pL, n_new, n_newA, n_pR, n_pI, n_pL, aI_new, aI_newA, aI_pR, aI_pI, aI_pL, aL_new, aL_newA, aL_pR, aL_pI, aL_pL, aR_new, aR_newA, aR_pR, aR_pI, aR_pL, nx_0, K_0, I_0, L_0, R_0]
  all_goals rfl
end INI
