/-! where the reference begins -/
section INI2
variable {N : Nat}
set_option maxRecDepth 100000 in
set_option maxHeartbeats 4000000 in
def S_m (N : Nat) : wS := s_pR (s_newA (s_pI (s_pR (s_newA (s_pR (s_newA (s_pR (s_newA (s_pR (s_newA (s_pR (s_newA (s_pR (s_newA (s_pR (s_newA (s_pR (s_newA (s_pR (s_newA (s_pR (s_newA (s_pR (s_newA (s_pR (s_newA (s_pR (s_newA (s_pR (s_newA (s_pR (s_newA (s_pR (s_newA (s_pI (s_pR (s_newA (s_pR (s_newA (s_pR (s_newA (s_new (S_c N) 10 36) 21 16) 16 (N + 11) (some (N + 12))) 21 16) 17 (N + 11) (some (N + 13))) 22 128) 18 (N + 11) (some (N + 14))) 16 (N + 11) 4) 21 4) 19 (N + 11) (some (N + 15))) 22 4) 20 (N + 11) (some (N + 16))) 21 32) 21 (N + 11) (some (N + 17))) 21 32) 22 (N + 11) (some (N + 18))) 21 32) 23 (N + 11) (some (N + 19))) 21 32) 24 (N + 11) (some (N + 20))) 22 32) 25 (N + 11) (some (N + 21))) 21 33) 26 (N + 11) (some (N + 22))) 21 132) 27 (N + 11) (some (N + 23))) 21 33) 28 (N + 11) (some (N + 24))) 21 33) 29 (N + 11) (some (N + 25))) 21 33) 30 (N + 11) (some (N + 26))) 22 132) 31 (N + 11) (some (N + 27))) 22 33) 32 (N + 11) (some (N + 28))) 21 33) 33 (N + 11) (some (N + 29))) 21 33) 34 (N + 11) (some (N + 30))) 26 (N + 11) (-1)) 22 4) 35 (N + 11) (some (N + 31))
set_option maxRecDepth 100000 in
set_option maxHeartbeats 4000000 in
theorem x11_run : f_X11_init (N + 11) (s_new (S_c N) 10 36) = some ((), S_m N) := by
  unfold f_X11_init
  rw [newA_n (n := N + 12) (j := 16) (i := 16) rfl rfl (by decide) ⟨by show N + 12 + 1 ≤ N + 600000; omega, by show 284 + 16 ≤ 7302250; decide⟩]
  rw [pR_s (a := (N + 11)) (show s_K (s_newA (s_new (S_c N) 10 36) 21 16) (N + 11) = 10 from by simp [K_new, K_newA, K_pR, K_pI, K_pL, nx_new, nx_newA, nx_pR, nx_pI, nx_pL, Nat.add_assoc, i10_nx])]
  rw [newA_n (n := N + 13) (j := 16) (i := 16) rfl rfl (by decide) ⟨by show N + 13 + 1 ≤ N + 600000; omega, by show 300 + 16 ≤ 7302250; decide⟩]
  rw [pR_s (a := (N + 11)) (show s_K (s_newA (s_pR (s_newA (s_new (S_c N) 10 36) 21 16) 16 (N + 11) (some (N + 12))) 21 16) (N + 11) = 10 from by simp [K_new, K_newA, K_pR, K_pI, K_pL, nx_new, nx_newA, nx_pR, nx_pI, nx_pL, Nat.add_assoc, i10_nx])]
  rw [newA_n (n := N + 14) (j := 128) (i := 128) rfl rfl (by decide) ⟨by show N + 14 + 1 ≤ N + 600000; omega, by show 316 + 128 ≤ 7302250; decide⟩]
  rw [pR_s (a := (N + 11)) (show s_K (s_newA (s_pR (s_newA (s_pR (s_newA (s_new (S_c N) 10 36) 21 16) 16 (N + 11) (some (N + 12))) 21 16) 17 (N + 11) (some (N + 13))) 22 128) (N + 11) = 10 from by simp [K_new, K_newA, K_pR, K_pI, K_pL, nx_new, nx_newA, nx_pR, nx_pI, nx_pL, Nat.add_assoc, i10_nx])]
  rw [pI_s (a := (N + 11)) (show s_K (s_pR (s_newA (s_pR (s_newA (s_pR (s_newA (s_new (S_c N) 10 36) 21 16) 16 (N + 11) (some (N + 12))) 21 16) 17 (N + 11) (some (N + 13))) 22 128) 18 (N + 11) (some (N + 14))) (N + 11) = 10 from by simp [K_new, K_newA, K_pR, K_pI, K_pL, nx_new, nx_newA, nx_pR, nx_pI, nx_pL, Nat.add_assoc, i10_nx])]
  rw [newA_n (n := N + 15) (j := 4) (i := 4) rfl rfl (by decide) ⟨by show N + 15 + 1 ≤ N + 600000; omega, by show 444 + 4 ≤ 7302250; decide⟩]
  rw [pR_s (a := (N + 11)) (show s_K (s_newA (s_pI (s_pR (s_newA (s_pR (s_newA (s_pR (s_newA (s_new (S_c N) 10 36) 21 16) 16 (N + 11) (some (N + 12))) 21 16) 17 (N + 11) (some (N + 13))) 22 128) 18 (N + 11) (some (N + 14))) 16 (N + 11) 4) 21 4) (N + 11) = 10 from by simp [K_new, K_newA, K_pR, K_pI, K_pL, nx_new, nx_newA, nx_pR, nx_pI, nx_pL, Nat.add_assoc, i10_nx])]
  rw [newA_n (n := N + 16) (j := 4) (i := 4) rfl rfl (by decide) ⟨by show N + 16 + 1 ≤ N + 600000; omega, by show 448 + 4 ≤ 7302250; decide⟩]
  rw [pR_s (a := (N + 11)) (show s_K (s_newA (s_pR (s_newA (s_pI (s_pR (s_newA (s_pR (s_newA (s_pR (s_newA (s_new (S_c N) 10 36) 21 16) 16 (N + 11) (some (N + 12))) 21 16) 17 (N + 11) (some (N + 13))) 22 128) 18 (N + 11) (some (N + 14))) 16 (N + 11) 4) 21 4) 19 (N + 11) (some (N + 15))) 22 4) (N + 11) = 10 from by simp [K_new, K_newA, K_pR, K_pI, K_pL, nx_new, nx_newA, nx_pR, nx_pI, nx_pL, Nat.add_assoc, i10_nx])]
  rw [newA_n (n := N + 17) (j := 32) (i := 32) rfl rfl (by decide) ⟨by show N + 17 + 1 ≤ N + 600000; omega, by show 452 + 32 ≤ 7302250; decide⟩]
  rw [pR_s (a := (N + 11)) (show s_K (s_newA (s_pR (s_newA (s_pR (s_newA (s_pI (s_pR (s_newA (s_pR (s_newA (s_pR (s_newA (s_new (S_c N) 10 36) 21 16) 16 (N + 11) (some (N + 12))) 21 16) 17 (N + 11) (some (N + 13))) 22 128) 18 (N + 11) (some (N + 14))) 16 (N + 11) 4) 21 4) 19 (N + 11) (some (N + 15))) 22 4) 20 (N + 11) (some (N + 16))) 21 32) (N + 11) = 10 from by simp [K_new, K_newA, K_pR, K_pI, K_pL, nx_new, nx_newA, nx_pR, nx_pI, nx_pL, Nat.add_assoc, i10_nx])]
  rw [newA_n (n := N + 18) (j := 32) (i := 32) rfl rfl (by decide) ⟨by show N + 18 + 1 ≤ N + 600000; omega, by show 484 + 32 ≤ 7302250; decide⟩]
  rw [pR_s (a := (N + 11)) (show s_K (s_newA (s_pR (s_newA (s_pR (s_newA (s_pR (s_newA (s_pI (s_pR (s_newA (s_pR (s_newA (s_pR (s_newA (s_new (S_c N) 10 36) 21 16) 16 (N + 11) (some (N + 12))) 21 16) 17 (N + 11) (some (N + 13))) 22 128) 18 (N + 11) (some (N + 14))) 16 (N + 11) 4) 21 4) 19 (N + 11) (some (N + 15))) 22 4) 20 (N + 11) (some (N + 16))) 21 32) 21 (N + 11) (some (N + 17))) 21 32) (N + 11) = 10 from by simp [K_new, K_newA, K_pR, K_pI, K_pL, nx_new, nx_newA, nx_pR, nx_pI, nx_pL, Nat.add_assoc, i10_nx])]
  rw [newA_n (n := N + 19) (j := 32) (i := 32) rfl rfl (by decide) ⟨by show N + 19 + 1 ≤ N + 600000; omega, by show 516 + 32 ≤ 7302250; decide⟩]
  rw [pR_s (a := (N + 11)) (show s_K (s_newA (s_pR (s_newA (s_pR (s_newA (s_pR (s_newA (s_pR (s_newA (s_pI (s_pR (s_newA (s_pR (s_newA (s_pR (s_newA (s_new (S_c N) 10 36) 21 16) 16 (N + 11) (some (N + 12))) 21 16) 17 (N + 11) (some (N + 13))) 22 128) 18 (N + 11) (some (N + 14))) 16 (N + 11) 4) 21 4) 19 (N + 11) (some (N + 15))) 22 4) 20 (N + 11) (some (N + 16))) 21 32) 21 (N + 11) (some (N + 17))) 21 32) 22 (N + 11) (some (N + 18))) 21 32) (N + 11) = 10 from by simp [K_new, K_newA, K_pR, K_pI, K_pL, nx_new, nx_newA, nx_pR, nx_pI, nx_pL, Nat.add_assoc, i10_nx])]
  rw [newA_n (n := N + 20) (j := 32) (i := 32) rfl rfl (by decide) ⟨by show N + 20 + 1 ≤ N + 600000; omega, by show 548 + 32 ≤ 7302250; decide⟩]
  rw [pR_s (a := (N + 11)) (show s_K (s_newA (s_pR (s_newA (s_pR (s_newA (s_pR (s_newA (s_pR (s_newA (s_pR (s_newA (s_pI (s_pR (s_newA (s_pR (s_newA (s_pR (s_newA (s_new (S_c N) 10 36) 21 16) 16 (N + 11) (some (N + 12))) 21 16) 17 (N + 11) (some (N + 13))) 22 128) 18 (N + 11) (some (N + 14))) 16 (N + 11) 4) 21 4) 19 (N + 11) (some (N + 15))) 22 4) 20 (N + 11) (some (N + 16))) 21 32) 21 (N + 11) (some (N + 17))) 21 32) 22 (N + 11) (some (N + 18))) 21 32) 23 (N + 11) (some (N + 19))) 21 32) (N + 11) = 10 from by simp [K_new, K_newA, K_pR, K_pI, K_pL, nx_new, nx_newA, nx_pR, nx_pI, nx_pL, Nat.add_assoc, i10_nx])]
  rw [newA_n (n := N + 21) (j := 32) (i := 32) rfl rfl (by decide) ⟨by show N + 21 + 1 ≤ N + 600000; omega, by show 580 + 32 ≤ 7302250; decide⟩]
  rw [pR_s (a := (N + 11)) (show s_K (s_newA (s_pR (s_newA (s_pR (s_newA (s_pR (s_newA (s_pR (s_newA (s_pR (s_newA (s_pR (s_newA (s_pI (s_pR (s_newA (s_pR (s_newA (s_pR (s_newA (s_new (S_c N) 10 36) 21 16) 16 (N + 11) (some (N + 12))) 21 16) 17 (N + 11) (some (N + 13))) 22 128) 18 (N + 11) (some (N + 14))) 16 (N + 11) 4) 21 4) 19 (N + 11) (some (N + 15))) 22 4) 20 (N + 11) (some (N + 16))) 21 32) 21 (N + 11) (some (N + 17))) 21 32) 22 (N + 11) (some (N + 18))) 21 32) 23 (N + 11) (some (N + 19))) 21 32) 24 (N + 11) (some (N + 20))) 22 32) (N + 11) = 10 from by simp [K_new, K_newA, K_pR, K_pI, K_pL, nx_new, nx_newA, nx_pR, nx_pI, nx_pL, Nat.add_assoc, i10_nx])]
  rw [newA_n (n := N + 22) (j := 33) (i := 33) rfl rfl (by decide) ⟨by show N + 22 + 1 ≤ N + 600000; omega, by show 612 + 33 ≤ 7302250; decide⟩]
  rw [pR_s (a := (N + 11)) (show s_K (s_newA (s_pR (s_newA (s_pR (s_newA (s_pR (s_newA (s_pR (s_newA (s_pR (s_newA (s_pR (s_newA (s_pR (s_newA (s_pI (s_pR (s_newA (s_pR (s_newA (s_pR (s_newA (s_new (S_c N) 10 36) 21 16) 16 (N + 11) (some (N + 12))) 21 16) 17 (N + 11) (some (N + 13))) 22 128) 18 (N + 11) (some (N + 14))) 16 (N + 11) 4) 21 4) 19 (N + 11) (some (N + 15))) 22 4) 20 (N + 11) (some (N + 16))) 21 32) 21 (N + 11) (some (N + 17))) 21 32) 22 (N + 11) (some (N + 18))) 21 32) 23 (N + 11) (some (N + 19))) 21 32) 24 (N + 11) (some (N + 20))) 22 32) 25 (N + 11) (some (N + 21))) 21 33) (N + 11) = 10 from by simp [K_new, K_newA, K_pR, K_pI, K_pL, nx_new, nx_newA, nx_pR, nx_pI, nx_pL, Nat.add_assoc, i10_nx])]
  rw [newA_n (n := N + 23) (j := 132) (i := 132) rfl rfl (by decide) ⟨by show N + 23 + 1 ≤ N + 600000; omega, by show 645 + 132 ≤ 7302250; decide⟩]
  rw [pR_s (a := (N + 11)) (show s_K (s_newA (s_pR (s_newA (s_pR (s_newA (s_pR (s_newA (s_pR (s_newA (s_pR (s_newA (s_pR (s_newA (s_pR (s_newA (s_pR (s_newA (s_pI (s_pR (s_newA (s_pR (s_newA (s_pR (s_newA (s_new (S_c N) 10 36) 21 16) 16 (N + 11) (some (N + 12))) 21 16) 17 (N + 11) (some (N + 13))) 22 128) 18 (N + 11) (some (N + 14))) 16 (N + 11) 4) 21 4) 19 (N + 11) (some (N + 15))) 22 4) 20 (N + 11) (some (N + 16))) 21 32) 21 (N + 11) (some (N + 17))) 21 32) 22 (N + 11) (some (N + 18))) 21 32) 23 (N + 11) (some (N + 19))) 21 32) 24 (N + 11) (some (N + 20))) 22 32) 25 (N + 11) (some (N + 21))) 21 33) 26 (N + 11) (some (N + 22))) 21 132) (N + 11) = 10 from by simp [K_new, K_newA, K_pR, K_pI, K_pL, nx_new, nx_newA, nx_pR, nx_pI, nx_pL, Nat.add_assoc, i10_nx])]
  rw [newA_n (n := N + 24) (j := 33) (i := 33) rfl rfl (by decide) ⟨by show N + 24 + 1 ≤ N + 600000; omega, by show 777 + 33 ≤ 7302250; decide⟩]
  rw [pR_s (a := (N + 11)) (show s_K (s_newA (s_pR (s_newA (s_pR (s_newA (s_pR (s_newA (s_pR (s_newA (s_pR (s_newA (s_pR (s_newA (s_pR (s_newA (s_pR (s_newA (s_pR (s_newA (s_pI (s_pR (s_newA (s_pR (s_newA (s_pR (s_newA (s_new (S_c N) 10 36) 21 16) 16 (N + 11) (some (N + 12))) 21 16) 17 (N + 11) (some (N + 13))) 22 128) 18 (N + 11) (some (N + 14))) 16 (N + 11) 4) 21 4) 19 (N + 11) (some (N + 15))) 22 4) 20 (N + 11) (some (N + 16))) 21 32) 21 (N + 11) (some (N + 17))) 21 32) 22 (N + 11) (some (N + 18))) 21 32) 23 (N + 11) (some (N + 19))) 21 32) 24 (N + 11) (some (N + 20))) 22 32) 25 (N + 11) (some (N + 21))) 21 33) 26 (N + 11) (some (N + 22))) 21 132) 27 (N + 11) (some (N + 23))) 21 33) (N + 11) = 10 from by simp [K_new, K_newA, K_pR, K_pI, K_pL, nx_new, nx_newA, nx_pR, nx_pI, nx_pL, Nat.add_assoc, i10_nx])]
  rw [newA_n (n := N + 25) (j := 33) (i := 33) rfl rfl (by decide) ⟨by show N + 25 + 1 ≤ N + 600000; omega, by show 810 + 33 ≤ 7302250; decide⟩]
  rw [pR_s (a := (N + 11)) (show s_K (s_newA (s_pR (s_newA (s_pR (s_newA (s_pR (s_newA (s_pR (s_newA (s_pR (s_newA (s_pR (s_newA (s_pR (s_newA (s_pR (s_newA (s_pR (s_newA (s_pR (s_newA (s_pI (s_pR (s_newA (s_pR (s_newA (s_pR (s_newA (s_new (S_c N) 10 36) 21 16) 16 (N + 11) (some (N + 12))) 21 16) 17 (N + 11) (some (N + 13))) 22 128) 18 (N + 11) (some (N + 14))) 16 (N + 11) 4) 21 4) 19 (N + 11) (some (N + 15))) 22 4) 20 (N + 11) (some (N + 16))) 21 32) 21 (N + 11) (some (N + 17))) 21 32) 22 (N + 11) (some (N + 18))) 21 32) 23 (N + 11) (some (N + 19))) 21 32) 24 (N + 11) (some (N + 20))) 22 32) 25 (N + 11) (some (N + 21))) 21 33) 26 (N + 11) (some (N + 22))) 21 132) 27 (N + 11) (some (N + 23))) 21 33) 28 (N + 11) (some (N + 24))) 21 33) (N + 11) = 10 from by simp [K_new, K_newA, K_pR, K_pI, K_pL, nx_new, nx_newA, nx_pR, nx_pI, nx_pL, Nat.add_assoc, i10_nx])]
  rw [newA_n (n := N + 26) (j := 33) (i := 33) rfl rfl (by decide) ⟨by show N + 26 + 1 ≤ N + 600000; omega, by show 843 + 33 ≤ 7302250; decide⟩]
  rw [pR_s (a := (N + 11)) (show s_K (s_newA (s_pR (s_newA (s_pR (s_newA (s_pR (s_newA (s_pR (s_newA (s_pR (s_newA (s_pR (s_newA (s_pR (s_newA (s_pR (s_newA (s_pR (s_newA (s_pR (s_newA (s_pR (s_newA (s_pI (s_pR (s_newA (s_pR (s_newA (s_pR (s_newA (s_new (S_c N) 10 36) 21 16) 16 (N + 11) (some (N + 12))) 21 16) 17 (N + 11) (some (N + 13))) 22 128) 18 (N + 11) (some (N + 14))) 16 (N + 11) 4) 21 4) 19 (N + 11) (some (N + 15))) 22 4) 20 (N + 11) (some (N + 16))) 21 32) 21 (N + 11) (some (N + 17))) 21 32) 22 (N + 11) (some (N + 18))) 21 32) 23 (N + 11) (some (N + 19))) 21 32) 24 (N + 11) (some (N + 20))) 22 32) 25 (N + 11) (some (N + 21))) 21 33) 26 (N + 11) (some (N + 22))) 21 132) 27 (N + 11) (some (N + 23))) 21 33) 28 (N + 11) (some (N + 24))) 21 33) 29 (N + 11) (some (N + 25))) 21 33) (N + 11) = 10 from by simp [K_new, K_newA, K_pR, K_pI, K_pL, nx_new, nx_newA, nx_pR, nx_pI, nx_pL, Nat.add_assoc, i10_nx])]
  rw [newA_n (n := N + 27) (j := 132) (i := 132) rfl rfl (by decide) ⟨by show N + 27 + 1 ≤ N + 600000; omega, by show 876 + 132 ≤ 7302250; decide⟩]
  rw [pR_s (a := (N + 11)) (show s_K (s_newA (s_pR (s_newA (s_pR (s_newA (s_pR (s_newA (s_pR (s_newA (s_pR (s_newA (s_pR (s_newA (s_pR (s_newA (s_pR (s_newA (s_pR (s_newA (s_pR (s_newA (s_pR (s_newA (s_pR (s_newA (s_pI (s_pR (s_newA (s_pR (s_newA (s_pR (s_newA (s_new (S_c N) 10 36) 21 16) 16 (N + 11) (some (N + 12))) 21 16) 17 (N + 11) (some (N + 13))) 22 128) 18 (N + 11) (some (N + 14))) 16 (N + 11) 4) 21 4) 19 (N + 11) (some (N + 15))) 22 4) 20 (N + 11) (some (N + 16))) 21 32) 21 (N + 11) (some (N + 17))) 21 32) 22 (N + 11) (some (N + 18))) 21 32) 23 (N + 11) (some (N + 19))) 21 32) 24 (N + 11) (some (N + 20))) 22 32) 25 (N + 11) (some (N + 21))) 21 33) 26 (N + 11) (some (N + 22))) 21 132) 27 (N + 11) (some (N + 23))) 21 33) 28 (N + 11) (some (N + 24))) 21 33) 29 (N + 11) (some (N + 25))) 21 33) 30 (N + 11) (some (N + 26))) 22 132) (N + 11) = 10 from by simp [K_new, K_newA, K_pR, K_pI, K_pL, nx_new, nx_newA, nx_pR, nx_pI, nx_pL, Nat.add_assoc, i10_nx])]
  rw [newA_n (n := N + 28) (j := 33) (i := 33) rfl rfl (by decide) ⟨by show N + 28 + 1 ≤ N + 600000; omega, by show 1008 + 33 ≤ 7302250; decide⟩]
  rw [pR_s (a := (N + 11)) (show s_K (s_newA (s_pR (s_newA (s_pR (s_newA (s_pR (s_newA (s_pR (s_newA (s_pR (s_newA (s_pR (s_newA (s_pR (s_newA (s_pR (s_newA (s_pR (s_newA (s_pR (s_newA (s_pR (s_newA (s_pR (s_newA (s_pR (s_newA (s_pI (s_pR (s_newA (s_pR (s_newA (s_pR (s_newA (s_new (S_c N) 10 36) 21 16) 16 (N + 11) (some (N + 12))) 21 16) 17 (N + 11) (some (N + 13))) 22 128) 18 (N + 11) (some (N + 14))) 16 (N + 11) 4) 21 4) 19 (N + 11) (some (N + 15))) 22 4) 20 (N + 11) (some (N + 16))) 21 32) 21 (N + 11) (some (N + 17))) 21 32) 22 (N + 11) (some (N + 18))) 21 32) 23 (N + 11) (some (N + 19))) 21 32) 24 (N + 11) (some (N + 20))) 22 32) 25 (N + 11) (some (N + 21))) 21 33) 26 (N + 11) (some (N + 22))) 21 132) 27 (N + 11) (some (N + 23))) 21 33) 28 (N + 11) (some (N + 24))) 21 33) 29 (N + 11) (some (N + 25))) 21 33) 30 (N + 11) (some (N + 26))) 22 132) 31 (N + 11) (some (N + 27))) 22 33) (N + 11) = 10 from by simp [K_new, K_newA, K_pR, K_pI, K_pL, nx_new, nx_newA, nx_pR, nx_pI, nx_pL, Nat.add_assoc, i10_nx])]
  rw [newA_n (n := N + 29) (j := 33) (i := 33) rfl rfl (by decide) ⟨by show N + 29 + 1 ≤ N + 600000; omega, by show 1041 + 33 ≤ 7302250; decide⟩]
  rw [pR_s (a := (N + 11)) (show s_K (s_newA (s_pR (s_newA (s_pR (s_newA (s_pR (s_newA (s_pR (s_newA (s_pR (s_newA (s_pR (s_newA (s_pR (s_newA (s_pR (s_newA (s_pR (s_newA (s_pR (s_newA (s_pR (s_newA (s_pR (s_newA (s_pR (s_newA (s_pR (s_newA (s_pI (s_pR (s_newA (s_pR (s_newA (s_pR (s_newA (s_new (S_c N) 10 36) 21 16) 16 (N + 11) (some (N + 12))) 21 16) 17 (N + 11) (some (N + 13))) 22 128) 18 (N + 11) (some (N + 14))) 16 (N + 11) 4) 21 4) 19 (N + 11) (some (N + 15))) 22 4) 20 (N + 11) (some (N + 16))) 21 32) 21 (N + 11) (some (N + 17))) 21 32) 22 (N + 11) (some (N + 18))) 21 32) 23 (N + 11) (some (N + 19))) 21 32) 24 (N + 11) (some (N + 20))) 22 32) 25 (N + 11) (some (N + 21))) 21 33) 26 (N + 11) (some (N + 22))) 21 132) 27 (N + 11) (some (N + 23))) 21 33) 28 (N + 11) (some (N + 24))) 21 33) 29 (N + 11) (some (N + 25))) 21 33) 30 (N + 11) (some (N + 26))) 22 132) 31 (N + 11) (some (N + 27))) 22 33) 32 (N + 11) (some (N + 28))) 21 33) (N + 11) = 10 from by simp [K_new, K_newA, K_pR, K_pI, K_pL, nx_new, nx_newA, nx_pR, nx_pI, nx_pL, Nat.add_assoc, i10_nx])]
  rw [newA_n (n := N + 30) (j := 33) (i := 33) rfl rfl (by decide) ⟨by show N + 30 + 1 ≤ N + 600000; omega, by show 1074 + 33 ≤ 7302250; decide⟩]
  rw [pR_s (a := (N + 11)) (show s_K (s_newA (s_pR (s_newA (s_pR (s_newA (s_pR (s_newA (s_pR (s_newA (s_pR (s_newA (s_pR (s_newA (s_pR (s_newA (s_pR (s_newA (s_pR (s_newA (s_pR (s_newA (s_pR (s_newA (s_pR (s_newA (s_pR (s_newA (s_pR (s_newA (s_pR (s_newA (s_pI (s_pR (s_newA (s_pR (s_newA (s_pR (s_newA (s_new (S_c N) 10 36) 21 16) 16 (N + 11) (some (N + 12))) 21 16) 17 (N + 11) (some (N + 13))) 22 128) 18 (N + 11) (some (N + 14))) 16 (N + 11) 4) 21 4) 19 (N + 11) (some (N + 15))) 22 4) 20 (N + 11) (some (N + 16))) 21 32) 21 (N + 11) (some (N + 17))) 21 32) 22 (N + 11) (some (N + 18))) 21 32) 23 (N + 11) (some (N + 19))) 21 32) 24 (N + 11) (some (N + 20))) 22 32) 25 (N + 11) (some (N + 21))) 21 33) 26 (N + 11) (some (N + 22))) 21 132) 27 (N + 11) (some (N + 23))) 21 33) 28 (N + 11) (some (N + 24))) 21 33) 29 (N + 11) (some (N + 25))) 21 33) 30 (N + 11) (some (N + 26))) 22 132) 31 (N + 11) (some (N + 27))) 22 33) 32 (N + 11) (some (N + 28))) 21 33) 33 (N + 11) (some (N + 29))) 21 33) (N + 11) = 10 from by simp [K_new, K_newA, K_pR, K_pI, K_pL, nx_new, nx_newA, nx_pR, nx_pI, nx_pL, Nat.add_assoc, i10_nx])]
  rw [pI_s (a := (N + 11)) (show s_K (s_pR (s_newA (s_pR (s_newA (s_pR (s_newA (s_pR (s_newA (s_pR (s_newA (s_pR (s_newA (s_pR (s_newA (s_pR (s_newA (s_pR (s_newA (s_pR (s_newA (s_pR (s_newA (s_pR (s_newA (s_pR (s_newA (s_pR (s_newA (s_pR (s_newA (s_pR (s_newA (s_pI (s_pR (s_newA (s_pR (s_newA (s_pR (s_newA (s_new (S_c N) 10 36) 21 16) 16 (N + 11) (some (N + 12))) 21 16) 17 (N + 11) (some (N + 13))) 22 128) 18 (N + 11) (some (N + 14))) 16 (N + 11) 4) 21 4) 19 (N + 11) (some (N + 15))) 22 4) 20 (N + 11) (some (N + 16))) 21 32) 21 (N + 11) (some (N + 17))) 21 32) 22 (N + 11) (some (N + 18))) 21 32) 23 (N + 11) (some (N + 19))) 21 32) 24 (N + 11) (some (N + 20))) 22 32) 25 (N + 11) (some (N + 21))) 21 33) 26 (N + 11) (some (N + 22))) 21 132) 27 (N + 11) (some (N + 23))) 21 33) 28 (N + 11) (some (N + 24))) 21 33) 29 (N + 11) (some (N + 25))) 21 33) 30 (N + 11) (some (N + 26))) 22 132) 31 (N + 11) (some (N + 27))) 22 33) 32 (N + 11) (some (N + 28))) 21 33) 33 (N + 11) (some (N + 29))) 21 33) 34 (N + 11) (some (N + 30))) (N + 11) = 10 from by simp [K_new, K_newA, K_pR, K_pI, K_pL, nx_new, nx_newA, nx_pR, nx_pI, nx_pL, Nat.add_assoc, i10_nx])]
  rw [newA_n (n := N + 31) (j := 4) (i := 4) rfl rfl (by decide) ⟨by show N + 31 + 1 ≤ N + 600000; omega, by show 1107 + 4 ≤ 7302250; decide⟩]
  rw [pR_s (a := (N + 11)) (show s_K (s_newA (s_pI (s_pR (s_newA (s_pR (s_newA (s_pR (s_newA (s_pR (s_newA (s_pR (s_newA (s_pR (s_newA (s_pR (s_newA (s_pR (s_newA (s_pR (s_newA (s_pR (s_newA (s_pR (s_newA (s_pR (s_newA (s_pR (s_newA (s_pR (s_newA (s_pR (s_newA (s_pR (s_newA (s_pI (s_pR (s_newA (s_pR (s_newA (s_pR (s_newA (s_new (S_c N) 10 36) 21 16) 16 (N + 11) (some (N + 12))) 21 16) 17 (N + 11) (some (N + 13))) 22 128) 18 (N + 11) (some (N + 14))) 16 (N + 11) 4) 21 4) 19 (N + 11) (some (N + 15))) 22 4) 20 (N + 11) (some (N + 16))) 21 32) 21 (N + 11) (some (N + 17))) 21 32) 22 (N + 11) (some (N + 18))) 21 32) 23 (N + 11) (some (N + 19))) 21 32) 24 (N + 11) (some (N + 20))) 22 32) 25 (N + 11) (some (N + 21))) 21 33) 26 (N + 11) (some (N + 22))) 21 132) 27 (N + 11) (some (N + 23))) 21 33) 28 (N + 11) (some (N + 24))) 21 33) 29 (N + 11) (some (N + 25))) 21 33) 30 (N + 11) (some (N + 26))) 22 132) 31 (N + 11) (some (N + 27))) 22 33) 32 (N + 11) (some (N + 28))) 21 33) 33 (N + 11) (some (N + 29))) 21 33) 34 (N + 11) (some (N + 30))) 26 (N + 11) (-1)) 22 4) (N + 11) = 10 from by simp [K_new, K_newA, K_pR, K_pI, K_pL, nx_new, nx_newA, nx_pR, nx_pI, nx_pL, Nat.add_assoc, i10_nx])]
  rfl
theorem x11_nx : s_nx (S_m N) = N + 32 := rfl
theorem x11_sl : s_sl (S_m N) = 1111 := rfl
theorem x11_lm : s_lm (S_m N) = N + 600000 := rfl
theorem x11_sm : s_sm (S_m N) = 7302250 := rfl
set_option maxRecDepth 100000 in
set_option maxHeartbeats 4000000 in
theorem x11_ext : s_ext (S_c N) (S_m N) := by
  have w : ∀ k, 11 ≤ k → s_K (S_c N) (N + k) = 0 := fun k hk => i10_wf _ (by show N + 11 ≤ N + k; omega)
  exact (((((((((((((((((((((((((((((((((((((((((((s_ext.refl (S_c N)).new (w 11 (by decide))).newA (w 12 (by decide))).pR (w 11 (by decide)) _).newA (w 13 (by decide))).pR (w 11 (by decide)) _).newA (w 14 (by decide))).pR (w 11 (by decide)) _).pI (w 11 (by decide)) _).newA (w 15 (by decide))).pR (w 11 (by decide)) _).newA (w 16 (by decide))).pR (w 11 (by decide)) _).newA (w 17 (by decide))).pR (w 11 (by decide)) _).newA (w 18 (by decide))).pR (w 11 (by decide)) _).newA (w 19 (by decide))).pR (w 11 (by decide)) _).newA (w 20 (by decide))).pR (w 11 (by decide)) _).newA (w 21 (by decide))).pR (w 11 (by decide)) _).newA (w 22 (by decide))).pR (w 11 (by decide)) _).newA (w 23 (by decide))).pR (w 11 (by decide)) _).newA (w 24 (by decide))).pR (w 11 (by decide)) _).newA (w 25 (by decide))).pR (w 11 (by decide)) _).newA (w 26 (by decide))).pR (w 11 (by decide)) _).newA (w 27 (by decide))).pR (w 11 (by decide)) _).newA (w 28 (by decide))).pR (w 11 (by decide)) _).newA (w 29 (by decide))).pR (w 11 (by decide)) _).newA (w 30 (by decide))).pR (w 11 (by decide)) _).pI (w 11 (by decide)) _).newA (w 31 (by decide))).pR (w 11 (by decide)) _
set_option maxRecDepth 100000 in
set_option maxHeartbeats 4000000 in
theorem x11_wf : s_wf (S_m N) := by
  intro a ha
  have ha : N + 32 ≤ a := ha
  have h : s_K (S_c N) a = 0 := i10_wf a (by show N + 11 ≤ a; omega)
  unfold S_m
  simp only [K_new, K_newA, K_pR, K_pI, K_pL, nx_new, nx_newA, nx_pR, nx_pI, nx_pL, Nat.add_assoc, i10_nx, h]
  repeat rw [if_neg (by omega)]

def adM (N : Nat) : Nat → Nat := fun k => N + [11, 12, 13, 15, 17, 18, 19, 20, 22, 23, 24, 25, 26, 29, 30, 14, 16, 21, 27, 28, 31].getD k 0
def g_0 : mS := ((fun k => if k = 1 then 4 else if k = 11 then -1 else 0), (fun _ => 0), (fun _ _ => 0), fun _ _ => 0)
set_option maxRecDepth 100000 in
set_option maxHeartbeats 4000000 in
theorem x11_E0 (Y : Nat → ClassId) : s_K (S_m N) (adM N 0) ≠ 0 ∧ wE Y (S_m N) (adM N 0) = mE Y (adM N) g_0 0 := by
  have k : s_K (S_m N) (N + 11) = 10 := by simp [S_m, K_new, K_newA, K_pR, K_pI, K_pL, nx_new, nx_newA, nx_pR, nx_pI, nx_pL, Nat.add_assoc, i10_nx]
  refine ⟨nz k (by decide), ?_⟩
  show wE Y (S_m N) (N + 11) = .inr (9, mF (adM N) g_0)
  rw [wE_X11 k]
  simp [S_m, mF, m_I, m_L, g_0, adM, va_rf, K_new, K_newA, K_pR, K_pI, K_pL, nx_new, nx_newA, nx_pR, nx_pI, nx_pL, Nat.add_assoc, i10_nx, I_new, I_newA, I_pR, I_pI, I_pL, L_new, L_newA, L_pR, L_pI, L_pL, R_new, R_newA, R_pR, R_pI, R_pL, n_new, n_newA, n_pR, n_pI, n_pL, aI_new, aI_newA, aI_pR, aI_pI, aI_pL, aL_new, aL_newA, aL_pR, aL_pI, aL_pL, aR_new, aR_newA, aR_pR, aR_pI, aR_pL]
set_option maxRecDepth 100000 in
set_option maxHeartbeats 4000000 in
theorem x11_E1 (Y : Nat → ClassId) : s_K (S_m N) (adM N 1) ≠ 0 ∧ wE Y (S_m N) (adM N 1) = mE Y (adM N) g_0 1 := by
  have k : s_K (S_m N) (N + 12) = 21 := by simp [S_m, K_new, K_newA, K_pR, K_pI, K_pL, nx_new, nx_newA, nx_pR, nx_pI, nx_pL, Nat.add_assoc, i10_nx]
  refine ⟨nz k (by decide), ?_⟩
  show wE Y (S_m N) (N + 12) = .inl (Y 0, m_n 1, .inl (m_aI g_0 1))
  rw [wE_21 k]
  simp [S_m, m_n, m_aI, m_aL, g_0, K_new, K_newA, K_pR, K_pI, K_pL, nx_new, nx_newA, nx_pR, nx_pI, nx_pL, Nat.add_assoc, i10_nx, I_new, I_newA, I_pR, I_pI, I_pL, L_new, L_newA, L_pR, L_pI, L_pL, R_new, R_newA, R_pR, R_pI, R_pL, n_new, n_newA, n_pR, n_pI, n_pL, aI_new, aI_newA, aI_pR, aI_pI, aI_pL, aL_new, aL_newA, aL_pR, aL_pI, aL_pL, aR_new, aR_newA, aR_pR, aR_pI, aR_pL]
set_option maxRecDepth 100000 in
set_option maxHeartbeats 4000000 in
theorem x11_E2 (Y : Nat → ClassId) : s_K (S_m N) (adM N 2) ≠ 0 ∧ wE Y (S_m N) (adM N 2) = mE Y (adM N) g_0 2 := by
  have k : s_K (S_m N) (N + 13) = 21 := by simp [S_m, K_new, K_newA, K_pR, K_pI, K_pL, nx_new, nx_newA, nx_pR, nx_pI, nx_pL, Nat.add_assoc, i10_nx]
  refine ⟨nz k (by decide), ?_⟩
  show wE Y (S_m N) (N + 13) = .inl (Y 0, m_n 2, .inl (m_aI g_0 2))
  rw [wE_21 k]
  simp [S_m, m_n, m_aI, m_aL, g_0, K_new, K_newA, K_pR, K_pI, K_pL, nx_new, nx_newA, nx_pR, nx_pI, nx_pL, Nat.add_assoc, i10_nx, I_new, I_newA, I_pR, I_pI, I_pL, L_new, L_newA, L_pR, L_pI, L_pL, R_new, R_newA, R_pR, R_pI, R_pL, n_new, n_newA, n_pR, n_pI, n_pL, aI_new, aI_newA, aI_pR, aI_pI, aI_pL, aL_new, aL_newA, aL_pR, aL_pI, aL_pL, aR_new, aR_newA, aR_pR, aR_pI, aR_pL]
set_option maxRecDepth 100000 in
set_option maxHeartbeats 4000000 in
theorem x11_E3 (Y : Nat → ClassId) : s_K (S_m N) (adM N 3) ≠ 0 ∧ wE Y (S_m N) (adM N 3) = mE Y (adM N) g_0 3 := by
  have k : s_K (S_m N) (N + 15) = 21 := by simp [S_m, K_new, K_newA, K_pR, K_pI, K_pL, nx_new, nx_newA, nx_pR, nx_pI, nx_pL, Nat.add_assoc, i10_nx]
  refine ⟨nz k (by decide), ?_⟩
  show wE Y (S_m N) (N + 15) = .inl (Y 0, m_n 3, .inl (m_aI g_0 3))
  rw [wE_21 k]
  simp [S_m, m_n, m_aI, m_aL, g_0, K_new, K_newA, K_pR, K_pI, K_pL, nx_new, nx_newA, nx_pR, nx_pI, nx_pL, Nat.add_assoc, i10_nx, I_new, I_newA, I_pR, I_pI, I_pL, L_new, L_newA, L_pR, L_pI, L_pL, R_new, R_newA, R_pR, R_pI, R_pL, n_new, n_newA, n_pR, n_pI, n_pL, aI_new, aI_newA, aI_pR, aI_pI, aI_pL, aL_new, aL_newA, aL_pR, aL_pI, aL_pL, aR_new, aR_newA, aR_pR, aR_pI, aR_pL]
set_option maxRecDepth 100000 in
set_option maxHeartbeats 4000000 in
theorem x11_E4 (Y : Nat → ClassId) : s_K (S_m N) (adM N 4) ≠ 0 ∧ wE Y (S_m N) (adM N 4) = mE Y (adM N) g_0 4 := by
  have k : s_K (S_m N) (N + 17) = 21 := by simp [S_m, K_new, K_newA, K_pR, K_pI, K_pL, nx_new, nx_newA, nx_pR, nx_pI, nx_pL, Nat.add_assoc, i10_nx]
  refine ⟨nz k (by decide), ?_⟩
  show wE Y (S_m N) (N + 17) = .inl (Y 0, m_n 4, .inl (m_aI g_0 4))
  rw [wE_21 k]
  simp [S_m, m_n, m_aI, m_aL, g_0, K_new, K_newA, K_pR, K_pI, K_pL, nx_new, nx_newA, nx_pR, nx_pI, nx_pL, Nat.add_assoc, i10_nx, I_new, I_newA, I_pR, I_pI, I_pL, L_new, L_newA, L_pR, L_pI, L_pL, R_new, R_newA, R_pR, R_pI, R_pL, n_new, n_newA, n_pR, n_pI, n_pL, aI_new, aI_newA, aI_pR, aI_pI, aI_pL, aL_new, aL_newA, aL_pR, aL_pI, aL_pL, aR_new, aR_newA, aR_pR, aR_pI, aR_pL]
set_option maxRecDepth 100000 in
set_option maxHeartbeats 4000000 in
theorem x11_E5 (Y : Nat → ClassId) : s_K (S_m N) (adM N 5) ≠ 0 ∧ wE Y (S_m N) (adM N 5) = mE Y (adM N) g_0 5 := by
  have k : s_K (S_m N) (N + 18) = 21 := by simp [S_m, K_new, K_newA, K_pR, K_pI, K_pL, nx_new, nx_newA, nx_pR, nx_pI, nx_pL, Nat.add_assoc, i10_nx]
  refine ⟨nz k (by decide), ?_⟩
  show wE Y (S_m N) (N + 18) = .inl (Y 0, m_n 5, .inl (m_aI g_0 5))
  rw [wE_21 k]
  simp [S_m, m_n, m_aI, m_aL, g_0, K_new, K_newA, K_pR, K_pI, K_pL, nx_new, nx_newA, nx_pR, nx_pI, nx_pL, Nat.add_assoc, i10_nx, I_new, I_newA, I_pR, I_pI, I_pL, L_new, L_newA, L_pR, L_pI, L_pL, R_new, R_newA, R_pR, R_pI, R_pL, n_new, n_newA, n_pR, n_pI, n_pL, aI_new, aI_newA, aI_pR, aI_pI, aI_pL, aL_new, aL_newA, aL_pR, aL_pI, aL_pL, aR_new, aR_newA, aR_pR, aR_pI, aR_pL]
set_option maxRecDepth 100000 in
set_option maxHeartbeats 4000000 in
theorem x11_E6 (Y : Nat → ClassId) : s_K (S_m N) (adM N 6) ≠ 0 ∧ wE Y (S_m N) (adM N 6) = mE Y (adM N) g_0 6 := by
  have k : s_K (S_m N) (N + 19) = 21 := by simp [S_m, K_new, K_newA, K_pR, K_pI, K_pL, nx_new, nx_newA, nx_pR, nx_pI, nx_pL, Nat.add_assoc, i10_nx]
  refine ⟨nz k (by decide), ?_⟩
  show wE Y (S_m N) (N + 19) = .inl (Y 0, m_n 6, .inl (m_aI g_0 6))
  rw [wE_21 k]
  simp [S_m, m_n, m_aI, m_aL, g_0, K_new, K_newA, K_pR, K_pI, K_pL, nx_new, nx_newA, nx_pR, nx_pI, nx_pL, Nat.add_assoc, i10_nx, I_new, I_newA, I_pR, I_pI, I_pL, L_new, L_newA, L_pR, L_pI, L_pL, R_new, R_newA, R_pR, R_pI, R_pL, n_new, n_newA, n_pR, n_pI, n_pL, aI_new, aI_newA, aI_pR, aI_pI, aI_pL, aL_new, aL_newA, aL_pR, aL_pI, aL_pL, aR_new, aR_newA, aR_pR, aR_pI, aR_pL]
set_option maxRecDepth 100000 in
set_option maxHeartbeats 4000000 in
theorem x11_E7 (Y : Nat → ClassId) : s_K (S_m N) (adM N 7) ≠ 0 ∧ wE Y (S_m N) (adM N 7) = mE Y (adM N) g_0 7 := by
  have k : s_K (S_m N) (N + 20) = 21 := by simp [S_m, K_new, K_newA, K_pR, K_pI, K_pL, nx_new, nx_newA, nx_pR, nx_pI, nx_pL, Nat.add_assoc, i10_nx]
  refine ⟨nz k (by decide), ?_⟩
  show wE Y (S_m N) (N + 20) = .inl (Y 0, m_n 7, .inl (m_aI g_0 7))
  rw [wE_21 k]
  simp [S_m, m_n, m_aI, m_aL, g_0, K_new, K_newA, K_pR, K_pI, K_pL, nx_new, nx_newA, nx_pR, nx_pI, nx_pL, Nat.add_assoc, i10_nx, I_new, I_newA, I_pR, I_pI, I_pL, L_new, L_newA, L_pR, L_pI, L_pL, R_new, R_newA, R_pR, R_pI, R_pL, n_new, n_newA, n_pR, n_pI, n_pL, aI_new, aI_newA, aI_pR, aI_pI, aI_pL, aL_new, aL_newA, aL_pR, aL_pI, aL_pL, aR_new, aR_newA, aR_pR, aR_pI, aR_pL]
set_option maxRecDepth 100000 in
set_option maxHeartbeats 4000000 in
theorem x11_E8 (Y : Nat → ClassId) : s_K (S_m N) (adM N 8) ≠ 0 ∧ wE Y (S_m N) (adM N 8) = mE Y (adM N) g_0 8 := by
  have k : s_K (S_m N) (N + 22) = 21 := by simp [S_m, K_new, K_newA, K_pR, K_pI, K_pL, nx_new, nx_newA, nx_pR, nx_pI, nx_pL, Nat.add_assoc, i10_nx]
  refine ⟨nz k (by decide), ?_⟩
  show wE Y (S_m N) (N + 22) = .inl (Y 0, m_n 8, .inl (m_aI g_0 8))
  rw [wE_21 k]
  simp [S_m, m_n, m_aI, m_aL, g_0, K_new, K_newA, K_pR, K_pI, K_pL, nx_new, nx_newA, nx_pR, nx_pI, nx_pL, Nat.add_assoc, i10_nx, I_new, I_newA, I_pR, I_pI, I_pL, L_new, L_newA, L_pR, L_pI, L_pL, R_new, R_newA, R_pR, R_pI, R_pL, n_new, n_newA, n_pR, n_pI, n_pL, aI_new, aI_newA, aI_pR, aI_pI, aI_pL, aL_new, aL_newA, aL_pR, aL_pI, aL_pL, aR_new, aR_newA, aR_pR, aR_pI, aR_pL]
set_option maxRecDepth 100000 in
set_option maxHeartbeats 4000000 in
theorem x11_E9 (Y : Nat → ClassId) : s_K (S_m N) (adM N 9) ≠ 0 ∧ wE Y (S_m N) (adM N 9) = mE Y (adM N) g_0 9 := by
  have k : s_K (S_m N) (N + 23) = 21 := by simp [S_m, K_new, K_newA, K_pR, K_pI, K_pL, nx_new, nx_newA, nx_pR, nx_pI, nx_pL, Nat.add_assoc, i10_nx]
  refine ⟨nz k (by decide), ?_⟩
  show wE Y (S_m N) (N + 23) = .inl (Y 0, m_n 9, .inl (m_aI g_0 9))
  rw [wE_21 k]
  simp [S_m, m_n, m_aI, m_aL, g_0, K_new, K_newA, K_pR, K_pI, K_pL, nx_new, nx_newA, nx_pR, nx_pI, nx_pL, Nat.add_assoc, i10_nx, I_new, I_newA, I_pR, I_pI, I_pL, L_new, L_newA, L_pR, L_pI, L_pL, R_new, R_newA, R_pR, R_pI, R_pL, n_new, n_newA, n_pR, n_pI, n_pL, aI_new, aI_newA, aI_pR, aI_pI, aI_pL, aL_new, aL_newA, aL_pR, aL_pI, aL_pL, aR_new, aR_newA, aR_pR, aR_pI, aR_pL]
set_option maxRecDepth 100000 in
set_option maxHeartbeats 4000000 in
theorem x11_E10 (Y : Nat → ClassId) : s_K (S_m N) (adM N 10) ≠ 0 ∧ wE Y (S_m N) (adM N 10) = mE Y (adM N) g_0 10 := by
  have k : s_K (S_m N) (N + 24) = 21 := by simp [S_m, K_new, K_newA, K_pR, K_pI, K_pL, nx_new, nx_newA, nx_pR, nx_pI, nx_pL, Nat.add_assoc, i10_nx]
  refine ⟨nz k (by decide), ?_⟩
  show wE Y (S_m N) (N + 24) = .inl (Y 0, m_n 10, .inl (m_aI g_0 10))
  rw [wE_21 k]
  simp [S_m, m_n, m_aI, m_aL, g_0, K_new, K_newA, K_pR, K_pI, K_pL, nx_new, nx_newA, nx_pR, nx_pI, nx_pL, Nat.add_assoc, i10_nx, I_new, I_newA, I_pR, I_pI, I_pL, L_new, L_newA, L_pR, L_pI, L_pL, R_new, R_newA, R_pR, R_pI, R_pL, n_new, n_newA, n_pR, n_pI, n_pL, aI_new, aI_newA, aI_pR, aI_pI, aI_pL, aL_new, aL_newA, aL_pR, aL_pI, aL_pL, aR_new, aR_newA, aR_pR, aR_pI, aR_pL]
set_option maxRecDepth 100000 in
set_option maxHeartbeats 4000000 in
theorem x11_E11 (Y : Nat → ClassId) : s_K (S_m N) (adM N 11) ≠ 0 ∧ wE Y (S_m N) (adM N 11) = mE Y (adM N) g_0 11 := by
  have k : s_K (S_m N) (N + 25) = 21 := by simp [S_m, K_new, K_newA, K_pR, K_pI, K_pL, nx_new, nx_newA, nx_pR, nx_pI, nx_pL, Nat.add_assoc, i10_nx]
  refine ⟨nz k (by decide), ?_⟩
  show wE Y (S_m N) (N + 25) = .inl (Y 0, m_n 11, .inl (m_aI g_0 11))
  rw [wE_21 k]
  simp [S_m, m_n, m_aI, m_aL, g_0, K_new, K_newA, K_pR, K_pI, K_pL, nx_new, nx_newA, nx_pR, nx_pI, nx_pL, Nat.add_assoc, i10_nx, I_new, I_newA, I_pR, I_pI, I_pL, L_new, L_newA, L_pR, L_pI, L_pL, R_new, R_newA, R_pR, R_pI, R_pL, n_new, n_newA, n_pR, n_pI, n_pL, aI_new, aI_newA, aI_pR, aI_pI, aI_pL, aL_new, aL_newA, aL_pR, aL_pI, aL_pL, aR_new, aR_newA, aR_pR, aR_pI, aR_pL]
set_option maxRecDepth 100000 in
set_option maxHeartbeats 4000000 in
theorem x11_E12 (Y : Nat → ClassId) : s_K (S_m N) (adM N 12) ≠ 0 ∧ wE Y (S_m N) (adM N 12) = mE Y (adM N) g_0 12 := by
  have k : s_K (S_m N) (N + 26) = 21 := by simp [S_m, K_new, K_newA, K_pR, K_pI, K_pL, nx_new, nx_newA, nx_pR, nx_pI, nx_pL, Nat.add_assoc, i10_nx]
  refine ⟨nz k (by decide), ?_⟩
  show wE Y (S_m N) (N + 26) = .inl (Y 0, m_n 12, .inl (m_aI g_0 12))
  rw [wE_21 k]
  simp [S_m, m_n, m_aI, m_aL, g_0, K_new, K_newA, K_pR, K_pI, K_pL, nx_new, nx_newA, nx_pR, nx_pI, nx_pL, Nat.add_assoc, i10_nx, I_new, I_newA, I_pR, I_pI, I_pL, L_new, L_newA, L_pR, L_pI, L_pL, R_new, R_newA, R_pR, R_pI, R_pL, n_new, n_newA, n_pR, n_pI, n_pL, aI_new, aI_newA, aI_pR, aI_pI, aI_pL, aL_new, aL_newA, aL_pR, aL_pI, aL_pL, aR_new, aR_newA, aR_pR, aR_pI, aR_pL]
set_option maxRecDepth 100000 in
set_option maxHeartbeats 4000000 in
theorem x11_E13 (Y : Nat → ClassId) : s_K (S_m N) (adM N 13) ≠ 0 ∧ wE Y (S_m N) (adM N 13) = mE Y (adM N) g_0 13 := by
  have k : s_K (S_m N) (N + 29) = 21 := by simp [S_m, K_new, K_newA, K_pR, K_pI, K_pL, nx_new, nx_newA, nx_pR, nx_pI, nx_pL, Nat.add_assoc, i10_nx]
  refine ⟨nz k (by decide), ?_⟩
  show wE Y (S_m N) (N + 29) = .inl (Y 0, m_n 13, .inl (m_aI g_0 13))
  rw [wE_21 k]
  simp [S_m, m_n, m_aI, m_aL, g_0, K_new, K_newA, K_pR, K_pI, K_pL, nx_new, nx_newA, nx_pR, nx_pI, nx_pL, Nat.add_assoc, i10_nx, I_new, I_newA, I_pR, I_pI, I_pL, L_new, L_newA, L_pR, L_pI, L_pL, R_new, R_newA, R_pR, R_pI, R_pL, n_new, n_newA, n_pR, n_pI, n_pL, aI_new, aI_newA, aI_pR, aI_pI, aI_pL, aL_new, aL_newA, aL_pR, aL_pI, aL_pL, aR_new, aR_newA, aR_pR, aR_pI, aR_pL]
set_option maxRecDepth 100000 in
set_option maxHeartbeats 4000000 in
theorem x11_E14 (Y : Nat → ClassId) : s_K (S_m N) (adM N 14) ≠ 0 ∧ wE Y (S_m N) (adM N 14) = mE Y (adM N) g_0 14 := by
  have k : s_K (S_m N) (N + 30) = 21 := by simp [S_m, K_new, K_newA, K_pR, K_pI, K_pL, nx_new, nx_newA, nx_pR, nx_pI, nx_pL, Nat.add_assoc, i10_nx]
  refine ⟨nz k (by decide), ?_⟩
  show wE Y (S_m N) (N + 30) = .inl (Y 0, m_n 14, .inl (m_aI g_0 14))
  rw [wE_21 k]
  simp [S_m, m_n, m_aI, m_aL, g_0, K_new, K_newA, K_pR, K_pI, K_pL, nx_new, nx_newA, nx_pR, nx_pI, nx_pL, Nat.add_assoc, i10_nx, I_new, I_newA, I_pR, I_pI, I_pL, L_new, L_newA, L_pR, L_pI, L_pL, R_new, R_newA, R_pR, R_pI, R_pL, n_new, n_newA, n_pR, n_pI, n_pL, aI_new, aI_newA, aI_pR, aI_pI, aI_pL, aL_new, aL_newA, aL_pR, aL_pI, aL_pL, aR_new, aR_newA, aR_pR, aR_pI, aR_pL]
set_option maxRecDepth 100000 in
set_option maxHeartbeats 4000000 in
theorem x11_E15 (Y : Nat → ClassId) : s_K (S_m N) (adM N 15) ≠ 0 ∧ wE Y (S_m N) (adM N 15) = mE Y (adM N) g_0 15 := by
  have k : s_K (S_m N) (N + 14) = 22 := by simp [S_m, K_new, K_newA, K_pR, K_pI, K_pL, nx_new, nx_newA, nx_pR, nx_pI, nx_pL, Nat.add_assoc, i10_nx]
  refine ⟨nz k (by decide), ?_⟩
  show wE Y (S_m N) (N + 14) = .inl (Y 1, m_n 15, .inr (.inl (m_aL g_0 15)))
  rw [wE_22 k]
  simp [S_m, m_n, m_aI, m_aL, g_0, K_new, K_newA, K_pR, K_pI, K_pL, nx_new, nx_newA, nx_pR, nx_pI, nx_pL, Nat.add_assoc, i10_nx, I_new, I_newA, I_pR, I_pI, I_pL, L_new, L_newA, L_pR, L_pI, L_pL, R_new, R_newA, R_pR, R_pI, R_pL, n_new, n_newA, n_pR, n_pI, n_pL, aI_new, aI_newA, aI_pR, aI_pI, aI_pL, aL_new, aL_newA, aL_pR, aL_pI, aL_pL, aR_new, aR_newA, aR_pR, aR_pI, aR_pL]
set_option maxRecDepth 100000 in
set_option maxHeartbeats 4000000 in
theorem x11_E16 (Y : Nat → ClassId) : s_K (S_m N) (adM N 16) ≠ 0 ∧ wE Y (S_m N) (adM N 16) = mE Y (adM N) g_0 16 := by
  have k : s_K (S_m N) (N + 16) = 22 := by simp [S_m, K_new, K_newA, K_pR, K_pI, K_pL, nx_new, nx_newA, nx_pR, nx_pI, nx_pL, Nat.add_assoc, i10_nx]
  refine ⟨nz k (by decide), ?_⟩
  show wE Y (S_m N) (N + 16) = .inl (Y 1, m_n 16, .inr (.inl (m_aL g_0 16)))
  rw [wE_22 k]
  simp [S_m, m_n, m_aI, m_aL, g_0, K_new, K_newA, K_pR, K_pI, K_pL, nx_new, nx_newA, nx_pR, nx_pI, nx_pL, Nat.add_assoc, i10_nx, I_new, I_newA, I_pR, I_pI, I_pL, L_new, L_newA, L_pR, L_pI, L_pL, R_new, R_newA, R_pR, R_pI, R_pL, n_new, n_newA, n_pR, n_pI, n_pL, aI_new, aI_newA, aI_pR, aI_pI, aI_pL, aL_new, aL_newA, aL_pR, aL_pI, aL_pL, aR_new, aR_newA, aR_pR, aR_pI, aR_pL]
set_option maxRecDepth 100000 in
set_option maxHeartbeats 4000000 in
theorem x11_E17 (Y : Nat → ClassId) : s_K (S_m N) (adM N 17) ≠ 0 ∧ wE Y (S_m N) (adM N 17) = mE Y (adM N) g_0 17 := by
  have k : s_K (S_m N) (N + 21) = 22 := by simp [S_m, K_new, K_newA, K_pR, K_pI, K_pL, nx_new, nx_newA, nx_pR, nx_pI, nx_pL, Nat.add_assoc, i10_nx]
  refine ⟨nz k (by decide), ?_⟩
  show wE Y (S_m N) (N + 21) = .inl (Y 1, m_n 17, .inr (.inl (m_aL g_0 17)))
  rw [wE_22 k]
  simp [S_m, m_n, m_aI, m_aL, g_0, K_new, K_newA, K_pR, K_pI, K_pL, nx_new, nx_newA, nx_pR, nx_pI, nx_pL, Nat.add_assoc, i10_nx, I_new, I_newA, I_pR, I_pI, I_pL, L_new, L_newA, L_pR, L_pI, L_pL, R_new, R_newA, R_pR, R_pI, R_pL, n_new, n_newA, n_pR, n_pI, n_pL, aI_new, aI_newA, aI_pR, aI_pI, aI_pL, aL_new, aL_newA, aL_pR, aL_pI, aL_pL, aR_new, aR_newA, aR_pR, aR_pI, aR_pL]
set_option maxRecDepth 100000 in
set_option maxHeartbeats 4000000 in
theorem x11_E18 (Y : Nat → ClassId) : s_K (S_m N) (adM N 18) ≠ 0 ∧ wE Y (S_m N) (adM N 18) = mE Y (adM N) g_0 18 := by
  have k : s_K (S_m N) (N + 27) = 22 := by simp [S_m, K_new, K_newA, K_pR, K_pI, K_pL, nx_new, nx_newA, nx_pR, nx_pI, nx_pL, Nat.add_assoc, i10_nx]
  refine ⟨nz k (by decide), ?_⟩
  show wE Y (S_m N) (N + 27) = .inl (Y 1, m_n 18, .inr (.inl (m_aL g_0 18)))
  rw [wE_22 k]
  simp [S_m, m_n, m_aI, m_aL, g_0, K_new, K_newA, K_pR, K_pI, K_pL, nx_new, nx_newA, nx_pR, nx_pI, nx_pL, Nat.add_assoc, i10_nx, I_new, I_newA, I_pR, I_pI, I_pL, L_new, L_newA, L_pR, L_pI, L_pL, R_new, R_newA, R_pR, R_pI, R_pL, n_new, n_newA, n_pR, n_pI, n_pL, aI_new, aI_newA, aI_pR, aI_pI, aI_pL, aL_new, aL_newA, aL_pR, aL_pI, aL_pL, aR_new, aR_newA, aR_pR, aR_pI, aR_pL]
set_option maxRecDepth 100000 in
set_option maxHeartbeats 4000000 in
theorem x11_E19 (Y : Nat → ClassId) : s_K (S_m N) (adM N 19) ≠ 0 ∧ wE Y (S_m N) (adM N 19) = mE Y (adM N) g_0 19 := by
  have k : s_K (S_m N) (N + 28) = 22 := by simp [S_m, K_new, K_newA, K_pR, K_pI, K_pL, nx_new, nx_newA, nx_pR, nx_pI, nx_pL, Nat.add_assoc, i10_nx]
  refine ⟨nz k (by decide), ?_⟩
  show wE Y (S_m N) (N + 28) = .inl (Y 1, m_n 19, .inr (.inl (m_aL g_0 19)))
  rw [wE_22 k]
  simp [S_m, m_n, m_aI, m_aL, g_0, K_new, K_newA, K_pR, K_pI, K_pL, nx_new, nx_newA, nx_pR, nx_pI, nx_pL, Nat.add_assoc, i10_nx, I_new, I_newA, I_pR, I_pI, I_pL, L_new, L_newA, L_pR, L_pI, L_pL, R_new, R_newA, R_pR, R_pI, R_pL, n_new, n_newA, n_pR, n_pI, n_pL, aI_new, aI_newA, aI_pR, aI_pI, aI_pL, aL_new, aL_newA, aL_pR, aL_pI, aL_pL, aR_new, aR_newA, aR_pR, aR_pI, aR_pL]
set_option maxRecDepth 100000 in
set_option maxHeartbeats 4000000 in
theorem x11_E20 (Y : Nat → ClassId) : s_K (S_m N) (adM N 20) ≠ 0 ∧ wE Y (S_m N) (adM N 20) = mE Y (adM N) g_0 20 := by
  have k : s_K (S_m N) (N + 31) = 22 := by simp [S_m, K_new, K_newA, K_pR, K_pI, K_pL, nx_new, nx_newA, nx_pR, nx_pI, nx_pL, Nat.add_assoc, i10_nx]
  refine ⟨nz k (by decide), ?_⟩
  show wE Y (S_m N) (N + 31) = .inl (Y 1, m_n 20, .inr (.inl (m_aL g_0 20)))
  rw [wE_22 k]
  simp [S_m, m_n, m_aI, m_aL, g_0, K_new, K_newA, K_pR, K_pI, K_pL, nx_new, nx_newA, nx_pR, nx_pI, nx_pL, Nat.add_assoc, i10_nx, I_new, I_newA, I_pR, I_pI, I_pL, L_new, L_newA, L_pR, L_pI, L_pL, R_new, R_newA, R_pR, R_pI, R_pL, n_new, n_newA, n_pR, n_pI, n_pL, aI_new, aI_newA, aI_pR, aI_pI, aI_pL, aL_new, aL_newA, aL_pR, aL_pI, aL_pL, aR_new, aR_newA, aR_pR, aR_pI, aR_pL]
theorem x11_E (Y : Nat → ClassId) (k : Nat) (hk : k < 21) : s_K (S_m N) (adM N k) ≠ 0 ∧ wE Y (S_m N) (adM N k) = mE Y (adM N) g_0 k := by
  match k, hk with
  | 0, _ => exact x11_E0 Y
  | 1, _ => exact x11_E1 Y
  | 2, _ => exact x11_E2 Y
  | 3, _ => exact x11_E3 Y
  | 4, _ => exact x11_E4 Y
  | 5, _ => exact x11_E5 Y
  | 6, _ => exact x11_E6 Y
  | 7, _ => exact x11_E7 Y
  | 8, _ => exact x11_E8 Y
  | 9, _ => exact x11_E9 Y
  | 10, _ => exact x11_E10 Y
  | 11, _ => exact x11_E11 Y
  | 12, _ => exact x11_E12 Y
  | 13, _ => exact x11_E13 Y
  | 14, _ => exact x11_E14 Y
  | 15, _ => exact x11_E15 Y
  | 16, _ => exact x11_E16 Y
  | 17, _ => exact x11_E17 Y
  | 18, _ => exact x11_E18 Y
  | 19, _ => exact x11_E19 Y
  | 20, _ => exact x11_E20 Y
  | k + 21, hk => exact absurd hk (by omega)
theorem adM_inj : ∀ i j, i < 21 → j < 21 → adM N i = adM N j → i = j := by
  intro i j hi hj h
  have h : [11, 12, 13, 15, 17, 18, 19, 20, 22, 23, 24, 25, 26, 29, 30, 14, 16, 21, 27, 28, 31].getD i 0 = [11, 12, 13, 15, 17, 18, 19, 20, 22, 23, 24, 25, 26, 29, 30, 14, 16, 21, 27, 28, 31].getD j 0 := Nat.add_left_cancel h
  exact (by decide +kernel : ∀ i, i < 21 → ∀ j, j < 21 → [11, 12, 13, 15, 17, 18, 19, 20, 22, 23, 24, 25, 26, 29, 30, 14, 16, 21, 27, 28, 31].getD i 0 = [11, 12, 13, 15, 17, 18, 19, 20, 22, 23, 24, 25, 26, 29, 30, 14, 16, 21, 27, 28, 31].getD j 0 → i = j) i hi j hj h
theorem adM_in (k : Nat) (hk : k < 21) : N + 11 ≤ adM N k ∧ adM N k < N + 32 := by
  have h := (by decide +kernel : ∀ k, k < 21 → 11 ≤ [11, 12, 13, 15, 17, 18, 19, 20, 22, 23, 24, 25, 26, 29, 30, 14, 16, 21, 27, 28, 31].getD k 0 ∧ [11, 12, 13, 15, 17, 18, 19, 20, 22, 23, 24, 25, 26, 29, 30, 14, 16, 21, 27, 28, 31].getD k 0 < 32) k hk
  show N + 11 ≤ N + _ ∧ N + _ < N + 32
  omega
/-- the class's part alone -/
def S_l (N : Nat) : wS := ((S_m N).1, (fun b => if N + 11 ≤ b then 0 else s_K (S_m N) b), (S_m N).2.2)
theorem l_K (b : Nat) : s_K (S_l N) b = if N + 11 ≤ b then 0 else s_K (S_m N) b := rfl
theorem l_wH {D : va_G} {Y : Nat → ClassId} {A : Nat → Prop} {H : Heap} (h : wH D Y A (S_m N) H) : wH D Y A (S_l N) H := by
  refine ⟨h.1, fun a ha => ?_⟩
  rw [l_K] at ha
  by_cases c : N + 11 ≤ a
  · rw [if_pos c] at ha; exact absurd rfl ha
  · rw [if_neg c] at ha
    have e : wE Y (S_l N) a = wE Y (S_m N) a := wE_congr ((l_K a).trans (if_neg c)) (fun _ => rfl) (fun _ => rfl) (fun _ => rfl) rfl rfl rfl rfl
    rw [e]; exact h.2 a ha
theorem l_mH {D : va_G} {Y : Nat → ClassId} {A : Nat → Prop} {H : Heap} (h : wH D Y A (S_m N) H) : mH D Y A (adM N) g_0 H :=
  ⟨fun k hk => by
    have e := x11_E (N := N) Y k hk
    rw [← e.2]; exact h.2 _ e.1, adM_inj⟩
theorem l_ext : s_ext (S_c N) (S_l N) := fun b hb => by
  have c := i10_wf.lt hb
  have c : b < N + 11 := c
  obtain ⟨h1, h2⟩ := x11_ext (N := N) b hb
  exact ⟨((l_K b).trans (if_neg (by omega))).trans h1, h2⟩
theorem l_inv : jInv N 512 (S_l N) g_0 := by
  refine ⟨fun i => N + i, C_0, r_0, Z_0, rfl, ⟨⟨⟨fun a ha => ?_, ?_, ?_⟩, cHd.ext l_ext i10_hd, cRw.ext l_ext i10_rw, cOb.ext l_ext i10_ob⟩, cRn.ext l_ext i10_rn⟩, ?_, ⟨Nat.zero_le _, fun h hh => absurd hh (Nat.not_lt_zero h)⟩, fun h hh => absurd hh (Nat.not_lt_zero h), ⟨Nat.zero_le _, Nat.zero_le _, Nat.zero_le _, fun i hi => absurd hi (Nat.not_lt_zero i)⟩, Nat.zero_le _, ?_, fun j hj => absurd hj (Nat.not_lt_zero j)⟩
  · have ha : N + 32 ≤ a := ha
    exact (l_K a).trans (if_pos (by omega))
  · show N + 32 + 2 * (16 - 0) + 8 * 512 ≤ N + 600000; omega
  · show 1111 + 10 * (16 - 0) + 40 * 512 ≤ 7302250; decide
  · exact ⟨⟨rfl, Nat.zero_le _, fun i hi => absurd hi (Nat.not_lt_zero i)⟩, ⟨rfl, rfl, rfl⟩, ⟨rfl, Nat.zero_le _, fun i hi => absurd hi (Nat.not_lt_zero i)⟩, ⟨rfl, rfl, Nat.zero_le _, fun j hj => absurd hj (Nat.not_lt_zero j), fun _ _ => rfl, rfl, rfl⟩⟩
  · exact ⟨4, by decide, rfl⟩
end INI2
