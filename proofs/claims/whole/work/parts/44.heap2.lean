/-! one step of what was taken out of the code, where it is known what it reads -/
theorem ck_t {α : Type} {c : Prop} [Decidable c] {f : Option α} (h : c) : o_ck c f = f := if_pos h
theorem call_s {α β σ : Type} {o : Option (β × σ)} {x : β} {S : σ} {f : β → σ → Option α} (h : o = some (x, S)) : o_call o f = f x S := by rw [h]; rfl
theorem cP_s {α β : Type} {o : Option β} {x : β} {f : β → Option α} (h : o = some x) : o_cP o f = f x := by rw [h]; rfl
theorem cs_s {α : Type} {x : Option Nat} {q : Nat} {n : Option α} {f : Nat → Option α} (h : x = some q) : o_cs x n f = f q := by rw [h]; rfl
theorem gI_s {α : Type} {kd i a : Nat} {S : wS} {x : Int32} {f : Int32 → Option α} (h : s_K S a = kd) (h2 : s_I S i a = x) : o_gI kd i a S f = f x := by unfold o_gI; rw [if_pos h, h2]
theorem gL_s {α : Type} {kd i a : Nat} {S : wS} {x : Int64} {f : Int64 → Option α} (h : s_K S a = kd) (h2 : s_L S i a = x) : o_gL kd i a S f = f x := by unfold o_gL; rw [if_pos h, h2]
theorem gR_s {α : Type} {kd i a : Nat} {S : wS} {x : Option Nat} {f : Option Nat → Option α} (h : s_K S a = kd) (h2 : s_R S i a = x) : o_gR kd i a S f = f x := by unfold o_gR; rw [if_pos h, h2]
theorem pI_s {α : Type} {kd i a : Nat} {v : Int32} {S : wS} {f : wS → Option α} (h : s_K S a = kd) : o_pI kd i a v S f = f (s_pI S i a v) := if_pos h
theorem pL_s {α : Type} {kd i a : Nat} {v : Int64} {S : wS} {f : wS → Option α} (h : s_K S a = kd) : o_pL kd i a v S f = f (s_pL S i a v) := if_pos h
theorem pR_s {α : Type} {kd i a : Nat} {v : Option Nat} {S : wS} {f : wS → Option α} (h : s_K S a = kd) : o_pR kd i a v S f = f (s_pR S i a v) := if_pos h
theorem len_s {α : Type} {kd a n : Nat} {S : wS} {f : Int32 → Option α} (h : s_K S a = kd) (h2 : s_n S a = n) : o_len kd a S f = f (nI n) := by unfold o_len; rw [if_pos h, h2]; rfl
theorem rI_s {α : Type} {a j n : Nat} {i x : Int32} {S : wS} {f : Int32 → Option α} (h : s_K S a = 21) (h2 : s_n S a = n) (hi : i = nI j) (hj : j < n) (hn : n < 2 ^ 31) (hx : s_aI S a j = x) : o_rI a i S f = f x := by
  subst hi; unfold o_rI; rw [if_pos ⟨h, by rw [h2]; exact nI_in hj hn⟩, nI_clamp (by omega), hx]
theorem rL_s {α : Type} {a j n : Nat} {i : Int32} {x : Int64} {S : wS} {f : Int64 → Option α} (h : s_K S a = 22) (h2 : s_n S a = n) (hi : i = nI j) (hj : j < n) (hn : n < 2 ^ 31) (hx : s_aL S a j = x) : o_rL a i S f = f x := by
  subst hi; unfold o_rL; rw [if_pos ⟨h, by rw [h2]; exact nI_in hj hn⟩, nI_clamp (by omega), hx]
theorem rR_s {α : Type} {kd a j n : Nat} {i : Int32} {x : Option Nat} {S : wS} {f : Option Nat → Option α} (h : s_K S a = kd) (h2 : s_n S a = n) (hi : i = nI j) (hj : j < n) (hn : n < 2 ^ 31) (hx : s_aR S a j = x) : o_rR kd a i S f = f x := by
  subst hi; unfold o_rR; rw [if_pos ⟨h, by rw [h2]; exact nI_in hj hn⟩, nI_clamp (by omega), hx]
theorem wI_s {α : Type} {a j n : Nat} {i v : Int32} {S : wS} {f : wS → Option α} (h : s_K S a = 21) (h2 : s_n S a = n) (hi : i = nI j) (hj : j < n) (hn : n < 2 ^ 31) : o_wI a i v S f = f (s_wI S a j v) := by
  subst hi; unfold o_wI; rw [if_pos ⟨h, by rw [h2]; exact nI_in hj hn⟩, nI_clamp (by omega)]
theorem wL_s {α : Type} {a j n : Nat} {i : Int32} {v : Int64} {S : wS} {f : wS → Option α} (h : s_K S a = 22) (h2 : s_n S a = n) (hi : i = nI j) (hj : j < n) (hn : n < 2 ^ 31) : o_wL a i v S f = f (s_wL S a j v) := by
  subst hi; unfold o_wL; rw [if_pos ⟨h, by rw [h2]; exact nI_in hj hn⟩, nI_clamp (by omega)]
theorem wR_s {α : Type} {kd ke a j n v : Nat} {i : Int32} {S : wS} {f : wS → Option α} (h : s_K S a = kd) (hv : s_K S v = ke) (h2 : s_n S a = n) (hi : i = nI j) (hj : j < n) (hn : n < 2 ^ 31) : o_wR kd ke a i v S f = f (s_wR S a j (some v)) := by
  subst hi; unfold o_wR; rw [if_pos ⟨⟨h, hv⟩, by rw [h2]; exact nI_in hj hn⟩, nI_clamp (by omega)]
theorem new_s {α : Type} {kd N : Nat} {S : wS} {f : Nat → wS → Option α} (h : s_nx S + 1 ≤ s_lm S ∧ s_sl S + N ≤ s_sm S) : o_new kd N S f = f (s_nx S) (s_new S kd N) := if_pos h
theorem newA_s {α : Type} {kd j : Nat} {n : Int32} {S : wS} {f : Nat → wS → Option α} (hn : n = nI j) (hj : j ≤ 1000) (h : s_nx S + 1 ≤ s_lm S ∧ s_sl S + j ≤ s_sm S) : o_newA kd n S f = f (s_nx S) (s_newA S kd j) := by
  subst hn
  unfold o_newA
  rw [nI_clamp (by omega), if_pos ⟨⟨nI_pos (by omega), hj⟩, h⟩]
/-! the class's heap: rows, handles, the runner -/
def s_wf (S : wS) : Prop := ∀ a, s_nx S ≤ a → s_K S a = 0
theorem s_wf.lt {S : wS} (h : s_wf S) {a : Nat} (ha : s_K S a ≠ 0) : a < s_nx S := by
  rcases Nat.lt_or_ge a (s_nx S) with z | z
  · exact z
  · exact absurd (h a z) ha
def tyA (S : wS) (t m : Nat) (k : Nat → Int32) (r : Int32) : Prop := m ≤ 4 ∧ s_K S t = 8 ∧ s_I S 12 t = r ∧ s_I S 13 t = nI m ∧ ∃ ka, s_R S 9 t = some ka ∧ s_K S ka = 21 ∧ s_n S ka = 4 ∧ ∀ j, j < m → s_aI S ka j = k j
def hdA (C : hS) (ad : Nat → Nat) (S : wS) (i : Nat) : Prop := s_K S (ad (2 * i + 20)) = 1 ∧ s_I S 0 (ad (2 * i + 20)) = h_so C i ∧ s_I S 1 (ad (2 * i + 20)) = h_a C i ∧ s_I S 2 (ad (2 * i + 20)) = h_b C i ∧ s_I S 3 (ad (2 * i + 20)) = h_c C i ∧ s_L S 0 (ad (2 * i + 20)) = h_v C i ∧ s_I S 4 (ad (2 * i + 20)) = nI i ∧ s_R S 0 (ad (2 * i + 20)) = some (ad (2 * i + 21)) ∧ tyA S (ad (2 * i + 21)) (h_m C i) (h_k C i) (h_r C i)
def cHd (ad : Nat → Nat) (C : hS) (S : wS) : Prop := s_K S (ad 3) = 2 ∧ s_R S 1 (ad 3) = some (ad 4) ∧ s_I S 5 (ad 3) = nI (h_n C) ∧ s_K S (ad 4) = 23 ∧ s_n S (ad 4) = 32 ∧ h_n C ≤ 32 ∧ ∀ i, i < h_n C → s_aR S (ad 4) i = some (ad (2 * i + 20)) ∧ hdA C ad S i
def rwA (ad : Nat → Nat) (ρ : eS) (S : wS) (ia : Nat → Nat) (i : Nat) : Prop := ia i ≠ ad 7 ∧ ia i ≠ ad 8 ∧ s_K S (ia i) = 22 ∧ s_n S (ia i) = e_sz ρ i ∧ e_sz ρ i ≤ 8 ∧ (∀ j, j < e_sz ρ i → s_aL S (ia i) j = e_it ρ i j) ∧ ∃ x, s_aR S (ad 2) i = some x ∧ s_K S x = 5 ∧ s_I S 6 x = e_ln ρ i ∧ s_R S 4 x = some (ia i)
def cRw (ad : Nat → Nat) (ρ : eS) (S : wS) : Prop := s_K S (ad 1) = 6 ∧ s_R S 5 (ad 1) = some (ad 2) ∧ s_I S 7 (ad 1) = nI (e_R ρ) ∧ s_K S (ad 2) = 24 ∧ s_n S (ad 2) = 16 ∧ e_R ρ ≤ 16 ∧ ∃ ia : Nat → Nat, (∀ i, i < e_R ρ → rwA ad ρ S ia i) ∧ ∀ i j, i < e_R ρ → j < e_R ρ → ia i = ia j → i = j
def cRn (ad : Nat → Nat) (ρ : eS) (S : wS) : Prop := s_K S (ad 6) = 7 ∧ s_R S 6 (ad 6) = some (ad 3) ∧ s_R S 7 (ad 6) = some (ad 1) ∧ s_R S 8 (ad 6) = some (ad 7) ∧ s_K S (ad 7) = 22 ∧ s_n S (ad 7) = 168 ∧ s_I S 8 (ad 6) = nI (e_T ρ) ∧ s_I S 9 (ad 6) = nI (e_F ρ) ∧ s_I S 10 (ad 6) = e_b ρ
/-- what the outermost object holds beside: value, runs, the numbers given, the type at hand -/
abbrev zS : Type := (Int64 × Int32) × (Nat → Int64) × Nat × (Nat → Int32) × Int32
def z_v (Z : zS) : Int64 := Z.1.1
def z_n (Z : zS) : Int32 := Z.1.2
def z_g (Z : zS) : Nat → Int64 := Z.2.1
def z_m (Z : zS) : Nat := Z.2.2.1
def z_k (Z : zS) : Nat → Int32 := Z.2.2.2.1
def z_r (Z : zS) : Int32 := Z.2.2.2.2
def cOb (ad : Nat → Nat) (Z : zS) (S : wS) : Prop := s_K S (ad 0) = 9 ∧ s_R S 10 (ad 0) = some (ad 1) ∧ s_R S 11 (ad 0) = some (ad 3) ∧ s_R S 12 (ad 0) = some (ad 5) ∧ s_R S 13 (ad 0) = some (ad 6) ∧ s_R S 14 (ad 0) = some (ad 8) ∧
  s_K S (ad 5) = 3 ∧ s_R S 2 (ad 5) = some (ad 3) ∧ s_R S 3 (ad 5) = some (ad 1) ∧ s_K S (ad 8) = 22 ∧ s_n S (ad 8) = 4 ∧ ad 7 ≠ ad 8 ∧ (∀ j, j < 4 → s_aL S (ad 8) j = z_g Z j) ∧ s_L S 1 (ad 0) = z_v Z ∧ s_I S 14 (ad 0) = z_n Z ∧ s_R S 15 (ad 0) = some (ad 9) ∧ tyA S (ad 9) (z_m Z) (z_k Z) (z_r Z)
def cJ (ad : Nat → Nat) (C : hS) (ρ : eS) (Z : zS) (q : Nat) (S : wS) : Prop := (s_wf S ∧ s_nx S + 2 * (16 - e_R ρ) + 8 * q ≤ s_lm S ∧ s_sl S + 10 * (16 - e_R ρ) + 40 * q ≤ s_sm S) ∧ cHd ad C S ∧ cRw ad ρ S ∧ cOb ad Z S
def cI (ad : Nat → Nat) (C : hS) (ρ : eS) (Z : zS) (q : Nat) (S : wS) : Prop := cJ ad C ρ Z q S ∧ cRn ad ρ S
def s_fr (S : wS) (f : Nat) (g : Nat → Int64) : wS := (S.1, S.2.1, S.2.2.1, S.2.2.2.1, S.2.2.2.2.1, S.2.2.2.2.2.1, S.2.2.2.2.2.2.1, (fun b j => if b = f then g j else S.2.2.2.2.2.2.2.1 b j), S.2.2.2.2.2.2.2.2)
theorem fr_at (S : wS) (f : Nat) (g : Nat → Int64) (i : Nat) : s_aL (s_fr S f g) f i = g i := by
  show (if f = f then g i else _) = _; rw [if_pos rfl]
theorem fr_wL (S : wS) (f i : Nat) (v : Int64) : s_wL S f i v = s_fr S f (fun j => if j = i then v else s_aL S f j) := by
  unfold s_wL s_fr s_aL
  congr 8
  funext b j
  by_cases c : b = f
  · subst c
    by_cases c2 : j = i
    · rw [if_pos ⟨rfl, c2⟩, if_pos rfl]; exact (if_pos c2).symm
    · rw [if_neg (fun z => c2 z.2), if_pos rfl]; exact (if_neg c2).symm
  · rw [if_neg (fun z => c z.1), if_neg c]
theorem fr_fr (S : wS) (f : Nat) (g g2 : Nat → Int64) : s_fr (s_fr S f g) f g2 = s_fr S f g2 := by
  unfold s_fr
  congr 8
  funext b j
  by_cases c : b = f
  · simp only [if_pos c]
  · simp only [if_neg c]
theorem fr_self (S : wS) (f : Nat) : s_fr S f (s_aL S f) = S := by
  unfold s_fr s_aL
  have : (fun b j => if b = f then S.2.2.2.2.2.2.2.1 f j else S.2.2.2.2.2.2.2.1 b j) = S.2.2.2.2.2.2.2.1 := by
    funext b j
    by_cases c : b = f
    · rw [if_pos c, c]
    · rw [if_neg c]
  rw [this]
  rfl
section CI
variable {ad : Nat → Nat} {C : hS} {ρ : eS} {Z : zS} {q : Nat} {S : wS}
theorem cI.fr (h : cI ad C ρ Z q S) (g : Nat → Int64) : cI ad C ρ Z q (s_fr S (ad 7) g) := by
  obtain ⟨⟨h1, h2, ⟨q1, q2, q3, q4, q5, q6, ia, k1, k2⟩, ⟨o1, o2, o3, o4, o5, o6, o7, o8, o9, o10, o11, o12, o13, o14⟩⟩, h5⟩ := h
  refine ⟨⟨h1, h2, ⟨q1, q2, q3, q4, q5, q6, ia, fun i hi => ?_, k2⟩, ⟨o1, o2, o3, o4, o5, o6, o7, o8, o9, o10, o11, o12, fun j hj => ?_, o14⟩⟩, h5⟩
  · obtain ⟨r1, r2, r3, r4, r5, r6, r7⟩ := k1 i hi
    refine ⟨r1, r2, r3, r4, r5, fun j hj => ?_, r7⟩
    show (if ia i = ad 7 then g j else s_aL S (ia i) j) = _
    rw [if_neg r1]; exact r6 j hj
  · show (if ad 8 = ad 7 then g j else s_aL S (ad 8) j) = _
    rw [if_neg (Ne.symm o12)]; exact o13 j hj
theorem cJ.pI {i : Nat} {v : Int32} (hi : i = 8 ∨ i = 9 ∨ i = 10 ∨ i = 11) (h : cJ ad C ρ Z q S) : cJ ad C ρ Z q (s_pI S i (ad 6) v) := by
  rcases hi with rfl | rfl | rfl | rfl <;> exact h
/-- what the runner's own fields become -/
theorem run_spent (h : cI ad C ρ Z q S) (k : Nat) : ∃ S', f_X7_spent (ad 6) (nI k) S = some (0, S') ∧ cI ad C (e_blame k ρ) Z q S' ∧ s_I S' 11 (ad 6) = 7 ∧ s_aL S' = s_aL S := by
  obtain ⟨hJ, r1, r2, r3, r4, r5, r6, r7, r8, r9⟩ := h
  refine ⟨s_pI (s_pI S 10 (ad 6) (nI k)) 11 (ad 6) 7, ?_, ⟨?_, ⟨r1, r2, r3, r4, r5, r6, r7, r8, ?_⟩⟩, ?_, rfl⟩
  · unfold f_X7_spent
    rw [pI_s r1, pI_s (show s_K (s_pI S 10 (ad 6) (nI k)) (ad 6) = 7 from r1)]
  · exact cJ.pI (by simp) (cJ.pI (by simp) hJ)
  · show (if 10 = 11 ∧ ad 6 = ad 6 then (7 : Int32) else (if 10 = 10 ∧ ad 6 = ad 6 then nI k else s_I S 10 (ad 6))) = nI k
    simp
  · show (if 11 = 11 ∧ ad 6 = ad 6 then (7 : Int32) else _) = 7
    simp
theorem run_fail (h : cI ad C ρ Z q S) (hF : e_F ρ ≤ 24) {k x : Nat} (hx : s_K S x = 1) (hn : s_I S 4 x = nI k) (c : Int32) : ∃ S', f_X7_fail (ad 6) x c S = some (0, S') ∧ cI ad C (e_fail k ρ) Z q S' ∧ s_I S' 11 (ad 6) = (if e_F ρ = 24 then 7 else c) ∧ s_aL S' = s_aL S := by
  obtain ⟨hJ, r1, r2, r3, r4, r5, r6, r7, r8, r9⟩ := h
  have e9 : s_I (s_pI S 10 (ad 6) (nI k)) 9 (ad 6) = nI (e_F ρ) := r8
  unfold f_X7_fail
  rw [gI_s hx hn, pI_s r1, gI_s (show s_K (s_pI S 10 (ad 6) (nI k)) (ad 6) = 7 from r1) e9]
  have e24 : (nI (e_F ρ) = 24) ↔ e_F ρ = 24 := nI_eq (b := 24) (by omega) (by decide)
  by_cases c24 : e_F ρ = 24
  · rw [if_pos (e24.mpr c24), pI_s (show s_K (s_pI S 10 (ad 6) (nI k)) (ad 6) = 7 from r1)]
    refine ⟨_, rfl, ⟨cJ.pI (by simp) (cJ.pI (by simp) hJ), ⟨r1, r2, r3, r4, r5, r6, r7, ?_, ?_⟩⟩, ?_, rfl⟩
    · show s_I S 9 (ad 6) = nI (if e_F ρ = 24 then 24 else e_F ρ + 1)
      rw [if_pos c24, r8, c24]
    · show (if 10 = 11 ∧ ad 6 = ad 6 then (7 : Int32) else (if 10 = 10 ∧ ad 6 = ad 6 then nI k else s_I S 10 (ad 6))) = nI k
      simp
    · show (if 11 = 11 ∧ ad 6 = ad 6 then (7 : Int32) else _) = _
      simp [c24]
  · rw [if_neg (fun z => c24 (e24.mp z)), gI_s (show s_K (s_pI S 10 (ad 6) (nI k)) (ad 6) = 7 from r1) e9, pI_s (show s_K (s_pI S 10 (ad 6) (nI k)) (ad 6) = 7 from r1), pI_s (show s_K (s_pI (s_pI S 10 (ad 6) (nI k)) 9 (ad 6) (nI (e_F ρ) + 1)) (ad 6) = 7 from r1)]
    refine ⟨_, rfl, ⟨cJ.pI (by simp) (cJ.pI (by simp) (cJ.pI (by simp) hJ)), ⟨r1, r2, r3, r4, r5, r6, r7, ?_, ?_⟩⟩, ?_, rfl⟩
    · show (if 9 = 11 ∧ ad 6 = ad 6 then c else (if 9 = 9 ∧ ad 6 = ad 6 then nI (e_F ρ) + 1 else _)) = nI (if e_F ρ = 24 then 24 else e_F ρ + 1)
      rw [if_neg c24, nI_1]; simp
    · show (if 10 = 11 ∧ ad 6 = ad 6 then c else (if 10 = 9 ∧ ad 6 = ad 6 then nI (e_F ρ) + 1 else (if 10 = 10 ∧ ad 6 = ad 6 then nI k else s_I S 10 (ad 6)))) = nI k
      simp
    · show (if 11 = 11 ∧ ad 6 = ad 6 then c else _) = _
      simp [c24]
/-! frames: what a handle runs with -/
theorem run_slot {d j : Nat} (hd : d ≤ 41) (hj : j < 4) : f_X7_slot (nI d) (nI j) = some (nI (4 * d + j)) := by
  unfold f_X7_slot
  rw [if_neg (nI_pos (by omega)), if_neg (nI_pos (by omega)), if_neg (by rw [show (4 : Int32) = nI 4 from rfl, nI_leI (by decide) (by omega)]; omega), show (4 : Int32) = nI 4 from rfl, pk_mul, nI_add, Nat.mul_comm]
theorem run_taken (h : cI ad C ρ Z q S) {d j : Nat} (hd : d ≤ 41) (hj : j < 4) : f_X7_taken (ad 6) (nI d) (nI j) S = some (s_aL S (ad 7) (4 * d + j), S) := by
  obtain ⟨-, r1, r2, r3, r4, r5, r6, -⟩ := h
  unfold f_X7_taken
  rw [cP_s (run_slot hd hj), if_neg (nI_pos (by omega)), gR_s r1 r4, cs_s rfl, len_s r5 r6, if_neg (by rw [nI_leI (by decide) (by omega)]; omega), gR_s r1 r4, cs_s rfl, rL_s r5 r6 rfl (by omega) (by decide) rfl]
theorem run_hand (h : cI ad C ρ Z q S) {d j : Nat} (hd : d ≤ 41) (hj : j < 4) (v : Int64) : f_X7_hand (ad 6) (nI d) (nI j) v S = some ((), s_fr S (ad 7) (fun i => if i = 4 * d + j then v else s_aL S (ad 7) i)) := by
  obtain ⟨-, r1, r2, r3, r4, r5, r6, -⟩ := h
  unfold f_X7_hand
  rw [cP_s (run_slot hd hj), if_neg (nI_pos (by omega)), gR_s r1 r4, cs_s rfl, len_s r5 r6, if_neg (by rw [nI_leI (by decide) (by omega)]; omega), gR_s r1 r4, cs_s rfl, wL_s r5 r6 rfl (by omega) (by decide), fr_wL]
theorem run_on_b {d f t : Nat} (hd : d ≤ 40) (hf : f ≤ 4) (ht : t ≤ 4) : ∀ (i n : Nat) (S : wS), cI ad C ρ Z q S → i ≤ 4 - max f t → (4 - max f t) - i + 1 ≤ n →
    ∃ g, f_X7_handOn_b12 n (ad 6) (nI d) (nI f) (nI t) (nI (4 - max f t)) (nI i) S = some ((), s_fr S (ad 7) g) ∧ (∀ k, i ≤ k → k < 4 - max f t → g (4 * (d + 1) + t + k) = s_aL S (ad 7) (4 * d + f + k)) ∧ (∀ p, (∀ k, i ≤ k → k < 4 - max f t → p ≠ 4 * (d + 1) + t + k) → g p = s_aL S (ad 7) p) := by
  intro i
  generalize hw : 4 - max f t - i = w
  induction w generalizing i with
  | zero =>
    intro n S hI hi hn
    obtain ⟨n, rfl⟩ : ∃ n', n = n' + 1 := ⟨n - 1, by omega⟩
    refine ⟨s_aL S (ad 7), ?_, fun k h1 h2 => by omega, fun p _ => rfl⟩
    rw [f_X7_handOn_b12.eq_2, if_pos (nI_le (by omega) (by omega)), fr_self]
  | succ w ih =>
    intro n S hI hi hn
    obtain ⟨n, rfl⟩ : ∃ n', n = n' + 1 := ⟨n - 1, by omega⟩
    have r1 := hI.2.1
    have hfi : f + i < 4 := by omega
    have hti : t + i < 4 := by omega
    obtain ⟨g, e1, e2, e3⟩ := ih (i + 1) (by omega) n (s_fr S (ad 7) (fun p => if p = 4 * (d + 1) + (t + i) then s_aL S (ad 7) (4 * d + (f + i)) else s_aL S (ad 7) p)) (hI.fr _) (by omega) (by omega)
    refine ⟨g, ?_, ?_, ?_⟩
    · rw [f_X7_handOn_b12.eq_2, if_neg (by rw [nI_leI (by omega) (by omega)]; omega), ck_t r1, show nI f + nI i = nI (f + i) from nI_add f i, call_s (run_taken hI (by omega) hfi), ck_t r1, show nI d + (1 : Int32) = nI (d + 1) from nI_1 d, show nI t + nI i = nI (t + i) from nI_add t i, call_s (run_hand hI (by omega) hti _)]
      simp only [o_let]
      rw [show nI i + (1 : Int32) = nI (i + 1) from nI_1 i, e1, fr_fr]
    · intro k h1 h2
      by_cases c : k = i
      · subst c
        rw [e3 _ (fun k2 h3 h4 => by omega), fr_at, if_pos (by omega)]
        congr 1; omega
      · rw [e2 k (by omega) h2, fr_at, if_neg (by omega)]
    · intro p hp
      rw [e3 p (fun k h1 h2 => hp k (by omega) h2), fr_at, if_neg (by have := hp i (Nat.le_refl _) (by omega); omega)]
theorem run_on (h : cI ad C ρ Z q S) {d f t : Nat} (hd : d ≤ 40) (hf : f ≤ 4) (ht : t ≤ 4) : ∃ g, f_X7_handOn (ad 6) (nI d) (nI f) (nI t) S = some ((), s_fr S (ad 7) g) ∧ (∀ k, k < 4 - max f t → g (4 * (d + 1) + t + k) = s_aL S (ad 7) (4 * d + f + k)) ∧ (∀ p, (p < 4 * (d + 1) + t ∨ 4 * (d + 1) + t + (4 - max f t) ≤ p) → g p = s_aL S (ad 7) p) := by
  obtain ⟨g, e1, e2, e3⟩ := run_on_b hd hf ht 0 12 S h (Nat.zero_le _) (by omega)
  refine ⟨g, ?_, fun k hk => e2 k (Nat.zero_le _) hk, fun p hp => e3 p (fun k h1 h2 => by omega)⟩
  unfold f_X7_handOn
  have hm : (4 : Int32) - (if nI f < nI t then nI t else nI f) = nI (4 - max f t) := by
    rw [show (4 : Int32) = nI 4 from rfl]
    by_cases c : f < t
    · rw [if_pos (nI_lt c (by omega)), pk_sub ht, Nat.max_eq_right (by omega)]
    · rw [if_neg (nI_nlt (by omega) (by omega)), pk_sub hf, Nat.max_eq_left (by omega)]
  rw [hm]
  exact e1
end CI
