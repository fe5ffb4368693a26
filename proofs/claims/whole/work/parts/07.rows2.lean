/-! new objects and arrays -/
section NW
variable {p : Program} {l : Launch} {e : Env} {R : Room} {s : State} {m : MethodId} {args : Array Value} {below : List Frame} {meth : Method} {c : Code} {H : Heap} {locs : List Loc} {cells slots : Nat} {Q : State → Prop}
variable {D : va_G} {Y : Nat → ClassId} {aR : Nat → Nat} {A : Nat → Prop} {cc : ByteArray} {own nm : String} {mx : Nat} {rt : Option FieldType} {pc : Nat} {ls : Array Slot} {st rest : List Value} {a index : Nat}
theorem jq_newO {ci N : Nat} {C : String} {T : u_T} {ty : Nat → FieldType} {fs : List Value} (hX : jq_X D Y aR A p s m args meth c cc own nm mx rt) (hS : va_S A s.heap H locs) (hin : ∀ w ∈ u_ws C T N, w ∈ lw_all) (hty : ∀ k, k < N → parseFieldDescriptor (T k).2.2.1 = some (ty k)) (hc : vwCl[ci]? = some (C, T, N)) (hcl : Cond.classLink own index C ∈ lw_all) (hins : Cond.instantiable C N ∈ lw_all) (hini : Cond.initialized C ∈ lw_all) (hfs : ∀ j, j < N → defaultValue (ty j) = vp_V fs j) (hcells : cells + 1 ≤ R.cells) (hslots : slots + N ≤ R.slots) (hdg : decode cc pc = .ok (.new index, 3))
    (kk : ∀ H1 : Heap, va_at D vwCl (H.size, .inr (ci, fs)) H1 → H1.size = H.size + 1 → (∀ q : Nat, q < H.size → H1[q]? = H[q]?) → va_S A s.heap H1 locs → A H.size → W p l e R s m args below meth c H1 locs (cells + 1) (slots + N) Q (F0 m (pc + 3) ls (.ref H.size :: rest))) : W p l e R s m args below meth c H locs cells slots Q (F0 m pc ls rest) := by
  obtain ⟨hx, hb, -, hown, hts, hK, -⟩ := hX
  have hKn := hK.1.1 ci _ hc
  refine W.newcK hx hb hown (hts _ hcl) (hts _ hins) (hts _ hini) rfl hdg hcells hslots hKn.2.1 rfl fun H1 kC hkC e1 z1 o1 => ?_
  exact kk H1 ⟨_, hc, (u_born ty hts hin hKn hkC e1 hty).to hfs⟩ z1 o1 ⟨Nat.le_trans hS.1 (by omega), fun x h1 h2 => (o1 x (Nat.lt_of_lt_of_le h1 hS.1)).trans (hS.2.1 x h1 h2), hS.2.2⟩ (hK.2.2.2.2.1 _ hS.1)
theorem wH.push {S S1 : wS} {H1 : Heap} (hH : wH D Y A S H) (hx : s_nx S1 = s_nx S + 1) (hK : ∀ b, b ≠ s_nx S → s_K S1 b = s_K S b) (ho : ∀ b, b ≠ s_nx S → wE Y S1 b = wE Y S b) (h1 : va_at D vwCl (s_nx S, wE Y S1 (s_nx S)) H1) (hz : H1.size = H.size + 1) (hq : ∀ q : Nat, q < H.size → H1[q]? = H[q]?) (hA : A (s_nx S)) : wH D Y A S1 H1 := by
  refine ⟨by rw [hz, hx, hH.1], fun b hb => ?_⟩
  by_cases hba : b = s_nx S
  · subst hba; exact ⟨h1, hA⟩
  · rw [hK b hba] at hb
    rw [ho b hba]
    exact ⟨(hH.2 b hb).1.kept (hq b ((hH.2 b hb).1.lt)), (hH.2 b hb).2⟩
theorem wG.step {S0 S S1 : wS} {N : Nat} (h : wG S0 S) (hok : s_nx S + 1 ≤ s_lm S ∧ s_sl S + N ≤ s_sm S) (h1 : s_nx S1 = s_nx S + 1) (h2 : s_lm S1 = s_lm S) (h3 : s_sl S1 = s_sl S + N) (h4 : s_sm S1 = s_sm S) : wG S0 S1 := by
  obtain ⟨a1, a2, a3, a4, a5, a6⟩ := h
  exact ⟨by omega, by omega, by omega, by omega, by omega, by omega⟩
variable {S0 S S1 : wS} {q FR LO : Nat}
theorem nw_X0 (hX : jq_X D Y aR A p s m args meth c cc own nm mx rt) (hJ : wJ D Y A s S0 S H locs) (hok : s_nx S + 1 ≤ s_lm S ∧ s_sl S + 7 ≤ s_sm S) (hq : s_nx S = q) (hx : s_new S 1 7 = S1) (hcl : Cond.classLink own index "ScoreHandles$Handle" ∈ lw_all) (hdg : decode cc pc = .ok (.new index, 3)) (kk : ∀ H1 : Heap, wJ D Y A s S0 S1 H1 locs → W p l e { frames := FR, cells := s_lm S0 - s_nx S0, slots := s_sm S0 - s_sl S0, locals := LO } s m args below meth c H1 locs (s_nx S1 - s_nx S0) (s_sl S1 - s_sl S0) Q (F0 m (pc + 3) ls (.ref q :: rest))) : W p l e { frames := FR, cells := s_lm S0 - s_nx S0, slots := s_sm S0 - s_sl S0, locals := LO } s m args below meth c H locs (s_nx S - s_nx S0) (s_sl S - s_sl S0) Q (F0 m pc ls rest) := by
  subst hx; subst hq
  obtain ⟨hg, hH, hS⟩ := hJ
  obtain ⟨g1, g2, g3, g4, g5, g6⟩ := id hg
  refine jq_newO (ci := 0) (C := RX0) (T := TX0) (N := 7) (fs := [.int 0, .int 0, .int 0, .int 0, .long 0, .null, .int 0]) hX hS ly_X0 tyX0_ok rfl hcl qw256 qw13 (fun j hj => by
    match j, hj with
    | 0, _ => rfl
    | 1, _ => rfl
    | 2, _ => rfl
    | 3, _ => rfl
    | 4, _ => rfl
    | 5, _ => rfl
    | 6, _ => rfl
    | k + 7, hk => exact absurd hk (by omega)) (by show s_nx S - s_nx S0 + 1 ≤ s_lm S0 - s_nx S0; omega) (by show s_sl S - s_sl S0 + 7 ≤ s_sm S0 - s_sl S0; omega) hdg (fun H1 h1 z1 o1 hS1 hA => ?_)
  rw [hH.1] at h1 hA
  have hK1 : s_K (s_new S 1 7) (s_nx S) = 1 := if_pos rfl
  have hJ1 : wJ D Y A s S0 (s_new S 1 7) H1 locs := ⟨hg.step hok rfl rfl rfl rfl, hH.push rfl (fun b hb => if_neg hb) (fun b hb => wE_new S _ _ hb) (by
    rw [wE_X0 hK1]
    simp only [I_new, L_new, R_new, if_true, reduceIte, va_rf]
    exact h1) z1 o1 hA, hS1⟩
  have k := kk H1 hJ1
  rw [hH.1]
  exact W.cs (show s_nx S - s_nx S0 + 1 = s_nx S + 1 - s_nx S0 by omega) (show s_sl S - s_sl S0 + 7 = s_sl S + 7 - s_sl S0 by omega) k
theorem nw_X1 (hX : jq_X D Y aR A p s m args meth c cc own nm mx rt) (hJ : wJ D Y A s S0 S H locs) (hok : s_nx S + 1 ≤ s_lm S ∧ s_sl S + 2 ≤ s_sm S) (hq : s_nx S = q) (hx : s_new S 2 2 = S1) (hcl : Cond.classLink own index "ScoreHandles$Handles" ∈ lw_all) (hdg : decode cc pc = .ok (.new index, 3)) (kk : ∀ H1 : Heap, wJ D Y A s S0 S1 H1 locs → W p l e { frames := FR, cells := s_lm S0 - s_nx S0, slots := s_sm S0 - s_sl S0, locals := LO } s m args below meth c H1 locs (s_nx S1 - s_nx S0) (s_sl S1 - s_sl S0) Q (F0 m (pc + 3) ls (.ref q :: rest))) : W p l e { frames := FR, cells := s_lm S0 - s_nx S0, slots := s_sm S0 - s_sl S0, locals := LO } s m args below meth c H locs (s_nx S - s_nx S0) (s_sl S - s_sl S0) Q (F0 m pc ls rest) := by
  subst hx; subst hq
  obtain ⟨hg, hH, hS⟩ := hJ
  obtain ⟨g1, g2, g3, g4, g5, g6⟩ := id hg
  refine jq_newO (ci := 1) (C := RX1) (T := TX1) (N := 2) (fs := [.null, .int 0]) hX hS ly_X1 tyX1_ok rfl hcl qw42 qw3 (fun j hj => by
    match j, hj with
    | 0, _ => rfl
    | 1, _ => rfl
    | k + 2, hk => exact absurd hk (by omega)) (by show s_nx S - s_nx S0 + 1 ≤ s_lm S0 - s_nx S0; omega) (by show s_sl S - s_sl S0 + 2 ≤ s_sm S0 - s_sl S0; omega) hdg (fun H1 h1 z1 o1 hS1 hA => ?_)
  rw [hH.1] at h1 hA
  have hK1 : s_K (s_new S 2 2) (s_nx S) = 2 := if_pos rfl
  have hJ1 : wJ D Y A s S0 (s_new S 2 2) H1 locs := ⟨hg.step hok rfl rfl rfl rfl, hH.push rfl (fun b hb => if_neg hb) (fun b hb => wE_new S _ _ hb) (by
    rw [wE_X1 hK1]
    simp only [I_new, L_new, R_new, if_true, reduceIte, va_rf]
    exact h1) z1 o1 hA, hS1⟩
  have k := kk H1 hJ1
  rw [hH.1]
  exact W.cs (show s_nx S - s_nx S0 + 1 = s_nx S + 1 - s_nx S0 by omega) (show s_sl S - s_sl S0 + 2 = s_sl S + 2 - s_sl S0 by omega) k
theorem nw_X3 (hX : jq_X D Y aR A p s m args meth c cc own nm mx rt) (hJ : wJ D Y A s S0 S H locs) (hok : s_nx S + 1 ≤ s_lm S ∧ s_sl S + 2 ≤ s_sm S) (hq : s_nx S = q) (hx : s_new S 3 2 = S1) (hcl : Cond.classLink own index "ScoreHandles$Maker" ∈ lw_all) (hdg : decode cc pc = .ok (.new index, 3)) (kk : ∀ H1 : Heap, wJ D Y A s S0 S1 H1 locs → W p l e { frames := FR, cells := s_lm S0 - s_nx S0, slots := s_sm S0 - s_sl S0, locals := LO } s m args below meth c H1 locs (s_nx S1 - s_nx S0) (s_sl S1 - s_sl S0) Q (F0 m (pc + 3) ls (.ref q :: rest))) : W p l e { frames := FR, cells := s_lm S0 - s_nx S0, slots := s_sm S0 - s_sl S0, locals := LO } s m args below meth c H locs (s_nx S - s_nx S0) (s_sl S - s_sl S0) Q (F0 m pc ls rest) := by
  subst hx; subst hq
  obtain ⟨hg, hH, hS⟩ := hJ
  obtain ⟨g1, g2, g3, g4, g5, g6⟩ := id hg
  refine jq_newO (ci := 2) (C := RX3) (T := TX3) (N := 2) (fs := [.null, .null]) hX hS ly_X3 tyX3_ok rfl hcl qw58 qw4 (fun j hj => by
    match j, hj with
    | 0, _ => rfl
    | 1, _ => rfl
    | k + 2, hk => exact absurd hk (by omega)) (by show s_nx S - s_nx S0 + 1 ≤ s_lm S0 - s_nx S0; omega) (by show s_sl S - s_sl S0 + 2 ≤ s_sm S0 - s_sl S0; omega) hdg (fun H1 h1 z1 o1 hS1 hA => ?_)
  rw [hH.1] at h1 hA
  have hK1 : s_K (s_new S 3 2) (s_nx S) = 3 := if_pos rfl
  have hJ1 : wJ D Y A s S0 (s_new S 3 2) H1 locs := ⟨hg.step hok rfl rfl rfl rfl, hH.push rfl (fun b hb => if_neg hb) (fun b hb => wE_new S _ _ hb) (by
    rw [wE_X3 hK1]
    simp only [I_new, L_new, R_new, if_true, reduceIte, va_rf]
    exact h1) z1 o1 hA, hS1⟩
  have k := kk H1 hJ1
  rw [hH.1]
  exact W.cs (show s_nx S - s_nx S0 + 1 = s_nx S + 1 - s_nx S0 by omega) (show s_sl S - s_sl S0 + 2 = s_sl S + 2 - s_sl S0 by omega) k
theorem nw_X5 (hX : jq_X D Y aR A p s m args meth c cc own nm mx rt) (hJ : wJ D Y A s S0 S H locs) (hok : s_nx S + 1 ≤ s_lm S ∧ s_sl S + 2 ≤ s_sm S) (hq : s_nx S = q) (hx : s_new S 5 2 = S1) (hcl : Cond.classLink own index "ScoreHandles$Row" ∈ lw_all) (hdg : decode cc pc = .ok (.new index, 3)) (kk : ∀ H1 : Heap, wJ D Y A s S0 S1 H1 locs → W p l e { frames := FR, cells := s_lm S0 - s_nx S0, slots := s_sm S0 - s_sl S0, locals := LO } s m args below meth c H1 locs (s_nx S1 - s_nx S0) (s_sl S1 - s_sl S0) Q (F0 m (pc + 3) ls (.ref q :: rest))) : W p l e { frames := FR, cells := s_lm S0 - s_nx S0, slots := s_sm S0 - s_sl S0, locals := LO } s m args below meth c H locs (s_nx S - s_nx S0) (s_sl S - s_sl S0) Q (F0 m pc ls rest) := by
  subst hx; subst hq
  obtain ⟨hg, hH, hS⟩ := hJ
  obtain ⟨g1, g2, g3, g4, g5, g6⟩ := id hg
  refine jq_newO (ci := 4) (C := RX5) (T := TX5) (N := 2) (fs := [.int 0, .null]) hX hS ly_X5 tyX5_ok rfl hcl qw162 qw9 (fun j hj => by
    match j, hj with
    | 0, _ => rfl
    | 1, _ => rfl
    | k + 2, hk => exact absurd hk (by omega)) (by show s_nx S - s_nx S0 + 1 ≤ s_lm S0 - s_nx S0; omega) (by show s_sl S - s_sl S0 + 2 ≤ s_sm S0 - s_sl S0; omega) hdg (fun H1 h1 z1 o1 hS1 hA => ?_)
  rw [hH.1] at h1 hA
  have hK1 : s_K (s_new S 5 2) (s_nx S) = 5 := if_pos rfl
  have hJ1 : wJ D Y A s S0 (s_new S 5 2) H1 locs := ⟨hg.step hok rfl rfl rfl rfl, hH.push rfl (fun b hb => if_neg hb) (fun b hb => wE_new S _ _ hb) (by
    rw [wE_X5 hK1]
    simp only [I_new, L_new, R_new, if_true, reduceIte, va_rf]
    exact h1) z1 o1 hA, hS1⟩
  have k := kk H1 hJ1
  rw [hH.1]
  exact W.cs (show s_nx S - s_nx S0 + 1 = s_nx S + 1 - s_nx S0 by omega) (show s_sl S - s_sl S0 + 2 = s_sl S + 2 - s_sl S0 by omega) k
theorem nw_X6 (hX : jq_X D Y aR A p s m args meth c cc own nm mx rt) (hJ : wJ D Y A s S0 S H locs) (hok : s_nx S + 1 ≤ s_lm S ∧ s_sl S + 2 ≤ s_sm S) (hq : s_nx S = q) (hx : s_new S 6 2 = S1) (hcl : Cond.classLink own index "ScoreHandles$Rows" ∈ lw_all) (hdg : decode cc pc = .ok (.new index, 3)) (kk : ∀ H1 : Heap, wJ D Y A s S0 S1 H1 locs → W p l e { frames := FR, cells := s_lm S0 - s_nx S0, slots := s_sm S0 - s_sl S0, locals := LO } s m args below meth c H1 locs (s_nx S1 - s_nx S0) (s_sl S1 - s_sl S0) Q (F0 m (pc + 3) ls (.ref q :: rest))) : W p l e { frames := FR, cells := s_lm S0 - s_nx S0, slots := s_sm S0 - s_sl S0, locals := LO } s m args below meth c H locs (s_nx S - s_nx S0) (s_sl S - s_sl S0) Q (F0 m pc ls rest) := by
  subst hx; subst hq
  obtain ⟨hg, hH, hS⟩ := hJ
  obtain ⟨g1, g2, g3, g4, g5, g6⟩ := id hg
  refine jq_newO (ci := 5) (C := RX6) (T := TX6) (N := 2) (fs := [.null, .int 0]) hX hS ly_X6 tyX6_ok rfl hcl qw26 qw2 (fun j hj => by
    match j, hj with
    | 0, _ => rfl
    | 1, _ => rfl
    | k + 2, hk => exact absurd hk (by omega)) (by show s_nx S - s_nx S0 + 1 ≤ s_lm S0 - s_nx S0; omega) (by show s_sl S - s_sl S0 + 2 ≤ s_sm S0 - s_sl S0; omega) hdg (fun H1 h1 z1 o1 hS1 hA => ?_)
  rw [hH.1] at h1 hA
  have hK1 : s_K (s_new S 6 2) (s_nx S) = 6 := if_pos rfl
  have hJ1 : wJ D Y A s S0 (s_new S 6 2) H1 locs := ⟨hg.step hok rfl rfl rfl rfl, hH.push rfl (fun b hb => if_neg hb) (fun b hb => wE_new S _ _ hb) (by
    rw [wE_X6 hK1]
    simp only [I_new, L_new, R_new, if_true, reduceIte, va_rf]
    exact h1) z1 o1 hA, hS1⟩
  have k := kk H1 hJ1
  rw [hH.1]
  exact W.cs (show s_nx S - s_nx S0 + 1 = s_nx S + 1 - s_nx S0 by omega) (show s_sl S - s_sl S0 + 2 = s_sl S + 2 - s_sl S0 by omega) k
theorem nw_X7 (hX : jq_X D Y aR A p s m args meth c cc own nm mx rt) (hJ : wJ D Y A s S0 S H locs) (hok : s_nx S + 1 ≤ s_lm S ∧ s_sl S + 7 ≤ s_sm S) (hq : s_nx S = q) (hx : s_new S 7 7 = S1) (hcl : Cond.classLink own index "ScoreHandles$Runner" ∈ lw_all) (hdg : decode cc pc = .ok (.new index, 3)) (kk : ∀ H1 : Heap, wJ D Y A s S0 S1 H1 locs → W p l e { frames := FR, cells := s_lm S0 - s_nx S0, slots := s_sm S0 - s_sl S0, locals := LO } s m args below meth c H1 locs (s_nx S1 - s_nx S0) (s_sl S1 - s_sl S0) Q (F0 m (pc + 3) ls (.ref q :: rest))) : W p l e { frames := FR, cells := s_lm S0 - s_nx S0, slots := s_sm S0 - s_sl S0, locals := LO } s m args below meth c H locs (s_nx S - s_nx S0) (s_sl S - s_sl S0) Q (F0 m pc ls rest) := by
  subst hx; subst hq
  obtain ⟨hg, hH, hS⟩ := hJ
  obtain ⟨g1, g2, g3, g4, g5, g6⟩ := id hg
  refine jq_newO (ci := 6) (C := RX7) (T := TX7) (N := 7) (fs := [.null, .null, .null, .int 0, .int 0, .int 0, .int 0]) hX hS ly_X7 tyX7_ok rfl hcl qw71 qw5 (fun j hj => by
    match j, hj with
    | 0, _ => rfl
    | 1, _ => rfl
    | 2, _ => rfl
    | 3, _ => rfl
    | 4, _ => rfl
    | 5, _ => rfl
    | 6, _ => rfl
    | k + 7, hk => exact absurd hk (by omega)) (by show s_nx S - s_nx S0 + 1 ≤ s_lm S0 - s_nx S0; omega) (by show s_sl S - s_sl S0 + 7 ≤ s_sm S0 - s_sl S0; omega) hdg (fun H1 h1 z1 o1 hS1 hA => ?_)
  rw [hH.1] at h1 hA
  have hK1 : s_K (s_new S 7 7) (s_nx S) = 7 := if_pos rfl
  have hJ1 : wJ D Y A s S0 (s_new S 7 7) H1 locs := ⟨hg.step hok rfl rfl rfl rfl, hH.push rfl (fun b hb => if_neg hb) (fun b hb => wE_new S _ _ hb) (by
    rw [wE_X7 hK1]
    simp only [I_new, L_new, R_new, if_true, reduceIte, va_rf]
    exact h1) z1 o1 hA, hS1⟩
  have k := kk H1 hJ1
  rw [hH.1]
  exact W.cs (show s_nx S - s_nx S0 + 1 = s_nx S + 1 - s_nx S0 by omega) (show s_sl S - s_sl S0 + 7 = s_sl S + 7 - s_sl S0 by omega) k
theorem nw_X9 (hX : jq_X D Y aR A p s m args meth c cc own nm mx rt) (hJ : wJ D Y A s S0 S H locs) (hok : s_nx S + 1 ≤ s_lm S ∧ s_sl S + 3 ≤ s_sm S) (hq : s_nx S = q) (hx : s_new S 8 3 = S1) (hcl : Cond.classLink own index "ScoreHandles$Type" ∈ lw_all) (hdg : decode cc pc = .ok (.new index, 3)) (kk : ∀ H1 : Heap, wJ D Y A s S0 S1 H1 locs → W p l e { frames := FR, cells := s_lm S0 - s_nx S0, slots := s_sm S0 - s_sl S0, locals := LO } s m args below meth c H1 locs (s_nx S1 - s_nx S0) (s_sl S1 - s_sl S0) Q (F0 m (pc + 3) ls (.ref q :: rest))) : W p l e { frames := FR, cells := s_lm S0 - s_nx S0, slots := s_sm S0 - s_sl S0, locals := LO } s m args below meth c H locs (s_nx S - s_nx S0) (s_sl S - s_sl S0) Q (F0 m pc ls rest) := by
  subst hx; subst hq
  obtain ⟨hg, hH, hS⟩ := hJ
  obtain ⟨g1, g2, g3, g4, g5, g6⟩ := id hg
  refine jq_newO (ci := 7) (C := RX9) (T := TX9) (N := 3) (fs := [.int 0, .int 0, .null]) hX hS ly_X9 tyX9_ok rfl hcl qw104 qw6 (fun j hj => by
    match j, hj with
    | 0, _ => rfl
    | 1, _ => rfl
    | 2, _ => rfl
    | k + 3, hk => exact absurd hk (by omega)) (by show s_nx S - s_nx S0 + 1 ≤ s_lm S0 - s_nx S0; omega) (by show s_sl S - s_sl S0 + 3 ≤ s_sm S0 - s_sl S0; omega) hdg (fun H1 h1 z1 o1 hS1 hA => ?_)
  rw [hH.1] at h1 hA
  have hK1 : s_K (s_new S 8 3) (s_nx S) = 8 := if_pos rfl
  have hJ1 : wJ D Y A s S0 (s_new S 8 3) H1 locs := ⟨hg.step hok rfl rfl rfl rfl, hH.push rfl (fun b hb => if_neg hb) (fun b hb => wE_new S _ _ hb) (by
    rw [wE_X9 hK1]
    simp only [I_new, L_new, R_new, if_true, reduceIte, va_rf]
    exact h1) z1 o1 hA, hS1⟩
  have k := kk H1 hJ1
  rw [hH.1]
  exact W.cs (show s_nx S - s_nx S0 + 1 = s_nx S + 1 - s_nx S0 by omega) (show s_sl S - s_sl S0 + 3 = s_sl S + 3 - s_sl S0 by omega) k
theorem nw_X10 (hX : jq_X D Y aR A p s m args meth c cc own nm mx rt) (hJ : wJ D Y A s S0 S H locs) (hok : s_nx S + 1 ≤ s_lm S ∧ s_sl S + 8 ≤ s_sm S) (hq : s_nx S = q) (hx : s_new S 9 8 = S1) (hcl : Cond.classLink own index "ScoreHandles" ∈ lw_all) (hdg : decode cc pc = .ok (.new index, 3)) (kk : ∀ H1 : Heap, wJ D Y A s S0 S1 H1 locs → W p l e { frames := FR, cells := s_lm S0 - s_nx S0, slots := s_sm S0 - s_sl S0, locals := LO } s m args below meth c H1 locs (s_nx S1 - s_nx S0) (s_sl S1 - s_sl S0) Q (F0 m (pc + 3) ls (.ref q :: rest))) : W p l e { frames := FR, cells := s_lm S0 - s_nx S0, slots := s_sm S0 - s_sl S0, locals := LO } s m args below meth c H locs (s_nx S - s_nx S0) (s_sl S - s_sl S0) Q (F0 m pc ls rest) := by
  subst hx; subst hq
  obtain ⟨hg, hH, hS⟩ := hJ
  obtain ⟨g1, g2, g3, g4, g5, g6⟩ := id hg
  refine jq_newO (ci := 8) (C := RX10) (T := TX10) (N := 8) (fs := [.null, .null, .null, .null, .null, .null, .long 0, .int 0]) hX hS ly_X10 tyX10_ok rfl hcl qw18 qw1 (fun j hj => by
    match j, hj with
    | 0, _ => rfl
    | 1, _ => rfl
    | 2, _ => rfl
    | 3, _ => rfl
    | 4, _ => rfl
    | 5, _ => rfl
    | 6, _ => rfl
    | 7, _ => rfl
    | k + 8, hk => exact absurd hk (by omega)) (by show s_nx S - s_nx S0 + 1 ≤ s_lm S0 - s_nx S0; omega) (by show s_sl S - s_sl S0 + 8 ≤ s_sm S0 - s_sl S0; omega) hdg (fun H1 h1 z1 o1 hS1 hA => ?_)
  rw [hH.1] at h1 hA
  have hK1 : s_K (s_new S 9 8) (s_nx S) = 9 := if_pos rfl
  have hJ1 : wJ D Y A s S0 (s_new S 9 8) H1 locs := ⟨hg.step hok rfl rfl rfl rfl, hH.push rfl (fun b hb => if_neg hb) (fun b hb => wE_new S _ _ hb) (by
    rw [wE_X10 hK1]
    simp only [I_new, L_new, R_new, if_true, reduceIte, va_rf]
    exact h1) z1 o1 hA, hS1⟩
  have k := kk H1 hJ1
  rw [hH.1]
  exact W.cs (show s_nx S - s_nx S0 + 1 = s_nx S + 1 - s_nx S0 by omega) (show s_sl S - s_sl S0 + 8 = s_sl S + 8 - s_sl S0 by omega) k
theorem nw_X11 (hX : jq_X D Y aR A p s m args meth c cc own nm mx rt) (hJ : wJ D Y A s S0 S H locs) (hok : s_nx S + 1 ≤ s_lm S ∧ s_sl S + 36 ≤ s_sm S) (hq : s_nx S = q) (hx : s_new S 10 36 = S1) (hcl : Cond.classLink own index "ScoreHandlesModel" ∈ lw_all) (hdg : decode cc pc = .ok (.new index, 3)) (kk : ∀ H1 : Heap, wJ D Y A s S0 S1 H1 locs → W p l e { frames := FR, cells := s_lm S0 - s_nx S0, slots := s_sm S0 - s_sl S0, locals := LO } s m args below meth c H1 locs (s_nx S1 - s_nx S0) (s_sl S1 - s_sl S0) Q (F0 m (pc + 3) ls (.ref q :: rest))) : W p l e { frames := FR, cells := s_lm S0 - s_nx S0, slots := s_sm S0 - s_sl S0, locals := LO } s m args below meth c H locs (s_nx S - s_nx S0) (s_sl S - s_sl S0) Q (F0 m pc ls rest) := by
  subst hx; subst hq
  obtain ⟨hg, hH, hS⟩ := hJ
  obtain ⟨g1, g2, g3, g4, g5, g6⟩ := id hg
  refine jq_newO (ci := 9) (C := RX11) (T := TX11) (N := 36) (fs := [.int 0, .null, .null, .null, .int 0, .int 0, .null, .null, .int 0, .null, .null, .null, .null, .null, .null, .null, .null, .int 0, .int 0, .int 0, .long 0, .int 0, .null, .null, .null, .null, .null, .null, .long 0, .int 0, .int 0, .int 0, .int 0, .int 0, .long 0, .null]) hX hS ly_X11 tyX11_ok rfl hcl qw684 qw7 (fun j hj => by
    match j, hj with
    | 0, _ => rfl
    | 1, _ => rfl
    | 2, _ => rfl
    | 3, _ => rfl
    | 4, _ => rfl
    | 5, _ => rfl
    | 6, _ => rfl
    | 7, _ => rfl
    | 8, _ => rfl
    | 9, _ => rfl
    | 10, _ => rfl
    | 11, _ => rfl
    | 12, _ => rfl
    | 13, _ => rfl
    | 14, _ => rfl
    | 15, _ => rfl
    | 16, _ => rfl
    | 17, _ => rfl
    | 18, _ => rfl
    | 19, _ => rfl
    | 20, _ => rfl
    | 21, _ => rfl
    | 22, _ => rfl
    | 23, _ => rfl
    | 24, _ => rfl
    | 25, _ => rfl
    | 26, _ => rfl
    | 27, _ => rfl
    | 28, _ => rfl
    | 29, _ => rfl
    | 30, _ => rfl
    | 31, _ => rfl
    | 32, _ => rfl
    | 33, _ => rfl
    | 34, _ => rfl
    | 35, _ => rfl
    | k + 36, hk => exact absurd hk (by omega)) (by show s_nx S - s_nx S0 + 1 ≤ s_lm S0 - s_nx S0; omega) (by show s_sl S - s_sl S0 + 36 ≤ s_sm S0 - s_sl S0; omega) hdg (fun H1 h1 z1 o1 hS1 hA => ?_)
  rw [hH.1] at h1 hA
  have hK1 : s_K (s_new S 10 36) (s_nx S) = 10 := if_pos rfl
  have hJ1 : wJ D Y A s S0 (s_new S 10 36) H1 locs := ⟨hg.step hok rfl rfl rfl rfl, hH.push rfl (fun b hb => if_neg hb) (fun b hb => wE_new S _ _ hb) (by
    rw [wE_X11 hK1]
    simp only [I_new, L_new, R_new, if_true, reduceIte, va_rf]
    exact h1) z1 o1 hA, hS1⟩
  have k := kk H1 hJ1
  rw [hH.1]
  exact W.cs (show s_nx S - s_nx S0 + 1 = s_nx S + 1 - s_nx S0 by omega) (show s_sl S - s_sl S0 + 36 = s_sl S + 36 - s_sl S0 by omega) k
theorem na_I {n : Int32} (hX : jq_X D Y aR A p s m args meth c cc own nm mx rt) (hJ : wJ D Y A s S0 S H locs) (hok : (¬ n < 0 ∧ n.toNatClampNeg ≤ 1000) ∧ s_nx S + 1 ≤ s_lm S ∧ s_sl S + n.toNatClampNeg ≤ s_sm S) (hq : s_nx S = q) (hx : s_newA S 21 n.toNatClampNeg = S1) (hdg : decode cc pc = .ok (.newarray .int, 2)) (kk : ∀ H1 : Heap, wJ D Y A s S0 S1 H1 locs → W p l e { frames := FR, cells := s_lm S0 - s_nx S0, slots := s_sm S0 - s_sl S0, locals := LO } s m args below meth c H1 locs (s_nx S1 - s_nx S0) (s_sl S1 - s_sl S0) Q (F0 m (pc + 2) ls (.ref q :: rest))) : W p l e { frames := FR, cells := s_lm S0 - s_nx S0, slots := s_sm S0 - s_sl S0, locals := LO } s m args below meth c H locs (s_nx S - s_nx S0) (s_sl S - s_sl S0) Q (F0 m pc ls (.int n :: rest)) := by
  subst hx; subst hq
  obtain ⟨hg, hH, hS⟩ := hJ
  obtain ⟨g1, g2, g3, g4, g5, g6⟩ := id hg
  have hK := hX.2.2.2.2.2.1
  refine va_newaK hX.1 hX.2.1 (atype := .int) (hX.2.2.2.2.1 _ qw125) rfl hdg rfl hok.1.1 rfl (by show n.toNatClampNeg * 4 ≤ 536870912; omega) (by show s_nx S - s_nx S0 + 1 ≤ s_lm S0 - s_nx S0; omega) (by show s_sl S - s_sl S0 + n.toNatClampNeg ≤ s_sm S0 - s_sl S0; omega) rfl (fun H1 cA e1 z1 o1 hAr hNm => ?_)
  have hcA : cA = Y 0 := Option.some.inj (hNm.symm.trans (hK.1.2 0 _ rfl).2)
  subst hcA
  have hA : A (s_nx S) := by rw [← hH.1]; exact hK.2.2.2.2.1 _ hS.1
  have hS1 : va_S A s.heap H1 locs := ⟨Nat.le_trans hS.1 (by omega), fun x h1 h2 => (o1 x (Nat.lt_of_lt_of_le h1 hS.1)).trans (hS.2.1 x h1 h2), hS.2.2⟩
  rw [hH.1] at e1
  have hK1 : s_K (s_newA S 21 n.toNatClampNeg) (s_nx S) = 21 := if_pos rfl
  have hJ1 : wJ D Y A s S0 (s_newA S 21 n.toNatClampNeg) H1 locs := ⟨hg.step hok.2 rfl rfl rfl rfl, hH.push rfl (fun b hb => if_neg hb) (fun b hb => wE_newA S _ _ hb) (by
    rw [wE_21 hK1]
    simp only [n_newA, aI_newA, aL_newA, if_true, reduceIte]
    exact e1) z1 o1 hA, hS1⟩
  have k := kk H1 hJ1
  rw [hH.1]
  exact W.cs (show s_nx S - s_nx S0 + 1 = s_nx S + 1 - s_nx S0 by omega) (show s_sl S - s_sl S0 + n.toNatClampNeg = s_sl S + n.toNatClampNeg - s_sl S0 by omega) k
theorem na_L {n : Int32} (hX : jq_X D Y aR A p s m args meth c cc own nm mx rt) (hJ : wJ D Y A s S0 S H locs) (hok : (¬ n < 0 ∧ n.toNatClampNeg ≤ 1000) ∧ s_nx S + 1 ≤ s_lm S ∧ s_sl S + n.toNatClampNeg ≤ s_sm S) (hq : s_nx S = q) (hx : s_newA S 22 n.toNatClampNeg = S1) (hdg : decode cc pc = .ok (.newarray .long, 2)) (kk : ∀ H1 : Heap, wJ D Y A s S0 S1 H1 locs → W p l e { frames := FR, cells := s_lm S0 - s_nx S0, slots := s_sm S0 - s_sl S0, locals := LO } s m args below meth c H1 locs (s_nx S1 - s_nx S0) (s_sl S1 - s_sl S0) Q (F0 m (pc + 2) ls (.ref q :: rest))) : W p l e { frames := FR, cells := s_lm S0 - s_nx S0, slots := s_sm S0 - s_sl S0, locals := LO } s m args below meth c H locs (s_nx S - s_nx S0) (s_sl S - s_sl S0) Q (F0 m pc ls (.int n :: rest)) := by
  subst hx; subst hq
  obtain ⟨hg, hH, hS⟩ := hJ
  obtain ⟨g1, g2, g3, g4, g5, g6⟩ := id hg
  have hK := hX.2.2.2.2.2.1
  refine va_newaK hX.1 hX.2.1 (atype := .long) (hX.2.2.2.2.1 _ qw102) rfl hdg rfl hok.1.1 rfl (by show n.toNatClampNeg * 8 ≤ 536870912; omega) (by show s_nx S - s_nx S0 + 1 ≤ s_lm S0 - s_nx S0; omega) (by show s_sl S - s_sl S0 + n.toNatClampNeg ≤ s_sm S0 - s_sl S0; omega) rfl (fun H1 cA e1 z1 o1 hAr hNm => ?_)
  have hcA : cA = Y 1 := Option.some.inj (hNm.symm.trans (hK.1.2 1 _ rfl).2)
  subst hcA
  have hA : A (s_nx S) := by rw [← hH.1]; exact hK.2.2.2.2.1 _ hS.1
  have hS1 : va_S A s.heap H1 locs := ⟨Nat.le_trans hS.1 (by omega), fun x h1 h2 => (o1 x (Nat.lt_of_lt_of_le h1 hS.1)).trans (hS.2.1 x h1 h2), hS.2.2⟩
  rw [hH.1] at e1
  have hK1 : s_K (s_newA S 22 n.toNatClampNeg) (s_nx S) = 22 := if_pos rfl
  have hJ1 : wJ D Y A s S0 (s_newA S 22 n.toNatClampNeg) H1 locs := ⟨hg.step hok.2 rfl rfl rfl rfl, hH.push rfl (fun b hb => if_neg hb) (fun b hb => wE_newA S _ _ hb) (by
    rw [wE_22 hK1]
    simp only [n_newA, aI_newA, aL_newA, if_true, reduceIte]
    exact e1) z1 o1 hA, hS1⟩
  have k := kk H1 hJ1
  rw [hH.1]
  exact W.cs (show s_nx S - s_nx S0 + 1 = s_nx S + 1 - s_nx S0 by omega) (show s_sl S - s_sl S0 + n.toNatClampNeg = s_sl S + n.toNatClampNeg - s_sl S0 by omega) k
theorem na_H {n : Int32} (hX : jq_X D Y aR A p s m args meth c cc own nm mx rt) (hJ : wJ D Y A s S0 S H locs) (hok : (¬ n < 0 ∧ n.toNatClampNeg ≤ 1000) ∧ s_nx S + 1 ≤ s_lm S ∧ s_sl S + n.toNatClampNeg ≤ s_sm S) (hq : s_nx S = q) (hx : s_newA S 23 n.toNatClampNeg = S1) (hcl : Cond.classLink own index "ScoreHandles$Handle" ∈ lw_all) (hdg : decode cc pc = .ok (.anewarray index, 3)) (kk : ∀ H1 : Heap, wJ D Y A s S0 S1 H1 locs → W p l e { frames := FR, cells := s_lm S0 - s_nx S0, slots := s_sm S0 - s_sl S0, locals := LO } s m args below meth c H1 locs (s_nx S1 - s_nx S0) (s_sl S1 - s_sl S0) Q (F0 m (pc + 3) ls (.ref q :: rest))) : W p l e { frames := FR, cells := s_lm S0 - s_nx S0, slots := s_sm S0 - s_sl S0, locals := LO } s m args below meth c H locs (s_nx S - s_nx S0) (s_sl S - s_sl S0) Q (F0 m pc ls (.int n :: rest)) := by
  subst hx; subst hq
  obtain ⟨hg, hH, hS⟩ := hJ
  obtain ⟨g1, g2, g3, g4, g5, g6⟩ := id hg
  have hK := hX.2.2.2.2.2.1
  refine W.anew hX.1 hX.2.1 hX.2.2.2.1 (hX.2.2.2.2.1 _ hcl) (va_AO.use hK.2.2.1) rfl hdg rfl hok.1.1 (by omega) (by show s_nx S - s_nx S0 + 1 ≤ s_lm S0 - s_nx S0; omega) (by show s_sl S - s_sl S0 + n.toNatClampNeg ≤ s_sm S0 - s_sl S0; omega) (fun cA kA comp f1 f2 f3 f4 => ?_)
  generalize hH1 : H.push ({ cls := cA, slots := Array.replicate n.toNatClampNeg .null, vm := .none } : Cell) = H1
  have z1 : H1.size = H.size + 1 := by rw [← hH1, Array.size_push]
  have e1 : H1[H.size]? = some (arrV cA n.toNatClampNeg (fun _ => .null)) := by rw [← hH1, Array.getElem?_push_size, ← arrV_new]
  have o1 : ∀ q : Nat, q < H.size → H1[q]? = H[q]? := fun q hq => by rw [← hH1, Array.getElem?_push, if_neg (Nat.ne_of_lt hq)]
  obtain ⟨_, _, _, _, _, hNm⟩ := (hK.1.2 2 _ rfl).2
  have hcA : cA = Y 2 := Option.some.inj (f1.symm.trans hNm)
  subst hcA
  have hA : A (s_nx S) := by rw [← hH.1]; exact hK.2.2.2.2.1 _ hS.1
  have hS1 : va_S A s.heap H1 locs := ⟨Nat.le_trans hS.1 (by omega), fun x h1 h2 => (o1 x (Nat.lt_of_lt_of_le h1 hS.1)).trans (hS.2.1 x h1 h2), hS.2.2⟩
  rw [hH.1] at e1
  have hK1 : s_K (s_newA S 23 n.toNatClampNeg) (s_nx S) = 23 := if_pos rfl
  have hJ1 : wJ D Y A s S0 (s_newA S 23 n.toNatClampNeg) H1 locs := ⟨hg.step hok.2 rfl rfl rfl rfl, hH.push rfl (fun b hb => if_neg hb) (fun b hb => wE_newA S _ _ hb) (by
    rw [wE_23 hK1]
    simp only [n_newA, aR_newA, if_true, reduceIte]
    exact e1) z1 o1 hA, hS1⟩
  have k := kk H1 hJ1
  rw [hH.1]
  exact W.cs (show s_nx S - s_nx S0 + 1 = s_nx S + 1 - s_nx S0 by omega) (show s_sl S - s_sl S0 + n.toNatClampNeg = s_sl S + n.toNatClampNeg - s_sl S0 by omega) k
theorem na_W {n : Int32} (hX : jq_X D Y aR A p s m args meth c cc own nm mx rt) (hJ : wJ D Y A s S0 S H locs) (hok : (¬ n < 0 ∧ n.toNatClampNeg ≤ 1000) ∧ s_nx S + 1 ≤ s_lm S ∧ s_sl S + n.toNatClampNeg ≤ s_sm S) (hq : s_nx S = q) (hx : s_newA S 24 n.toNatClampNeg = S1) (hcl : Cond.classLink own index "ScoreHandles$Row" ∈ lw_all) (hdg : decode cc pc = .ok (.anewarray index, 3)) (kk : ∀ H1 : Heap, wJ D Y A s S0 S1 H1 locs → W p l e { frames := FR, cells := s_lm S0 - s_nx S0, slots := s_sm S0 - s_sl S0, locals := LO } s m args below meth c H1 locs (s_nx S1 - s_nx S0) (s_sl S1 - s_sl S0) Q (F0 m (pc + 3) ls (.ref q :: rest))) : W p l e { frames := FR, cells := s_lm S0 - s_nx S0, slots := s_sm S0 - s_sl S0, locals := LO } s m args below meth c H locs (s_nx S - s_nx S0) (s_sl S - s_sl S0) Q (F0 m pc ls (.int n :: rest)) := by
  subst hx; subst hq
  obtain ⟨hg, hH, hS⟩ := hJ
  obtain ⟨g1, g2, g3, g4, g5, g6⟩ := id hg
  have hK := hX.2.2.2.2.2.1
  refine W.anew hX.1 hX.2.1 hX.2.2.2.1 (hX.2.2.2.2.1 _ hcl) (va_AO.use hK.2.2.2.1) rfl hdg rfl hok.1.1 (by omega) (by show s_nx S - s_nx S0 + 1 ≤ s_lm S0 - s_nx S0; omega) (by show s_sl S - s_sl S0 + n.toNatClampNeg ≤ s_sm S0 - s_sl S0; omega) (fun cA kA comp f1 f2 f3 f4 => ?_)
  generalize hH1 : H.push ({ cls := cA, slots := Array.replicate n.toNatClampNeg .null, vm := .none } : Cell) = H1
  have z1 : H1.size = H.size + 1 := by rw [← hH1, Array.size_push]
  have e1 : H1[H.size]? = some (arrV cA n.toNatClampNeg (fun _ => .null)) := by rw [← hH1, Array.getElem?_push_size, ← arrV_new]
  have o1 : ∀ q : Nat, q < H.size → H1[q]? = H[q]? := fun q hq => by rw [← hH1, Array.getElem?_push, if_neg (Nat.ne_of_lt hq)]
  obtain ⟨_, _, _, _, _, hNm⟩ := (hK.1.2 3 _ rfl).2
  have hcA : cA = Y 3 := Option.some.inj (f1.symm.trans hNm)
  subst hcA
  have hA : A (s_nx S) := by rw [← hH.1]; exact hK.2.2.2.2.1 _ hS.1
  have hS1 : va_S A s.heap H1 locs := ⟨Nat.le_trans hS.1 (by omega), fun x h1 h2 => (o1 x (Nat.lt_of_lt_of_le h1 hS.1)).trans (hS.2.1 x h1 h2), hS.2.2⟩
  rw [hH.1] at e1
  have hK1 : s_K (s_newA S 24 n.toNatClampNeg) (s_nx S) = 24 := if_pos rfl
  have hJ1 : wJ D Y A s S0 (s_newA S 24 n.toNatClampNeg) H1 locs := ⟨hg.step hok.2 rfl rfl rfl rfl, hH.push rfl (fun b hb => if_neg hb) (fun b hb => wE_newA S _ _ hb) (by
    rw [wE_24 hK1]
    simp only [n_newA, aR_newA, if_true, reduceIte]
    exact e1) z1 o1 hA, hS1⟩
  have k := kk H1 hJ1
  rw [hH.1]
  exact W.cs (show s_nx S - s_nx S0 + 1 = s_nx S + 1 - s_nx S0 by omega) (show s_sl S - s_sl S0 + n.toNatClampNeg = s_sl S + n.toNatClampNeg - s_sl S0 by omega) k
end NW
/-! the reference's own state: its int and long fields, its arrays, by number -/
def mS : Type := (Nat → Int32) × (Nat → Int64) × (Nat → Nat → Int32) × (Nat → Nat → Int64)
def m_I (σ : mS) : Nat → Int32 := σ.1
def m_L (σ : mS) : Nat → Int64 := σ.2.1
def m_aI (σ : mS) : Nat → Nat → Int32 := σ.2.2.1
def m_aL (σ : mS) : Nat → Nat → Int64 := σ.2.2.2
def m_pI (σ : mS) (k : Nat) (v : Int32) : mS := (fun j => if j = k then v else σ.1 j, σ.2)
def m_pL (σ : mS) (k : Nat) (v : Int64) : mS := (σ.1, fun j => if j = k then v else σ.2.1 j, σ.2.2)
def m_wI (σ : mS) (k i : Nat) (v : Int32) : mS := (σ.1, σ.2.1, fun j q => if j = k ∧ q = i then v else σ.2.2.1 j q, σ.2.2.2)
def m_wL (σ : mS) (k i : Nat) (v : Int64) : mS := (σ.1, σ.2.1, σ.2.2.1, fun j q => if j = k ∧ q = i then v else σ.2.2.2 j q)
theorem mI_pI (σ : mS) (k : Nat) (v : Int32) : m_I (m_pI σ k v) = fun j => if j = k then v else m_I σ j := rfl
theorem mL_pI (σ : mS) (k : Nat) (v : Int32) : m_L (m_pI σ k v) = m_L σ := rfl
theorem maI_pI (σ : mS) (k : Nat) (v : Int32) : m_aI (m_pI σ k v) = m_aI σ := rfl
theorem maL_pI (σ : mS) (k : Nat) (v : Int32) : m_aL (m_pI σ k v) = m_aL σ := rfl
theorem mI_pL (σ : mS) (k : Nat) (v : Int64) : m_I (m_pL σ k v) = m_I σ := rfl
theorem mL_pL (σ : mS) (k : Nat) (v : Int64) : m_L (m_pL σ k v) = fun j => if j = k then v else m_L σ j := rfl
theorem maI_pL (σ : mS) (k : Nat) (v : Int64) : m_aI (m_pL σ k v) = m_aI σ := rfl
theorem maL_pL (σ : mS) (k : Nat) (v : Int64) : m_aL (m_pL σ k v) = m_aL σ := rfl
theorem mI_wI (σ : mS) (k i : Nat) (v : Int32) : m_I (m_wI σ k i v) = m_I σ := rfl
theorem mL_wI (σ : mS) (k i : Nat) (v : Int32) : m_L (m_wI σ k i v) = m_L σ := rfl
theorem maI_wI (σ : mS) (k i : Nat) (v : Int32) : m_aI (m_wI σ k i v) = fun j q => if j = k ∧ q = i then v else m_aI σ j q := rfl
theorem maL_wI (σ : mS) (k i : Nat) (v : Int32) : m_aL (m_wI σ k i v) = m_aL σ := rfl
theorem mI_wL (σ : mS) (k i : Nat) (v : Int64) : m_I (m_wL σ k i v) = m_I σ := rfl
theorem mL_wL (σ : mS) (k i : Nat) (v : Int64) : m_L (m_wL σ k i v) = m_L σ := rfl
theorem maI_wL (σ : mS) (k i : Nat) (v : Int64) : m_aI (m_wL σ k i v) = m_aI σ := rfl
theorem maL_wL (σ : mS) (k i : Nat) (v : Int64) : m_aL (m_wL σ k i v) = fun j q => if j = k ∧ q = i then v else m_aL σ j q := rfl
def m_n (k : Nat) : Nat := [0, 16, 16, 4, 32, 32, 32, 32, 33, 132, 33, 33, 33, 33, 33, 128, 4, 32, 132, 33, 4].getD k 0
def mF (ad : Nat → Nat) (σ : mS) : List Value := [.int (m_I σ 0), .ref (ad 1), .ref (ad 2), .ref (ad 15), .int (m_I σ 1), .int (m_I σ 2), .ref (ad 3), .ref (ad 16), .int (m_I σ 3), .ref (ad 4), .ref (ad 5), .ref (ad 6), .ref (ad 7), .ref (ad 17), .ref (ad 8), .ref (ad 9), .ref (ad 10), .int (m_I σ 4), .int (m_I σ 5), .int (m_I σ 6), .long (m_L σ 0), .int (m_I σ 7), .ref (ad 11), .ref (ad 12), .ref (ad 18), .ref (ad 19), .ref (ad 13), .ref (ad 14), .long (m_L σ 1), .int (m_I σ 8), .int (m_I σ 9), .int (m_I σ 10), .int (m_I σ 11), .int (m_I σ 12), .long (m_L σ 2), .ref (ad 20)]
def mE (Y : Nat → ClassId) (ad : Nat → Nat) (σ : mS) (k : Nat) : va_E := if k = 0 then .inr (9, mF ad σ) else if k < 15 then .inl (Y 0, m_n k, .inl (m_aI σ k)) else .inl (Y 1, m_n k, .inr (.inl (m_aL σ k)))
/-- the heap holds the reference's state at the cells ad 0 .. ad 20 -/
def mH (D : va_G) (Y : Nat → ClassId) (A : Nat → Prop) (ad : Nat → Nat) (σ : mS) (H : Heap) : Prop := (∀ k, k < 21 → va_at D vwCl (ad k, mE Y ad σ k) H ∧ A (ad k)) ∧ ∀ i j, i < 21 → j < 21 → ad i = ad j → i = j
def mJ (D : va_G) (Y : Nat → ClassId) (A : Nat → Prop) (s : State) (ad : Nat → Nat) (σ : mS) (H : Heap) (locs : List Loc) : Prop := mH D Y A ad σ H ∧ va_S A s.heap H locs
def jq_M (l : Launch) (D : va_G) (Y : Nat → ClassId) (aR : Nat → Nat) (A : Nat → Prop) (ad : Nat → Nat) (y : MethodName) (cc : ByteArray) (mx : Nat) (rt : Option FieldType) (fr lo : Nat) (av : List Value) (σ : mS) (r : Option Value) (σ1 : mS) : Prop :=
  jq_C l D Y aR A y cc mx rt fr lo 0 0 av (mH D Y A ad σ) (fun v k n H => v = r ∧ k = 0 ∧ n = 0 ∧ mH D Y A ad σ1 H)
theorem jq_enterM {l : Launch} {D : va_G} {Y : Nat → ClassId} {aR : Nat → Nat} {A : Nat → Prop} {ad : Nat → Nat} {y : MethodName} {cc : ByteArray} {mx : Nat} {rt : Option FieldType} {fr lo : Nat} {av : List Value} {σ σ1 : mS} {r : Option Value}
    (hy : plainName y.cls = true) (hfit : (lg_sl av).length ≤ mx)
    (body : ∀ (p : Program) (e : Env) (s : State) (m : MethodId) (args : Array Value) (below : List Frame) (meth : Method) (c : Code) (ls : Array Slot) (H : Heap) (locs : List Loc), jq_X D Y aR A p s m args meth c cc y.cls y.name mx rt → mJ D Y A s ad σ H locs → lv_has ls mx (lv_args 0 av) →
      W p l e { frames := fr, cells := 0, slots := 0, locals := lo } s m args below meth c H locs 0 0 (jq_Z below A (fun v k n H => v = r ∧ k = 0 ∧ n = 0 ∧ mH D Y A ad σ1 H) s) (F0 m 0 ls [])) :
    jq_M l D Y aR A ad y cc mx rt fr lo av σ r σ1 :=
  jq_enter hy hfit fun p e s m args below meth c ls hX hB hl => body p e s m args below meth c ls s.heap [] hX ⟨hB, va_S.rf⟩ hl
theorem mH.set {D : va_G} {Y : Nat → ClassId} {A : Nat → Prop} {ad : Nat → Nat} {σ σ1 : mS} {H H1 : Heap} {k : Nat} (h : mH D Y A ad σ H) (hk : k < 21) (ho : ∀ j, j ≠ k → mE Y ad σ1 j = mE Y ad σ j) (h1 : va_at D vwCl (ad k, mE Y ad σ1 k) H1) (hq : ∀ q : Nat, q ≠ ad k → H1[q]? = H[q]?) : mH D Y A ad σ1 H1 := by
  refine ⟨fun j hj => ?_, h.2⟩
  refine ⟨?_, (h.1 j hj).2⟩
  by_cases hjk : j = k
  · subst hjk; exact h1
  · rw [ho j hjk]; exact (h.1 j hj).1.kept (hq _ (fun z => hjk (h.2 j k hj hk z)))
section MD
variable {p : Program} {l : Launch} {e : Env} {R : Room} {s : State} {m : MethodId} {args : Array Value} {below : List Frame} {meth : Method} {c : Code} {H : Heap} {locs : List Loc} {cells slots : Nat} {Q : State → Prop}
variable {D : va_G} {Y : Nat → ClassId} {aR : Nat → Nat} {A : Nat → Prop} {cc : ByteArray} {own nm : String} {mx : Nat} {rt : Option FieldType} {pc : Nat} {ls : Array Slot} {st rest : List Value} {index : Nat} {ad : Nat → Nat} {σ σ1 : mS}
variable {y : MethodName} {cy : ByteArray} {my fr lo : Nat} {ry : Option FieldType} {av : List Value} {r : Option Value}
theorem jq_doM (hX : jq_X D Y aR A p s m args meth c cc own nm mx rt) (hJ : mJ D Y A s ad σ H locs) (hok : jq_Ok p l e R s m args below meth c H y cy my ry av pc ls st rest) (hM : jq_M l D Y aR A ad y cy my ry fr lo av σ r σ1) (hfr : fr + 1 ≤ R.frames) (hlo : 8 + (my + 11) + lo ≤ R.locals) (hc : cells ≤ R.cells) (hs : slots ≤ R.slots)
    (kk : ∀ (H1 : Heap) (locs1 : List Loc), mJ D Y A s ad σ1 H1 locs1 → W p l e R s m args below meth c H1 locs1 cells slots Q (F0 m (pc + 3) ls (r.toList ++ rest))) : W p l e R s m args below meth c H locs cells slots Q (F0 m pc ls st) := by
  obtain ⟨hH, hS⟩ := hJ
  have hA : ∀ q, H.size ≤ q → A q := fun q hq => hX.2.2.2.2.2.1.2.2.2.2.1 q (Nat.le_trans hS.1 hq)
  refine hok locs cells slots Q A A D Y aR fr lo 0 0 _ _ hM (fun U hU hW => hX.2.2.2.2.2.1.at hS hU hW (fun _ h => h) hA) hH hS (fun _ h => h) hfr hlo hc hs (fun v k n H1 locs1 hq hS1 _ _ => ?_)
  obtain ⟨rfl, rfl, rfl, hH1⟩ := hq
  exact kk H1 locs1 ⟨hH1, hS1⟩
theorem mJ.recv (hX : jq_X D Y aR A p s m args meth c cc own nm mx rt) (hJ : mJ D Y A s ad σ H locs) : ∃ cell : Cell, H[ad 0]? = some cell ∧ cell.vm.isStatics = false ∧ s.vm.findClass "ScoreHandlesModel" = some cell.cls :=
  jq_recvA (ci := 9) (fs := mF ad σ) hX.2.2.2.2.2.1.1 (hJ.1.1 0 (by decide)).1 (C := RX11) (T := TX11) (N := 36) rfl
theorem mg_rows {x : Int32} (hX : jq_X D Y aR A p s m args meth c cc own nm mx rt) (hJ : mJ D Y A s ad σ H locs) (hx : m_I σ 0 = x) (hl : Cond.fieldLink own index "ScoreHandlesModel" "rows" "I" ∈ lw_all) (hdg : decode cc pc = .ok (.getfield index, 3)) (kk : W p l e R s m args below meth c H locs cells slots Q (F0 m (pc + 3) ls (.int x :: rest))) : W p l e R s m args below meth c H locs cells slots Q (F0 m pc ls (.ref (ad 0) :: rest)) :=
  jq_rdf (ci := 9) (fs := mF ad σ) (C := RX11) (T := TX11) (N := 36) hX (hJ.1.1 0 (by decide)).1 ly_X11 rfl (k := 0) (by decide) hl (by rw [← hx]; rfl) hdg kk
theorem mp_rows {v : Int32} (hX : jq_X D Y aR A p s m args meth c cc own nm mx rt) (hJ : mJ D Y A s ad σ H locs) (hx : m_pI σ 0 v = σ1) (hl : Cond.fieldLink own index "ScoreHandlesModel" "rows" "I" ∈ lw_all) (hdg : decode cc pc = .ok (.putfield index, 3)) (kk : ∀ (H1 : Heap) (locs1 : List Loc), mJ D Y A s ad σ1 H1 locs1 → W p l e R s m args below meth c H1 locs1 cells slots Q (F0 m (pc + 3) ls rest)) : W p l e R s m args below meth c H locs cells slots Q (F0 m pc ls (.int v :: .ref (ad 0) :: rest)) := by
  subst hx
  refine jq_wrf (ci := 9) (fs := mF ad σ) (C := RX11) (T := TX11) (N := 36) hX (hJ.1.1 0 (by decide)).1 ly_X11 tyX11_ok nmX11 rfl (k := 0) (by decide) hl (Or.inl rfl) (ty := .int) (by decide +kernel) rfl rfl (by show _ < _; simp [mF]) hJ.2 (hJ.1.1 0 (by decide)).2 hdg (fun H1 locs1 h1 hz hq hS1 => kk H1 locs1 ⟨hJ.1.set (k := 0) (by decide) (fun j hj => by simp only [mE, if_neg hj]; rfl) h1 hq, hS1⟩)
theorem mg_laneOf (hX : jq_X D Y aR A p s m args meth c cc own nm mx rt) (hJ : mJ D Y A s ad σ H locs) (hl : Cond.fieldLink own index "ScoreHandlesModel" "laneOf" "[I" ∈ lw_all) (hdg : decode cc pc = .ok (.getfield index, 3)) (kk : W p l e R s m args below meth c H locs cells slots Q (F0 m (pc + 3) ls (.ref (ad 1) :: rest))) : W p l e R s m args below meth c H locs cells slots Q (F0 m pc ls (.ref (ad 0) :: rest)) :=
  jq_rdf (ci := 9) (fs := mF ad σ) (C := RX11) (T := TX11) (N := 36) hX (hJ.1.1 0 (by decide)).1 ly_X11 rfl (k := 1) (by decide) hl rfl hdg kk
theorem mg_sizeOf (hX : jq_X D Y aR A p s m args meth c cc own nm mx rt) (hJ : mJ D Y A s ad σ H locs) (hl : Cond.fieldLink own index "ScoreHandlesModel" "sizeOf" "[I" ∈ lw_all) (hdg : decode cc pc = .ok (.getfield index, 3)) (kk : W p l e R s m args below meth c H locs cells slots Q (F0 m (pc + 3) ls (.ref (ad 2) :: rest))) : W p l e R s m args below meth c H locs cells slots Q (F0 m pc ls (.ref (ad 0) :: rest)) :=
  jq_rdf (ci := 9) (fs := mF ad σ) (C := RX11) (T := TX11) (N := 36) hX (hJ.1.1 0 (by decide)).1 ly_X11 rfl (k := 2) (by decide) hl rfl hdg kk
theorem mg_items (hX : jq_X D Y aR A p s m args meth c cc own nm mx rt) (hJ : mJ D Y A s ad σ H locs) (hl : Cond.fieldLink own index "ScoreHandlesModel" "items" "[J" ∈ lw_all) (hdg : decode cc pc = .ok (.getfield index, 3)) (kk : W p l e R s m args below meth c H locs cells slots Q (F0 m (pc + 3) ls (.ref (ad 15) :: rest))) : W p l e R s m args below meth c H locs cells slots Q (F0 m pc ls (.ref (ad 0) :: rest)) :=
  jq_rdf (ci := 9) (fs := mF ad σ) (C := RX11) (T := TX11) (N := 36) hX (hJ.1.1 0 (by decide)).1 ly_X11 rfl (k := 3) (by decide) hl rfl hdg kk
theorem mg_handResult {x : Int32} (hX : jq_X D Y aR A p s m args meth c cc own nm mx rt) (hJ : mJ D Y A s ad σ H locs) (hx : m_I σ 1 = x) (hl : Cond.fieldLink own index "ScoreHandlesModel" "handResult" "I" ∈ lw_all) (hdg : decode cc pc = .ok (.getfield index, 3)) (kk : W p l e R s m args below meth c H locs cells slots Q (F0 m (pc + 3) ls (.int x :: rest))) : W p l e R s m args below meth c H locs cells slots Q (F0 m pc ls (.ref (ad 0) :: rest)) :=
  jq_rdf (ci := 9) (fs := mF ad σ) (C := RX11) (T := TX11) (N := 36) hX (hJ.1.1 0 (by decide)).1 ly_X11 rfl (k := 4) (by decide) hl (by rw [← hx]; rfl) hdg kk
theorem mp_handResult {v : Int32} (hX : jq_X D Y aR A p s m args meth c cc own nm mx rt) (hJ : mJ D Y A s ad σ H locs) (hx : m_pI σ 1 v = σ1) (hl : Cond.fieldLink own index "ScoreHandlesModel" "handResult" "I" ∈ lw_all) (hdg : decode cc pc = .ok (.putfield index, 3)) (kk : ∀ (H1 : Heap) (locs1 : List Loc), mJ D Y A s ad σ1 H1 locs1 → W p l e R s m args below meth c H1 locs1 cells slots Q (F0 m (pc + 3) ls rest)) : W p l e R s m args below meth c H locs cells slots Q (F0 m pc ls (.int v :: .ref (ad 0) :: rest)) := by
  subst hx
  refine jq_wrf (ci := 9) (fs := mF ad σ) (C := RX11) (T := TX11) (N := 36) hX (hJ.1.1 0 (by decide)).1 ly_X11 tyX11_ok nmX11 rfl (k := 4) (by decide) hl (Or.inl rfl) (ty := .int) (by decide +kernel) rfl rfl (by show _ < _; simp [mF]) hJ.2 (hJ.1.1 0 (by decide)).2 hdg (fun H1 locs1 h1 hz hq hS1 => kk H1 locs1 ⟨hJ.1.set (k := 0) (by decide) (fun j hj => by simp only [mE, if_neg hj]; rfl) h1 hq, hS1⟩)
theorem mg_handMany {x : Int32} (hX : jq_X D Y aR A p s m args meth c cc own nm mx rt) (hJ : mJ D Y A s ad σ H locs) (hx : m_I σ 2 = x) (hl : Cond.fieldLink own index "ScoreHandlesModel" "handMany" "I" ∈ lw_all) (hdg : decode cc pc = .ok (.getfield index, 3)) (kk : W p l e R s m args below meth c H locs cells slots Q (F0 m (pc + 3) ls (.int x :: rest))) : W p l e R s m args below meth c H locs cells slots Q (F0 m pc ls (.ref (ad 0) :: rest)) :=
  jq_rdf (ci := 9) (fs := mF ad σ) (C := RX11) (T := TX11) (N := 36) hX (hJ.1.1 0 (by decide)).1 ly_X11 rfl (k := 5) (by decide) hl (by rw [← hx]; rfl) hdg kk
theorem mp_handMany {v : Int32} (hX : jq_X D Y aR A p s m args meth c cc own nm mx rt) (hJ : mJ D Y A s ad σ H locs) (hx : m_pI σ 2 v = σ1) (hl : Cond.fieldLink own index "ScoreHandlesModel" "handMany" "I" ∈ lw_all) (hdg : decode cc pc = .ok (.putfield index, 3)) (kk : ∀ (H1 : Heap) (locs1 : List Loc), mJ D Y A s ad σ1 H1 locs1 → W p l e R s m args below meth c H1 locs1 cells slots Q (F0 m (pc + 3) ls rest)) : W p l e R s m args below meth c H locs cells slots Q (F0 m pc ls (.int v :: .ref (ad 0) :: rest)) := by
  subst hx
  refine jq_wrf (ci := 9) (fs := mF ad σ) (C := RX11) (T := TX11) (N := 36) hX (hJ.1.1 0 (by decide)).1 ly_X11 tyX11_ok nmX11 rfl (k := 5) (by decide) hl (Or.inl rfl) (ty := .int) (by decide +kernel) rfl rfl (by show _ < _; simp [mF]) hJ.2 (hJ.1.1 0 (by decide)).2 hdg (fun H1 locs1 h1 hz hq hS1 => kk H1 locs1 ⟨hJ.1.set (k := 0) (by decide) (fun j hj => by simp only [mE, if_neg hj]; rfl) h1 hq, hS1⟩)
theorem mg_handKind (hX : jq_X D Y aR A p s m args meth c cc own nm mx rt) (hJ : mJ D Y A s ad σ H locs) (hl : Cond.fieldLink own index "ScoreHandlesModel" "handKind" "[I" ∈ lw_all) (hdg : decode cc pc = .ok (.getfield index, 3)) (kk : W p l e R s m args below meth c H locs cells slots Q (F0 m (pc + 3) ls (.ref (ad 3) :: rest))) : W p l e R s m args below meth c H locs cells slots Q (F0 m pc ls (.ref (ad 0) :: rest)) :=
  jq_rdf (ci := 9) (fs := mF ad σ) (C := RX11) (T := TX11) (N := 36) hX (hJ.1.1 0 (by decide)).1 ly_X11 rfl (k := 6) (by decide) hl rfl hdg kk
theorem mg_given (hX : jq_X D Y aR A p s m args meth c cc own nm mx rt) (hJ : mJ D Y A s ad σ H locs) (hl : Cond.fieldLink own index "ScoreHandlesModel" "given" "[J" ∈ lw_all) (hdg : decode cc pc = .ok (.getfield index, 3)) (kk : W p l e R s m args below meth c H locs cells slots Q (F0 m (pc + 3) ls (.ref (ad 16) :: rest))) : W p l e R s m args below meth c H locs cells slots Q (F0 m pc ls (.ref (ad 0) :: rest)) :=
  jq_rdf (ci := 9) (fs := mF ad σ) (C := RX11) (T := TX11) (N := 36) hX (hJ.1.1 0 (by decide)).1 ly_X11 rfl (k := 7) (by decide) hl rfl hdg kk
theorem mg_handles {x : Int32} (hX : jq_X D Y aR A p s m args meth c cc own nm mx rt) (hJ : mJ D Y A s ad σ H locs) (hx : m_I σ 3 = x) (hl : Cond.fieldLink own index "ScoreHandlesModel" "handles" "I" ∈ lw_all) (hdg : decode cc pc = .ok (.getfield index, 3)) (kk : W p l e R s m args below meth c H locs cells slots Q (F0 m (pc + 3) ls (.int x :: rest))) : W p l e R s m args below meth c H locs cells slots Q (F0 m pc ls (.ref (ad 0) :: rest)) :=
  jq_rdf (ci := 9) (fs := mF ad σ) (C := RX11) (T := TX11) (N := 36) hX (hJ.1.1 0 (by decide)).1 ly_X11 rfl (k := 8) (by decide) hl (by rw [← hx]; rfl) hdg kk
theorem mp_handles {v : Int32} (hX : jq_X D Y aR A p s m args meth c cc own nm mx rt) (hJ : mJ D Y A s ad σ H locs) (hx : m_pI σ 3 v = σ1) (hl : Cond.fieldLink own index "ScoreHandlesModel" "handles" "I" ∈ lw_all) (hdg : decode cc pc = .ok (.putfield index, 3)) (kk : ∀ (H1 : Heap) (locs1 : List Loc), mJ D Y A s ad σ1 H1 locs1 → W p l e R s m args below meth c H1 locs1 cells slots Q (F0 m (pc + 3) ls rest)) : W p l e R s m args below meth c H locs cells slots Q (F0 m pc ls (.int v :: .ref (ad 0) :: rest)) := by
  subst hx
  refine jq_wrf (ci := 9) (fs := mF ad σ) (C := RX11) (T := TX11) (N := 36) hX (hJ.1.1 0 (by decide)).1 ly_X11 tyX11_ok nmX11 rfl (k := 8) (by decide) hl (Or.inl rfl) (ty := .int) (by decide +kernel) rfl rfl (by show _ < _; simp [mF]) hJ.2 (hJ.1.1 0 (by decide)).2 hdg (fun H1 locs1 h1 hz hq hS1 => kk H1 locs1 ⟨hJ.1.set (k := 0) (by decide) (fun j hj => by simp only [mE, if_neg hj]; rfl) h1 hq, hS1⟩)
theorem mg_sortOf (hX : jq_X D Y aR A p s m args meth c cc own nm mx rt) (hJ : mJ D Y A s ad σ H locs) (hl : Cond.fieldLink own index "ScoreHandlesModel" "sortOf" "[I" ∈ lw_all) (hdg : decode cc pc = .ok (.getfield index, 3)) (kk : W p l e R s m args below meth c H locs cells slots Q (F0 m (pc + 3) ls (.ref (ad 4) :: rest))) : W p l e R s m args below meth c H locs cells slots Q (F0 m pc ls (.ref (ad 0) :: rest)) :=
  jq_rdf (ci := 9) (fs := mF ad σ) (C := RX11) (T := TX11) (N := 36) hX (hJ.1.1 0 (by decide)).1 ly_X11 rfl (k := 9) (by decide) hl rfl hdg kk
theorem mg_aOf (hX : jq_X D Y aR A p s m args meth c cc own nm mx rt) (hJ : mJ D Y A s ad σ H locs) (hl : Cond.fieldLink own index "ScoreHandlesModel" "aOf" "[I" ∈ lw_all) (hdg : decode cc pc = .ok (.getfield index, 3)) (kk : W p l e R s m args below meth c H locs cells slots Q (F0 m (pc + 3) ls (.ref (ad 5) :: rest))) : W p l e R s m args below meth c H locs cells slots Q (F0 m pc ls (.ref (ad 0) :: rest)) :=
  jq_rdf (ci := 9) (fs := mF ad σ) (C := RX11) (T := TX11) (N := 36) hX (hJ.1.1 0 (by decide)).1 ly_X11 rfl (k := 10) (by decide) hl rfl hdg kk
theorem mg_bOf (hX : jq_X D Y aR A p s m args meth c cc own nm mx rt) (hJ : mJ D Y A s ad σ H locs) (hl : Cond.fieldLink own index "ScoreHandlesModel" "bOf" "[I" ∈ lw_all) (hdg : decode cc pc = .ok (.getfield index, 3)) (kk : W p l e R s m args below meth c H locs cells slots Q (F0 m (pc + 3) ls (.ref (ad 6) :: rest))) : W p l e R s m args below meth c H locs cells slots Q (F0 m pc ls (.ref (ad 0) :: rest)) :=
  jq_rdf (ci := 9) (fs := mF ad σ) (C := RX11) (T := TX11) (N := 36) hX (hJ.1.1 0 (by decide)).1 ly_X11 rfl (k := 11) (by decide) hl rfl hdg kk
theorem mg_cOf (hX : jq_X D Y aR A p s m args meth c cc own nm mx rt) (hJ : mJ D Y A s ad σ H locs) (hl : Cond.fieldLink own index "ScoreHandlesModel" "cOf" "[I" ∈ lw_all) (hdg : decode cc pc = .ok (.getfield index, 3)) (kk : W p l e R s m args below meth c H locs cells slots Q (F0 m (pc + 3) ls (.ref (ad 7) :: rest))) : W p l e R s m args below meth c H locs cells slots Q (F0 m pc ls (.ref (ad 0) :: rest)) :=
  jq_rdf (ci := 9) (fs := mF ad σ) (C := RX11) (T := TX11) (N := 36) hX (hJ.1.1 0 (by decide)).1 ly_X11 rfl (k := 12) (by decide) hl rfl hdg kk
theorem mg_vOf (hX : jq_X D Y aR A p s m args meth c cc own nm mx rt) (hJ : mJ D Y A s ad σ H locs) (hl : Cond.fieldLink own index "ScoreHandlesModel" "vOf" "[J" ∈ lw_all) (hdg : decode cc pc = .ok (.getfield index, 3)) (kk : W p l e R s m args below meth c H locs cells slots Q (F0 m (pc + 3) ls (.ref (ad 17) :: rest))) : W p l e R s m args below meth c H locs cells slots Q (F0 m pc ls (.ref (ad 0) :: rest)) :=
  jq_rdf (ci := 9) (fs := mF ad σ) (C := RX11) (T := TX11) (N := 36) hX (hJ.1.1 0 (by decide)).1 ly_X11 rfl (k := 13) (by decide) hl rfl hdg kk
theorem mg_manyOf (hX : jq_X D Y aR A p s m args meth c cc own nm mx rt) (hJ : mJ D Y A s ad σ H locs) (hl : Cond.fieldLink own index "ScoreHandlesModel" "manyOf" "[I" ∈ lw_all) (hdg : decode cc pc = .ok (.getfield index, 3)) (kk : W p l e R s m args below meth c H locs cells slots Q (F0 m (pc + 3) ls (.ref (ad 8) :: rest))) : W p l e R s m args below meth c H locs cells slots Q (F0 m pc ls (.ref (ad 0) :: rest)) :=
  jq_rdf (ci := 9) (fs := mF ad σ) (C := RX11) (T := TX11) (N := 36) hX (hJ.1.1 0 (by decide)).1 ly_X11 rfl (k := 14) (by decide) hl rfl hdg kk
theorem mg_kindOf (hX : jq_X D Y aR A p s m args meth c cc own nm mx rt) (hJ : mJ D Y A s ad σ H locs) (hl : Cond.fieldLink own index "ScoreHandlesModel" "kindOf" "[I" ∈ lw_all) (hdg : decode cc pc = .ok (.getfield index, 3)) (kk : W p l e R s m args below meth c H locs cells slots Q (F0 m (pc + 3) ls (.ref (ad 9) :: rest))) : W p l e R s m args below meth c H locs cells slots Q (F0 m pc ls (.ref (ad 0) :: rest)) :=
  jq_rdf (ci := 9) (fs := mF ad σ) (C := RX11) (T := TX11) (N := 36) hX (hJ.1.1 0 (by decide)).1 ly_X11 rfl (k := 15) (by decide) hl rfl hdg kk
theorem mg_resultOf (hX : jq_X D Y aR A p s m args meth c cc own nm mx rt) (hJ : mJ D Y A s ad σ H locs) (hl : Cond.fieldLink own index "ScoreHandlesModel" "resultOf" "[I" ∈ lw_all) (hdg : decode cc pc = .ok (.getfield index, 3)) (kk : W p l e R s m args below meth c H locs cells slots Q (F0 m (pc + 3) ls (.ref (ad 10) :: rest))) : W p l e R s m args below meth c H locs cells slots Q (F0 m pc ls (.ref (ad 0) :: rest)) :=
  jq_rdf (ci := 9) (fs := mF ad σ) (C := RX11) (T := TX11) (N := 36) hX (hJ.1.1 0 (by decide)).1 ly_X11 rfl (k := 16) (by decide) hl rfl hdg kk
theorem mg_madeA {x : Int32} (hX : jq_X D Y aR A p s m args meth c cc own nm mx rt) (hJ : mJ D Y A s ad σ H locs) (hx : m_I σ 4 = x) (hl : Cond.fieldLink own index "ScoreHandlesModel" "madeA" "I" ∈ lw_all) (hdg : decode cc pc = .ok (.getfield index, 3)) (kk : W p l e R s m args below meth c H locs cells slots Q (F0 m (pc + 3) ls (.int x :: rest))) : W p l e R s m args below meth c H locs cells slots Q (F0 m pc ls (.ref (ad 0) :: rest)) :=
  jq_rdf (ci := 9) (fs := mF ad σ) (C := RX11) (T := TX11) (N := 36) hX (hJ.1.1 0 (by decide)).1 ly_X11 rfl (k := 17) (by decide) hl (by rw [← hx]; rfl) hdg kk
theorem mp_madeA {v : Int32} (hX : jq_X D Y aR A p s m args meth c cc own nm mx rt) (hJ : mJ D Y A s ad σ H locs) (hx : m_pI σ 4 v = σ1) (hl : Cond.fieldLink own index "ScoreHandlesModel" "madeA" "I" ∈ lw_all) (hdg : decode cc pc = .ok (.putfield index, 3)) (kk : ∀ (H1 : Heap) (locs1 : List Loc), mJ D Y A s ad σ1 H1 locs1 → W p l e R s m args below meth c H1 locs1 cells slots Q (F0 m (pc + 3) ls rest)) : W p l e R s m args below meth c H locs cells slots Q (F0 m pc ls (.int v :: .ref (ad 0) :: rest)) := by
  subst hx
  refine jq_wrf (ci := 9) (fs := mF ad σ) (C := RX11) (T := TX11) (N := 36) hX (hJ.1.1 0 (by decide)).1 ly_X11 tyX11_ok nmX11 rfl (k := 17) (by decide) hl (Or.inl rfl) (ty := .int) (by decide +kernel) rfl rfl (by show _ < _; simp [mF]) hJ.2 (hJ.1.1 0 (by decide)).2 hdg (fun H1 locs1 h1 hz hq hS1 => kk H1 locs1 ⟨hJ.1.set (k := 0) (by decide) (fun j hj => by simp only [mE, if_neg hj]; rfl) h1 hq, hS1⟩)
theorem mg_madeB {x : Int32} (hX : jq_X D Y aR A p s m args meth c cc own nm mx rt) (hJ : mJ D Y A s ad σ H locs) (hx : m_I σ 5 = x) (hl : Cond.fieldLink own index "ScoreHandlesModel" "madeB" "I" ∈ lw_all) (hdg : decode cc pc = .ok (.getfield index, 3)) (kk : W p l e R s m args below meth c H locs cells slots Q (F0 m (pc + 3) ls (.int x :: rest))) : W p l e R s m args below meth c H locs cells slots Q (F0 m pc ls (.ref (ad 0) :: rest)) :=
  jq_rdf (ci := 9) (fs := mF ad σ) (C := RX11) (T := TX11) (N := 36) hX (hJ.1.1 0 (by decide)).1 ly_X11 rfl (k := 18) (by decide) hl (by rw [← hx]; rfl) hdg kk
theorem mp_madeB {v : Int32} (hX : jq_X D Y aR A p s m args meth c cc own nm mx rt) (hJ : mJ D Y A s ad σ H locs) (hx : m_pI σ 5 v = σ1) (hl : Cond.fieldLink own index "ScoreHandlesModel" "madeB" "I" ∈ lw_all) (hdg : decode cc pc = .ok (.putfield index, 3)) (kk : ∀ (H1 : Heap) (locs1 : List Loc), mJ D Y A s ad σ1 H1 locs1 → W p l e R s m args below meth c H1 locs1 cells slots Q (F0 m (pc + 3) ls rest)) : W p l e R s m args below meth c H locs cells slots Q (F0 m pc ls (.int v :: .ref (ad 0) :: rest)) := by
  subst hx
  refine jq_wrf (ci := 9) (fs := mF ad σ) (C := RX11) (T := TX11) (N := 36) hX (hJ.1.1 0 (by decide)).1 ly_X11 tyX11_ok nmX11 rfl (k := 18) (by decide) hl (Or.inl rfl) (ty := .int) (by decide +kernel) rfl rfl (by show _ < _; simp [mF]) hJ.2 (hJ.1.1 0 (by decide)).2 hdg (fun H1 locs1 h1 hz hq hS1 => kk H1 locs1 ⟨hJ.1.set (k := 0) (by decide) (fun j hj => by simp only [mE, if_neg hj]; rfl) h1 hq, hS1⟩)
theorem mg_madeC {x : Int32} (hX : jq_X D Y aR A p s m args meth c cc own nm mx rt) (hJ : mJ D Y A s ad σ H locs) (hx : m_I σ 6 = x) (hl : Cond.fieldLink own index "ScoreHandlesModel" "madeC" "I" ∈ lw_all) (hdg : decode cc pc = .ok (.getfield index, 3)) (kk : W p l e R s m args below meth c H locs cells slots Q (F0 m (pc + 3) ls (.int x :: rest))) : W p l e R s m args below meth c H locs cells slots Q (F0 m pc ls (.ref (ad 0) :: rest)) :=
  jq_rdf (ci := 9) (fs := mF ad σ) (C := RX11) (T := TX11) (N := 36) hX (hJ.1.1 0 (by decide)).1 ly_X11 rfl (k := 19) (by decide) hl (by rw [← hx]; rfl) hdg kk
theorem mp_madeC {v : Int32} (hX : jq_X D Y aR A p s m args meth c cc own nm mx rt) (hJ : mJ D Y A s ad σ H locs) (hx : m_pI σ 6 v = σ1) (hl : Cond.fieldLink own index "ScoreHandlesModel" "madeC" "I" ∈ lw_all) (hdg : decode cc pc = .ok (.putfield index, 3)) (kk : ∀ (H1 : Heap) (locs1 : List Loc), mJ D Y A s ad σ1 H1 locs1 → W p l e R s m args below meth c H1 locs1 cells slots Q (F0 m (pc + 3) ls rest)) : W p l e R s m args below meth c H locs cells slots Q (F0 m pc ls (.int v :: .ref (ad 0) :: rest)) := by
  subst hx
  refine jq_wrf (ci := 9) (fs := mF ad σ) (C := RX11) (T := TX11) (N := 36) hX (hJ.1.1 0 (by decide)).1 ly_X11 tyX11_ok nmX11 rfl (k := 19) (by decide) hl (Or.inl rfl) (ty := .int) (by decide +kernel) rfl rfl (by show _ < _; simp [mF]) hJ.2 (hJ.1.1 0 (by decide)).2 hdg (fun H1 locs1 h1 hz hq hS1 => kk H1 locs1 ⟨hJ.1.set (k := 0) (by decide) (fun j hj => by simp only [mE, if_neg hj]; rfl) h1 hq, hS1⟩)
theorem mg_madeV {x : Int64} (hX : jq_X D Y aR A p s m args meth c cc own nm mx rt) (hJ : mJ D Y A s ad σ H locs) (hx : m_L σ 0 = x) (hl : Cond.fieldLink own index "ScoreHandlesModel" "madeV" "J" ∈ lw_all) (hdg : decode cc pc = .ok (.getfield index, 3)) (kk : W p l e R s m args below meth c H locs cells slots Q (F0 m (pc + 3) ls (.long x :: rest))) : W p l e R s m args below meth c H locs cells slots Q (F0 m pc ls (.ref (ad 0) :: rest)) :=
  jq_rdf (ci := 9) (fs := mF ad σ) (C := RX11) (T := TX11) (N := 36) hX (hJ.1.1 0 (by decide)).1 ly_X11 rfl (k := 20) (by decide) hl (by rw [← hx]; rfl) hdg kk
theorem mp_madeV {v : Int64} (hX : jq_X D Y aR A p s m args meth c cc own nm mx rt) (hJ : mJ D Y A s ad σ H locs) (hx : m_pL σ 0 v = σ1) (hl : Cond.fieldLink own index "ScoreHandlesModel" "madeV" "J" ∈ lw_all) (hdg : decode cc pc = .ok (.putfield index, 3)) (kk : ∀ (H1 : Heap) (locs1 : List Loc), mJ D Y A s ad σ1 H1 locs1 → W p l e R s m args below meth c H1 locs1 cells slots Q (F0 m (pc + 3) ls rest)) : W p l e R s m args below meth c H locs cells slots Q (F0 m pc ls (.long v :: .ref (ad 0) :: rest)) := by
  subst hx
  refine jq_wrf (ci := 9) (fs := mF ad σ) (C := RX11) (T := TX11) (N := 36) hX (hJ.1.1 0 (by decide)).1 ly_X11 tyX11_ok nmX11 rfl (k := 20) (by decide) hl (Or.inl rfl) (ty := .long) (by decide +kernel) rfl rfl (by show _ < _; simp [mF]) hJ.2 (hJ.1.1 0 (by decide)).2 hdg (fun H1 locs1 h1 hz hq hS1 => kk H1 locs1 ⟨hJ.1.set (k := 0) (by decide) (fun j hj => by simp only [mE, if_neg hj]; rfl) h1 hq, hS1⟩)
theorem mg_depth {x : Int32} (hX : jq_X D Y aR A p s m args meth c cc own nm mx rt) (hJ : mJ D Y A s ad σ H locs) (hx : m_I σ 7 = x) (hl : Cond.fieldLink own index "ScoreHandlesModel" "depth" "I" ∈ lw_all) (hdg : decode cc pc = .ok (.getfield index, 3)) (kk : W p l e R s m args below meth c H locs cells slots Q (F0 m (pc + 3) ls (.int x :: rest))) : W p l e R s m args below meth c H locs cells slots Q (F0 m pc ls (.ref (ad 0) :: rest)) :=
  jq_rdf (ci := 9) (fs := mF ad σ) (C := RX11) (T := TX11) (N := 36) hX (hJ.1.1 0 (by decide)).1 ly_X11 rfl (k := 21) (by decide) hl (by rw [← hx]; rfl) hdg kk
theorem mp_depth {v : Int32} (hX : jq_X D Y aR A p s m args meth c cc own nm mx rt) (hJ : mJ D Y A s ad σ H locs) (hx : m_pI σ 7 v = σ1) (hl : Cond.fieldLink own index "ScoreHandlesModel" "depth" "I" ∈ lw_all) (hdg : decode cc pc = .ok (.putfield index, 3)) (kk : ∀ (H1 : Heap) (locs1 : List Loc), mJ D Y A s ad σ1 H1 locs1 → W p l e R s m args below meth c H1 locs1 cells slots Q (F0 m (pc + 3) ls rest)) : W p l e R s m args below meth c H locs cells slots Q (F0 m pc ls (.int v :: .ref (ad 0) :: rest)) := by
  subst hx
  refine jq_wrf (ci := 9) (fs := mF ad σ) (C := RX11) (T := TX11) (N := 36) hX (hJ.1.1 0 (by decide)).1 ly_X11 tyX11_ok nmX11 rfl (k := 21) (by decide) hl (Or.inl rfl) (ty := .int) (by decide +kernel) rfl rfl (by show _ < _; simp [mF]) hJ.2 (hJ.1.1 0 (by decide)).2 hdg (fun H1 locs1 h1 hz hq hS1 => kk H1 locs1 ⟨hJ.1.set (k := 0) (by decide) (fun j hj => by simp only [mE, if_neg hj]; rfl) h1 hq, hS1⟩)
theorem mg_frame (hX : jq_X D Y aR A p s m args meth c cc own nm mx rt) (hJ : mJ D Y A s ad σ H locs) (hl : Cond.fieldLink own index "ScoreHandlesModel" "frame" "[I" ∈ lw_all) (hdg : decode cc pc = .ok (.getfield index, 3)) (kk : W p l e R s m args below meth c H locs cells slots Q (F0 m (pc + 3) ls (.ref (ad 11) :: rest))) : W p l e R s m args below meth c H locs cells slots Q (F0 m pc ls (.ref (ad 0) :: rest)) :=
  jq_rdf (ci := 9) (fs := mF ad σ) (C := RX11) (T := TX11) (N := 36) hX (hJ.1.1 0 (by decide)).1 ly_X11 rfl (k := 22) (by decide) hl rfl hdg kk
theorem mg_phase (hX : jq_X D Y aR A p s m args meth c cc own nm mx rt) (hJ : mJ D Y A s ad σ H locs) (hl : Cond.fieldLink own index "ScoreHandlesModel" "phase" "[I" ∈ lw_all) (hdg : decode cc pc = .ok (.getfield index, 3)) (kk : W p l e R s m args below meth c H locs cells slots Q (F0 m (pc + 3) ls (.ref (ad 12) :: rest))) : W p l e R s m args below meth c H locs cells slots Q (F0 m pc ls (.ref (ad 0) :: rest)) :=
  jq_rdf (ci := 9) (fs := mF ad σ) (C := RX11) (T := TX11) (N := 36) hX (hJ.1.1 0 (by decide)).1 ly_X11 rfl (k := 23) (by decide) hl rfl hdg kk
theorem mg_par (hX : jq_X D Y aR A p s m args meth c cc own nm mx rt) (hJ : mJ D Y A s ad σ H locs) (hl : Cond.fieldLink own index "ScoreHandlesModel" "par" "[J" ∈ lw_all) (hdg : decode cc pc = .ok (.getfield index, 3)) (kk : W p l e R s m args below meth c H locs cells slots Q (F0 m (pc + 3) ls (.ref (ad 18) :: rest))) : W p l e R s m args below meth c H locs cells slots Q (F0 m pc ls (.ref (ad 0) :: rest)) :=
  jq_rdf (ci := 9) (fs := mF ad σ) (C := RX11) (T := TX11) (N := 36) hX (hJ.1.1 0 (by decide)).1 ly_X11 rfl (k := 24) (by decide) hl rfl hdg kk
theorem mg_held (hX : jq_X D Y aR A p s m args meth c cc own nm mx rt) (hJ : mJ D Y A s ad σ H locs) (hl : Cond.fieldLink own index "ScoreHandlesModel" "held" "[J" ∈ lw_all) (hdg : decode cc pc = .ok (.getfield index, 3)) (kk : W p l e R s m args below meth c H locs cells slots Q (F0 m (pc + 3) ls (.ref (ad 19) :: rest))) : W p l e R s m args below meth c H locs cells slots Q (F0 m pc ls (.ref (ad 0) :: rest)) :=
  jq_rdf (ci := 9) (fs := mF ad σ) (C := RX11) (T := TX11) (N := 36) hX (hJ.1.1 0 (by decide)).1 ly_X11 rfl (k := 25) (by decide) hl rfl hdg kk
theorem mg_turn (hX : jq_X D Y aR A p s m args meth c cc own nm mx rt) (hJ : mJ D Y A s ad σ H locs) (hl : Cond.fieldLink own index "ScoreHandlesModel" "turn" "[I" ∈ lw_all) (hdg : decode cc pc = .ok (.getfield index, 3)) (kk : W p l e R s m args below meth c H locs cells slots Q (F0 m (pc + 3) ls (.ref (ad 13) :: rest))) : W p l e R s m args below meth c H locs cells slots Q (F0 m pc ls (.ref (ad 0) :: rest)) :=
  jq_rdf (ci := 9) (fs := mF ad σ) (C := RX11) (T := TX11) (N := 36) hX (hJ.1.1 0 (by decide)).1 ly_X11 rfl (k := 26) (by decide) hl rfl hdg kk
theorem mg_saved (hX : jq_X D Y aR A p s m args meth c cc own nm mx rt) (hJ : mJ D Y A s ad σ H locs) (hl : Cond.fieldLink own index "ScoreHandlesModel" "saved" "[I" ∈ lw_all) (hdg : decode cc pc = .ok (.getfield index, 3)) (kk : W p l e R s m args below meth c H locs cells slots Q (F0 m (pc + 3) ls (.ref (ad 14) :: rest))) : W p l e R s m args below meth c H locs cells slots Q (F0 m pc ls (.ref (ad 0) :: rest)) :=
  jq_rdf (ci := 9) (fs := mF ad σ) (C := RX11) (T := TX11) (N := 36) hX (hJ.1.1 0 (by decide)).1 ly_X11 rfl (k := 27) (by decide) hl rfl hdg kk
theorem mg_back {x : Int64} (hX : jq_X D Y aR A p s m args meth c cc own nm mx rt) (hJ : mJ D Y A s ad σ H locs) (hx : m_L σ 1 = x) (hl : Cond.fieldLink own index "ScoreHandlesModel" "back" "J" ∈ lw_all) (hdg : decode cc pc = .ok (.getfield index, 3)) (kk : W p l e R s m args below meth c H locs cells slots Q (F0 m (pc + 3) ls (.long x :: rest))) : W p l e R s m args below meth c H locs cells slots Q (F0 m pc ls (.ref (ad 0) :: rest)) :=
  jq_rdf (ci := 9) (fs := mF ad σ) (C := RX11) (T := TX11) (N := 36) hX (hJ.1.1 0 (by decide)).1 ly_X11 rfl (k := 28) (by decide) hl (by rw [← hx]; rfl) hdg kk
theorem mp_back {v : Int64} (hX : jq_X D Y aR A p s m args meth c cc own nm mx rt) (hJ : mJ D Y A s ad σ H locs) (hx : m_pL σ 1 v = σ1) (hl : Cond.fieldLink own index "ScoreHandlesModel" "back" "J" ∈ lw_all) (hdg : decode cc pc = .ok (.putfield index, 3)) (kk : ∀ (H1 : Heap) (locs1 : List Loc), mJ D Y A s ad σ1 H1 locs1 → W p l e R s m args below meth c H1 locs1 cells slots Q (F0 m (pc + 3) ls rest)) : W p l e R s m args below meth c H locs cells slots Q (F0 m pc ls (.long v :: .ref (ad 0) :: rest)) := by
  subst hx
  refine jq_wrf (ci := 9) (fs := mF ad σ) (C := RX11) (T := TX11) (N := 36) hX (hJ.1.1 0 (by decide)).1 ly_X11 tyX11_ok nmX11 rfl (k := 28) (by decide) hl (Or.inl rfl) (ty := .long) (by decide +kernel) rfl rfl (by show _ < _; simp [mF]) hJ.2 (hJ.1.1 0 (by decide)).2 hdg (fun H1 locs1 h1 hz hq hS1 => kk H1 locs1 ⟨hJ.1.set (k := 0) (by decide) (fun j hj => by simp only [mE, if_neg hj]; rfl) h1 hq, hS1⟩)
theorem mg_failure {x : Int32} (hX : jq_X D Y aR A p s m args meth c cc own nm mx rt) (hJ : mJ D Y A s ad σ H locs) (hx : m_I σ 8 = x) (hl : Cond.fieldLink own index "ScoreHandlesModel" "failure" "I" ∈ lw_all) (hdg : decode cc pc = .ok (.getfield index, 3)) (kk : W p l e R s m args below meth c H locs cells slots Q (F0 m (pc + 3) ls (.int x :: rest))) : W p l e R s m args below meth c H locs cells slots Q (F0 m pc ls (.ref (ad 0) :: rest)) :=
  jq_rdf (ci := 9) (fs := mF ad σ) (C := RX11) (T := TX11) (N := 36) hX (hJ.1.1 0 (by decide)).1 ly_X11 rfl (k := 29) (by decide) hl (by rw [← hx]; rfl) hdg kk
theorem mp_failure {v : Int32} (hX : jq_X D Y aR A p s m args meth c cc own nm mx rt) (hJ : mJ D Y A s ad σ H locs) (hx : m_pI σ 8 v = σ1) (hl : Cond.fieldLink own index "ScoreHandlesModel" "failure" "I" ∈ lw_all) (hdg : decode cc pc = .ok (.putfield index, 3)) (kk : ∀ (H1 : Heap) (locs1 : List Loc), mJ D Y A s ad σ1 H1 locs1 → W p l e R s m args below meth c H1 locs1 cells slots Q (F0 m (pc + 3) ls rest)) : W p l e R s m args below meth c H locs cells slots Q (F0 m pc ls (.int v :: .ref (ad 0) :: rest)) := by
  subst hx
  refine jq_wrf (ci := 9) (fs := mF ad σ) (C := RX11) (T := TX11) (N := 36) hX (hJ.1.1 0 (by decide)).1 ly_X11 tyX11_ok nmX11 rfl (k := 29) (by decide) hl (Or.inl rfl) (ty := .int) (by decide +kernel) rfl rfl (by show _ < _; simp [mF]) hJ.2 (hJ.1.1 0 (by decide)).2 hdg (fun H1 locs1 h1 hz hq hS1 => kk H1 locs1 ⟨hJ.1.set (k := 0) (by decide) (fun j hj => by simp only [mE, if_neg hj]; rfl) h1 hq, hS1⟩)
theorem mg_steps {x : Int32} (hX : jq_X D Y aR A p s m args meth c cc own nm mx rt) (hJ : mJ D Y A s ad σ H locs) (hx : m_I σ 9 = x) (hl : Cond.fieldLink own index "ScoreHandlesModel" "steps" "I" ∈ lw_all) (hdg : decode cc pc = .ok (.getfield index, 3)) (kk : W p l e R s m args below meth c H locs cells slots Q (F0 m (pc + 3) ls (.int x :: rest))) : W p l e R s m args below meth c H locs cells slots Q (F0 m pc ls (.ref (ad 0) :: rest)) :=
  jq_rdf (ci := 9) (fs := mF ad σ) (C := RX11) (T := TX11) (N := 36) hX (hJ.1.1 0 (by decide)).1 ly_X11 rfl (k := 30) (by decide) hl (by rw [← hx]; rfl) hdg kk
theorem mp_steps {v : Int32} (hX : jq_X D Y aR A p s m args meth c cc own nm mx rt) (hJ : mJ D Y A s ad σ H locs) (hx : m_pI σ 9 v = σ1) (hl : Cond.fieldLink own index "ScoreHandlesModel" "steps" "I" ∈ lw_all) (hdg : decode cc pc = .ok (.putfield index, 3)) (kk : ∀ (H1 : Heap) (locs1 : List Loc), mJ D Y A s ad σ1 H1 locs1 → W p l e R s m args below meth c H1 locs1 cells slots Q (F0 m (pc + 3) ls rest)) : W p l e R s m args below meth c H locs cells slots Q (F0 m pc ls (.int v :: .ref (ad 0) :: rest)) := by
  subst hx
  refine jq_wrf (ci := 9) (fs := mF ad σ) (C := RX11) (T := TX11) (N := 36) hX (hJ.1.1 0 (by decide)).1 ly_X11 tyX11_ok nmX11 rfl (k := 30) (by decide) hl (Or.inl rfl) (ty := .int) (by decide +kernel) rfl rfl (by show _ < _; simp [mF]) hJ.2 (hJ.1.1 0 (by decide)).2 hdg (fun H1 locs1 h1 hz hq hS1 => kk H1 locs1 ⟨hJ.1.set (k := 0) (by decide) (fun j hj => by simp only [mE, if_neg hj]; rfl) h1 hq, hS1⟩)
theorem mg_failures {x : Int32} (hX : jq_X D Y aR A p s m args meth c cc own nm mx rt) (hJ : mJ D Y A s ad σ H locs) (hx : m_I σ 10 = x) (hl : Cond.fieldLink own index "ScoreHandlesModel" "failures" "I" ∈ lw_all) (hdg : decode cc pc = .ok (.getfield index, 3)) (kk : W p l e R s m args below meth c H locs cells slots Q (F0 m (pc + 3) ls (.int x :: rest))) : W p l e R s m args below meth c H locs cells slots Q (F0 m pc ls (.ref (ad 0) :: rest)) :=
  jq_rdf (ci := 9) (fs := mF ad σ) (C := RX11) (T := TX11) (N := 36) hX (hJ.1.1 0 (by decide)).1 ly_X11 rfl (k := 31) (by decide) hl (by rw [← hx]; rfl) hdg kk
theorem mp_failures {v : Int32} (hX : jq_X D Y aR A p s m args meth c cc own nm mx rt) (hJ : mJ D Y A s ad σ H locs) (hx : m_pI σ 10 v = σ1) (hl : Cond.fieldLink own index "ScoreHandlesModel" "failures" "I" ∈ lw_all) (hdg : decode cc pc = .ok (.putfield index, 3)) (kk : ∀ (H1 : Heap) (locs1 : List Loc), mJ D Y A s ad σ1 H1 locs1 → W p l e R s m args below meth c H1 locs1 cells slots Q (F0 m (pc + 3) ls rest)) : W p l e R s m args below meth c H locs cells slots Q (F0 m pc ls (.int v :: .ref (ad 0) :: rest)) := by
  subst hx
  refine jq_wrf (ci := 9) (fs := mF ad σ) (C := RX11) (T := TX11) (N := 36) hX (hJ.1.1 0 (by decide)).1 ly_X11 tyX11_ok nmX11 rfl (k := 31) (by decide) hl (Or.inl rfl) (ty := .int) (by decide +kernel) rfl rfl (by show _ < _; simp [mF]) hJ.2 (hJ.1.1 0 (by decide)).2 hdg (fun H1 locs1 h1 hz hq hS1 => kk H1 locs1 ⟨hJ.1.set (k := 0) (by decide) (fun j hj => by simp only [mE, if_neg hj]; rfl) h1 hq, hS1⟩)
theorem mg_blamed {x : Int32} (hX : jq_X D Y aR A p s m args meth c cc own nm mx rt) (hJ : mJ D Y A s ad σ H locs) (hx : m_I σ 11 = x) (hl : Cond.fieldLink own index "ScoreHandlesModel" "blamed" "I" ∈ lw_all) (hdg : decode cc pc = .ok (.getfield index, 3)) (kk : W p l e R s m args below meth c H locs cells slots Q (F0 m (pc + 3) ls (.int x :: rest))) : W p l e R s m args below meth c H locs cells slots Q (F0 m pc ls (.ref (ad 0) :: rest)) :=
  jq_rdf (ci := 9) (fs := mF ad σ) (C := RX11) (T := TX11) (N := 36) hX (hJ.1.1 0 (by decide)).1 ly_X11 rfl (k := 32) (by decide) hl (by rw [← hx]; rfl) hdg kk
theorem mp_blamed {v : Int32} (hX : jq_X D Y aR A p s m args meth c cc own nm mx rt) (hJ : mJ D Y A s ad σ H locs) (hx : m_pI σ 11 v = σ1) (hl : Cond.fieldLink own index "ScoreHandlesModel" "blamed" "I" ∈ lw_all) (hdg : decode cc pc = .ok (.putfield index, 3)) (kk : ∀ (H1 : Heap) (locs1 : List Loc), mJ D Y A s ad σ1 H1 locs1 → W p l e R s m args below meth c H1 locs1 cells slots Q (F0 m (pc + 3) ls rest)) : W p l e R s m args below meth c H locs cells slots Q (F0 m pc ls (.int v :: .ref (ad 0) :: rest)) := by
  subst hx
  refine jq_wrf (ci := 9) (fs := mF ad σ) (C := RX11) (T := TX11) (N := 36) hX (hJ.1.1 0 (by decide)).1 ly_X11 tyX11_ok nmX11 rfl (k := 32) (by decide) hl (Or.inl rfl) (ty := .int) (by decide +kernel) rfl rfl (by show _ < _; simp [mF]) hJ.2 (hJ.1.1 0 (by decide)).2 hdg (fun H1 locs1 h1 hz hq hS1 => kk H1 locs1 ⟨hJ.1.set (k := 0) (by decide) (fun j hj => by simp only [mE, if_neg hj]; rfl) h1 hq, hS1⟩)
theorem mg_runs {x : Int32} (hX : jq_X D Y aR A p s m args meth c cc own nm mx rt) (hJ : mJ D Y A s ad σ H locs) (hx : m_I σ 12 = x) (hl : Cond.fieldLink own index "ScoreHandlesModel" "runs" "I" ∈ lw_all) (hdg : decode cc pc = .ok (.getfield index, 3)) (kk : W p l e R s m args below meth c H locs cells slots Q (F0 m (pc + 3) ls (.int x :: rest))) : W p l e R s m args below meth c H locs cells slots Q (F0 m pc ls (.ref (ad 0) :: rest)) :=
  jq_rdf (ci := 9) (fs := mF ad σ) (C := RX11) (T := TX11) (N := 36) hX (hJ.1.1 0 (by decide)).1 ly_X11 rfl (k := 33) (by decide) hl (by rw [← hx]; rfl) hdg kk
theorem mp_runs {v : Int32} (hX : jq_X D Y aR A p s m args meth c cc own nm mx rt) (hJ : mJ D Y A s ad σ H locs) (hx : m_pI σ 12 v = σ1) (hl : Cond.fieldLink own index "ScoreHandlesModel" "runs" "I" ∈ lw_all) (hdg : decode cc pc = .ok (.putfield index, 3)) (kk : ∀ (H1 : Heap) (locs1 : List Loc), mJ D Y A s ad σ1 H1 locs1 → W p l e R s m args below meth c H1 locs1 cells slots Q (F0 m (pc + 3) ls rest)) : W p l e R s m args below meth c H locs cells slots Q (F0 m pc ls (.int v :: .ref (ad 0) :: rest)) := by
  subst hx
  refine jq_wrf (ci := 9) (fs := mF ad σ) (C := RX11) (T := TX11) (N := 36) hX (hJ.1.1 0 (by decide)).1 ly_X11 tyX11_ok nmX11 rfl (k := 33) (by decide) hl (Or.inl rfl) (ty := .int) (by decide +kernel) rfl rfl (by show _ < _; simp [mF]) hJ.2 (hJ.1.1 0 (by decide)).2 hdg (fun H1 locs1 h1 hz hq hS1 => kk H1 locs1 ⟨hJ.1.set (k := 0) (by decide) (fun j hj => by simp only [mE, if_neg hj]; rfl) h1 hq, hS1⟩)
theorem mg_value {x : Int64} (hX : jq_X D Y aR A p s m args meth c cc own nm mx rt) (hJ : mJ D Y A s ad σ H locs) (hx : m_L σ 2 = x) (hl : Cond.fieldLink own index "ScoreHandlesModel" "value" "J" ∈ lw_all) (hdg : decode cc pc = .ok (.getfield index, 3)) (kk : W p l e R s m args below meth c H locs cells slots Q (F0 m (pc + 3) ls (.long x :: rest))) : W p l e R s m args below meth c H locs cells slots Q (F0 m pc ls (.ref (ad 0) :: rest)) :=
  jq_rdf (ci := 9) (fs := mF ad σ) (C := RX11) (T := TX11) (N := 36) hX (hJ.1.1 0 (by decide)).1 ly_X11 rfl (k := 34) (by decide) hl (by rw [← hx]; rfl) hdg kk
theorem mp_value {v : Int64} (hX : jq_X D Y aR A p s m args meth c cc own nm mx rt) (hJ : mJ D Y A s ad σ H locs) (hx : m_pL σ 2 v = σ1) (hl : Cond.fieldLink own index "ScoreHandlesModel" "value" "J" ∈ lw_all) (hdg : decode cc pc = .ok (.putfield index, 3)) (kk : ∀ (H1 : Heap) (locs1 : List Loc), mJ D Y A s ad σ1 H1 locs1 → W p l e R s m args below meth c H1 locs1 cells slots Q (F0 m (pc + 3) ls rest)) : W p l e R s m args below meth c H locs cells slots Q (F0 m pc ls (.long v :: .ref (ad 0) :: rest)) := by
  subst hx
  refine jq_wrf (ci := 9) (fs := mF ad σ) (C := RX11) (T := TX11) (N := 36) hX (hJ.1.1 0 (by decide)).1 ly_X11 tyX11_ok nmX11 rfl (k := 34) (by decide) hl (Or.inl rfl) (ty := .long) (by decide +kernel) rfl rfl (by show _ < _; simp [mF]) hJ.2 (hJ.1.1 0 (by decide)).2 hdg (fun H1 locs1 h1 hz hq hS1 => kk H1 locs1 ⟨hJ.1.set (k := 0) (by decide) (fun j hj => by simp only [mE, if_neg hj]; rfl) h1 hq, hS1⟩)
theorem mg_hand (hX : jq_X D Y aR A p s m args meth c cc own nm mx rt) (hJ : mJ D Y A s ad σ H locs) (hl : Cond.fieldLink own index "ScoreHandlesModel" "hand" "[J" ∈ lw_all) (hdg : decode cc pc = .ok (.getfield index, 3)) (kk : W p l e R s m args below meth c H locs cells slots Q (F0 m (pc + 3) ls (.ref (ad 20) :: rest))) : W p l e R s m args below meth c H locs cells slots Q (F0 m pc ls (.ref (ad 0) :: rest)) :=
  jq_rdf (ci := 9) (fs := mF ad σ) (C := RX11) (T := TX11) (N := 36) hX (hJ.1.1 0 (by decide)).1 ly_X11 rfl (k := 35) (by decide) hl rfl hdg kk
theorem mE_I (σ : mS) {k : Nat} (hk : 1 ≤ k ∧ k < 15) : mE Y ad σ k = .inl (Y 0, m_n k, .inl (m_aI σ k)) := by simp only [mE]; rw [if_neg (by omega), if_pos (by omega)]
theorem ma_I (k : Nat) {i : Int32} {x : Int32} (hX : jq_X D Y aR A p s m args meth c cc own nm mx rt) (hJ : mJ D Y A s ad σ H locs) (hk : 1 ≤ k ∧ k < 15) (hin : ¬ (i < 0 ∨ m_n k ≤ i.toNatClampNeg)) (hx : m_aI σ k i.toNatClampNeg = x) (hdg : decode cc pc = .ok (.iaload, 1)) (kk : W p l e R s m args below meth c H locs cells slots Q (F0 m (pc + 1) ls (.int x :: rest))) : W p l e R s m args below meth c H locs cells slots Q (F0 m pc ls (.int i :: .ref (ad k) :: rest)) := by
  have h := (hJ.1.1 k (by omega)).1
  rw [mE_I σ hk] at h
  subst hx
  exact va_iald hX.1 hX.2.1 hX.2.2.2.2.2.1.1 (jq_oneA h) 0 0 rfl rfl hin hdg kk
theorem mw_I (k : Nat) {i : Int32} {v : Int32} (hX : jq_X D Y aR A p s m args meth c cc own nm mx rt) (hJ : mJ D Y A s ad σ H locs) (hk : 1 ≤ k ∧ k < 15) (hin : ¬ (i < 0 ∨ m_n k ≤ i.toNatClampNeg)) (hx : m_wI σ k i.toNatClampNeg v = σ1) (hdg : decode cc pc = .ok (.iastore, 1)) (kk : ∀ (H1 : Heap) (locs1 : List Loc), mJ D Y A s ad σ1 H1 locs1 → W p l e R s m args below meth c H1 locs1 cells slots Q (F0 m (pc + 1) ls rest)) : W p l e R s m args below meth c H locs cells slots Q (F0 m pc ls (.int v :: .int i :: .ref (ad k) :: rest)) := by
  subst hx
  have h := (hJ.1.1 k (by omega)).1
  rw [mE_I σ hk] at h
  refine W.iast hX.1 hX.2.1 h ((hX.2.2.2.2.2.1.1.2 0 _ rfl).1 _ (fun j => .int (m_aI σ k j))) (fun q => by cases q) (by show ¬ (i < 0 ∨ (arrV _ _ _).slots.size ≤ _); rw [arrV_size]; exact hin) rfl rfl hdg fun H1 e z oq => ?_
  refine kk H1 _ ⟨hJ.1.set (k := k) (by omega) (fun j hj => ?_) ?_ oq, hJ.2.put z oq (hJ.1.1 k (by omega)).2⟩
  · have hj2 : m_aI (m_wI σ k i.toNatClampNeg v) j = m_aI σ j := by funext q; simp [maI_wI, hj]
    by_cases h0 : j = 0
    · subst h0; rfl
    · by_cases h1 : j < 15
      · simp only [mE, if_neg h0, if_pos h1]; first | rw [hj2] | rfl
      · simp only [mE, if_neg h0, if_neg h1]; first | rw [hj2] | rfl
  rw [mE_I _ hk]
  show H1[ad k]? = some (vp_cell _ _)
  rw [e]
  show some ((arrV (Y 0) (m_n k) (fun j => .int (m_aI σ k j))).setSlot i.toNatClampNeg (.int v)) = some (arrV (Y 0) (m_n k) (fun j => .int (m_aI (m_wI σ k i.toNatClampNeg v) k j)))
  rw [arrV_store]
  congr 2
  funext q
  by_cases hq : q = i.toNatClampNeg
  · subst hq; simp [updV, maI_wI]
  · simp [updV, maI_wI, hq]
theorem mE_L (σ : mS) {k : Nat} (hk : 15 ≤ k ∧ k < 21) : mE Y ad σ k = .inl (Y 1, m_n k, .inr (.inl (m_aL σ k))) := by simp only [mE]; rw [if_neg (by omega), if_neg (by omega)]
theorem ma_L (k : Nat) {i : Int32} {x : Int64} (hX : jq_X D Y aR A p s m args meth c cc own nm mx rt) (hJ : mJ D Y A s ad σ H locs) (hk : 15 ≤ k ∧ k < 21) (hin : ¬ (i < 0 ∨ m_n k ≤ i.toNatClampNeg)) (hx : m_aL σ k i.toNatClampNeg = x) (hdg : decode cc pc = .ok (.laload, 1)) (kk : W p l e R s m args below meth c H locs cells slots Q (F0 m (pc + 1) ls (.long x :: rest))) : W p l e R s m args below meth c H locs cells slots Q (F0 m pc ls (.int i :: .ref (ad k) :: rest)) := by
  have h := (hJ.1.1 k (by omega)).1
  rw [mE_L σ hk] at h
  subst hx
  exact va_lald hX.1 hX.2.1 hX.2.2.2.2.2.1.1 (jq_oneA h) 0 1 rfl rfl hin hdg kk
theorem mw_L (k : Nat) {i : Int32} {v : Int64} (hX : jq_X D Y aR A p s m args meth c cc own nm mx rt) (hJ : mJ D Y A s ad σ H locs) (hk : 15 ≤ k ∧ k < 21) (hin : ¬ (i < 0 ∨ m_n k ≤ i.toNatClampNeg)) (hx : m_wL σ k i.toNatClampNeg v = σ1) (hdg : decode cc pc = .ok (.lastore, 1)) (kk : ∀ (H1 : Heap) (locs1 : List Loc), mJ D Y A s ad σ1 H1 locs1 → W p l e R s m args below meth c H1 locs1 cells slots Q (F0 m (pc + 1) ls rest)) : W p l e R s m args below meth c H locs cells slots Q (F0 m pc ls (.long v :: .int i :: .ref (ad k) :: rest)) := by
  subst hx
  have h := (hJ.1.1 k (by omega)).1
  rw [mE_L σ hk] at h
  refine W.last hX.1 hX.2.1 h ((hX.2.2.2.2.2.1.1.2 1 _ rfl).1 _ (fun j => .long (m_aL σ k j))) (fun q => by cases q) (by show ¬ (i < 0 ∨ (arrV _ _ _).slots.size ≤ _); rw [arrV_size]; exact hin) rfl rfl hdg fun H1 e z oq => ?_
  refine kk H1 _ ⟨hJ.1.set (k := k) (by omega) (fun j hj => ?_) ?_ oq, hJ.2.put z oq (hJ.1.1 k (by omega)).2⟩
  · have hj2 : m_aL (m_wL σ k i.toNatClampNeg v) j = m_aL σ j := by funext q; simp [maL_wL, hj]
    by_cases h0 : j = 0
    · subst h0; rfl
    · by_cases h1 : j < 15
      · simp only [mE, if_neg h0, if_pos h1]; first | rw [hj2] | rfl
      · simp only [mE, if_neg h0, if_neg h1]; first | rw [hj2] | rfl
  rw [mE_L _ hk]
  show H1[ad k]? = some (vp_cell _ _)
  rw [e]
  show some ((arrV (Y 1) (m_n k) (fun j => .long (m_aL σ k j))).setSlot i.toNatClampNeg (.long v)) = some (arrV (Y 1) (m_n k) (fun j => .long (m_aL (m_wL σ k i.toNatClampNeg v) k j)))
  rw [arrV_store]
  congr 2
  funext q
  by_cases hq : q = i.toNatClampNeg
  · subst hq; simp [updV, maL_wL]
  · simp [updV, maL_wL, hq]
end MD
theorem qm_max : Cond.code Lib.Math.max.name Lib.Math.max.code 2 (some .int) ∈ lw_all := lw_in 172 (by decide +kernel) rfl
theorem qm_min : Cond.code Lib.Math.min.name Lib.Math.min.code 2 (some .int) ∈ lw_all := lw_in 169 (by decide +kernel) rfl
theorem qm_minl : Cond.code Lib.MathLoose.min_long.x Lib.MathLoose.min_long.code 4 (some .long) ∈ lw_all := lw_in 635 (by decide +kernel) rfl
theorem qm_absl : Cond.code Lib.MathLoose.abs_long.x Lib.MathLoose.abs_long.code 2 (some .long) ∈ lw_all := lw_in 497 (by decide +kernel) rfl
