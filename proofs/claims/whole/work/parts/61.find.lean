/-! the one made alike, or a new one: both alike -/
def tyF (C : hS) (so a b c : Int32) : Nat × (Nat → Int32) × Int32 :=
  if so = 0 then (0, (fun _ => a), a) else if so = 1 then (1, (fun _ => a), a) else if so = 2 then (2, (fun j => if j = 0 then 8 + a else 4), a) else
  if so = 3 then (3, (fun j => if j = 0 then 8 + a else if j = 1 then 4 else a), a) else if so = 4 then (1, (fun _ => 8 + a), 4) else if so = 5 then (1, (fun _ => 4), 8 + a) else
  if so = 6 then (2, (fun _ => a), a) else if so = 7 then (2, (fun _ => a), a) else if so = 8 then (2, (fun _ => a), 0) else if so = 9 then (0, (fun _ => a), a) else
  if so = 10 then (1, (fun _ => 16), 8 + a) else if so = 11 then (h_m C (nt a) + 1, q_drop (nt b) c (h_k C (nt a)), h_r C (nt a)) else
  if so = 12 then (h_m C (nt a), q_swap (nt b) (h_k C (nt a)), h_r C (nt a)) else if so = 13 then (h_m C (nt a) - 1, q_tail (h_k C (nt a)), h_r C (nt a)) else
  if so = 14 then (h_m C (nt a) - 1, q_tail (h_k C (nt a)), h_r C (nt a)) else if so = 15 then (h_m C (nt a), q_at (nt b) (h_k C (nt c) 0) (h_k C (nt a)), h_r C (nt a)) else
  if so = 16 then (h_m C (nt a) - 1, q_tail (h_k C (nt a)), h_r C (nt a)) else if so = 17 then (h_m C (nt a), h_k C (nt a), h_r C (nt b)) else
  if so = 18 then (h_m C (nt b), h_k C (nt b), h_r C (nt b)) else if so = 19 then (h_m C (nt a), h_k C (nt a), h_r C (nt a)) else
  if so = 20 then (h_m C (nt a), h_k C (nt a), h_r C (nt a)) else (h_m C (nt a), q_swap 0 (h_k C (nt a)), h_r C (nt a))
theorem tyeq.symm {m m' : Nat} {k k' : Nat → Int32} {r r' : Int32} (h : tyeq m k r m' k' r') : tyeq m' k' r' m k r := ⟨h.1.symm, h.2.1.symm, fun j hj => (h.2.2 j (by have := h.1; omega)).symm⟩
theorem tyeq.trans {m m' m2 : Nat} {k k' k2 : Nat → Int32} {r r' r2 : Int32} (h : tyeq m k r m' k' r') (h2 : tyeq m' k' r' m2 k2 r2) : tyeq m k r m2 k2 r2 := ⟨h.1.trans h2.1, h.2.1.trans h2.2.1, fun j hj => (h.2.2 j (by have := h2.1; omega)).trans (h2.2.2 j hj)⟩
theorem wfT.F {C : hS} {n : Nat} {so a b c : Int32} {m : Nat} {k : Nat → Int32} {r : Int32} (hn : n ≤ 32) (hC : ∀ A, A < n → h_m C A ≤ 4) (w : wfT C n so a b c m k r) (h22 : so ≠ 22) : tyeq m k r (tyF C so a b c).1 (tyF C so a b c).2.1 (tyF C so a b c).2.2 := by
  rcases w with ⟨rfl, w1, w2⟩ | ⟨rfl, w1, w2⟩ | ⟨rfl, w1, w2⟩ | ⟨rfl, w1, w2⟩ | ⟨rfl, w1, w2⟩ | ⟨rfl, w1, w2⟩ | ⟨rfl, w1, w2⟩ | ⟨rfl, w1, w2⟩ | ⟨rfl, w1, w2⟩ | ⟨rfl, w1, w5, w2⟩ | ⟨rfl, w1, w2⟩ |
    ⟨rfl, A, B, a1, rfl, rfl, a4, a5, a6, w2⟩ | ⟨rfl, A, B, a1, rfl, rfl, a4, w2⟩ | ⟨rfl, A, a1, rfl, a3, a4, w2⟩ | ⟨rfl, A, a1, rfl, a3, w2⟩ |
    ⟨rfl, A, B, G, a1, a2, rfl, rfl, rfl, a6, a7, a8, w2⟩ | ⟨rfl, A, G, a1, a2, rfl, rfl, a5, a6, a7, a8, w2⟩ | ⟨rfl, A, G, a1, a2, rfl, rfl, a5, a6, w2⟩ |
    ⟨rfl, A, B, G, a1, a2, a3, rfl, rfl, rfl, a7, a8, a9, b1, w2⟩ | ⟨rfl, A, G, a1, a2, rfl, rfl, a5, a6, a7, a8, a9, b1, w2⟩ | ⟨rfl, A, G, a1, a2, rfl, rfl, a5, a6, a7, a8, a9, b1, w2⟩ |
    ⟨rfl, A, a1, rfl, a3, a4, a5, w2⟩ | ⟨rfl, A, a1, a2, a3, a4, a5⟩
  · exact w2
  · exact w2
  · exact w2
  · exact w2
  · exact w2
  · exact w2
  · exact w2
  · exact w2
  · exact w2
  · exact w2
  · exact w2
  · have := hC A a1
    rw [show tyF C 11 (nI A) (nI B) c = (h_m C (nt (nI A)) + 1, q_drop (nt (nI B)) c (h_k C (nt (nI A))), h_r C (nt (nI A))) from rfl, nt_nI (by omega), nt_nI (by omega)]; exact w2
  · have := hC A a1
    rw [show tyF C 12 (nI A) (nI B) c = (h_m C (nt (nI A)), q_swap (nt (nI B)) (h_k C (nt (nI A))), h_r C (nt (nI A))) from rfl, nt_nI (by omega), nt_nI (by omega)]; exact w2
  · rw [show tyF C 13 (nI A) b c = (h_m C (nt (nI A)) - 1, q_tail (h_k C (nt (nI A))), h_r C (nt (nI A))) from rfl, nt_nI (by omega)]; exact w2
  · rw [show tyF C 14 (nI A) b c = (h_m C (nt (nI A)) - 1, q_tail (h_k C (nt (nI A))), h_r C (nt (nI A))) from rfl, nt_nI (by omega)]; exact w2
  · have := hC A a1
    rw [show tyF C 15 (nI A) (nI B) (nI G) = (h_m C (nt (nI A)), q_at (nt (nI B)) (h_k C (nt (nI G)) 0) (h_k C (nt (nI A))), h_r C (nt (nI A))) from rfl, nt_nI (by omega), nt_nI (by omega), nt_nI (by omega)]; exact w2
  · rw [show tyF C 16 (nI A) (nI G) c = (h_m C (nt (nI A)) - 1, q_tail (h_k C (nt (nI A))), h_r C (nt (nI A))) from rfl, nt_nI (by omega)]; exact w2
  · rw [show tyF C 17 (nI A) (nI G) c = (h_m C (nt (nI A)), h_k C (nt (nI A)), h_r C (nt (nI G))) from rfl, nt_nI (by omega), nt_nI (by omega)]; exact w2
  · rw [show tyF C 18 (nI A) (nI B) (nI G) = (h_m C (nt (nI B)), h_k C (nt (nI B)), h_r C (nt (nI B))) from rfl, nt_nI (by omega)]; exact w2
  · rw [show tyF C 19 (nI A) b (nI G) = (h_m C (nt (nI A)), h_k C (nt (nI A)), h_r C (nt (nI A))) from rfl, nt_nI (by omega)]; exact w2
  · rw [show tyF C 20 (nI A) (nI G) c = (h_m C (nt (nI A)), h_k C (nt (nI A)), h_r C (nt (nI A))) from rfl, nt_nI (by omega)]; exact w2
  · rw [show tyF C 21 (nI A) b c = (h_m C (nt (nI A)), q_swap 0 (h_k C (nt (nI A))), h_r C (nt (nI A))) from rfl, nt_nI (by omega)]; exact w2
  · exact absurd rfl h22
theorem wfT.congr {C C1 : hS} {n : Nat} {so a b c : Int32} {m : Nat} {k : Nat → Int32} {r : Int32} (e : ∀ A, A < n → h_m C1 A = h_m C A ∧ h_k C1 A = h_k C A ∧ h_r C1 A = h_r C A) (w : wfT C n so a b c m k r) : wfT C1 n so a b c m k r := by
  unfold wfT at w ⊢
  rcases w with w | w | w | w | w | w | w | w | w | w | w |
    ⟨hs, A, B, a1, a2, a3, a4, a5, a6, w2⟩ | ⟨hs, A, B, a1, a2, a3, a4, w2⟩ | ⟨hs, A, a1, a2, a3, a4, w2⟩ | ⟨hs, A, a1, a2, a3, w2⟩ |
    ⟨hs, A, B, G, a1, a2, a3, a4, a5, a6, a7, a8, w2⟩ | ⟨hs, A, G, a1, a2, a3, a4, a5, a6, a7, a8, w2⟩ | ⟨hs, A, G, a1, a2, a3, a4, a5, a6, w2⟩ |
    ⟨hs, A, B, G, a1, a2, a3, a4, a5, a6, a7, a8, a9, b1, w2⟩ | ⟨hs, A, G, a1, a2, a3, a4, a5, a6, a7, a8, a9, b1, w2⟩ | ⟨hs, A, G, a1, a2, a3, a4, a5, a6, a7, a8, a9, b1, w2⟩ |
    ⟨hs, A, a1, a2, a3, a4, a5, w2⟩ | ⟨hs, A, a1, a2, a3, a4, a5⟩
  · exact Or.inl w
  · exact Or.inr (Or.inl w)
  · exact Or.inr (Or.inr (Or.inl w))
  · exact Or.inr (Or.inr (Or.inr (Or.inl w)))
  · exact Or.inr (Or.inr (Or.inr (Or.inr (Or.inl w))))
  · exact Or.inr (Or.inr (Or.inr (Or.inr (Or.inr (Or.inl w)))))
  · exact Or.inr (Or.inr (Or.inr (Or.inr (Or.inr (Or.inr (Or.inl w))))))
  · exact Or.inr (Or.inr (Or.inr (Or.inr (Or.inr (Or.inr (Or.inr (Or.inl w)))))))
  · exact Or.inr (Or.inr (Or.inr (Or.inr (Or.inr (Or.inr (Or.inr (Or.inr (Or.inl w))))))))
  · exact Or.inr (Or.inr (Or.inr (Or.inr (Or.inr (Or.inr (Or.inr (Or.inr (Or.inr (Or.inl w)))))))))
  · exact Or.inr (Or.inr (Or.inr (Or.inr (Or.inr (Or.inr (Or.inr (Or.inr (Or.inr (Or.inr (Or.inl w))))))))))
  · obtain ⟨e1, e2, e3⟩ := e A a1
    exact Or.inr (Or.inr (Or.inr (Or.inr (Or.inr (Or.inr (Or.inr (Or.inr (Or.inr (Or.inr (Or.inr (Or.inl ⟨hs, A, B, a1, a2, a3, by rw [e1]; exact a4, by rw [e1]; exact a5, a6, by rw [e1, e2, e3]; exact w2⟩)))))))))))
  · obtain ⟨e1, e2, e3⟩ := e A a1
    exact Or.inr (Or.inr (Or.inr (Or.inr (Or.inr (Or.inr (Or.inr (Or.inr (Or.inr (Or.inr (Or.inr (Or.inr (Or.inl ⟨hs, A, B, a1, a2, a3, by rw [e1]; exact a4, by rw [e1, e2, e3]; exact w2⟩))))))))))))
  · obtain ⟨e1, e2, e3⟩ := e A a1
    exact Or.inr (Or.inr (Or.inr (Or.inr (Or.inr (Or.inr (Or.inr (Or.inr (Or.inr (Or.inr (Or.inr (Or.inr (Or.inr (Or.inl ⟨hs, A, a1, a2, by rw [e1]; exact a3, by rw [e2]; exact a4, by rw [e1, e2, e3]; exact w2⟩)))))))))))))
  · obtain ⟨e1, e2, e3⟩ := e A a1
    exact Or.inr (Or.inr (Or.inr (Or.inr (Or.inr (Or.inr (Or.inr (Or.inr (Or.inr (Or.inr (Or.inr (Or.inr (Or.inr (Or.inr (Or.inl ⟨hs, A, a1, a2, by rw [e1]; exact a3, by rw [e1, e2, e3]; exact w2⟩))))))))))))))
  · obtain ⟨e1, e2, e3⟩ := e A a1
    obtain ⟨f1, f2, f3⟩ := e G a2
    exact Or.inr (Or.inr (Or.inr (Or.inr (Or.inr (Or.inr (Or.inr (Or.inr (Or.inr (Or.inr (Or.inr (Or.inr (Or.inr (Or.inr (Or.inr (Or.inl ⟨hs, A, B, G, a1, a2, a3, a4, a5, by rw [e1]; exact a6, by rw [f1]; exact a7, by rw [f3, e2]; exact a8, by rw [e1, e2, e3, f2]; exact w2⟩)))))))))))))))
  · obtain ⟨e1, e2, e3⟩ := e A a1
    obtain ⟨f1, f2, f3⟩ := e G a2
    exact Or.inr (Or.inr (Or.inr (Or.inr (Or.inr (Or.inr (Or.inr (Or.inr (Or.inr (Or.inr (Or.inr (Or.inr (Or.inr (Or.inr (Or.inr (Or.inr (Or.inl ⟨hs, A, G, a1, a2, a3, a4, by rw [e1]; exact a5, by rw [f3, e2]; exact a6, by rw [f1, e1]; exact a7, by rw [f1, f2, e2]; exact a8, by rw [e1, e2, e3]; exact w2⟩))))))))))))))))
  · obtain ⟨e1, e2, e3⟩ := e A a1
    obtain ⟨f1, f2, f3⟩ := e G a2
    exact Or.inr (Or.inr (Or.inr (Or.inr (Or.inr (Or.inr (Or.inr (Or.inr (Or.inr (Or.inr (Or.inr (Or.inr (Or.inr (Or.inr (Or.inr (Or.inr (Or.inr (Or.inl ⟨hs, A, G, a1, a2, a3, a4, by rw [f1]; exact a5, by rw [f2, e3]; exact a6, by rw [e1, e2, f3]; exact w2⟩)))))))))))))))))
  · obtain ⟨e1, e2, e3⟩ := e A a1
    obtain ⟨f1, f2, f3⟩ := e B a2
    obtain ⟨g1, g2, g3⟩ := e G a3
    exact Or.inr (Or.inr (Or.inr (Or.inr (Or.inr (Or.inr (Or.inr (Or.inr (Or.inr (Or.inr (Or.inr (Or.inr (Or.inr (Or.inr (Or.inr (Or.inr (Or.inr (Or.inr (Or.inl ⟨hs, A, B, G, a1, a2, a3, a4, a5, a6, by rw [e3]; exact a7, by rw [e1, f1]; exact a8, by rw [e1, e2, f2]; exact a9, by rw [f1, f2, f3, g1, g2, g3]; exact b1, by rw [f1, f2, f3]; exact w2⟩))))))))))))))))))
  · obtain ⟨e1, e2, e3⟩ := e A a1
    obtain ⟨f1, f2, f3⟩ := e G a2
    exact Or.inr (Or.inr (Or.inr (Or.inr (Or.inr (Or.inr (Or.inr (Or.inr (Or.inr (Or.inr (Or.inr (Or.inr (Or.inr (Or.inr (Or.inr (Or.inr (Or.inr (Or.inr (Or.inr (Or.inl ⟨hs, A, G, a1, a2, a3, a4, a5, by rw [f1]; exact a6, by rw [f2]; exact a7, by rw [f3, e3]; exact a8, by rw [f1, e1]; exact a9, by rw [f1, f2, e2]; exact b1, by rw [e1, e2, e3]; exact w2⟩)))))))))))))))))))
  · obtain ⟨e1, e2, e3⟩ := e A a1
    obtain ⟨f1, f2, f3⟩ := e G a2
    exact Or.inr (Or.inr (Or.inr (Or.inr (Or.inr (Or.inr (Or.inr (Or.inr (Or.inr (Or.inr (Or.inr (Or.inr (Or.inr (Or.inr (Or.inr (Or.inr (Or.inr (Or.inr (Or.inr (Or.inr (Or.inl ⟨hs, A, G, a1, a2, a3, a4, by rw [f1]; exact a5, by rw [f2]; exact a6, by rw [f2, e3]; exact a7, by rw [f3, e3]; exact a8, by rw [f1, e1]; exact a9, by rw [f1, f2, e2]; exact b1, by rw [e1, e2, e3]; exact w2⟩))))))))))))))))))))
  · obtain ⟨e1, e2, e3⟩ := e A a1
    exact Or.inr (Or.inr (Or.inr (Or.inr (Or.inr (Or.inr (Or.inr (Or.inr (Or.inr (Or.inr (Or.inr (Or.inr (Or.inr (Or.inr (Or.inr (Or.inr (Or.inr (Or.inr (Or.inr (Or.inr (Or.inr (Or.inl ⟨hs, A, a1, a2, by rw [e1]; exact a3, by rw [e2]; exact a4, by rw [e2, e3]; exact a5, by rw [e1, e2, e3]; exact w2⟩)))))))))))))))))))))
  · obtain ⟨e1, e2, e3⟩ := e A a1
    exact Or.inr (Or.inr (Or.inr (Or.inr (Or.inr (Or.inr (Or.inr (Or.inr (Or.inr (Or.inr (Or.inr (Or.inr (Or.inr (Or.inr (Or.inr (Or.inr (Or.inr (Or.inr (Or.inr (Or.inr (Or.inr (Or.inr ⟨hs, A, a1, a2, by rw [e1]; exact a3, by rw [e3]; exact a4, by rw [e2]; exact a5⟩)))))))))))))))))))))
def h_add (C : hS) (so a b c : Int32) (v : Int64) (m : Nat) (k : Nat → Int32) (r : Int32) : hS :=
  (h_n C + 1, (fun i => if i = h_n C then so else h_so C i), (fun i => if i = h_n C then a else h_a C i), (fun i => if i = h_n C then b else h_b C i), (fun i => if i = h_n C then c else h_c C i), (fun i => if i = h_n C then v else h_v C i), (fun i => if i = h_n C then m else h_m C i), (fun i => if i = h_n C then k else h_k C i), (fun i => if i = h_n C then r else h_r C i))
/-- a handle that is to be, where it lies -/
def hwA (S : wS) (w t : Nat) (so a b c : Int32) (v : Int64) (m : Nat) (k : Nat → Int32) (r : Int32) : Prop := s_K S w = 1 ∧ s_I S 0 w = so ∧ s_I S 1 w = a ∧ s_I S 2 w = b ∧ s_I S 3 w = c ∧ s_L S 0 w = v ∧ s_R S 0 w = some t ∧ tyA S t m k r
def mkA (σ : mS) (n : Nat) (a b c : Int32) (v : Int64) (m : Nat) (k : Nat → Int32) (r : Int32) : Prop := m_I σ 4 = a ∧ m_I σ 5 = b ∧ m_I σ 6 = c ∧ m_L σ 0 = v ∧ mTy σ n m k r
def hsame (C : hS) (i : Nat) (so a b c : Int32) (v : Int64) (m : Nat) (k : Nat → Int32) (r : Int32) : Prop := h_so C i = so ∧ h_a C i = a ∧ h_b C i = b ∧ h_c C i = c ∧ h_v C i = v ∧ tyeq (h_m C i) (h_k C i) (h_r C i) m k r
section FIND
variable {ad : Nat → Nat} {C : hS} {ρ : eS} {Z : zS} {q o w t : Nat} {S : wS} {σ : mS} {so a b c : Int32} {v : Int64} {m : Nat} {k : Nat → Int32} {r : Int32}
theorem made_is {i : Nat} (h : hdA C ad S i) (hw : hwA S w t so a b c v m k r) (hk : ∀ j, j < h_m C i → kindp (h_k C i j)) : ∃ x, f_X0_isMadeAs (ad (2 * i + 20)) w S = some (x, S) ∧ isIt x (hsame C i so a b c v m k r) := by
  obtain ⟨x1, x2, x3, x4, x5, x6, x7, x8, x9⟩ := h
  obtain ⟨y1, y2, y3, y4, y5, y6, y7, y8⟩ := hw
  unfold f_X0_isMadeAs
  rw [gI_s x1 x2, gI_s y1 y2]
  by_cases c1 : h_so C i = so
  · rw [if_pos c1, gI_s x1 x3, gI_s y1 y3]
    by_cases c2 : h_a C i = a
    · rw [if_pos c2, gI_s x1 x4, gI_s y1 y4]
      by_cases c3 : h_b C i = b
      · rw [if_pos c3, gI_s x1 x5, gI_s y1 y5]
        by_cases c4 : h_c C i = c
        · rw [if_pos c4, gL_s x1 x6, gL_s y1 y6]
          by_cases c5 : h_v C i = v
          · obtain ⟨x, e1, e2⟩ := same_is x9 y8 hk
            rw [if_pos c5, gR_s x1 x8, gR_s y1 y7, cs_s rfl, cs_s rfl, ck_t x9.2.1, call_s e1]
            rcases e2 with ⟨rfl, e2⟩ | ⟨rfl, e2⟩
            · rw [if_neg n10]; exact ⟨1, rfl, Or.inl ⟨rfl, c1, c2, c3, c4, c5, e2⟩⟩
            · rw [if_pos rfl]; exact ⟨0, rfl, Or.inr ⟨rfl, fun z => e2 z.2.2.2.2.2⟩⟩
          · rw [if_neg c5]; exact ⟨0, rfl, Or.inr ⟨rfl, fun z => c5 z.2.2.2.2.1⟩⟩
        · rw [if_neg c4]; exact ⟨0, rfl, Or.inr ⟨rfl, fun z => c4 z.2.2.2.1⟩⟩
      · rw [if_neg c3]; exact ⟨0, rfl, Or.inr ⟨rfl, fun z => c3 z.2.2.1⟩⟩
    · rw [if_neg c2]; exact ⟨0, rfl, Or.inr ⟨rfl, fun z => c2 z.2.1⟩⟩
  · rw [if_neg c1]; exact ⟨0, rfl, Or.inr ⟨rfl, fun z => c1 z.1⟩⟩
theorem one_is {i : Nat} (mm : mR C ρ Z σ) (hC : wfC C) (hi : i < h_n C) (hw : mkA σ (h_n C) a b c v m k r) (hm : m ≤ 4) (hT : wfT C (h_n C) so a b c m k r) : ∃ x, f_X11_isOne (nI i) so σ = some (x, σ) ∧ isIt x (hsame C i so a b c v m k r) := by
  have h32 := hC.1
  have hq := mm.hi hi
  have hqt := hq.ty
  obtain ⟨q4, q5, q6, q7, q8, -⟩ := hq
  obtain ⟨y1, y2, y3, y4, y5⟩ := hw
  have b0 : f_X11_isOne_b68 (nI i) so 0 σ = some (0, σ) := by unfold f_X11_isOne_b68; rw [if_pos rfl]
  unfold f_X11_isOne
  rw [m_rI (n := 32) rfl (by omega) (by decide) q4]
  by_cases c1 : h_so C i = so
  · rw [if_pos c1, m_rI (n := 32) rfl (by omega) (by decide) q5, m_gI y1]
    by_cases c2 : h_a C i = a
    · rw [if_pos c2, m_rI (n := 32) rfl (by omega) (by decide) q6, m_gI y2]
      by_cases c3 : h_b C i = b
      · rw [if_pos c3, m_rI (n := 32) rfl (by omega) (by decide) q7, m_gI y3]
        by_cases c4 : h_c C i = c
        · rw [if_pos c4, m_rL (n := 32) rfl (by omega) (by decide) q8, m_gL y4]
          by_cases c5 : h_v C i = v
          · rw [if_pos c5]
            unfold f_X11_isOne_b68
            rw [if_neg n10]
            by_cases c22 : so = 22
            · obtain ⟨x, e1, e2⟩ := malike_is hqt y5 (by omega) (by omega) hm (hC.2 i hi).1.1
              rw [if_pos c22, m_gI mm.2.2.1.1, call_s e1]
              rcases e2 with ⟨rfl, e2⟩ | ⟨rfl, e2⟩
              · rw [if_neg n10]; exact ⟨1, rfl, Or.inl ⟨rfl, c1, c2, c3, c4, c5, e2.symm⟩⟩
              · rw [if_pos rfl]; exact ⟨0, rfl, Or.inr ⟨rfl, fun z => e2 z.2.2.2.2.2.symm⟩⟩
            · rw [if_neg c22]
              have wi := (hC.2 i hi).2
              rw [c1, c2, c3, c4] at wi
              have t1 := wi.F (by omega) (fun A hA => (hC.2 A (by omega)).1.1) c22
              have t2 := hT.F (by omega) (fun A hA => (hC.2 A hA).1.1) c22
              exact ⟨1, rfl, Or.inl ⟨rfl, c1, c2, c3, c4, c5, t1.trans t2.symm⟩⟩
          · rw [if_neg c5, b0]; exact ⟨0, rfl, Or.inr ⟨rfl, fun z => c5 z.2.2.2.2.1⟩⟩
        · rw [if_neg c4, b0]; exact ⟨0, rfl, Or.inr ⟨rfl, fun z => c4 z.2.2.2.1⟩⟩
      · rw [if_neg c3, b0]; exact ⟨0, rfl, Or.inr ⟨rfl, fun z => c3 z.2.2.1⟩⟩
    · rw [if_neg c2, b0]; exact ⟨0, rfl, Or.inr ⟨rfl, fun z => c2 z.2.1⟩⟩
  · rw [if_neg c1, b0]; exact ⟨0, rfl, Or.inr ⟨rfl, fun z => c1 z.1⟩⟩
end FIND
