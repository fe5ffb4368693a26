/-! what is added to the class's heap; the type at hand -/
def grows (S S1 : wS) (n s : Nat) : Prop := s_ext S S1 ∧ s_wf S1 ∧ s_nx S1 = s_nx S + n ∧ s_sl S1 = s_sl S + s ∧ s_lm S1 = s_lm S ∧ s_sm S1 = s_sm S
def roomy (S : wS) (n s : Nat) : Prop := s_wf S ∧ s_nx S + n ≤ s_lm S ∧ s_sl S + s ≤ s_sm S
def k4 (k0 k1 k2 k3 : Int32) : Nat → Int32 := fun j => if j = 0 then k0 else if j = 1 then k1 else if j = 2 then k2 else k3
def karr (S : wS) (a m : Nat) (k : Nat → Int32) : Prop := s_K S a = 21 ∧ s_n S a = 4 ∧ ∀ j, j < m → s_aI S a j = k j
section GROW
variable {α : Type} {S S1 S2 : wS} {n s n1 s1 : Nat}
theorem grows.refl (h : s_wf S) : grows S S 0 0 := ⟨s_ext.refl S, h, rfl, rfl, rfl, rfl⟩
theorem grows.trans (h : grows S S1 n s) (k : grows S1 S2 n1 s1) : grows S S2 (n + n1) (s + s1) := by
  obtain ⟨a1, a2, a3, a4, a5, a6⟩ := h
  obtain ⟨b1, b2, b3, b4, b5, b6⟩ := k
  exact ⟨a1.trans b1, b2, by omega, by omega, by omega, by omega⟩
theorem roomy.after (r : roomy S (n + n1) (s + s1)) (h : grows S S1 n s) : roomy S1 n1 s1 := by
  obtain ⟨a1, a2, a3, a4, a5, a6⟩ := h
  obtain ⟨r1, r2, r3⟩ := r
  exact ⟨a2, by omega, by omega⟩
theorem roomy.le (r : roomy S n s) (h1 : n1 ≤ n) (h2 : s1 ≤ s) : roomy S n1 s1 := ⟨r.1, by have := r.2.1; omega, by have := r.2.2; omega⟩
theorem karr.ext {a m : Nat} {k : Nat → Int32} (h : karr S a m k) (e : s_ext S S1) : karr S1 a m k := by
  obtain ⟨h1, h2, h3⟩ := h
  obtain ⟨a1, a2, a3, a4, a5, a6, a7, a8⟩ := e a (nz h1 (by decide))
  exact ⟨a1.trans h1, a5.trans h2, fun j hj => by rw [a6]; exact h3 j hj⟩
theorem new_arr (r : roomy S 1 4) {F : Nat → wS → Option α} : o_newA 21 4 S F = F (s_nx S) (s_newA S 21 4) ∧ grows S (s_newA S 21 4) 1 4 ∧ s_K S (s_nx S) = 0 ∧ s_K (s_newA S 21 4) (s_nx S) = 21 ∧ s_n (s_newA S 21 4) (s_nx S) = 4 := by
  obtain ⟨r1, r2, r3⟩ := r
  have w0 := r1 (s_nx S) (Nat.le_refl _)
  refine ⟨newA_s (j := 4) rfl (by decide) ⟨r2, r3⟩, ⟨(s_ext.refl S).newA w0, fun b hb => ?_, rfl, rfl, rfl, rfl⟩, w0, if_pos rfl, if_pos rfl⟩
  have hb2 : s_nx S + 1 ≤ b := hb
  show (if b = s_nx S then 21 else s_K S b) = 0
  rw [if_neg (by omega)]; exact r1 b (by omega)
theorem grows.wI {a j : Nat} {v : Int32} (h : grows S S1 n s) (ha : s_K S a = 0) : grows S (s_wI S1 a j v) n s := ⟨h.1.wI ha v, h.2.1, h.2.2.1, h.2.2.2.1, h.2.2.2.2.1, h.2.2.2.2.2⟩
theorem wI_at {a i j : Nat} {v : Int32} : s_aI (s_wI S a i v) a j = if j = i then v else s_aI S a j := by
  show (if a = a ∧ j = i then v else s_aI S a j) = _
  by_cases c : j = i
  · rw [if_pos ⟨rfl, c⟩, if_pos c]
  · rw [if_neg (fun z => c z.2), if_neg c]
theorem mk4 (r : roomy S 1 4) (k0 k1 k2 k3 : Int32) {F : Nat → wS → Option α} : ∃ S1, (o_newA 21 4 S fun a1 S1 => o_wI a1 0 k0 S1 fun S2 => o_wI a1 1 k1 S2 fun S3 => o_wI a1 2 k2 S3 fun S4 => o_wI a1 3 k3 S4 fun S5 => F a1 S5) = F (s_nx S) S1 ∧ grows S S1 1 4 ∧ karr S1 (s_nx S) 4 (k4 k0 k1 k2 k3) ∧ s_K S (s_nx S) = 0 := by
  obtain ⟨e1, e2, e3, e4, e5⟩ := new_arr (α := α) (S := S) r (F := fun a1 S1 => o_wI a1 0 k0 S1 fun S2 => o_wI a1 1 k1 S2 fun S3 => o_wI a1 2 k2 S3 fun S4 => o_wI a1 3 k3 S4 fun S5 => F a1 S5)
  rw [e1]
  generalize hA : s_newA S 21 4 = A at *
  rw [wI_s (i := 0) (j := 0) e4 e5 rfl (by decide) (by decide), wI_s (i := 1) (j := 1) (show s_K (s_wI A (s_nx S) 0 k0) (s_nx S) = 21 from e4) e5 rfl (by decide) (by decide), wI_s (i := 2) (j := 2) (show s_K (s_wI (s_wI A (s_nx S) 0 k0) (s_nx S) 1 k1) (s_nx S) = 21 from e4) e5 rfl (by decide) (by decide), wI_s (i := 3) (j := 3) (show s_K (s_wI (s_wI (s_wI A (s_nx S) 0 k0) (s_nx S) 1 k1) (s_nx S) 2 k2) (s_nx S) = 21 from e4) e5 rfl (by decide) (by decide)]
  refine ⟨_, rfl, (((e2.wI e3).wI e3).wI e3).wI e3, ⟨e4, e5, fun j hj => ?_⟩, e3⟩
  simp only [wI_at]
  unfold k4
  by_cases c0 : j = 0
  · subst c0; simp
  by_cases c1 : j = 1
  · subst c1; simp
  by_cases c2 : j = 2
  · subst c2; simp
  have c3 : j = 3 := by omega
  subst c3; simp
/-- a new type over an array of kinds that is there -/
theorem new_ty {ka m : Nat} {k : Nat → Int32} {rr mm : Int32} (r : roomy S 1 3) (hm : m ≤ 4) (hmm : mm = nI m) (hk : karr S ka m k) {F : Nat → wS → Option α} : ∃ S1, (o_new 8 3 S fun a1 S1 => o_call (f_X9_init a1 rr mm ka S1) fun _ S2 => F a1 S2) = F (s_nx S) S1 ∧ grows S S1 1 3 ∧ tyA S1 (s_nx S) m k rr := by
  obtain ⟨r1, r2, r3⟩ := r
  have w0 := r1 (s_nx S) (Nat.le_refl _)
  have hka : ka ≠ s_nx S := fun z => by
    have h1 := hk.1
    rw [z, w0] at h1
    exact absurd h1 (by decide)
  rw [new_s ⟨r2, r3⟩]
  have K1 : s_K (s_new S 8 3) (s_nx S) = 8 := if_pos rfl
  unfold f_X9_init
  rw [pI_s K1, pI_s (show s_K (s_pI (s_new S 8 3) 12 (s_nx S) rr) (s_nx S) = 8 from K1), pR_s (show s_K (s_pI (s_pI (s_new S 8 3) 12 (s_nx S) rr) 13 (s_nx S) mm) (s_nx S) = 8 from K1)]
  refine ⟨_, rfl, ⟨(((((s_ext.refl S).new w0).pI w0 rr).pI w0 mm).pR w0 _), fun b hb => ?_, rfl, rfl, rfl, rfl⟩, hm, K1, ?_, ?_, ka, ?_, ?_, hk.2.1, hk.2.2⟩
  · have hb2 : s_nx S + 1 ≤ b := hb
    show (if b = s_nx S then 8 else s_K S b) = 0
    rw [if_neg (by omega)]; exact r1 b (by omega)
  · show (if 12 = 13 ∧ s_nx S = s_nx S then mm else (if 12 = 12 ∧ s_nx S = s_nx S then rr else _)) = rr
    simp
  · rw [← hmm]
    show (if 13 = 13 ∧ s_nx S = s_nx S then mm else _) = mm
    simp
  · show (if 9 = 9 ∧ s_nx S = s_nx S then some ka else _) = some ka
    simp
  · show (if ka = s_nx S then 8 else s_K S ka) = 21
    rw [if_neg hka]; exact hk.1
variable {ad : Nat → Nat} {C : hS} {ρ : eS} {Z : zS} {q o : Nat} {σ : mS}
theorem cI.room (k : cI ad C ρ Z (q + 1) S) : roomy S 8 40 := by
  obtain ⟨⟨⟨h1, h2, h3⟩, -⟩, -⟩ := k
  exact ⟨h1, by omega, by omega⟩
theorem cI.grow (k : cI ad C ρ Z (q + 1) S) (g : grows S S1 n s) (hn : n ≤ 8) (hs : s ≤ 40) : cI ad C ρ Z q S1 := by
  obtain ⟨⟨⟨h1, h2, h3⟩, h4, h5, h6⟩, h7⟩ := k
  obtain ⟨a1, a2, a3, a4, a5, a6⟩ := g
  exact ⟨⟨⟨a2, by omega, by omega⟩, cHd.ext a1 h4, cRw.ext a1 h5, cOb.ext a1 h6⟩, cRn.ext a1 h7⟩
/-- the type at hand becomes another one -/
theorem cI.hand {t m : Nat} {kk : Nat → Int32} {r : Int32} (k : cI ad C ρ Z q S) (ht : tyA S t m kk r) : cI (fun i => if i = 9 then t else ad i) C ρ (Z.1, z_g Z, m, kk, r) q (s_pR S 15 (ad 0) (some t)) := by
  obtain ⟨⟨h1, ⟨g1, g2, g3, g4, g5, g6, g7⟩, h3, ⟨o1, o2, o3, o4, o5, o6, o7, o8, o9, o10, o11, o12, o13, o14, o15, o16, o17⟩⟩, h5⟩ := k
  refine ⟨⟨h1, ⟨g1, g2, g3, g4, g5, g6, fun i hi => ?_⟩, h3, ⟨o1, o2, o3, o4, o5, o6, o7, o8, o9, o10, o11, o12, o13, o14, o15, ?_, ht⟩⟩, h5⟩
  · have e1 : (if 2 * i + 20 = 9 then t else ad (2 * i + 20)) = ad (2 * i + 20) := if_neg (by omega)
    have e2 : (if 2 * i + 21 = 9 then t else ad (2 * i + 21)) = ad (2 * i + 21) := if_neg (by omega)
    obtain ⟨i1, i2⟩ := g7 i hi
    unfold hdA at i2 ⊢
    simp only [e1, e2]
    exact ⟨i1, i2⟩
  · show (if 15 = 15 ∧ ad 0 = ad 0 then some t else _) = some t
    simp
theorem type_b {a m : Nat} {k : Nat → Int32} {r : Int32} {l0 : Nat} (hk : karr S a 4 k) (hm : m ≤ 4) : ∀ (n i : Nat), 6 ≤ n + i → i ≤ m →
    ((∀ j, i ≤ j → j < m → kindp (k j)) → f_X10_type_b45 n l0 r (nI m) a (nI i) S = (o_new 8 3 S fun a1 S1 => o_call (f_X9_init a1 r (nI m) a S1) fun _ S2 => o_pR 9 15 l0 (some a1) S2 fun S3 => some (1, S3))) ∧
    (¬ (∀ j, i ≤ j → j < m → kindp (k j)) → f_X10_type_b45 n l0 r (nI m) a (nI i) S = some (-1, S)) := by
  intro n
  induction n with
  | zero => intro i h1 h2; omega
  | succ n ih =>
    intro i h1 h2
    rw [f_X10_type_b45.eq_2]
    by_cases c : m ≤ i
    · rw [if_pos (nI_le c (by omega))]
      exact ⟨fun _ => rfl, fun z => absurd (fun j h4 h5 => by omega) z⟩
    · obtain ⟨ih1, ih2⟩ := ih (i + 1) (by omega) (by omega)
      rw [if_neg (nI_ge (by omega) (by omega)), len_s hk.1 hk.2.1, if_neg (nI_ge (by omega) (by decide)), rI_s hk.1 hk.2.1 rfl (by omega) (by decide) (hk.2.2 i (by omega))]
      rcases kind_is (k i) with ⟨d, e, -⟩ | ⟨d, e, -⟩
      · rw [cP_s e, if_neg n10, o_l, nI_1]
        refine ⟨fun z => ih1 (fun j h4 h5 => z j (by omega) h5), fun z => ih2 (fun y => z (fun j h4 h5 => ?_))⟩
        by_cases f : j = i
        · subst f; exact d
        · exact y j (by omega) h5
      · rw [cP_s e, if_pos rfl]
        exact ⟨fun z => absurd (z i (Nat.le_refl _) (by omega)) d, fun _ => rfl⟩
theorem mtype_is {m : Nat} (hm : m ≤ 4) (r k0 k1 k2 k3 : Int32) : ∃ v, f_X11_type r (nI m) k0 k1 k2 k3 σ = f_X11_type_b75 r (nI m) k0 k1 k2 k3 v σ ∧ isIt v (kindp r ∧ ∀ j, j < m → kindp (k4 k0 k1 k2 k3 j)) := by
  have hin : f_X11_in (nI m).toInt64 0 4 = some 1 := by
    rcases in_rng (nI m) (n := 4) (by decide) with ⟨j, b1, b2, b3⟩ | ⟨b1, b2, b3⟩
    · exact b3
    · exact absurd rfl (b3 m hm)
  have e0 : k4 k0 k1 k2 k3 0 = k0 := rfl
  have e1 : k4 k0 k1 k2 k3 1 = k1 := rfl
  have e2 : k4 k0 k1 k2 k3 2 = k2 := rfl
  have e3 : k4 k0 k1 k2 k3 3 = k3 := rfl
  unfold f_X11_type
  rcases kind_is r with ⟨dr, -, er⟩ | ⟨dr, -, er⟩
  · rw [cP_s er, if_neg n10, cP_s hin, if_neg n10]
    have hm2 : m = 0 ∨ m = 1 ∨ m = 2 ∨ m = 3 ∨ m = 4 := by omega
    rcases hm2 with rfl | rfl | rfl | rfl | rfl
    · rw [if_pos (by decide), if_pos (by decide)]
      unfold f_X11_type_b44
      rw [if_pos (by decide), if_pos (by decide)]
      exact ⟨1, rfl, Or.inl ⟨rfl, dr, fun j hj => by omega⟩⟩
    · rw [if_neg (by decide)]
      rcases kind_is k0 with ⟨d0, -, f0⟩ | ⟨d0, -, f0⟩
      · rw [cP_s f0, if_neg n10, if_pos (by decide)]
        unfold f_X11_type_b44
        rw [if_pos (by decide), if_pos (by decide)]
        exact ⟨1, rfl, Or.inl ⟨rfl, dr, fun j hj => (congrArg (k4 k0 k1 k2 k3) (show j = 0 by omega)) ▸ d0⟩⟩
      · rw [cP_s f0, if_pos rfl]
        exact ⟨0, rfl, Or.inr ⟨rfl, fun z => d0 (e0 ▸ z.2 0 (by decide))⟩⟩
    · rw [if_neg (by decide)]
      rcases kind_is k0 with ⟨d0, -, f0⟩ | ⟨d0, -, f0⟩
      · rw [cP_s f0, if_neg n10, if_neg (by decide)]
        rcases kind_is k1 with ⟨d1, -, f1⟩ | ⟨d1, -, f1⟩
        · rw [cP_s f1, if_neg n10]
          unfold f_X11_type_b44
          rw [if_pos (by decide), if_pos (by decide)]
          refine ⟨1, rfl, Or.inl ⟨rfl, dr, fun j hj => ?_⟩⟩
          have : j = 0 ∨ j = 1 := by omega
          rcases this with rfl | rfl
          · exact d0
          · exact d1
        · rw [cP_s f1, if_pos rfl]
          exact ⟨0, rfl, Or.inr ⟨rfl, fun z => d1 (e1 ▸ z.2 1 (by decide))⟩⟩
      · rw [cP_s f0, if_pos rfl]
        exact ⟨0, rfl, Or.inr ⟨rfl, fun z => d0 (e0 ▸ z.2 0 (by decide))⟩⟩
    · rw [if_neg (by decide)]
      rcases kind_is k0 with ⟨d0, -, f0⟩ | ⟨d0, -, f0⟩
      · rw [cP_s f0, if_neg n10, if_neg (by decide)]
        rcases kind_is k1 with ⟨d1, -, f1⟩ | ⟨d1, -, f1⟩
        · rw [cP_s f1, if_neg n10]
          unfold f_X11_type_b44
          rw [if_neg (by decide)]
          rcases kind_is k2 with ⟨d2, -, f2⟩ | ⟨d2, -, f2⟩
          · rw [cP_s f2, if_neg n10, if_pos (by decide)]
            refine ⟨1, rfl, Or.inl ⟨rfl, dr, fun j hj => ?_⟩⟩
            have : j = 0 ∨ j = 1 ∨ j = 2 := by omega
            rcases this with rfl | rfl | rfl
            · exact d0
            · exact d1
            · exact d2
          · rw [cP_s f2, if_pos rfl]
            exact ⟨0, rfl, Or.inr ⟨rfl, fun z => d2 (e2 ▸ z.2 2 (by decide))⟩⟩
        · rw [cP_s f1, if_pos rfl]
          exact ⟨0, rfl, Or.inr ⟨rfl, fun z => d1 (e1 ▸ z.2 1 (by decide))⟩⟩
      · rw [cP_s f0, if_pos rfl]
        exact ⟨0, rfl, Or.inr ⟨rfl, fun z => d0 (e0 ▸ z.2 0 (by decide))⟩⟩
    · rw [if_neg (by decide)]
      rcases kind_is k0 with ⟨d0, -, f0⟩ | ⟨d0, -, f0⟩
      · rw [cP_s f0, if_neg n10, if_neg (by decide)]
        rcases kind_is k1 with ⟨d1, -, f1⟩ | ⟨d1, -, f1⟩
        · rw [cP_s f1, if_neg n10]
          unfold f_X11_type_b44
          rw [if_neg (by decide)]
          rcases kind_is k2 with ⟨d2, -, f2⟩ | ⟨d2, -, f2⟩
          · rw [cP_s f2, if_neg n10, if_neg (by decide)]
            rcases kind_is k3 with ⟨d3, -, f3⟩ | ⟨d3, -, f3⟩
            · rw [cP_s f3, if_neg n10]
              refine ⟨1, rfl, Or.inl ⟨rfl, dr, fun j hj => ?_⟩⟩
              have : j = 0 ∨ j = 1 ∨ j = 2 ∨ j = 3 := by omega
              rcases this with rfl | rfl | rfl | rfl
              · exact d0
              · exact d1
              · exact d2
              · exact d3
            · rw [cP_s f3, if_pos rfl]
              exact ⟨0, rfl, Or.inr ⟨rfl, fun z => d3 (e3 ▸ z.2 3 (by decide))⟩⟩
          · rw [cP_s f2, if_pos rfl]
            exact ⟨0, rfl, Or.inr ⟨rfl, fun z => d2 (e2 ▸ z.2 2 (by decide))⟩⟩
        · rw [cP_s f1, if_pos rfl]
          exact ⟨0, rfl, Or.inr ⟨rfl, fun z => d1 (e1 ▸ z.2 1 (by decide))⟩⟩
      · rw [cP_s f0, if_pos rfl]
        exact ⟨0, rfl, Or.inr ⟨rfl, fun z => d0 (e0 ▸ z.2 0 (by decide))⟩⟩
  · rw [cP_s er, if_pos rfl]
    exact ⟨0, rfl, Or.inr ⟨rfl, fun z => dr z.1⟩⟩
theorem mtype_set {m : Nat} (hm : m ≤ 4) (r k0 k1 k2 k3 : Int32) (mm : mR C ρ Z σ) : ∃ τ, f_X11_type_b75 r (nI m) k0 k1 k2 k3 1 σ = some (1, τ) ∧ mR C ρ (Z.1, z_g Z, m, k4 k0 k1 k2 k3, r) τ := by
  obtain ⟨m1, m2, m3, ⟨z1, z2, z3, z4, z5, z6, z7⟩⟩ := mm
  unfold f_X11_type_b75
  rw [if_neg n10, o_l, o_l, m_uI (n := 4) (x := 0) (i := 0) rfl (by decide) (by decide), m_uI (n := 4) (x := 1) (i := 1) rfl (by decide) (by decide), m_uI (n := 4) (x := 2) (i := 2) rfl (by decide) (by decide), m_uI (n := 4) (x := 3) (i := 3) rfl (by decide) (by decide)]
  refine ⟨_, rfl, m1, m2, m3, ⟨rfl, rfl, hm, fun j hj => ?_, z5, z6, z7⟩⟩
  have hj : j < m := hj
  have : j = 0 ∨ j = 1 ∨ j = 2 ∨ j = 3 := by omega
  rcases this with rfl | rfl | rfl | rfl <;> rfl
theorem j_type (h : jInv o (q + 1) S σ) (r b k0 k1 k2 k3 : Int32) : jStep o q (f_X10_type o r b k0 k1 k2 k3 S) (f_X11_type r b k0 k1 k2 k3 σ) := by
  obtain ⟨ad, C, ρ, Z, rfl, k, m, hC, hV, hS, hZ⟩ := h
  have stay : jInv (ad 0) q S σ := ⟨ad, C, ρ, Z, rfl, k.less (by omega), m, hC, hV, hS, hZ⟩
  unfold f_X10_type
  rcases in_rng b (n := 4) (by decide) with ⟨w, b1, rfl, b3⟩ | ⟨b1, b2, b3⟩
  · obtain ⟨v, e1, e2⟩ := mtype_is (σ := σ) b1 r k0 k1 k2 k3
    rw [e1]
    rcases kind_is r with ⟨dr, er, -⟩ | ⟨dr, er, -⟩
    · rw [cP_s er, if_neg n10, if_neg (nI_pos (by omega)), if_pos (show nI w ≤ (4 : Int32) from nI_le (b := 4) b1 (by decide))]
      obtain ⟨S1, f1, f2, f3, f4⟩ := mk4 (S := S) (k.room.le (by decide) (by decide)) k0 k1 k2 k3 (F := fun a1 S5 => f_X10_type_b45 12 (ad 0) r (nI w) a1 0 S5)
      rw [f1]
      obtain ⟨t1, t2⟩ := type_b (l0 := ad 0) (r := r) f3 b1 12 0 (by omega) (by omega)
      rcases e2 with ⟨rfl, e2⟩ | ⟨rfl, e2⟩
      · rw [show f_X10_type_b45 12 (ad 0) r (nI w) (s_nx S) 0 S1 = _ from t1 (fun j _ hj => e2.2 j hj)]
        obtain ⟨S2, g1, g2, g3⟩ := new_ty (rr := r) (mm := nI w) (m := w) (S := S1) (k := k4 k0 k1 k2 k3) ((k.room.le (n1 := 1 + 1) (s1 := 4 + 3) (by decide) (by decide)).after f2) b1 rfl ⟨f3.1, f3.2.1, fun j hj => f3.2.2 j (by omega)⟩ (F := fun a1 S2 => o_pR 9 15 (ad 0) (some a1) S2 fun S3 => some ((1 : Int32), S3))
        have kg := k.grow (f2.trans g2) (by decide) (by decide)
        obtain ⟨τ, m1, m2⟩ := mtype_set (C := C) b1 r k0 k1 k2 k3 m
        rw [g1, pR_s kg.1.2.2.2.1, m1]
        exact ⟨_, _, _, rfl, rfl, (fun i => if i = 9 then s_nx S1 else ad i), C, ρ, _, rfl, kg.hand g3, m2, hC, hV, hS, b1, dr, fun j hj => e2.2 j hj⟩
      · rw [show f_X10_type_b45 12 (ad 0) r (nI w) (s_nx S) 0 S1 = _ from t2 (fun z => e2 ⟨dr, fun j hj => z j (Nat.zero_le _) hj⟩)]
        unfold f_X11_type_b75
        rw [if_pos rfl]
        exact ⟨_, _, _, rfl, rfl, ad, C, ρ, Z, rfl, k.grow f2 (by decide) (by decide), m, hC, hV, hS, hZ⟩
    · rw [cP_s er, if_pos rfl]
      rcases e2 with ⟨rfl, e2⟩ | ⟨rfl, e2⟩
      · exact absurd e2.1 dr
      · unfold f_X11_type_b75
        rw [if_pos rfl]
        exact ⟨_, _, _, rfl, rfl, stay⟩
  · have hr : f_X11_type r b k0 k1 k2 k3 σ = some (-1, σ) := by
      unfold f_X11_type
      rcases kind_is r with ⟨dr, -, er⟩ | ⟨dr, -, er⟩
      · rw [cP_s er, if_neg n10, cP_s (show f_X11_in b.toInt64 0 4 = some 0 from b2), if_pos rfl]
        unfold f_X11_type_b75
        rw [if_pos rfl]
      · rw [cP_s er, if_pos rfl]
        unfold f_X11_type_b75
        rw [if_pos rfl]
    rw [hr]
    rcases kind_is r with ⟨dr, er, -⟩ | ⟨dr, er, -⟩
    · rw [cP_s er, if_neg n10]
      by_cases c : b < 0
      · rw [if_pos c]; exact ⟨_, _, _, rfl, rfl, stay⟩
      · have b1 := b1.resolve_left c
        rw [if_neg c, if_neg (show ¬ b ≤ (4 : Int32) by rw [Int32.le_iff_toInt_le]; rw [Int32.lt_iff_toInt_lt, nI_toInt (by decide)] at b1; rw [show (4 : Int32).toInt = 4 by decide]; omega)]
        exact ⟨_, _, _, rfl, rfl, stay⟩
    · rw [cP_s er, if_pos rfl]
      exact ⟨_, _, _, rfl, rfl, stay⟩
end GROW
