/-! make: what both must show, sort by sort, and how it ends -/
def mk_rest (o a1 : Nat) (S2 : wS) : Option (Int32 × wS) :=
  o_gR 9 12 o S2 fun x1 =>
  o_cs x1 (none) (fun a2 =>
  o_ck (s_K S2 a2 = 3) (o_call (f_X3_isTold a2 a1 S2) fun x2 S3 =>
  if x2 = 0 then (
  some ((-1), S3)) else (
  o_gR 9 12 o S3 fun x3 =>
  o_gR 9 15 o S3 fun x4 =>
  o_cs x4 (none) (fun a3 =>
  o_cs x3 (none) (fun a4 =>
  o_ck (s_K S3 a4 = 3) (o_call (f_X3_typeOf a4 a1 a3 S3) fun x5 S4 =>
  o_cs x5 (some ((-3), S4)) (fun a5 =>
  o_gR 9 12 o S4 fun x6 =>
  o_cs x6 (none) (fun a6 =>
  o_ck (s_K S4 a6 = 3) (o_call (f_X3_bitsOf a6 a1 S4) fun x7 S5 =>
  o_ck (s_K S5 a1 = 1) (o_call (f_X0_settle a1 a5 x7 S5) fun _ S6 =>
  o_gR 9 11 o S6 fun x8 =>
  o_cs x8 (none) (fun a7 =>
  o_ck (s_K S6 a7 = 2) (o_call (f_X1_numberOf a7 a1 S6) fun x9 S7 =>
  some (x9, S7)))))))))))))
def hwB (S : wS) (w : Nat) (so a b c : Int32) (v : Int64) : Prop := s_K S w = 1 ∧ s_I S 0 w = so ∧ s_I S 1 w = a ∧ s_I S 2 w = b ∧ s_I S 3 w = c ∧ s_L S 0 w = v
/-- the reference before its sorts are told apart -/
def mk_pre (s a b c : Int32) (v : Int64) (σ : mS) : Option (Int32 × mS) :=
  if 10 < s then (if s = 15 then f_X11_makeFilter a b c σ else if s = 18 then f_X11_makeGuard a b c σ else if s = 19 then f_X11_makeCatch a b c σ else if s = 16 then f_X11_makeTwo s a b σ else if s = 17 then f_X11_makeTwo s a b σ else if s = 20 then f_X11_makeTwo s a b σ else f_X11_makeOne s a b c v σ) else f_X11_makeFirst s a b v σ
def mk_clear (n : Nat) (σ : mS) : mS := m_wI (m_pL (m_pI (m_pI (m_pI σ 4 0) 5 0) 6 0) 0 0) 8 n 0
section ASM
variable {ad : Nat → Nat} {C : hS} {ρ : eS} {Z : zS} {q o w : Nat} {S : wS} {σ : mS} {so a b c : Int32} {v : Int64}
theorem hwB.ext {S1 : wS} (h : hwB S w so a b c v) (e : s_ext S S1) : hwB S1 w so a b c v := by
  obtain ⟨h1, h2, h3, h4, h5, h6⟩ := h
  obtain ⟨a1, a2, a3, a4, a5, a6, a7, a8⟩ := e w (nz h1 (by decide))
  exact ⟨a1.trans h1, (a2 0).trans h2, (a2 1).trans h3, (a2 2).trans h4, (a2 3).trans h5, (a3 0).trans h6⟩
theorem grows.pI {S1 : wS} {n s i a : Nat} {v : Int32} (h : grows S S1 n s) (ha : s_K S a = 0) : grows S (s_pI S1 i a v) n s := ⟨h.1.pI ha v, h.2.1, h.2.2.1, h.2.2.2.1, h.2.2.2.2.1, h.2.2.2.2.2⟩
theorem grows.pL {S1 : wS} {n s i a : Nat} {v : Int64} (h : grows S S1 n s) (ha : s_K S a = 0) : grows S (s_pL S1 i a v) n s := ⟨h.1.pL ha v, h.2.1, h.2.2.1, h.2.2.2.1, h.2.2.2.2.1, h.2.2.2.2.2⟩
theorem grows.pR {S1 : wS} {n s i a : Nat} {v : Option Nat} (h : grows S S1 n s) (ha : s_K S a = 0) : grows S (s_pR S1 i a v) n s := ⟨h.1.pR ha v, h.2.1, h.2.2.1, h.2.2.2.1, h.2.2.2.2.1, h.2.2.2.2.2⟩
theorem make_new (r : roomy S 1 7) {xb xc xv : Int32} (e1 : f_X8_isAmong so 2071040 = some xb) (e2 : f_X8_isAmong so 821248 = some xc) (e3 : f_X8_isAmong so 16385 = some xv) :
    ∃ S2, f_X10_make o so a b c v S = mk_rest o (s_nx S) S2 ∧ grows S S2 1 7 ∧ hwB S2 (s_nx S) so a (if xb = 0 then 0 else b) (if xc = 0 then 0 else c) (if xv = 0 then 0 else v) ∧ s_K S (s_nx S) = 0 := by
  obtain ⟨r1, r2, r3⟩ := r
  have w0 := r1 (s_nx S) (Nat.le_refl _)
  have K1 : s_K (s_new S 1 7) (s_nx S) = 1 := if_pos rfl
  have g : grows S (s_new S 1 7) 1 7 := by
    refine ⟨(s_ext.refl S).new w0, fun b hb => ?_, rfl, rfl, rfl, rfl⟩
    have hb2 : s_nx S + 1 ≤ b := hb
    show (if b = s_nx S then 1 else s_K S b) = 0
    rw [if_neg (by omega)]; exact r1 b (by omega)
  generalize hA : s_new S 1 7 = A at *
  have init : f_X0_init (s_nx S) so a b c v A = some ((), s_pI (s_pL (s_pI (s_pI (s_pI (s_pI A 0 (s_nx S) so) 1 (s_nx S) a) 2 (s_nx S) (if xb = 0 then 0 else b)) 3 (s_nx S) (if xc = 0 then 0 else c)) 0 (s_nx S) (if xv = 0 then 0 else v)) 4 (s_nx S) (-1)) := by
    have tail : ∀ (B : wS) (cc : Int32), s_K B (s_nx S) = 1 → f_X0_init_b48 (s_nx S) so v cc (s_nx S) B = some ((), s_pI (s_pL (s_pI B 3 (s_nx S) cc) 0 (s_nx S) (if xv = 0 then 0 else v)) 4 (s_nx S) (-1)) := by
      intro B cc hB
      unfold f_X0_init_b48
      rw [pI_s hB, cP_s e3]
      by_cases x : xv = 0
      · rw [if_pos x, if_pos x, pL_s (show s_K (s_pI B 3 (s_nx S) cc) (s_nx S) = 1 from hB), pI_s (show s_K (s_pL (s_pI B 3 (s_nx S) cc) 0 (s_nx S) 0) (s_nx S) = 1 from hB)]
      · rw [if_neg x, if_neg x, pL_s (show s_K (s_pI B 3 (s_nx S) cc) (s_nx S) = 1 from hB), pI_s (show s_K (s_pL (s_pI B 3 (s_nx S) cc) 0 (s_nx S) v) (s_nx S) = 1 from hB)]
    unfold f_X0_init
    rw [pI_s K1, pI_s (show s_K (s_pI A 0 (s_nx S) so) (s_nx S) = 1 from K1), cP_s e1]
    have K2 : ∀ z, s_K (s_pI (s_pI (s_pI A 0 (s_nx S) so) 1 (s_nx S) a) 2 (s_nx S) z) (s_nx S) = 1 := fun _ => K1
    by_cases x : xb = 0
    · rw [if_pos x, if_pos x, pI_s (show s_K (s_pI (s_pI A 0 (s_nx S) so) 1 (s_nx S) a) (s_nx S) = 1 from K1), cP_s e2]
      by_cases y : xc = 0
      · rw [if_pos y, if_pos y, tail _ _ (K2 _)]
      · rw [if_neg y, if_neg y, tail _ _ (K2 _)]
    · rw [if_neg x, if_neg x, pI_s (show s_K (s_pI (s_pI A 0 (s_nx S) so) 1 (s_nx S) a) (s_nx S) = 1 from K1), cP_s e2]
      by_cases y : xc = 0
      · rw [if_pos y, if_pos y, tail _ _ (K2 _)]
      · rw [if_neg y, if_neg y, tail _ _ (K2 _)]
  refine ⟨s_pI (s_pL (s_pI (s_pI (s_pI (s_pI A 0 (s_nx S) so) 1 (s_nx S) a) 2 (s_nx S) (if xb = 0 then 0 else b)) 3 (s_nx S) (if xc = 0 then 0 else c)) 0 (s_nx S) (if xv = 0 then 0 else v)) 4 (s_nx S) (-1), ?_, (((((g.pI w0).pI w0).pI w0).pI w0).pL w0).pI w0, ⟨K1, ?_, ?_, ?_, ?_, ?_⟩, w0⟩
  · unfold f_X10_make
    rw [new_s ⟨r2, r3⟩, hA, call_s init]
    rfl
  · show (if 0 = 0 ∧ s_nx S = s_nx S then so else _) = so
    simp
  · show (if 1 = 1 ∧ s_nx S = s_nx S then a else _) = a
    simp
  · show (if 2 = 2 ∧ s_nx S = s_nx S then (if xb = 0 then 0 else b) else _) = (if xb = 0 then 0 else b)
    simp
  · show (if 3 = 3 ∧ s_nx S = s_nx S then (if xc = 0 then 0 else c) else _) = (if xc = 0 then 0 else c)
    simp
  · show (if 0 = 0 ∧ s_nx S = s_nx S then (if xv = 0 then 0 else v) else _) = (if xv = 0 then 0 else v)
    simp
theorem mk_ref (mm : mR C ρ Z σ) (h32 : h_n C ≤ 32) (hin : f_X11_in so.toInt64 0 22 = some 1) {x : Int32} {τ : mS} (e : mk_pre so a b c v (mk_clear (h_n C) σ) = some (x, τ)) : f_X11_make so a b c v σ = if x = 0 then f_X11_make_b165 40 so 0 τ else some (x, τ) := by
  unfold f_X11_make
  rw [cP_s hin, if_neg n10, o_l, o_l, o_l, o_l, m_gI (show m_I (m_pL (m_pI (m_pI (m_pI σ 4 0) 5 0) 6 0) 0 0) 3 = nI (h_n C) from mm.2.2.1.1), m_uI (n := 33) rfl (by omega) (by decide)]
  unfold mk_pre mk_clear at e
  split at e
  · rename_i h1
    rw [if_pos h1]
    split at e
    · rename_i h2; rw [if_pos h2, call_s e]
    rename_i h2; rw [if_neg h2]
    split at e
    · rename_i h2; rw [if_pos h2, call_s e]
    rename_i h2; rw [if_neg h2]
    split at e
    · rename_i h2; rw [if_pos h2, call_s e]
    rename_i h2; rw [if_neg h2]
    split at e
    · rename_i h2; rw [if_pos h2, call_s e]
    rename_i h2; rw [if_neg h2]
    split at e
    · rename_i h2; rw [if_pos h2, call_s e]
    rename_i h2; rw [if_neg h2]
    split at e
    · rename_i h2; rw [if_pos h2, call_s e]
    rename_i h2; rw [if_neg h2, call_s e]
  · rename_i h1
    rw [if_neg h1, call_s e]
theorem mk_clear_R (mm : mR C ρ Z σ) : mR C ρ Z (mk_clear (h_n C) σ) := by
  obtain ⟨m1, m2, ⟨m3, m4, m5⟩, m6⟩ := mm
  refine ⟨m1, m2, ⟨m3, m4, fun i hi => ?_⟩, m6⟩
  obtain ⟨u1, u2, u3, u4, u5, u6, u7, u8⟩ := m5 i hi
  refine ⟨u1, u2, u3, u4, u5, ?_, u7, u8⟩
  show (if 8 = 8 ∧ i = h_n C then (0 : Int32) else m_aI σ 8 i) = _
  rw [if_neg (by omega)]; exact u6
/-- told, out of its parts -/
theorem told_of {P1 P2 P3 P4 : Prop} (kk : cI ad C ρ Z q S) (h : hwB S w so a b c v) (hs : f_X8_isSort so = some 1) (h1 : ∃ x, f_X3_isFirstTold (ad 5) w S = some (x, S) ∧ isIt x P1)
    (h2 : P1 → ∃ x, f_X3_isSecondTold (ad 5) w S = some (x, S) ∧ isIt x P2) (h3 : P1 → ∃ x, f_X3_isThirdTold (ad 5) w S = some (x, S) ∧ isIt x P3) (h4 : P1 → ∃ kb, f_X3_kindOfBits (ad 5) w S = some (kb, S) ∧ ∃ x, f_X6_mayBe (ad 1) kb v S = some (x, S) ∧ isIt x P4) : ∃ x, f_X3_isTold (ad 5) w S = some (x, S) ∧ isIt x (P1 ∧ P2 ∧ P3 ∧ P4) := by
  have hO := kk.1.2.2.2
  have k5 := hO.2.2.2.2.2.2.1
  have r3 := hO.2.2.2.2.2.2.2.2.1
  unfold f_X3_isTold
  obtain ⟨x, e, i⟩ := h1
  rw [gI_s h.1 h.2.1, cP_s hs, if_neg n10, ck_t k5, call_s e]
  rcases i with ⟨rfl, i⟩ | ⟨rfl, i⟩
  · obtain ⟨x, e, i2⟩ := h2 i
    rw [if_neg n10, ck_t k5, call_s e]
    rcases i2 with ⟨rfl, i2⟩ | ⟨rfl, i2⟩
    · obtain ⟨x, e, i3⟩ := h3 i
      rw [if_neg n10, ck_t k5, call_s e]
      rcases i3 with ⟨rfl, i3⟩ | ⟨rfl, i3⟩
      · obtain ⟨kb, e, x, f, i4⟩ := h4 i
        rw [if_neg n10, gR_s k5 r3, cs_s rfl, ck_t k5, call_s e, gL_s h.1 h.2.2.2.2.2, ck_t kk.1.2.2.1.1, call_s f]
        rcases i4 with ⟨rfl, i4⟩ | ⟨rfl, i4⟩
        · rw [if_neg n10]; exact ⟨1, rfl, Or.inl ⟨rfl, i, i2, i3, i4⟩⟩
        · rw [if_pos rfl]; exact ⟨0, rfl, Or.inr ⟨rfl, fun z => i4 z.2.2.2⟩⟩
      · rw [if_pos rfl]; exact ⟨0, rfl, Or.inr ⟨rfl, fun z => i3 z.2.2.1⟩⟩
    · rw [if_pos rfl]; exact ⟨0, rfl, Or.inr ⟨rfl, fun z => i2 z.2.1⟩⟩
  · rw [if_pos rfl]; exact ⟨0, rfl, Or.inr ⟨rfl, fun z => i z.1⟩⟩
theorem may_none {v : Int64} : f_X6_mayBe (ad 1) (-1) v S = some (1, S) := by
  unfold f_X6_mayBe
  rw [cP_s (show f_X2_isRow (-1) = some 0 from rfl), if_pos rfl]
/-- the class's make and the reference's, once it is known what they do with this sort -/
theorem make_asm {P : Prop} {xb xc xv : Int32} (kk : cI ad C ρ Z (q + 1) S) (mm : mR C ρ Z σ) (hC : wfC C) (hV : wfV C ρ) (hS : okS ρ) (hZ : wfK (z_m Z) (z_k Z) (z_r Z))
    (e1 : f_X8_isAmong so 2071040 = some xb) (e2 : f_X8_isAmong so 821248 = some xc) (e3 : f_X8_isAmong so 16385 = some xv) (hin : f_X11_in so.toInt64 0 22 = some 1) {b1 c1 : Int32} {v1 : Int64} (hb : (if xb = 0 then 0 else b) = b1) (hc : (if xc = 0 then 0 else c) = c1) (hv : (if xv = 0 then 0 else v) = v1)
    (told : ∀ S w, cI ad C ρ Z q S → hwB S w so a b1 c1 v1 → ∃ x, f_X3_isTold (ad 5) w S = some (x, S) ∧ isIt x P)
    (no : ¬ P → ∃ τ, mk_pre so a b c v (mk_clear (h_n C) σ) = some (-1, τ) ∧ mR C ρ Z τ)
    (yes : P → (∀ S w, cI ad C ρ Z q S → hwB S w so a b1 c1 v1 → roomy S 4 14 → ∃ S4 n s, f_X3_typeOf (ad 5) w (ad 9) S = some (none, S4) ∧ grows S S4 n s ∧ n ≤ 4 ∧ s ≤ 14) ∧ (∃ τ, mk_pre so a b c v (mk_clear (h_n C) σ) = some (-3, τ) ∧ mR C ρ Z τ) ∨
      ∃ m k r bits, (∀ S w, cI ad C ρ Z q S → hwB S w so a b1 c1 v1 → roomy S 4 14 → ∃ t S4 n s, f_X3_typeOf (ad 5) w (ad 9) S = some (some t, S4) ∧ grows S S4 n s ∧ n ≤ 4 ∧ s ≤ 14 ∧ tyA S4 t m k r) ∧ (∃ τ, mk_pre so a b c v (mk_clear (h_n C) σ) = some (0, τ) ∧ mR C ρ Z τ ∧ mkA τ (h_n C) a b1 c1 bits m k r) ∧
        wfK m k r ∧ wfT C (h_n C) so a b1 c1 m k r ∧ (so = 0 → okv ρ a bits) ∧ (so = 14 → ∃ A, A < h_n C ∧ a = nI A ∧ okv ρ (h_k C A 0) bits) ∧ (∀ S w, cI ad C ρ Z q S → hwB S w so a b1 c1 v1 → f_X3_bitsOf (ad 5) w S = some (bits, S))) :
    jStep (ad 0) q (f_X10_make (ad 0) so a b c v S) (f_X11_make so a b c v σ) := by
  have h32 := hC.1
  obtain ⟨S2, f1, f2, f3, f4⟩ := make_new (o := ad 0) (a := a) (b := b) (c := c) (v := v) (kk.room.le (by decide) (by decide)) e1 e2 e3
  rw [hb, hc, hv] at f3
  have k2 := kk.grow f2 (by decide) (by decide)
  have hO := k2.1.2.2.2
  have k5 := hO.2.2.2.2.2.2.1
  obtain ⟨x, g1, g2⟩ := told S2 _ k2 f3
  rw [f1]
  unfold mk_rest
  rw [gR_s hO.1 hO.2.2.2.1, cs_s rfl, ck_t k5, call_s g1]
  rcases g2 with ⟨rfl, g2⟩ | ⟨rfl, g2⟩
  · rw [if_neg n10, gR_s hO.1 hO.2.2.2.1, gR_s hO.1 hO.hand, cs_s rfl, cs_s rfl, ck_t k5]
    have r2 : roomy S2 4 14 := (kk.room.le (n1 := 1 + 4) (s1 := 7 + 14) (by decide) (by decide)).after f2
    rcases yes g2 with ⟨t1, τ, t2, t3⟩ | ⟨m, k, r, bits, t1, ⟨τ, t2, t3, t4⟩, t5, t6, t7, t8, t9⟩
    · obtain ⟨S4, n, s, u1, u2, u3, u4⟩ := t1 S2 _ k2 f3 r2
      rw [call_s u1, cs_n, mk_ref mm h32 hin t2, if_neg (by decide)]
      exact ⟨_, _, _, rfl, rfl, ad, C, ρ, Z, rfl, kk.grow (f2.trans u2) (by omega) (by omega), t3, hC, hV, hS, hZ⟩
    · obtain ⟨t, S4, n, s, u1, u2, u3, u4, u5⟩ := t1 S2 _ k2 f3 r2
      have k4 := kk.grow (f2.trans u2) (by omega) (by omega)
      have f34 := f3.ext u2.1
      have hO4 := k4.1.2.2.2
      rw [call_s u1, cs_s rfl, gR_s hO4.1 hO4.2.2.2.1, cs_s rfl, ck_t hO4.2.2.2.2.2.2.1, call_s (t9 S4 _ k4 f34), ck_t f34.1]
      have set : f_X0_settle (s_nx S) t bits S4 = some ((), s_pL (s_pR S4 0 (s_nx S) (some t)) 0 (s_nx S) bits) := by
        unfold f_X0_settle
        rw [pR_s f34.1, pL_s (show s_K (s_pR S4 0 (s_nx S) (some t)) (s_nx S) = 1 from f34.1)]
      have gg : grows S (s_pL (s_pR S4 0 (s_nx S) (some t)) 0 (s_nx S) bits) (1 + n) (7 + s) := ((f2.trans u2).pR f4).pL f4
      have k6 := kk.grow gg (by omega) (by omega)
      have hO6 := k6.1.2.2.2
      rw [call_s set, gR_s hO6.1 hO6.2.2.1, cs_s rfl, mk_ref mm h32 hin t2, if_pos rfl]
      refine make_fin (t := t) k6 t3 hC hV hS hZ ⟨f34.1, f34.2.1, f34.2.2.1, f34.2.2.2.1, f34.2.2.2.2.1, ?_, ?_, u5⟩ (fun i hi z => ?_) t4 t5 t6 t7 t8
      · show (if 0 = 0 ∧ s_nx S = s_nx S then bits else _) = bits; simp
      · show (if 0 = 0 ∧ s_nx S = s_nx S then some t else _) = some t; simp
      · have := (kk.hd hi).1
        rw [z, f4] at this; exact absurd this (by decide)
  · obtain ⟨τ, t1, t2⟩ := no g2
    rw [if_pos rfl, mk_ref mm h32 hin t1, if_neg (by decide)]
    exact ⟨_, _, _, rfl, rfl, ad, C, ρ, Z, rfl, k2, t2, hC, hV, hS, hZ⟩
end ASM
