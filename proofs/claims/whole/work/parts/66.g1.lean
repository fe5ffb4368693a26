/-! make: sorts 11 to 14, 21, 22 -/
section MK1
variable {ad : Nat → Nat} {C : hS} {ρ : eS} {Z : zS} {q o w : Nat} {S : wS} {σ : mS} {so a b c : Int32} {v : Int64} {ma mb mc : Int32} {mv : Int64} {m : Nat} {k : Nat → Int32} {r : Int32} {A : Nat}
theorem m_takesOf_b (hC : wfC C) (hA : A < h_n C) : ∀ (n i m : Nat) (k : Nat → Int32) (σ : mS), 6 ≤ n + i → i ≤ 4 → m + (h_m C A - i) ≤ 4 → mB C ρ Z ma mb mc mv m k r σ → ∃ τ, f_X11_takesOf_b2 n (nI A) (nI i) σ = some ((), τ) ∧ mB C ρ Z ma mb mc mv (m + (h_m C A - i)) (fun j => if j < m then k j else h_k C A (i + (j - m))) r τ := by
  have h32 := hC.1
  have hm4 := (hC.2 A hA).1.1
  intro n
  induction n with
  | zero => intro i m k σ h1 h2; omega
  | succ n ih =>
    intro i m k σ h1 h2 h3 bb
    have tq := (bb.1.hi hA).ty
    rw [f_X11_takesOf_b2.eq_2, m_rI (n := 33) rfl (by omega) (by decide) tq.1]
    by_cases c : h_m C A ≤ i
    · rw [if_pos (nI_le c (by omega))]
      rw [show h_m C A - i = 0 by omega]
      exact ⟨σ, rfl, bb.eqk (fun j h4 h5 => by show k j = (if j < m then k j else _); rw [if_pos h4])⟩
    · obtain ⟨τ, e1, e2⟩ := m_takes bb hC (by omega) (h_k C A i)
      rw [if_neg (nI_ge (by omega) (by omega)), call_s (m_kind (by omega) (by omega) (tq.2.2 i (by omega))), call_s e1, o_l, nI_1]
      obtain ⟨υ, f1, f2⟩ := ih (i + 1) (m + 1) _ τ (by omega) (by omega) (by omega) e2
      refine ⟨υ, f1, ?_⟩
      rw [show m + (h_m C A - i) = m + 1 + (h_m C A - (i + 1)) by omega]
      refine f2.eqk (fun j h4 h5 => ?_)
      show (if j < m + 1 then (if j = m then h_k C A i else k j) else h_k C A (i + 1 + (j - (m + 1)))) = (if j < m then k j else h_k C A (i + (j - m)))
      by_cases d : j < m
      · rw [if_pos (by omega), if_neg (by omega), if_pos d]
      · by_cases e : j = m
        · rw [if_pos (by omega), if_pos e, if_neg d, e]; congr 1; omega
        · rw [if_neg (by omega), if_neg d]; congr 1; omega
theorem m_takesOf (bb : mB C ρ Z ma mb mc mv m k r σ) (hC : wfC C) (hA : A < h_n C) {i : Nat} (hi : i ≤ 4) (h3 : m + (h_m C A - i) ≤ 4) : ∃ τ, f_X11_takesOf (nI A) (nI i) σ = some ((), τ) ∧ mB C ρ Z ma mb mc mv (m + (h_m C A - i)) (fun j => if j < m then k j else h_k C A (i + (j - m))) r τ :=
  m_takesOf_b hC hA 12 i m k σ (by omega) hi h3 bb
theorem make_noh {xb xc xv : Int32} (kk : cI ad C ρ Z (q + 1) S) (mm : mR C ρ Z σ) (hC : wfC C) (hV : wfV C ρ) (hS : okS ρ) (hZ : wfK (z_m Z) (z_k Z) (z_r Z)) (e0 : f_X8_isSort so = some 1)
    (e1 : f_X8_isAmong so 2071040 = some xb) (e2 : f_X8_isAmong so 821248 = some xc) (e3 : f_X8_isAmong so 16385 = some xv) (hin : f_X11_in so.toInt64 0 22 = some 1) (hn : ¬ (so = 0 ∨ so = 1 ∨ so = 9)) (hn2 : ¬ (so = 2 ∨ so = 3 ∨ so = 4 ∨ so = 5 ∨ so = 10)) (hn3 : ¬ (so = 6 ∨ so = 7 ∨ so = 8)) (ha : ∀ i, i < h_n C → a ≠ nI i)
    (ref : mk_pre so a b c v (mk_clear (h_n C) σ) = some (-1, mk_clear (h_n C) σ)) : jStep (ad 0) q (f_X10_make (ad 0) so a b c v S) (f_X11_make so a b c v σ) :=
  make_asm (P := False ∧ True ∧ True ∧ True) kk mm hC hV hS hZ e1 e2 e3 hin rfl rfl rfl (fun S w kk h => told_of kk h e0 (x_hno kk h hn hn2 hn3 ha) (fun z => z.elim) (fun z => z.elim) (fun z => z.elim)) (fun _ => ⟨_, ref, mk_clear_R mm⟩) (fun z => z.1.elim)
theorem m0_no (mm : mR C ρ Z σ) (e : f_X11_in a.toInt64 0 ((nI (h_n C) - (1 : Int32)).toInt64) = some 0) : f_X11_isHandle a (mk_clear (h_n C) σ) = some (0, mk_clear (h_n C) σ) := m_hd_no (mk_clear_R mm).2.2.1 e
theorem m0_yes (mm : mR C ρ Z σ) (e : f_X11_in (nI A).toInt64 0 ((nI (h_n C) - (1 : Int32)).toInt64) = some 1) : f_X11_isHandle (nI A) (mk_clear (h_n C) σ) = some (1, mk_clear (h_n C) σ) := m_hd_yes (mk_clear_R mm).2.2.1 e
theorem in_m2 (b : Int32) {n : Nat} (hn : n ≤ 4) : ((∃ B, B + 1 < n ∧ b = nI B) ∧ f_X11_in b.toInt64 0 (((nI n - (2 : Int32))).toInt64) = some 1) ∨ (¬ (∃ B, B + 1 < n ∧ b = nI B) ∧ f_X11_in b.toInt64 0 (((nI n - (2 : Int32))).toInt64) = some 0) := by
  have e : (nI n - (2 : Int32)).toInt = (n : Int) - 2 := pk_sub_toInt (b := 2) (by omega) (by decide)
  rw [in_is]
  simp only [Int64.le_iff_toInt_le, Int32.toInt_toInt64, e, show (0 : Int64).toInt = 0 from by decide]
  by_cases c : 0 ≤ b.toInt ∧ b.toInt ≤ (n : Int) - 2
  · left
    refine ⟨⟨b.toInt.toNat, by omega, Int32.toInt_inj.mp ?_⟩, by rw [if_pos c]⟩
    rw [nI_toInt (by omega)]; omega
  · right
    refine ⟨fun ⟨B, z1, z2⟩ => c ?_, by rw [if_neg c]⟩
    rw [z2, nI_toInt (by omega)]; omega
theorem x_kb14 (kk : cI ad C ρ Z q S) (h : hwB S w 14 (nI A) b c v) (hA : A < h_n C) : f_X3_kindOfBits (ad 5) w S = some (if 0 < h_m C A then h_k C A 0 else -1, S) := by
  unfold f_X3_kindOfBits
  rw [gI_s h.1 h.2.1, if_neg (by decide), gI_s h.1 h.2.1, if_pos rfl, gR_s kk.1.2.2.2.2.2.2.2.2.2.1 kk.1.2.2.2.2.2.2.2.2.2.2.1, gI_s h.1 h.2.2.1, cs_s rfl, ck_t kk.1.2.1.1, call_s (ty_yes kk.1.2.1 hA), cs_s rfl, ck_t (kk.ty hA).2.1, call_s (show f_X9_kind (ad (2 * A + 21)) 0 S = _ from kind_any (kk.ty hA) (j := 0) (by decide))]
theorem b128 (hC : wfC C) (hA : A < h_n C) {B : Nat} (hB : B ≤ h_m C A) : ∀ (n i : Nat) (σ : mS), 7 ≤ n + i → i ≤ h_m C A + 1 → mB C ρ Z ma mb mc mv ((if i ≤ h_m C A then i else h_m C A) + (if B < i then 1 else 0)) (q_drop B c (h_k C A)) r σ → ∃ τ, f_X11_makeOne_b128 n (nI A) (nI B) c (nI (h_m C A)) (nI i) σ = some (if h_m C A = 4 then -3 else 0, τ) ∧ mB C ρ Z ma mb mc mv (h_m C A + 1) (q_drop B c (h_k C A)) r τ := by
  have h32 := hC.1
  have hm4 := (hC.2 A hA).1.1
  intro n
  induction n with
  | zero => intro i σ h1 h2; omega
  | succ n ih =>
    intro i σ h1 h2 bb
    have tq := (bb.1.hi hA).ty
    rw [f_X11_makeOne_b128.eq_2]
    by_cases c0 : h_m C A < i
    · rw [if_pos (nI_lt c0 (by omega))]
      rw [if_neg (show ¬ i ≤ h_m C A by omega), if_pos (show B < i by omega)] at bb
      have e4 : (nI (h_m C A) = 4) ↔ h_m C A = 4 := nI_eq (b := 4) (by omega) (by decide)
      by_cases c4 : h_m C A = 4
      · rw [if_pos (e4.mpr c4), if_pos c4]; exact ⟨σ, rfl, bb⟩
      · rw [if_neg (fun z => c4 (e4.mp z)), if_neg c4]; exact ⟨σ, rfl, bb⟩
    · rw [if_neg (nI_nlt (by omega) (by omega))]
      rw [if_pos (show i ≤ h_m C A by omega)] at bb
      have nxt : ∀ (cnt : Nat) (τ : mS), cnt = (if i + 1 ≤ h_m C A then i + 1 else h_m C A) + (if B < i + 1 then 1 else 0) → mB C ρ Z ma mb mc mv cnt (q_drop B c (h_k C A)) r τ → ∃ υ, (o_let (nI i + (1 : Int32)) fun x4 => f_X11_makeOne_b128 n (nI A) (nI B) c (nI (h_m C A)) x4 τ) = some (if h_m C A = 4 then -3 else 0, υ) ∧ mB C ρ Z ma mb mc mv (h_m C A + 1) (q_drop B c (h_k C A)) r υ := fun cnt τ e b2 => by
        rw [o_l, nI_1]
        exact ih (i + 1) τ (by omega) (by omega) (e ▸ b2)
      by_cases c1 : i = B
      · subst c1
        rw [if_neg (show ¬ i < i by omega)] at bb
        obtain ⟨τ, e1, e2⟩ := m_takes bb hC (by omega) c
        have e2' : mB C ρ Z ma mb mc mv (i + 1) (q_drop i c (h_k C A)) r τ := e2.eqk (fun j h3 h4 => by
          show (if j = i + 0 then c else q_drop i c (h_k C A) j) = _
          by_cases d : j = i + 0
          · rw [if_pos d]; unfold q_drop; rw [if_neg (by omega), if_pos (by omega)]
          · rw [if_neg d])
        rw [if_pos rfl, call_s e1]
        by_cases c2 : h_m C A ≤ i
        · rw [if_pos (nI_le c2 (by omega))]
          exact nxt (i + 1) τ (by rw [if_neg (by omega), if_pos (by omega)]; omega) e2'
        · rw [if_neg (nI_ge (by omega) (by omega)), call_s (m_kind (by omega) (by omega) ((e2'.1.hi hA).ty.2.2 i (by omega)))]
          obtain ⟨υ, f1, f2⟩ := m_takes e2' hC (by omega) (h_k C A i)
          rw [call_s f1]
          refine nxt (i + 1 + 1) υ (by rw [if_pos (by omega), if_pos (by omega)]) (f2.eqk (fun j h3 h4 => ?_))
          show (if j = i + 1 then h_k C A i else q_drop i c (h_k C A) j) = _
          by_cases d : j = i + 1
          · rw [if_pos d]; unfold q_drop; rw [if_neg (by omega), if_neg (by omega), show j - 1 = i by omega]
          · rw [if_neg d]
      · rw [if_neg (fun z => c1 ((nI_eq (by omega) (by omega)).mp z))]
        by_cases c2 : h_m C A ≤ i
        · rw [if_pos (nI_le c2 (by omega))]
          exact nxt _ σ (by rw [if_neg (show ¬ i + 1 ≤ h_m C A by omega), if_pos (show B < i by omega), if_pos (show B < i + 1 by omega)]; omega) bb
        · rw [if_neg (nI_ge (by omega) (by omega)), call_s (m_kind (by omega) (by omega) (tq.2.2 i (by omega)))]
          obtain ⟨υ, f1, f2⟩ := m_takes bb hC (by split <;> omega) (h_k C A i)
          rw [call_s f1]
          refine nxt _ υ ?_ (f2.eqk (fun j h3 h4 => ?_))
          · rw [if_pos (show i + 1 ≤ h_m C A by omega)]
            by_cases d : B < i
            · rw [if_pos d, if_pos (by omega)]
            · rw [if_neg d, if_neg (by omega)]
          · by_cases d : B < i
            · rw [if_pos d]
              by_cases e : j = i + 1
              · rw [if_pos e]; unfold q_drop; rw [if_neg (by omega), if_neg (by omega), show j - 1 = i by omega]
              · rw [if_neg e]
            · rw [if_neg d]
              by_cases e : j = i + 0
              · rw [if_pos e]; unfold q_drop; rw [if_pos (by omega), show j = i by omega]
              · rw [if_neg e]
theorem b208 (hC : wfC C) (hA : A < h_n C) {B : Nat} (hB : B + 1 < h_m C A) : ∀ (n i : Nat) (σ : mS), 6 ≤ n + i → i ≤ h_m C A → mB C ρ Z ma mb mc mv i (q_swap B (h_k C A)) r σ → ∃ τ, f_X11_makeOne_b208 n (nI A) (nI B) (nI (h_m C A)) (nI i) σ = some (0, τ) ∧ mB C ρ Z ma mb mc mv (h_m C A) (q_swap B (h_k C A)) r τ := by
  have h32 := hC.1
  have hm4 := (hC.2 A hA).1.1
  intro n
  induction n with
  | zero => intro i σ h1 h2; omega
  | succ n ih =>
    intro i σ h1 h2 bb
    have tq := (bb.1.hi hA).ty
    rw [f_X11_makeOne_b208.eq_2]
    by_cases c0 : h_m C A ≤ i
    · rw [if_pos (nI_le c0 (by omega))]
      rw [show i = h_m C A by omega] at bb
      exact ⟨σ, rfl, bb⟩
    · rw [if_neg (nI_ge (by omega) (by omega))]
      have step : ∀ x, x = q_swap B (h_k C A) i → ∃ τ, (o_call (f_X11_takes x σ) fun _ S2 => o_let (nI i + (1 : Int32)) fun x2 => f_X11_makeOne_b208 n (nI A) (nI B) (nI (h_m C A)) x2 S2) = some (0, τ) ∧ mB C ρ Z ma mb mc mv (h_m C A) (q_swap B (h_k C A)) r τ := fun x hx => by
        obtain ⟨υ, f1, f2⟩ := m_takes bb hC (by omega) x
        rw [call_s f1, o_l, nI_1]
        refine ih (i + 1) υ (by omega) (by omega) (f2.eqk (fun j h3 h4 => ?_))
        by_cases e : j = i
        · rw [if_pos e, hx, e]
        · rw [if_neg e]
      by_cases c1 : i = B
      · subst c1
        rw [if_pos rfl, nI_1, call_s (m_kind (by omega) (by omega) (tq.2.2 (i + 1) (by omega)))]
        have z := step (h_k C A (i + 1)) (by unfold q_swap; rw [if_pos rfl])
        rw [nI_1] at z
        exact z
      rw [if_neg (fun z => c1 ((nI_eq (by omega) (by omega)).mp z)), show nI B + (1 : Int32) = nI (B + 1) from nI_1 B]
      by_cases c2 : i = B + 1
      · subst c2
        rw [if_pos rfl, call_s (m_kind (by omega) (by omega) (tq.2.2 B (by omega)))]
        exact step _ (by unfold q_swap; rw [if_neg (by omega), if_pos rfl])
      · rw [if_neg (fun z => c2 ((nI_eq (by omega) (by omega)).mp z)), call_s (m_kind (by omega) (by omega) (tq.2.2 i (by omega)))]
        exact step _ (by unfold q_swap; rw [if_neg c1, if_neg c2])
theorem b410 (hC : wfC C) : ∀ (n i : Nat) (σ : mS), 6 ≤ n + i → i ≤ z_m Z → mB C ρ Z ma mb mc mv i (z_k Z) r σ → ∃ τ, f_X11_makeOne_b410 n (nI i) σ = some (0, τ) ∧ mB C ρ Z ma mb mc mv (z_m Z) (z_k Z) (z_r Z) τ := by
  have h32 := hC.1
  intro n
  induction n with
  | zero => intro i σ h1 h2 bb; have := bb.1.2.2.2.2.2.1; omega
  | succ n ih =>
    intro i σ h1 h2 bb
    have oz := bb.1.2.2.2
    have hm4 := oz.2.2.1
    rw [f_X11_makeOne_b410.eq_2, m_gI oz.2.1]
    by_cases c0 : z_m Z ≤ i
    · rw [if_pos (nI_le c0 (by omega)), m_gI oz.1]
      rw [show i = z_m Z by omega] at bb
      obtain ⟨τ, e1, e2⟩ := m_gives bb h32 (z_r Z)
      rw [call_s e1]
      exact ⟨τ, rfl, e2⟩
    · obtain ⟨υ, f1, f2⟩ := m_takes bb hC (by omega) (z_k Z i)
      rw [if_neg (nI_ge (by omega) (by omega)), m_rI (n := 4) rfl (by omega) (by decide) (oz.2.2.2.1 i (by omega)), call_s f1, o_l, nI_1]
      refine ih (i + 1) υ (by omega) (by omega) (f2.eqk (fun j h3 h4 => ?_))
      by_cases e : j = i
      · rw [if_pos e, e]
      · rw [if_neg e]
theorem mk_11 (kk : cI ad C ρ Z (q + 1) S) (mm : mR C ρ Z σ) (hC : wfC C) (hV : wfV C ρ) (hS : okS ρ) (hZ : wfK (z_m Z) (z_k Z) (z_r Z)) : jStep (ad 0) q (f_X10_make (ad 0) 11 a b c v S) (f_X11_make 11 a b c v σ) := by
  have h32 := hC.1
  have st := mB.start mm
  have pre : mk_pre 11 a b c v (mk_clear (h_n C) σ) = f_X11_makeOne 11 a b c v (mk_clear (h_n C) σ) := by
    unfold mk_pre
    rw [if_pos (by decide), if_neg (by decide), if_neg (by decide), if_neg (by decide), if_neg (by decide), if_neg (by decide), if_neg (by decide)]
  rcases in_idx a (n := h_n C) (by omega) with ⟨A, hA, rfl, e⟩ | ⟨hn, e⟩
  · have hm4 := (hC.2 A hA).1.1
    have hKA := (hC.2 A hA).1
    have bq := st.p4 (nI A)
    have tq := (bq.1.hi hA).ty
    obtain ⟨τ0, g0, t0⟩ := m_gives bq h32 (h_r C A)
    have tq0 := (t0.1.hi hA).ty
    refine make_asm (P := True ∧ (∃ B, B ≤ h_m C A ∧ b = nI B) ∧ kindp c ∧ True) (xb := 1) (xc := 1) (xv := 0) (b1 := b) (c1 := c) (v1 := 0) kk mm hC hV hS hZ (by decide) (by decide) (by decide) (by decide) rfl rfl rfl (fun S w kk h => told_of kk h (by decide) (x_hnd kk h (by decide) (by decide) (by decide) hA rfl) (fun _ => x_sec11 kk h hA hm4) (fun _ => x_thi11 h) (fun _ => x_kbm h (by decide))) (fun hn => ?_) (fun hy => ?_)
    · rw [pre]; unfold f_X11_makeOne; rw [call_s (m0_yes mm e), if_neg n10, o_l, m_rI (n := 33) (k := 10) rfl (by omega) (by decide) tq.2.1, call_s g0, m_rI (n := 33) (k := 8) rfl (by omega) (by decide) tq0.1, if_pos rfl, nI_l (n := h_m C A) (by omega)]
      rcases in_rng b (n := h_m C A) (by omega) with ⟨B, b1, b2, b3⟩ | ⟨b1, b2, b3⟩
      · rw [cP_s b3, if_neg n10]
        rcases kind_is c with ⟨d, -, f⟩ | ⟨d, -, f⟩
        · exact absurd ⟨trivial, ⟨B, b1, b2⟩, d, trivial⟩ hn
        · rw [cP_s f, if_pos rfl]; exact ⟨_, rfl, t0.1⟩
      · rw [cP_s b2, if_pos rfl]; exact ⟨_, rfl, t0.1⟩
    · obtain ⟨-, ⟨B, hB, rfl⟩, hc, -⟩ := hy
      have e2 : f_X11_in (nI B).toInt64 0 (lN (h_m C A)) = some 1 := by
        rcases in_rng (nI B) (n := h_m C A) (by omega) with ⟨-, -, -, z⟩ | ⟨-, -, z⟩
        · exact z
        · exact absurd rfl (z B hB)
      have e3 : f_X11_isKind c = some 1 := by
        rcases kind_is c with ⟨-, -, z⟩ | ⟨z, -, -⟩
        · exact z
        · exact absurd hc z
      obtain ⟨τ, f1, f2⟩ := b128 (B := B) (c := c) hC hA hB 12 0 _ (by omega) (by omega) (mB.eqk (k := fun _ => 0) (by rw [if_pos (Nat.zero_le _), if_neg (Nat.not_lt_zero B)]; exact (t0.p5 (nI B)).p6 c) (fun j hj => by rw [if_pos (Nat.zero_le _), if_neg (Nat.not_lt_zero B)] at hj; omega))
      have rf : mk_pre 11 (nI A) (nI B) c v (mk_clear (h_n C) σ) = some (if h_m C A = 4 then -3 else 0, τ) := by
        rw [pre]
        unfold f_X11_makeOne
        rw [call_s (m0_yes mm e), if_neg n10, o_l, m_rI (n := 33) (k := 10) rfl (by omega) (by decide) tq.2.1, call_s g0, m_rI (n := 33) (k := 8) rfl (by omega) (by decide) tq0.1, if_pos rfl, nI_l (n := h_m C A) (by omega), cP_s e2, if_neg n10, cP_s e3, if_neg n10, o_l, o_l]
        exact f1
      by_cases c4 : h_m C A = 4
      · left
        rw [if_pos c4] at rf
        refine ⟨fun S w kk h rm => ⟨S, 0, 0, ?_, grows.refl rm.1, by decide, by decide⟩, τ, rf, f2.1⟩
        unfold f_X3_typeOf
        rw [gI_s h.1 h.2.1, if_pos (by decide), gR_s kk.1.2.2.2.2.2.2.2.2.2.1 kk.1.2.2.2.2.2.2.2.2.2.2.1, gI_s h.1 h.2.2.1, cs_s rfl, ck_t kk.1.2.1.1, call_s (ty_yes kk.1.2.1 hA), cs_s rfl, gI_s h.1 h.2.1, if_pos rfl]
        rw [gI_s (kk.ty hA).2.1 (kk.ty hA).2.2.2.1, if_pos (by rw [c4]; decide)]
      · right
        rw [if_neg c4] at rf
        refine ⟨h_m C A + 1, q_drop B c (h_k C A), h_r C A, 0, fun S w kk h rm => ?_, ⟨τ, rf, f2.1, f2.A (by omega)⟩, ⟨by omega, hKA.2.1, fun j hj => ?_⟩, ?_, ?_, ?_, ?_⟩
        · obtain ⟨t', S4, u1, u2, u3⟩ := longer_is (c := c) (kk.ty hA) (by omega) hB (rm.le (by decide) (by decide))
          refine ⟨t', S4, 2, 7, ?_, u2, by decide, by decide, u3⟩
          unfold f_X3_typeOf
          rw [gI_s h.1 h.2.1, if_pos (by decide), gR_s kk.1.2.2.2.2.2.2.2.2.2.1 kk.1.2.2.2.2.2.2.2.2.2.2.1, gI_s h.1 h.2.2.1, cs_s rfl, ck_t kk.1.2.1.1, call_s (ty_yes kk.1.2.1 hA), cs_s rfl, gI_s h.1 h.2.1, if_pos rfl]
          rw [gI_s (kk.ty hA).2.1 (kk.ty hA).2.2.2.1, if_neg (show ¬ (4 : Int32) ≤ nI (h_m C A) from nI_ge (b := 4) (by omega) (by decide)), gI_s h.1 h.2.2.2.1, gI_s h.1 h.2.2.2.2.1, ck_t (kk.ty hA).2.1, call_id]
          exact u1
        · unfold q_drop
          by_cases d : j < B
          · rw [if_pos d]; exact hKA.2.2 j (by omega)
          · rw [if_neg d]
            by_cases d2 : j = B
            · rw [if_pos d2]; exact hc
            · rw [if_neg d2]; exact hKA.2.2 (j - 1) (by omega)
        · exact Or.inr (Or.inr (Or.inr (Or.inr (Or.inr (Or.inr (Or.inr (Or.inr (Or.inr (Or.inr (Or.inr (Or.inl ⟨rfl, A, B, hA, rfl, rfl, hB, by omega, hc, rfl, rfl, fun _ _ => rfl⟩)))))))))))
        · exact fun z => absurd z (by decide)
        · exact fun z => absurd z (by decide)
        · exact fun S w kk h => x_bits0 kk h (by decide)
  · refine make_noh kk mm hC hV hS hZ (by decide) (xb := 1) (xc := 1) (xv := 0) (by decide) (by decide) (by decide) (by decide) (by decide) (by decide) (by decide) hn ?_
    rw [pre]
    unfold f_X11_makeOne
    rw [call_s (m0_no mm e), if_pos rfl]
theorem mk_12 (kk : cI ad C ρ Z (q + 1) S) (mm : mR C ρ Z σ) (hC : wfC C) (hV : wfV C ρ) (hS : okS ρ) (hZ : wfK (z_m Z) (z_k Z) (z_r Z)) : jStep (ad 0) q (f_X10_make (ad 0) 12 a b c v S) (f_X11_make 12 a b c v σ) := by
  have h32 := hC.1
  have st := mB.start mm
  have pre : mk_pre 12 a b c v (mk_clear (h_n C) σ) = f_X11_makeOne 12 a b c v (mk_clear (h_n C) σ) := by
    unfold mk_pre
    rw [if_pos (by decide), if_neg (by decide), if_neg (by decide), if_neg (by decide), if_neg (by decide), if_neg (by decide), if_neg (by decide)]
  rcases in_idx a (n := h_n C) (by omega) with ⟨A, hA, rfl, e⟩ | ⟨hn, e⟩
  · have hm4 := (hC.2 A hA).1.1
    have hKA := (hC.2 A hA).1
    have bq := st.p4 (nI A)
    have tq := (bq.1.hi hA).ty
    obtain ⟨τ0, g0, t0⟩ := m_gives bq h32 (h_r C A)
    have tq0 := (t0.1.hi hA).ty
    refine make_asm (P := True ∧ (∃ B, B + 1 < h_m C A ∧ b = nI B) ∧ True ∧ True) (xb := 1) (xc := 0) (xv := 0) (b1 := b) (c1 := 0) (v1 := 0) kk mm hC hV hS hZ (by decide) (by decide) (by decide) (by decide) rfl rfl rfl (fun S w kk h => told_of kk h (by decide) (x_hnd kk h (by decide) (by decide) (by decide) hA rfl) (fun _ => x_sec12 kk h hA hm4) (fun _ => x_thi h (by decide)) (fun _ => x_kbm h (by decide))) (fun hn => ?_) (fun hy => Or.inr ?_)
    · rw [pre]; unfold f_X11_makeOne; rw [call_s (m0_yes mm e), if_neg n10, o_l, m_rI (n := 33) (k := 10) rfl (by omega) (by decide) tq.2.1, call_s g0, m_rI (n := 33) (k := 8) rfl (by omega) (by decide) tq0.1, if_neg (by decide), if_pos rfl]
      rcases in_m2 b hm4 with ⟨d, f⟩ | ⟨d, f⟩
      · exact absurd ⟨trivial, d, trivial, trivial⟩ hn
      · rw [cP_s f, if_pos rfl]; exact ⟨_, rfl, t0.1⟩
    · obtain ⟨-, ⟨B, hB, rfl⟩, -, -⟩ := hy
      have e2 : f_X11_in (nI B).toInt64 0 (((nI (h_m C A) - (2 : Int32))).toInt64) = some 1 := by
        rcases in_m2 (nI B) hm4 with ⟨-, z⟩ | ⟨z, -⟩
        · exact z
        · exact absurd ⟨B, hB, rfl⟩ z
      obtain ⟨τ, f1, f2⟩ := b208 (B := B) hC hA hB 12 0 _ (by omega) (by omega) (mB.eqk (t0.p5 (nI B)) (fun j hj => by omega))
      refine ⟨h_m C A, q_swap B (h_k C A), h_r C A, 0, fun S w kk h rm => ?_, ⟨τ, ?_, f2.1, f2.A hm4⟩, ⟨hm4, hKA.2.1, fun j hj => ?_⟩, ?_, ?_, ?_, ?_⟩
      · obtain ⟨t', S4, u1, u2, u3⟩ := swapped_is (B := B) (kk.ty hA) hB rm
        refine ⟨t', S4, 4, 14, ?_, u2, by decide, by decide, u3⟩
        unfold f_X3_typeOf
        rw [gI_s h.1 h.2.1, if_pos (by decide), gR_s kk.1.2.2.2.2.2.2.2.2.2.1 kk.1.2.2.2.2.2.2.2.2.2.2.1, gI_s h.1 h.2.2.1, cs_s rfl, ck_t kk.1.2.1.1, call_s (ty_yes kk.1.2.1 hA), cs_s rfl, gI_s h.1 h.2.1, if_neg (by decide), if_pos rfl]
        rw [gI_s h.1 h.2.2.2.1, ck_t (kk.ty hA).2.1, call_id]
        exact u1
      · rw [pre]; unfold f_X11_makeOne; rw [call_s (m0_yes mm e), if_neg n10, o_l, m_rI (n := 33) (k := 10) rfl (by omega) (by decide) tq.2.1, call_s g0, m_rI (n := 33) (k := 8) rfl (by omega) (by decide) tq0.1, if_neg (by decide), if_pos rfl, cP_s e2, if_neg n10, o_l]
        exact f1
      · unfold q_swap
        by_cases d : j = B
        · rw [if_pos d]; exact hKA.2.2 (B + 1) (by omega)
        · rw [if_neg d]
          by_cases d2 : j = B + 1
          · rw [if_pos d2]; exact hKA.2.2 B (by omega)
          · rw [if_neg d2]; exact hKA.2.2 j hj
      · exact Or.inr (Or.inr (Or.inr (Or.inr (Or.inr (Or.inr (Or.inr (Or.inr (Or.inr (Or.inr (Or.inr (Or.inr (Or.inl ⟨rfl, A, B, hA, rfl, rfl, hB, rfl, rfl, fun _ _ => rfl⟩))))))))))))
      · exact fun z => absurd z (by decide)
      · exact fun z => absurd z (by decide)
      · exact fun S w kk h => x_bits0 kk h (by decide)
  · refine make_noh kk mm hC hV hS hZ (by decide) (xb := 1) (xc := 0) (xv := 0) (by decide) (by decide) (by decide) (by decide) (by decide) (by decide) (by decide) hn ?_
    rw [pre]
    unfold f_X11_makeOne
    rw [call_s (m0_no mm e), if_pos rfl]
theorem mk_13 (kk : cI ad C ρ Z (q + 1) S) (mm : mR C ρ Z σ) (hC : wfC C) (hV : wfV C ρ) (hS : okS ρ) (hZ : wfK (z_m Z) (z_k Z) (z_r Z)) : jStep (ad 0) q (f_X10_make (ad 0) 13 a b c v S) (f_X11_make 13 a b c v σ) := by
  have h32 := hC.1
  have st := mB.start mm
  have pre : mk_pre 13 a b c v (mk_clear (h_n C) σ) = f_X11_makeOne 13 a b c v (mk_clear (h_n C) σ) := by
    unfold mk_pre
    rw [if_pos (by decide), if_neg (by decide), if_neg (by decide), if_neg (by decide), if_neg (by decide), if_neg (by decide), if_neg (by decide)]
  rcases in_idx a (n := h_n C) (by omega) with ⟨A, hA, rfl, e⟩ | ⟨hn, e⟩
  · have hm4 := (hC.2 A hA).1.1
    have hKA := (hC.2 A hA).1
    have bq := st.p4 (nI A)
    have tq := (bq.1.hi hA).ty
    obtain ⟨τ0, g0, t0⟩ := m_gives bq h32 (h_r C A)
    have tq0 := (t0.1.hi hA).ty
    refine make_asm (P := True ∧ True ∧ True ∧ True) (xb := 0) (xc := 0) (xv := 0) (b1 := 0) (c1 := 0) (v1 := 0) kk mm hC hV hS hZ (by decide) (by decide) (by decide) (by decide) rfl rfl rfl (fun S w kk h => told_of kk h (by decide) (x_hnd kk h (by decide) (by decide) (by decide) hA rfl) (fun _ => x_sec h (by decide)) (fun _ => x_thi h (by decide)) (fun _ => x_kbm h (by decide))) (fun hn => absurd ⟨trivial, trivial, trivial, trivial⟩ hn) (fun hy => ?_)
    by_cases c2 : h_m C A < 2
    · left
      refine ⟨fun S w kk h rm => ⟨S, 0, 0, ?_, grows.refl rm.1, by decide, by decide⟩, τ0, ?_, t0.1⟩
      · unfold f_X3_typeOf
        rw [gI_s h.1 h.2.1, if_pos (by decide), gR_s kk.1.2.2.2.2.2.2.2.2.2.1 kk.1.2.2.2.2.2.2.2.2.2.2.1, gI_s h.1 h.2.2.1, cs_s rfl, ck_t kk.1.2.1.1, call_s (ty_yes kk.1.2.1 hA), cs_s rfl, gI_s h.1 h.2.1, if_neg (by decide), if_neg (by decide), if_pos rfl]
        rw [gI_s (kk.ty hA).2.1 (kk.ty hA).2.2.2.1, if_pos (show nI (h_m C A) ≤ (1 : Int32) from nI_le (b := 1) (by omega) (by decide))]
      · rw [pre]; unfold f_X11_makeOne; rw [call_s (m0_yes mm e), if_neg n10, o_l, m_rI (n := 33) (k := 10) rfl (by omega) (by decide) tq.2.1, call_s g0, m_rI (n := 33) (k := 8) rfl (by omega) (by decide) tq0.1, if_neg (by decide), if_neg (by decide), if_pos rfl, if_pos (show nI (h_m C A) < (2 : Int32) from nI_lt (b := 2) c2 (by decide))]
    · have k0 := m_kind (σ := τ0) (i := A) (j := 0) (by omega) (by decide) (tq0.2.2 0 (by omega))
      have k1 := m_kind (σ := τ0) (i := A) (j := 1) (by omega) (by decide) (tq0.2.2 1 (by omega))
      by_cases ce : h_k C A 0 = h_k C A 1
      · right
        obtain ⟨τ, f1, f2⟩ := m_takesOf (i := 1) t0 hC hA (by decide) (by omega)
        rw [Nat.zero_add] at f2
        have f3 : mB C ρ Z (nI A) 0 0 0 (h_m C A - 1) (q_tail (h_k C A)) (h_r C A) τ := f2.eqk (fun j h3 h4 => by
          rw [if_neg (Nat.not_lt_zero j)]; show h_k C A (1 + (j - 0)) = h_k C A (j + 1); congr 1; omega)
        refine ⟨h_m C A - 1, q_tail (h_k C A), h_r C A, 0, fun S w kk h rm => ?_, ⟨τ, ?_, f3.1, f3.A (by omega)⟩, ⟨by omega, hKA.2.1, fun j hj => hKA.2.2 (j + 1) (by omega)⟩, ?_, ?_, ?_, ?_⟩
        · obtain ⟨t', S4, u1, u2, u3⟩ := tail_is (kk.ty hA) (by omega) (rm.le (by decide) (by decide))
          refine ⟨t', S4, 2, 7, ?_, u2, by decide, by decide, u3⟩
          unfold f_X3_typeOf
          rw [gI_s h.1 h.2.1, if_pos (by decide), gR_s kk.1.2.2.2.2.2.2.2.2.2.1 kk.1.2.2.2.2.2.2.2.2.2.2.1, gI_s h.1 h.2.2.1, cs_s rfl, ck_t kk.1.2.1.1, call_s (ty_yes kk.1.2.1 hA), cs_s rfl, gI_s h.1 h.2.1, if_neg (by decide), if_neg (by decide), if_pos rfl]
          rw [gI_s (kk.ty hA).2.1 (kk.ty hA).2.2.2.1, if_neg (show ¬ nI (h_m C A) ≤ (1 : Int32) from nI_ge (a := 1) (by omega) (by omega)), ck_t (kk.ty hA).2.1, call_s (show f_X9_kind _ 0 S = _ from kind_yes (kk.ty hA) (j := 0) (by omega)), ck_t (kk.ty hA).2.1, call_s (show f_X9_kind _ 1 S = _ from kind_yes (kk.ty hA) (j := 1) (by omega)), if_pos ce, ck_t (kk.ty hA).2.1, call_id]
          exact u1
        · rw [pre]; unfold f_X11_makeOne; rw [call_s (m0_yes mm e), if_neg n10, o_l, m_rI (n := 33) (k := 10) rfl (by omega) (by decide) tq.2.1, call_s g0, m_rI (n := 33) (k := 8) rfl (by omega) (by decide) tq0.1, if_neg (by decide), if_neg (by decide), if_pos rfl, if_neg (show ¬ nI (h_m C A) < (2 : Int32) from nI_nlt (b := 2) (by omega) (by omega)), call_s (show f_X11_kind (nI A) 0 τ0 = _ from k0), call_s (show f_X11_kind (nI A) 1 τ0 = _ from k1), if_pos ce, call_s (show f_X11_takesOf (nI A) 1 τ0 = _ from f1)]
        · exact Or.inr (Or.inr (Or.inr (Or.inr (Or.inr (Or.inr (Or.inr (Or.inr (Or.inr (Or.inr (Or.inr (Or.inr (Or.inr (Or.inl ⟨rfl, A, hA, rfl, by omega, ce, rfl, rfl, fun _ _ => rfl⟩)))))))))))))
        · exact fun z => absurd z (by decide)
        · exact fun z => absurd z (by decide)
        · exact fun S w kk h => x_bits0 kk h (by decide)
      · left
        refine ⟨fun S w kk h rm => ⟨S, 0, 0, ?_, grows.refl rm.1, by decide, by decide⟩, τ0, ?_, t0.1⟩
        · unfold f_X3_typeOf
          rw [gI_s h.1 h.2.1, if_pos (by decide), gR_s kk.1.2.2.2.2.2.2.2.2.2.1 kk.1.2.2.2.2.2.2.2.2.2.2.1, gI_s h.1 h.2.2.1, cs_s rfl, ck_t kk.1.2.1.1, call_s (ty_yes kk.1.2.1 hA), cs_s rfl, gI_s h.1 h.2.1, if_neg (by decide), if_neg (by decide), if_pos rfl]
          rw [gI_s (kk.ty hA).2.1 (kk.ty hA).2.2.2.1, if_neg (show ¬ nI (h_m C A) ≤ (1 : Int32) from nI_ge (a := 1) (by omega) (by omega)), ck_t (kk.ty hA).2.1, call_s (show f_X9_kind _ 0 S = _ from kind_yes (kk.ty hA) (j := 0) (by omega)), ck_t (kk.ty hA).2.1, call_s (show f_X9_kind _ 1 S = _ from kind_yes (kk.ty hA) (j := 1) (by omega)), if_neg ce]
        · rw [pre]; unfold f_X11_makeOne; rw [call_s (m0_yes mm e), if_neg n10, o_l, m_rI (n := 33) (k := 10) rfl (by omega) (by decide) tq.2.1, call_s g0, m_rI (n := 33) (k := 8) rfl (by omega) (by decide) tq0.1, if_neg (by decide), if_neg (by decide), if_pos rfl, if_neg (show ¬ nI (h_m C A) < (2 : Int32) from nI_nlt (b := 2) (by omega) (by omega)), call_s (show f_X11_kind (nI A) 0 τ0 = _ from k0), call_s (show f_X11_kind (nI A) 1 τ0 = _ from k1), if_neg ce]
  · refine make_noh kk mm hC hV hS hZ (by decide) (xb := 0) (xc := 0) (xv := 0) (by decide) (by decide) (by decide) (by decide) (by decide) (by decide) (by decide) hn ?_
    rw [pre]
    unfold f_X11_makeOne
    rw [call_s (m0_no mm e), if_pos rfl]
theorem mk_14 (kk : cI ad C ρ Z (q + 1) S) (mm : mR C ρ Z σ) (hC : wfC C) (hV : wfV C ρ) (hS : okS ρ) (hZ : wfK (z_m Z) (z_k Z) (z_r Z)) : jStep (ad 0) q (f_X10_make (ad 0) 14 a b c v S) (f_X11_make 14 a b c v σ) := by
  have h32 := hC.1
  have st := mB.start mm
  have pre : mk_pre 14 a b c v (mk_clear (h_n C) σ) = f_X11_makeOne 14 a b c v (mk_clear (h_n C) σ) := by
    unfold mk_pre
    rw [if_pos (by decide), if_neg (by decide), if_neg (by decide), if_neg (by decide), if_neg (by decide), if_neg (by decide), if_neg (by decide)]
  rcases in_idx a (n := h_n C) (by omega) with ⟨A, hA, rfl, e⟩ | ⟨hn, e⟩
  · have hm4 := (hC.2 A hA).1.1
    have hKA := (hC.2 A hA).1
    have bq := st.p4 (nI A)
    have tq := (bq.1.hi hA).ty
    obtain ⟨τ0, g0, t0⟩ := m_gives bq h32 (h_r C A)
    have tq0 := (t0.1.hi hA).ty
    refine make_asm (P := True ∧ True ∧ True ∧ (0 < h_m C A → mayp ρ (h_k C A 0) v)) (xb := 0) (xc := 0) (xv := 1) (b1 := 0) (c1 := 0) (v1 := v) kk mm hC hV hS hZ (by decide) (by decide) (by decide) (by decide) rfl rfl rfl (fun S w kk h => told_of kk h (by decide) (x_hnd kk h (by decide) (by decide) (by decide) hA rfl) (fun _ => x_sec h (by decide)) (fun _ => x_thi h (by decide)) (fun _ => ?_)) (fun hn => ?_) (fun hy => ?_)
    · refine ⟨_, x_kb14 kk h hA, ?_⟩
      by_cases c0 : 0 < h_m C A
      · rw [if_pos c0]
        obtain ⟨x, f, i⟩ := may_is kk.1.2.2.1 (hKA.2.2 0 c0) v
        exact ⟨x, f, i.iff ⟨fun z _ => z, fun z => z c0⟩⟩
      · rw [if_neg c0]
        exact ⟨1, may_none, Or.inl ⟨rfl, fun z => absurd z c0⟩⟩
    · rw [pre]; unfold f_X11_makeOne; rw [call_s (m0_yes mm e), if_neg n10, o_l, m_rI (n := 33) (k := 10) rfl (by omega) (by decide) tq.2.1, call_s g0, m_rI (n := 33) (k := 8) rfl (by omega) (by decide) tq0.1, if_neg (by decide), if_neg (by decide), if_neg (by decide), if_pos rfl]
      by_cases c0 : 0 < h_m C A
      · have k0 := m_kind (σ := τ0) (i := A) (j := 0) (by omega) (by decide) (tq0.2.2 0 (by omega))
        obtain ⟨x, f, i⟩ := val_is t0.1.1 (hKA.2.2 0 c0) v
        rw [if_pos (show (1 : Int32) ≤ nI (h_m C A) from nI_le (a := 1) c0 (by omega)), call_s (show f_X11_kind (nI A) 0 τ0 = _ from k0), call_s f]
        rcases i with ⟨rfl, i⟩ | ⟨rfl, i⟩
        · exact absurd ⟨trivial, trivial, trivial, fun _ => i⟩ hn
        · rw [if_pos rfl]; exact ⟨_, rfl, t0.1⟩
      · exact absurd ⟨trivial, trivial, trivial, fun z => absurd z c0⟩ hn
    · obtain ⟨-, -, -, hv⟩ := hy
      by_cases c0 : 0 < h_m C A
      · right
        have k0 := m_kind (σ := τ0) (i := A) (j := 0) (by omega) (by decide) (tq0.2.2 0 (by omega))
        obtain ⟨bits, w1, w2, w3⟩ := bits_may (hKA.2.2 0 c0) (hv c0)
        obtain ⟨τ, f1, f2⟩ := m_takesOf (i := 1) (t0.pL bits) hC hA (by decide) (by omega)
        rw [Nat.zero_add] at f2
        have f3 : mB C ρ Z (nI A) 0 0 bits (h_m C A - 1) (q_tail (h_k C A)) (h_r C A) τ := f2.eqk (fun j h3 h4 => by
          rw [if_neg (Nat.not_lt_zero j)]; show h_k C A (1 + (j - 0)) = h_k C A (j + 1); congr 1; omega)
        refine ⟨h_m C A - 1, q_tail (h_k C A), h_r C A, bits, fun S w kk h rm => ?_, ⟨τ, ?_, f3.1, f3.A (by omega)⟩, ⟨by omega, hKA.2.1, fun j hj => hKA.2.2 (j + 1) (by omega)⟩, ?_, ?_, ?_, ?_⟩
        · obtain ⟨t', S4, u1, u2, u3⟩ := tail_is (kk.ty hA) c0 (rm.le (by decide) (by decide))
          refine ⟨t', S4, 2, 7, ?_, u2, by decide, by decide, u3⟩
          unfold f_X3_typeOf
          rw [gI_s h.1 h.2.1, if_pos (by decide), gR_s kk.1.2.2.2.2.2.2.2.2.2.1 kk.1.2.2.2.2.2.2.2.2.2.2.1, gI_s h.1 h.2.2.1, cs_s rfl, ck_t kk.1.2.1.1, call_s (ty_yes kk.1.2.1 hA), cs_s rfl, gI_s h.1 h.2.1, if_neg (by decide), if_neg (by decide), if_neg (by decide), if_pos rfl]
          rw [gI_s (kk.ty hA).2.1 (kk.ty hA).2.2.2.1, if_neg (nI_nle c0 (by omega)), ck_t (kk.ty hA).2.1, call_id]
          exact u1
        · obtain ⟨x, f, i⟩ := val_is t0.1.1 (hKA.2.2 0 c0) v
          rw [pre]; unfold f_X11_makeOne; rw [call_s (m0_yes mm e), if_neg n10, o_l, m_rI (n := 33) (k := 10) rfl (by omega) (by decide) tq.2.1, call_s g0, m_rI (n := 33) (k := 8) rfl (by omega) (by decide) tq0.1, if_neg (by decide), if_neg (by decide), if_neg (by decide), if_pos rfl, if_pos (show (1 : Int32) ≤ nI (h_m C A) from nI_le (a := 1) c0 (by omega)), call_s (show f_X11_kind (nI A) 0 τ0 = _ from k0), call_s f]
          rcases i with ⟨rfl, i⟩ | ⟨rfl, i⟩
          · rw [if_neg n10, call_s (show f_X11_kind (nI A) 0 τ0 = _ from k0), cP_s w2, o_l, call_s (show f_X11_takesOf (nI A) 1 _ = _ from f1)]
          · exact absurd (hv c0) i
        · exact Or.inr (Or.inr (Or.inr (Or.inr (Or.inr (Or.inr (Or.inr (Or.inr (Or.inr (Or.inr (Or.inr (Or.inr (Or.inr (Or.inr (Or.inl ⟨rfl, A, hA, rfl, c0, rfl, rfl, fun _ _ => rfl⟩))))))))))))))
        · exact fun z => absurd z (by decide)
        · exact fun _ => ⟨A, hA, rfl, w3⟩
        · intro S w kk h
          unfold f_X3_bitsOf
          rw [ck_t kk.1.2.2.2.2.2.2.2.2.2.1, call_s (x_kb14 kk h hA), if_pos c0, gL_s h.1 h.2.2.2.2.2, cP_s w1]
      · left
        have z0 : h_m C A = 0 := by omega
        refine ⟨fun S w kk h rm => ⟨S, 0, 0, ?_, grows.refl rm.1, by decide, by decide⟩, τ0, ?_, t0.1⟩
        · unfold f_X3_typeOf
          rw [gI_s h.1 h.2.1, if_pos (by decide), gR_s kk.1.2.2.2.2.2.2.2.2.2.1 kk.1.2.2.2.2.2.2.2.2.2.2.1, gI_s h.1 h.2.2.1, cs_s rfl, ck_t kk.1.2.1.1, call_s (ty_yes kk.1.2.1 hA), cs_s rfl, gI_s h.1 h.2.1, if_neg (by decide), if_neg (by decide), if_neg (by decide), if_pos rfl]
          rw [gI_s (kk.ty hA).2.1 (kk.ty hA).2.2.2.1, if_pos (by rw [z0]; decide)]
        · rw [pre]; unfold f_X11_makeOne; rw [call_s (m0_yes mm e), if_neg n10, o_l, m_rI (n := 33) (k := 10) rfl (by omega) (by decide) tq.2.1, call_s g0, m_rI (n := 33) (k := 8) rfl (by omega) (by decide) tq0.1, if_neg (by decide), if_neg (by decide), if_neg (by decide), if_pos rfl, if_neg (by rw [z0]; decide)]
  · refine make_noh kk mm hC hV hS hZ (by decide) (xb := 0) (xc := 0) (xv := 1) (by decide) (by decide) (by decide) (by decide) (by decide) (by decide) (by decide) hn ?_
    rw [pre]
    unfold f_X11_makeOne
    rw [call_s (m0_no mm e), if_pos rfl]
theorem mk_21 (kk : cI ad C ρ Z (q + 1) S) (mm : mR C ρ Z σ) (hC : wfC C) (hV : wfV C ρ) (hS : okS ρ) (hZ : wfK (z_m Z) (z_k Z) (z_r Z)) : jStep (ad 0) q (f_X10_make (ad 0) 21 a b c v S) (f_X11_make 21 a b c v σ) := by
  have h32 := hC.1
  have st := mB.start mm
  have pre : mk_pre 21 a b c v (mk_clear (h_n C) σ) = f_X11_makeOne 21 a b c v (mk_clear (h_n C) σ) := by
    unfold mk_pre
    rw [if_pos (by decide), if_neg (by decide), if_neg (by decide), if_neg (by decide), if_neg (by decide), if_neg (by decide), if_neg (by decide)]
  rcases in_idx a (n := h_n C) (by omega) with ⟨A, hA, rfl, e⟩ | ⟨hn, e⟩
  · have hm4 := (hC.2 A hA).1.1
    have hKA := (hC.2 A hA).1
    have bq := st.p4 (nI A)
    have tq := (bq.1.hi hA).ty
    obtain ⟨τ0, g0, t0⟩ := m_gives bq h32 (h_r C A)
    have tq0 := (t0.1.hi hA).ty
    refine make_asm (P := True ∧ True ∧ True ∧ True) (xb := 0) (xc := 0) (xv := 0) (b1 := 0) (c1 := 0) (v1 := 0) kk mm hC hV hS hZ (by decide) (by decide) (by decide) (by decide) rfl rfl rfl (fun S w kk h => told_of kk h (by decide) (x_hnd kk h (by decide) (by decide) (by decide) hA rfl) (fun _ => x_sec h (by decide)) (fun _ => x_thi h (by decide)) (fun _ => x_kbm h (by decide))) (fun hn => absurd ⟨trivial, trivial, trivial, trivial⟩ hn) (fun hy => ?_)
    have none : (h_m C A < 2 ∨ ¬ h_k C A 1 = 4 ∨ ¬ h_k C A 0 = h_r C A) → ∀ S w, cI ad C ρ Z q S → hwB S w 21 (nI A) 0 0 0 → roomy S 4 14 → ∃ S4 n s, f_X3_typeOf (ad 5) w (ad 9) S = some (none, S4) ∧ grows S S4 n s ∧ n ≤ 4 ∧ s ≤ 14 := fun hc S w kk h rm => by
      refine ⟨S, 0, 0, ?_, grows.refl rm.1, by decide, by decide⟩
      unfold f_X3_typeOf
      rw [gI_s h.1 h.2.1, if_pos (by decide), gR_s kk.1.2.2.2.2.2.2.2.2.2.1 kk.1.2.2.2.2.2.2.2.2.2.2.1, gI_s h.1 h.2.2.1, cs_s rfl, ck_t kk.1.2.1.1, call_s (ty_yes kk.1.2.1 hA), cs_s rfl, gI_s h.1 h.2.1, if_neg (by decide), if_neg (by decide), if_neg (by decide), if_neg (by decide), if_pos rfl]
      rw [ck_t (kk.ty hA).2.1, call_s (show f_X9_kind _ 0 S = _ from kind_any (kk.ty hA) (j := 0) (by decide)), gI_s (kk.ty hA).2.1 (kk.ty hA).2.2.1]
      by_cases c0 : 0 < h_m C A
      · rw [if_pos c0]
        by_cases ce : h_k C A 0 = h_r C A
        · rw [if_pos ce, ck_t (kk.ty hA).2.1, call_s (show f_X9_kind _ 1 S = _ from kind_any (kk.ty hA) (j := 1) (by decide))]
          by_cases c1 : 1 < h_m C A
          · rw [if_pos c1, if_neg]
            rcases hc with z | z | z
            · omega
            · exact z
            · exact absurd ce z
          · rw [if_neg c1, if_neg (by decide)]
        · rw [if_neg ce]
      · rw [if_neg c0, if_neg (fun z => kind_ne hKA.2.1 z.symm)]
    by_cases c2 : h_m C A < 2
    · left
      refine ⟨none (Or.inl c2), τ0, ?_, t0.1⟩
      rw [pre]; unfold f_X11_makeOne; rw [call_s (m0_yes mm e), if_neg n10, o_l, m_rI (n := 33) (k := 10) rfl (by omega) (by decide) tq.2.1, call_s g0, m_rI (n := 33) (k := 8) rfl (by omega) (by decide) tq0.1, if_neg (by decide), if_neg (by decide), if_neg (by decide), if_neg (by decide), if_pos rfl, if_pos (show nI (h_m C A) < (2 : Int32) from nI_lt (b := 2) c2 (by decide))]
    have k0 := m_kind (σ := τ0) (i := A) (j := 0) (by omega) (by decide) (tq0.2.2 0 (by omega))
    have k1 := m_kind (σ := τ0) (i := A) (j := 1) (by omega) (by decide) (tq0.2.2 1 (by omega))
    by_cases c4 : h_k C A 1 = 4
    · by_cases ce : h_k C A 0 = h_r C A
      · right
        obtain ⟨τ1, i1, j1⟩ := m_takes t0 hC (by decide) 4
        have k0' := m_kind (σ := τ1) (i := A) (j := 0) (by omega) (by decide) ((j1.1.hi hA).ty.2.2 0 (by omega))
        obtain ⟨τ2, i2, j2⟩ := m_takes j1 hC (by decide) (h_k C A 0)
        obtain ⟨τ, f1, f2⟩ := m_takesOf (i := 2) j2 hC hA (by decide) (by omega)
        rw [show 0 + 1 + 1 + (h_m C A - 2) = h_m C A by omega] at f2
        have f3 : mB C ρ Z (nI A) 0 0 0 (h_m C A) (q_swap 0 (h_k C A)) (h_r C A) τ := f2.eqk (fun j h3 h4 => by
          unfold q_swap
          by_cases d0 : j = 0
          · subst d0; rw [if_pos (by decide), if_pos rfl]; exact c4.symm
          · by_cases d1 : j = 1
            · subst d1; rfl
            · rw [if_neg (by omega), if_neg d0, if_neg d1]; congr 1; omega)
        refine ⟨h_m C A, q_swap 0 (h_k C A), h_r C A, 0, fun S w kk h rm => ?_, ⟨τ, ?_, f3.1, f3.A hm4⟩, ⟨hm4, hKA.2.1, fun j hj => ?_⟩, ?_, ?_, ?_, ?_⟩
        · obtain ⟨t', S4, u1, u2, u3⟩ := swapped_is (B := 0) (kk.ty hA) (by omega) rm
          refine ⟨t', S4, 4, 14, ?_, u2, by decide, by decide, u3⟩
          unfold f_X3_typeOf
          rw [gI_s h.1 h.2.1, if_pos (by decide), gR_s kk.1.2.2.2.2.2.2.2.2.2.1 kk.1.2.2.2.2.2.2.2.2.2.2.1, gI_s h.1 h.2.2.1, cs_s rfl, ck_t kk.1.2.1.1, call_s (ty_yes kk.1.2.1 hA), cs_s rfl, gI_s h.1 h.2.1, if_neg (by decide), if_neg (by decide), if_neg (by decide), if_neg (by decide), if_pos rfl]
          rw [ck_t (kk.ty hA).2.1, call_s (show f_X9_kind _ 0 S = _ from kind_yes (kk.ty hA) (j := 0) (by omega)), gI_s (kk.ty hA).2.1 (kk.ty hA).2.2.1, if_pos ce, ck_t (kk.ty hA).2.1, call_s (show f_X9_kind _ 1 S = _ from kind_yes (kk.ty hA) (j := 1) (by omega)), if_pos c4, ck_t (kk.ty hA).2.1, call_id]
          exact u1
        · rw [pre]; unfold f_X11_makeOne; rw [call_s (m0_yes mm e), if_neg n10, o_l, m_rI (n := 33) (k := 10) rfl (by omega) (by decide) tq.2.1, call_s g0, m_rI (n := 33) (k := 8) rfl (by omega) (by decide) tq0.1, if_neg (by decide), if_neg (by decide), if_neg (by decide), if_neg (by decide), if_pos rfl, if_neg (show ¬ nI (h_m C A) < (2 : Int32) from nI_nlt (b := 2) (by omega) (by omega)), call_s (show f_X11_kind (nI A) 1 τ0 = _ from k1), if_pos c4, call_s (show f_X11_kind (nI A) 0 τ0 = _ from k0), m_rI (n := 33) (k := 10) rfl (by omega) (by decide) tq0.2.1, if_pos ce, call_s i1, call_s (show f_X11_kind (nI A) 0 τ1 = _ from k0'), call_s i2, call_s (show f_X11_takesOf (nI A) 2 τ2 = _ from f1)]
        · unfold q_swap
          by_cases d : j = 0
          · rw [if_pos d]; exact hKA.2.2 (0 + 1) (by omega)
          · rw [if_neg d]
            by_cases d2 : j = 0 + 1
            · rw [if_pos d2]; exact hKA.2.2 0 (by omega)
            · rw [if_neg d2]; exact hKA.2.2 j hj
        · exact Or.inr (Or.inr (Or.inr (Or.inr (Or.inr (Or.inr (Or.inr (Or.inr (Or.inr (Or.inr (Or.inr (Or.inr (Or.inr (Or.inr (Or.inr (Or.inr (Or.inr (Or.inr (Or.inr (Or.inr (Or.inr (Or.inl ⟨rfl, A, hA, rfl, by omega, c4, ce, rfl, rfl, fun _ _ => rfl⟩)))))))))))))))))))))
        · exact fun z => absurd z (by decide)
        · exact fun z => absurd z (by decide)
        · exact fun S w kk h => x_bits0 kk h (by decide)
      · left
        refine ⟨none (Or.inr (Or.inr ce)), τ0, ?_, t0.1⟩
        rw [pre]; unfold f_X11_makeOne; rw [call_s (m0_yes mm e), if_neg n10, o_l, m_rI (n := 33) (k := 10) rfl (by omega) (by decide) tq.2.1, call_s g0, m_rI (n := 33) (k := 8) rfl (by omega) (by decide) tq0.1, if_neg (by decide), if_neg (by decide), if_neg (by decide), if_neg (by decide), if_pos rfl, if_neg (show ¬ nI (h_m C A) < (2 : Int32) from nI_nlt (b := 2) (by omega) (by omega)), call_s (show f_X11_kind (nI A) 1 τ0 = _ from k1), if_pos c4, call_s (show f_X11_kind (nI A) 0 τ0 = _ from k0), m_rI (n := 33) (k := 10) rfl (by omega) (by decide) tq0.2.1, if_neg ce]
    · left
      refine ⟨none (Or.inr (Or.inl c4)), τ0, ?_, t0.1⟩
      rw [pre]; unfold f_X11_makeOne; rw [call_s (m0_yes mm e), if_neg n10, o_l, m_rI (n := 33) (k := 10) rfl (by omega) (by decide) tq.2.1, call_s g0, m_rI (n := 33) (k := 8) rfl (by omega) (by decide) tq0.1, if_neg (by decide), if_neg (by decide), if_neg (by decide), if_neg (by decide), if_pos rfl, if_neg (show ¬ nI (h_m C A) < (2 : Int32) from nI_nlt (b := 2) (by omega) (by omega)), call_s (show f_X11_kind (nI A) 1 τ0 = _ from k1), if_neg c4]
  · refine make_noh kk mm hC hV hS hZ (by decide) (xb := 0) (xc := 0) (xv := 0) (by decide) (by decide) (by decide) (by decide) (by decide) (by decide) (by decide) hn ?_
    rw [pre]
    unfold f_X11_makeOne
    rw [call_s (m0_no mm e), if_pos rfl]
theorem mk_22 (kk : cI ad C ρ Z (q + 1) S) (mm : mR C ρ Z σ) (hC : wfC C) (hV : wfV C ρ) (hS : okS ρ) (hZ : wfK (z_m Z) (z_k Z) (z_r Z)) : jStep (ad 0) q (f_X10_make (ad 0) 22 a b c v S) (f_X11_make 22 a b c v σ) := by
  have h32 := hC.1
  have st := mB.start mm
  have pre : mk_pre 22 a b c v (mk_clear (h_n C) σ) = f_X11_makeOne 22 a b c v (mk_clear (h_n C) σ) := by
    unfold mk_pre
    rw [if_pos (by decide), if_neg (by decide), if_neg (by decide), if_neg (by decide), if_neg (by decide), if_neg (by decide), if_neg (by decide)]
  rcases in_idx a (n := h_n C) (by omega) with ⟨A, hA, rfl, e⟩ | ⟨hn, e⟩
  · have hm4 := (hC.2 A hA).1.1
    have hKA := (hC.2 A hA).1
    have bq := st.p4 (nI A)
    have tq := (bq.1.hi hA).ty
    obtain ⟨τ0, g0, t0⟩ := m_gives bq h32 (h_r C A)
    have tq0 := (t0.1.hi hA).ty
    refine make_asm (P := True ∧ True ∧ True ∧ True) (xb := 0) (xc := 0) (xv := 0) (b1 := 0) (c1 := 0) (v1 := 0) kk mm hC hV hS hZ (by decide) (by decide) (by decide) (by decide) rfl rfl rfl (fun S w kk h => told_of kk h (by decide) (x_hnd kk h (by decide) (by decide) (by decide) hA rfl) (fun _ => x_sec h (by decide)) (fun _ => x_thi h (by decide)) (fun _ => x_kbm h (by decide))) (fun hn => absurd ⟨trivial, trivial, trivial, trivial⟩ hn) (fun hy => ?_)
    obtain ⟨x, f, i⟩ := mgoes_is t0.1.2.2.2 tq0 (by omega) hZ hKA
    rcases i with ⟨rfl, i⟩ | ⟨rfl, i⟩
    · right
      obtain ⟨τ, f1, f2⟩ := b410 hC 12 0 τ0 (by omega) (by omega) (mB.eqk t0 (fun j hj => by omega))
      refine ⟨z_m Z, z_k Z, z_r Z, 0, fun S w kk h rm => ?_, ⟨τ, ?_, f2.1, f2.A hZ.1⟩, hZ, ?_, ?_, ?_, ?_⟩
      · obtain ⟨y, u1, u2⟩ := goto_is kk.1.2.2.2.ty (kk.ty hA) hZ hKA
        refine ⟨ad 9, S, 0, 0, ?_, grows.refl rm.1, by decide, by decide, kk.1.2.2.2.ty⟩
        unfold f_X3_typeOf
        rw [gI_s h.1 h.2.1, if_pos (by decide), gR_s kk.1.2.2.2.2.2.2.2.2.2.1 kk.1.2.2.2.2.2.2.2.2.2.2.1, gI_s h.1 h.2.2.1, cs_s rfl, ck_t kk.1.2.1.1, call_s (ty_yes kk.1.2.1 hA), cs_s rfl, gI_s h.1 h.2.1, if_neg (by decide), if_neg (by decide), if_neg (by decide), if_neg (by decide), if_neg (by decide), if_pos rfl]
        rw [ck_t kk.1.2.2.2.ty.2.1, call_s u1]
        rcases u2 with ⟨rfl, u2⟩ | ⟨rfl, u2⟩
        · rw [if_neg n10]
        · exact absurd i u2
      · rw [pre]; unfold f_X11_makeOne; rw [call_s (m0_yes mm e), if_neg n10, o_l, m_rI (n := 33) (k := 10) rfl (by omega) (by decide) tq.2.1, call_s g0, m_rI (n := 33) (k := 8) rfl (by omega) (by decide) tq0.1, if_neg (by decide), if_neg (by decide), if_neg (by decide), if_neg (by decide), if_neg (by decide), if_neg (by decide), call_s f, if_neg n10]
        exact f1
      · exact Or.inr (Or.inr (Or.inr (Or.inr (Or.inr (Or.inr (Or.inr (Or.inr (Or.inr (Or.inr (Or.inr (Or.inr (Or.inr (Or.inr (Or.inr (Or.inr (Or.inr (Or.inr (Or.inr (Or.inr (Or.inr (Or.inr (⟨rfl, A, hA, rfl, i.1, i.2.1, i.2.2⟩))))))))))))))))))))))
      · exact fun z => absurd z (by decide)
      · exact fun z => absurd z (by decide)
      · exact fun S w kk h => x_bits0 kk h (by decide)
    · left
      refine ⟨fun S w kk h rm => ⟨S, 0, 0, ?_, grows.refl rm.1, by decide, by decide⟩, τ0, ?_, t0.1⟩
      · obtain ⟨y, u1, u2⟩ := goto_is kk.1.2.2.2.ty (kk.ty hA) hZ hKA
        unfold f_X3_typeOf
        rw [gI_s h.1 h.2.1, if_pos (by decide), gR_s kk.1.2.2.2.2.2.2.2.2.2.1 kk.1.2.2.2.2.2.2.2.2.2.2.1, gI_s h.1 h.2.2.1, cs_s rfl, ck_t kk.1.2.1.1, call_s (ty_yes kk.1.2.1 hA), cs_s rfl, gI_s h.1 h.2.1, if_neg (by decide), if_neg (by decide), if_neg (by decide), if_neg (by decide), if_neg (by decide), if_pos rfl]
        rw [ck_t kk.1.2.2.2.ty.2.1, call_s u1]
        rcases u2 with ⟨rfl, u2⟩ | ⟨rfl, u2⟩
        · exact absurd u2 i
        · rw [if_pos rfl]
      · rw [pre]; unfold f_X11_makeOne; rw [call_s (m0_yes mm e), if_neg n10, o_l, m_rI (n := 33) (k := 10) rfl (by omega) (by decide) tq.2.1, call_s g0, m_rI (n := 33) (k := 8) rfl (by omega) (by decide) tq0.1, if_neg (by decide), if_neg (by decide), if_neg (by decide), if_neg (by decide), if_neg (by decide), if_neg (by decide), call_s f, if_pos rfl]
  · refine make_noh kk mm hC hV hS hZ (by decide) (xb := 0) (xc := 0) (xv := 0) (by decide) (by decide) (by decide) (by decide) (by decide) (by decide) (by decide) hn ?_
    rw [pre]
    unfold f_X11_makeOne
    rw [call_s (m0_no mm e), if_pos rfl]
end MK1
