/-! make: sorts 15 to 20 -/
section MK2
variable {ad : Nat → Nat} {C : hS} {ρ : eS} {Z : zS} {q o w t : Nat} {S : wS} {σ : mS} {so a b c : Int32} {v : Int64} {ma mb mc : Int32} {mv : Int64} {m : Nat} {k : Nat → Int32} {r : Int32} {A B G : Nat}
theorem m_all (bb : mB C ρ Z ma mb mc mv 0 k r σ) (hC : wfC C) (hA : A < h_n C) : ∃ τ, f_X11_takesOf (nI A) 0 σ = some ((), τ) ∧ mB C ρ Z ma mb mc mv (h_m C A) (h_k C A) r τ := by
  have hm4 := (hC.2 A hA).1.1
  obtain ⟨τ, e1, e2⟩ := m_takesOf (i := 0) bb hC hA (by decide) (by omega)
  refine ⟨τ, e1, ?_⟩
  rw [show 0 + (h_m C A - 0) = h_m C A by omega] at e2
  exact e2.eqk (fun j _ _ => by rw [if_neg (Nat.not_lt_zero j)]; congr 1; omega)
theorem b92 (hC : wfC C) (hA : A < h_n C) (hG : G < h_n C) (hG1 : h_m C G = 1) {B : Nat} (hB : B < h_m C A) : ∀ (n i : Nat) (σ : mS), 6 ≤ n + i → i ≤ h_m C A → mB C ρ Z ma mb mc mv i (q_at B (h_k C G 0) (h_k C A)) r σ → ∃ τ, f_X11_makeFilter_b92 n (nI A) (nI B) (nI G) (nI i) σ = some (0, τ) ∧ mB C ρ Z ma mb mc mv (h_m C A) (q_at B (h_k C G 0) (h_k C A)) r τ := by
  have h32 := hC.1
  have hm4 := (hC.2 A hA).1.1
  intro n
  induction n with
  | zero => intro i σ h1 h2; omega
  | succ n ih =>
    intro i σ h1 h2 bb
    have tq := (bb.1.hi hA).ty
    have tg := (bb.1.hi hG).ty
    rw [f_X11_makeFilter_b92.eq_2, m_rI (n := 33) rfl (by omega) (by decide) tq.1]
    by_cases c0 : h_m C A ≤ i
    · rw [if_pos (nI_le c0 (by omega))]
      rw [show i = h_m C A by omega] at bb
      exact ⟨σ, rfl, bb⟩
    · rw [if_neg (nI_ge (by omega) (by omega))]
      have step : ∀ x, x = q_at B (h_k C G 0) (h_k C A) i → ∃ τ, (o_call (f_X11_takes x σ) fun _ S2 => o_let (nI i + (1 : Int32)) fun x2 => f_X11_makeFilter_b92 n (nI A) (nI B) (nI G) x2 S2) = some (0, τ) ∧ mB C ρ Z ma mb mc mv (h_m C A) (q_at B (h_k C G 0) (h_k C A)) r τ := fun x hx => by
        obtain ⟨υ, f1, f2⟩ := m_takes bb hC (by omega) x
        rw [call_s f1, o_l, nI_1]
        refine ih (i + 1) υ (by omega) (by omega) (f2.eqk (fun j h3 h4 => ?_))
        by_cases e : j = i
        · rw [if_pos e, hx, e]
        · rw [if_neg e]
      by_cases c1 : i = B
      · subst c1
        rw [if_pos rfl, call_s (show f_X11_kind (nI G) 0 σ = _ from m_kind (i := G) (j := 0) (by omega) (by decide) (tg.2.2 0 (by omega)))]
        exact step _ (by unfold q_at; rw [if_pos rfl])
      · rw [if_neg (fun z => c1 ((nI_eq (by omega) (by omega)).mp z)), call_s (m_kind (by omega) (by omega) (tq.2.2 i (by omega)))]
        exact step _ (by unfold q_at; rw [if_neg c1])
theorem xs_15 (kk : cI ad C ρ Z q S) (h : hwB S w 15 a b (nI G) v) (h32 : h_n C ≤ 32) (hG : G < h_n C) : f_X3_typeOfSome (ad 5) w t S = f_X3_typeOfFilter t b (ad (2 * G + 21)) S := by
  unfold f_X3_typeOfSome
  rw [gR_s kk.1.2.2.2.2.2.2.2.2.2.1 kk.1.2.2.2.2.2.2.2.2.2.2.1, gI_s h.1 h.2.2.2.1, cs_s rfl, ck_t kk.1.2.1.1]
  obtain ⟨y, e⟩ := ty_any kk h32 b
  rw [call_s e]
  cases y with
  | none => rw [cs_n, gR_s kk.1.2.2.2.2.2.2.2.2.2.1 kk.1.2.2.2.2.2.2.2.2.2.2.1, gI_s h.1 h.2.2.2.2.1, cs_s rfl, ck_t kk.1.2.1.1, call_s (ty_yes kk.1.2.1 hG), cs_s rfl, gI_s h.1 h.2.1, if_pos rfl, gI_s h.1 h.2.2.2.1, call_id]
  | some y => rw [cs_s rfl, gR_s kk.1.2.2.2.2.2.2.2.2.2.1 kk.1.2.2.2.2.2.2.2.2.2.2.1, gI_s h.1 h.2.2.2.2.1, cs_s rfl, ck_t kk.1.2.1.1, call_s (ty_yes kk.1.2.1 hG), cs_s rfl, gI_s h.1 h.2.1, if_pos rfl, gI_s h.1 h.2.2.2.1, call_id]
theorem xs_16 (kk : cI ad C ρ Z q S) (h : hwB S w 16 a (nI G) 0 v) (h32 : h_n C ≤ 32) (hG : G < h_n C) : f_X3_typeOfSome (ad 5) w t S = f_X3_typeOfFold t (ad (2 * G + 21)) S := by
  unfold f_X3_typeOfSome
  rw [gR_s kk.1.2.2.2.2.2.2.2.2.2.1 kk.1.2.2.2.2.2.2.2.2.2.2.1, gI_s h.1 h.2.2.2.1, cs_s rfl, ck_t kk.1.2.1.1]
  rw [call_s (ty_yes kk.1.2.1 hG), cs_s rfl, gR_s kk.1.2.2.2.2.2.2.2.2.2.1 kk.1.2.2.2.2.2.2.2.2.2.2.1, gI_s h.1 h.2.2.2.2.1, cs_s rfl, ck_t kk.1.2.1.1]
  obtain ⟨y, e⟩ := ty_any kk h32 0
  rw [call_s e]
  cases y with
  | none => rw [cs_n, gI_s h.1 h.2.1, if_neg (by decide), if_pos rfl, call_id]
  | some y => rw [cs_s rfl, gI_s h.1 h.2.1, if_neg (by decide), if_pos rfl, call_id]
theorem xs_17 (kk : cI ad C ρ Z q S) (h : hwB S w 17 a (nI G) 0 v) (h32 : h_n C ≤ 32) (hG : G < h_n C) : f_X3_typeOfSome (ad 5) w t S = f_X3_typeOfThen t (ad (2 * G + 21)) S := by
  unfold f_X3_typeOfSome
  rw [gR_s kk.1.2.2.2.2.2.2.2.2.2.1 kk.1.2.2.2.2.2.2.2.2.2.2.1, gI_s h.1 h.2.2.2.1, cs_s rfl, ck_t kk.1.2.1.1]
  rw [call_s (ty_yes kk.1.2.1 hG), cs_s rfl, gR_s kk.1.2.2.2.2.2.2.2.2.2.1 kk.1.2.2.2.2.2.2.2.2.2.2.1, gI_s h.1 h.2.2.2.2.1, cs_s rfl, ck_t kk.1.2.1.1]
  obtain ⟨y, e⟩ := ty_any kk h32 0
  rw [call_s e]
  cases y with
  | none => rw [cs_n, gI_s h.1 h.2.1, if_neg (by decide), if_neg (by decide), if_pos rfl, call_id]
  | some y => rw [cs_s rfl, gI_s h.1 h.2.1, if_neg (by decide), if_neg (by decide), if_pos rfl, call_id]
theorem xs_18 (kk : cI ad C ρ Z q S) (h : hwB S w 18 a (nI B) (nI G) v) (h32 : h_n C ≤ 32) (hB : B < h_n C) (hG : G < h_n C) : f_X3_typeOfSome (ad 5) w t S = f_X3_typeOfGuard t (ad (2 * B + 21)) (ad (2 * G + 21)) S := by
  unfold f_X3_typeOfSome
  rw [gR_s kk.1.2.2.2.2.2.2.2.2.2.1 kk.1.2.2.2.2.2.2.2.2.2.2.1, gI_s h.1 h.2.2.2.1, cs_s rfl, ck_t kk.1.2.1.1]
  rw [call_s (ty_yes kk.1.2.1 hB), cs_s rfl, gR_s kk.1.2.2.2.2.2.2.2.2.2.1 kk.1.2.2.2.2.2.2.2.2.2.2.1, gI_s h.1 h.2.2.2.2.1, cs_s rfl, ck_t kk.1.2.1.1]
  rw [call_s (ty_yes kk.1.2.1 hG), cs_s rfl, gI_s h.1 h.2.1, if_neg (by decide), if_neg (by decide), if_neg (by decide), if_pos rfl, call_id]
theorem xs_19 (kk : cI ad C ρ Z q S) (h : hwB S w 19 a b (nI G) v) (h32 : h_n C ≤ 32) (hG : G < h_n C) : f_X3_typeOfSome (ad 5) w t S = f_X3_typeOfCatch t (ad (2 * G + 21)) S := by
  unfold f_X3_typeOfSome
  rw [gR_s kk.1.2.2.2.2.2.2.2.2.2.1 kk.1.2.2.2.2.2.2.2.2.2.2.1, gI_s h.1 h.2.2.2.1, cs_s rfl, ck_t kk.1.2.1.1]
  obtain ⟨y, e⟩ := ty_any kk h32 b
  rw [call_s e]
  cases y with
  | none => rw [cs_n, gR_s kk.1.2.2.2.2.2.2.2.2.2.1 kk.1.2.2.2.2.2.2.2.2.2.2.1, gI_s h.1 h.2.2.2.2.1, cs_s rfl, ck_t kk.1.2.1.1, call_s (ty_yes kk.1.2.1 hG), cs_s rfl, gI_s h.1 h.2.1, if_neg (by decide), if_neg (by decide), if_neg (by decide), if_neg (by decide), if_pos rfl, call_id]
  | some y => rw [cs_s rfl, gR_s kk.1.2.2.2.2.2.2.2.2.2.1 kk.1.2.2.2.2.2.2.2.2.2.2.1, gI_s h.1 h.2.2.2.2.1, cs_s rfl, ck_t kk.1.2.1.1, call_s (ty_yes kk.1.2.1 hG), cs_s rfl, gI_s h.1 h.2.1, if_neg (by decide), if_neg (by decide), if_neg (by decide), if_neg (by decide), if_pos rfl, call_id]
theorem xs_20 (kk : cI ad C ρ Z q S) (h : hwB S w 20 a (nI G) 0 v) (h32 : h_n C ≤ 32) (hG : G < h_n C) : f_X3_typeOfSome (ad 5) w t S = f_X3_typeOfLast t (ad (2 * G + 21)) S := by
  unfold f_X3_typeOfSome
  rw [gR_s kk.1.2.2.2.2.2.2.2.2.2.1 kk.1.2.2.2.2.2.2.2.2.2.2.1, gI_s h.1 h.2.2.2.1, cs_s rfl, ck_t kk.1.2.1.1]
  rw [call_s (ty_yes kk.1.2.1 hG), cs_s rfl, gR_s kk.1.2.2.2.2.2.2.2.2.2.1 kk.1.2.2.2.2.2.2.2.2.2.2.1, gI_s h.1 h.2.2.2.2.1, cs_s rfl, ck_t kk.1.2.1.1]
  obtain ⟨y, e⟩ := ty_any kk h32 0
  rw [call_s e]
  cases y with
  | none => rw [cs_n, gI_s h.1 h.2.1, if_neg (by decide), if_neg (by decide), if_neg (by decide), if_neg (by decide), if_neg (by decide), if_pos rfl, call_id]
  | some y => rw [cs_s rfl, gI_s h.1 h.2.1, if_neg (by decide), if_neg (by decide), if_neg (by decide), if_neg (by decide), if_neg (by decide), if_pos rfl, call_id]
theorem mk_15 (kk : cI ad C ρ Z (q + 1) S) (mm : mR C ρ Z σ) (hC : wfC C) (hV : wfV C ρ) (hS : okS ρ) (hZ : wfK (z_m Z) (z_k Z) (z_r Z)) : jStep (ad 0) q (f_X10_make (ad 0) 15 a b c v S) (f_X11_make 15 a b c v σ) := by
  have h32 := hC.1
  have st := mB.start mm
  have pre : mk_pre 15 a b c v (mk_clear (h_n C) σ) = f_X11_makeFilter a b c (mk_clear (h_n C) σ) := by
    unfold mk_pre
    rw [if_pos (by decide), if_pos rfl]
  rcases in_idx a (n := h_n C) (by omega) with ⟨A, hA, rfl, e⟩ | ⟨hn, e⟩
  · have hm4 := (hC.2 A hA).1.1
    have hKA := (hC.2 A hA).1
    have m0 := mk_clear_R mm
    refine make_asm (P := True ∧ (∃ B, B < h_m C A ∧ b = nI B) ∧ (∃ G, G < h_n C ∧ c = nI G) ∧ True) (xb := 1) (xc := 1) (xv := 0) (b1 := b) (c1 := c) (v1 := 0) kk mm hC hV hS hZ (by decide) (by decide) (by decide) (by decide) rfl rfl rfl (fun S w kk h => told_of kk h (by decide) (x_hnd kk h (by decide) (by decide) (by decide) hA rfl) (fun _ => x_sec15 kk h hA hm4) (fun _ => x_thiH kk h h32 (by decide) (by decide)) (fun _ => x_kbm h (by decide))) (fun hn => ?_) (fun hy => ?_)
    · rcases in_idx c (n := h_n C) (by omega) with ⟨G, hG, rfl, e2⟩ | ⟨d2, e2⟩
      · rcases in_idx b (n := h_m C A) (by omega) with ⟨B, hB, rfl, e3⟩ | ⟨d3, e3⟩
        · exact absurd ⟨trivial, ⟨B, hB, rfl⟩, ⟨G, hG, rfl⟩, trivial⟩ hn
        · rw [pre]; unfold f_X11_makeFilter; rw [call_s (m0_yes mm e), if_neg n10, call_s (m0_yes mm e2), if_neg n10, m_rI (n := 33) (k := 8) rfl (by omega) (by decide) (m0.hi hA).ty.1, cP_s e3, if_pos rfl]
          exact ⟨_, rfl, mk_clear_R mm⟩
      · rw [pre]; unfold f_X11_makeFilter; rw [call_s (m0_yes mm e), if_neg n10, call_s (m0_no mm e2), if_pos rfl]
        exact ⟨_, rfl, mk_clear_R mm⟩
    · obtain ⟨-, ⟨B, hB, rfl⟩, ⟨G, hG, rfl⟩, -⟩ := hy
      have e2 : f_X11_in (nI G).toInt64 0 ((nI (h_n C) - (1 : Int32)).toInt64) = some 1 := by
        rcases in_idx (nI G) (n := h_n C) (by omega) with ⟨-, -, -, z⟩ | ⟨z, -⟩
        · exact z
        · exact absurd rfl (z G hG)
      have e3 : f_X11_in (nI B).toInt64 0 ((nI (h_m C A) - (1 : Int32)).toInt64) = some 1 := by
        rcases in_idx (nI B) (n := h_m C A) (by omega) with ⟨-, -, -, z⟩ | ⟨z, -⟩
        · exact z
        · exact absurd rfl (z B hB)
      have hKG := (hC.2 G hG).1
      have hG4 := hKG.1
      have bq := ((st.p4 (nI A)).p5 (nI B)).p6 (nI G)
      have tq := (bq.1.hi hA).ty
      obtain ⟨τ0, g0, t0⟩ := m_gives bq h32 (h_r C A)
      have tq0 := (t0.1.hi hA).ty
      have tg0 := (t0.1.hi hG).ty
      have kB := m_kind (σ := τ0) (i := A) (j := B) (by omega) (by omega) (tq0.2.2 B hB)
      have none : ¬ (h_m C G = 1 ∧ h_r C G = h_k C A B) → ∀ S w, cI ad C ρ Z q S → hwB S w 15 (nI A) (nI B) (nI G) 0 → roomy S 4 14 → ∃ S4 n s, f_X3_typeOf (ad 5) w (ad 9) S = some (none, S4) ∧ grows S S4 n s ∧ n ≤ 4 ∧ s ≤ 14 := fun hc S w kk h rm => by
        refine ⟨S, 0, 0, ?_, grows.refl rm.1, by decide, by decide⟩
        unfold f_X3_typeOf; rw [gI_s h.1 h.2.1, if_pos (by decide), gR_s kk.1.2.2.2.2.2.2.2.2.2.1 kk.1.2.2.2.2.2.2.2.2.2.2.1, gI_s h.1 h.2.2.1, cs_s rfl, ck_t kk.1.2.1.1, call_s (ty_yes kk.1.2.1 hA), cs_s rfl, gI_s h.1 h.2.1, if_neg (by decide), if_neg (by decide), if_neg (by decide), if_neg (by decide), if_neg (by decide), if_neg (by decide), if_pos (by decide), ck_t kk.1.2.2.2.2.2.2.2.2.2.1, call_id, xs_15 kk h h32 hG]
        unfold f_X3_typeOfFilter
        rw [gI_s (kk.ty hG).2.1 (kk.ty hG).2.2.2.1]
        by_cases d : h_m C G = 1
        · rw [if_pos (by rw [d]; rfl), gI_s (kk.ty hG).2.1 (kk.ty hG).2.2.1, ck_t (kk.ty hA).2.1, call_s (kind_yes (kk.ty hA) hB), if_neg (fun z => hc ⟨d, z⟩)]
        · rw [if_neg (show ¬ nI (h_m C G) = (1 : Int32) from fun z => d ((nI_eq (by omega) (by decide)).mp (show nI (h_m C G) = nI 1 from z)))]
      have rf : mk_pre 15 (nI A) (nI B) (nI G) v (mk_clear (h_n C) σ) = (if nI (h_m C G) = 1 then if h_r C G = h_k C A B then f_X11_makeFilter_b92 12 (nI A) (nI B) (nI G) 0 τ0 else some (-3, τ0) else some (-3, τ0)) := by
        rw [pre]; unfold f_X11_makeFilter; rw [call_s (m0_yes mm e), if_neg n10, call_s (m0_yes mm e2), if_neg n10, m_rI (n := 33) (k := 8) rfl (by omega) (by decide) (m0.hi hA).ty.1, cP_s e3, if_neg n10, o_l, o_l, o_l, m_rI (n := 33) (k := 10) rfl (by omega) (by decide) tq.2.1, call_s g0, m_rI (n := 33) (k := 8) rfl (by omega) (by decide) tg0.1, m_rI (n := 33) (k := 10) rfl (by omega) (by decide) tg0.2.1, call_s kB]
      by_cases d : h_m C G = 1
      · rw [if_pos (by rw [d]; rfl)] at rf
        by_cases f : h_r C G = h_k C A B
        · right
          rw [if_pos f] at rf
          obtain ⟨τ, f1, f2⟩ := b92 hC hA hG d hB 12 0 τ0 (by omega) (by omega) (mB.eqk t0 (fun j hj => by omega))
          refine ⟨h_m C A, q_at B (h_k C G 0) (h_k C A), h_r C A, 0, fun S w kk h rm => ?_, ⟨τ, rf.trans f1, f2.1, f2.A hm4⟩, ⟨hm4, hKA.2.1, fun j hj => ?_⟩, ?_, ?_, ?_, ?_⟩
          · obtain ⟨t', S4, u1, u2, u3⟩ := changed_is (B := B) (c := h_k C G 0) (kk.ty hA) (by omega) (rm.le (by decide) (by decide))
            refine ⟨t', S4, 2, 7, ?_, u2, by decide, by decide, u3⟩
            unfold f_X3_typeOf; rw [gI_s h.1 h.2.1, if_pos (by decide), gR_s kk.1.2.2.2.2.2.2.2.2.2.1 kk.1.2.2.2.2.2.2.2.2.2.2.1, gI_s h.1 h.2.2.1, cs_s rfl, ck_t kk.1.2.1.1, call_s (ty_yes kk.1.2.1 hA), cs_s rfl, gI_s h.1 h.2.1, if_neg (by decide), if_neg (by decide), if_neg (by decide), if_neg (by decide), if_neg (by decide), if_neg (by decide), if_pos (by decide), ck_t kk.1.2.2.2.2.2.2.2.2.2.1, call_id, xs_15 kk h h32 hG]
            unfold f_X3_typeOfFilter
            rw [gI_s (kk.ty hG).2.1 (kk.ty hG).2.2.2.1, if_pos (by rw [d]; rfl), gI_s (kk.ty hG).2.1 (kk.ty hG).2.2.1, ck_t (kk.ty hA).2.1, call_s (kind_yes (kk.ty hA) hB), if_pos f, ck_t (kk.ty hG).2.1, call_s (show f_X9_kind _ 0 S = _ from kind_yes (kk.ty hG) (j := 0) (by omega)), ck_t (kk.ty hA).2.1, call_id]
            exact u1
          · unfold q_at
            by_cases g : j = B
            · rw [if_pos g]; exact hKG.2.2 0 (by omega)
            · rw [if_neg g]; exact hKA.2.2 j hj
          · exact Or.inr (Or.inr (Or.inr (Or.inr (Or.inr (Or.inr (Or.inr (Or.inr (Or.inr (Or.inr (Or.inr (Or.inr (Or.inr (Or.inr (Or.inr (Or.inl ⟨rfl, A, B, G, hA, hG, rfl, rfl, rfl, hB, d, f, rfl, rfl, fun _ _ => rfl⟩)))))))))))))))
          · exact fun z => absurd z (by decide)
          · exact fun z => absurd z (by decide)
          · exact fun S w kk h => x_bits0 kk h (by decide)
        · left
          rw [if_neg f] at rf
          exact ⟨none (fun z => f z.2), τ0, rf, t0.1⟩
      · left
        rw [if_neg (show ¬ nI (h_m C G) = (1 : Int32) from fun z => d ((nI_eq (by omega) (by decide)).mp (show nI (h_m C G) = nI 1 from z)))] at rf
        exact ⟨none (fun z => d z.1), τ0, rf, t0.1⟩
  · refine make_noh kk mm hC hV hS hZ (by decide) (xb := 1) (xc := 1) (xv := 0) (by decide) (by decide) (by decide) (by decide) (by decide) (by decide) (by decide) hn ?_
    rw [pre]
    unfold f_X11_makeFilter
    rw [call_s (m0_no mm e), if_pos rfl]
theorem mk_16 (kk : cI ad C ρ Z (q + 1) S) (mm : mR C ρ Z σ) (hC : wfC C) (hV : wfV C ρ) (hS : okS ρ) (hZ : wfK (z_m Z) (z_k Z) (z_r Z)) : jStep (ad 0) q (f_X10_make (ad 0) 16 a b c v S) (f_X11_make 16 a b c v σ) := by
  have h32 := hC.1
  have st := mB.start mm
  have pre : mk_pre 16 a b c v (mk_clear (h_n C) σ) = f_X11_makeTwo 16 a b (mk_clear (h_n C) σ) := by
    unfold mk_pre
    rw [if_pos (by decide), if_neg (by decide), if_neg (by decide), if_neg (by decide), if_pos rfl]
  rcases in_idx a (n := h_n C) (by omega) with ⟨A, hA, rfl, e⟩ | ⟨hn, e⟩
  · have hm4 := (hC.2 A hA).1.1
    have hKA := (hC.2 A hA).1
    have m0 := mk_clear_R mm
    refine make_asm (P := True ∧ (∃ G, G < h_n C ∧ b = nI G) ∧ True ∧ True) (xb := 1) (xc := 0) (xv := 0) (b1 := b) (c1 := 0) (v1 := 0) kk mm hC hV hS hZ (by decide) (by decide) (by decide) (by decide) rfl rfl rfl (fun S w kk h => told_of kk h (by decide) (x_hnd kk h (by decide) (by decide) (by decide) hA rfl) (fun _ => x_secH kk h h32 (by decide) (by decide)) (fun _ => x_thi h (by decide)) (fun _ => x_kbm h (by decide))) (fun hn => ?_) (fun hy => ?_)
    · rcases in_idx b (n := h_n C) (by omega) with ⟨G, hG, rfl, e2⟩ | ⟨d2, e2⟩
      · exact absurd ⟨trivial, ⟨G, hG, rfl⟩, trivial, trivial⟩ hn
      · rw [pre]; unfold f_X11_makeTwo; rw [call_s (m0_yes mm e), if_neg n10, call_s (m0_no mm e2), if_pos rfl]
        exact ⟨_, rfl, mk_clear_R mm⟩
    · obtain ⟨-, ⟨G, hG, rfl⟩, -, -⟩ := hy
      have e2 : f_X11_in (nI G).toInt64 0 ((nI (h_n C) - (1 : Int32)).toInt64) = some 1 := by
        rcases in_idx (nI G) (n := h_n C) (by omega) with ⟨-, -, -, z⟩ | ⟨z, -⟩
        · exact z
        · exact absurd rfl (z G hG)
      have hKG := (hC.2 G hG).1
      have hG4 := hKG.1
      have bq := (st.p4 (nI A)).p5 (nI G)
      have tq := (bq.1.hi hA).ty
      obtain ⟨τ0, g0, t0⟩ := m_gives bq h32 (h_r C A)
      have tq0 := (t0.1.hi hA).ty
      have tg0 := (t0.1.hi hG).ty
      obtain ⟨x, f, i⟩ := mfirst_is tg0 tq0 (by omega) (by omega) hG4 hm4 (a := 0) (b := 1) (by decide) (by decide)
      have cls : ∀ S w, cI ad C ρ Z q S → hwB S w 16 (nI A) (nI G) 0 0 → f_X3_typeOf (ad 5) w (ad 9) S = f_X3_typeOfFold (ad (2 * A + 21)) (ad (2 * G + 21)) S := fun S w kk h => by
        unfold f_X3_typeOf; rw [gI_s h.1 h.2.1, if_pos (by decide), gR_s kk.1.2.2.2.2.2.2.2.2.2.1 kk.1.2.2.2.2.2.2.2.2.2.2.1, gI_s h.1 h.2.2.1, cs_s rfl, ck_t kk.1.2.1.1, call_s (ty_yes kk.1.2.1 hA), cs_s rfl, gI_s h.1 h.2.1, if_neg (by decide), if_neg (by decide), if_neg (by decide), if_neg (by decide), if_neg (by decide), if_neg (by decide), if_pos (by decide), ck_t kk.1.2.2.2.2.2.2.2.2.2.1, call_id, xs_16 kk h h32 hG]
      have none : ¬ (1 ≤ h_m C A ∧ h_r C G = h_k C A 0 ∧ h_m C G + 1 ≤ h_m C A ∧ ∀ j, j < h_m C G → h_k C G j = h_k C A (j + 1)) → ∀ S w, cI ad C ρ Z q S → hwB S w 16 (nI A) (nI G) 0 0 → roomy S 4 14 → ∃ S4 n s, f_X3_typeOf (ad 5) w (ad 9) S = some (none, S4) ∧ grows S S4 n s ∧ n ≤ 4 ∧ s ≤ 14 := fun hc S w kk h rm => by
        refine ⟨S, 0, 0, ?_, grows.refl rm.1, by decide, by decide⟩
        rw [cls S w kk h]
        unfold f_X3_typeOfFold
        rw [gI_s (kk.ty hG).2.1 (kk.ty hG).2.2.1, ck_t (kk.ty hA).2.1, call_s (show f_X9_kind _ 0 S = _ from kind_any (kk.ty hA) (j := 0) (by decide))]
        by_cases c0 : 0 < h_m C A
        · rw [if_pos c0]
          by_cases d : h_r C G = h_k C A 0
          · obtain ⟨y, u1, u2⟩ := first_is (kk.ty hG) (kk.ty hA) hKG.2.2 (a := 0) (b := 1) (by decide) (by decide)
            rw [if_pos d, ck_t (kk.ty hG).2.1, call_s (show f_X9_isFirstOf _ _ 0 1 S = _ from u1)]
            rcases u2 with ⟨rfl, u2⟩ | ⟨rfl, u2⟩
            · refine absurd ⟨c0, d, ?_, fun j hj => ?_⟩ hc
              · by_cases g : h_m C G = 0
                · omega
                · have := (u2 (h_m C G - 1) (Nat.zero_le _) (by omega)).1; omega
              · have := (u2 j (Nat.zero_le _) hj).2
                rw [show 1 + j - 0 = j + 1 by omega] at this; exact this
            · rw [if_pos rfl]
          · rw [if_neg d]
        · rw [if_neg c0, if_neg (kind_ne hKG.2.1)]
      by_cases c0 : 0 < h_m C A
      · have k0 := m_kind (σ := τ0) (i := A) (j := 0) (by omega) (by decide) (tq0.2.2 0 c0)
        have rf : mk_pre 16 (nI A) (nI G) c v (mk_clear (h_n C) σ) = (if h_k C A 0 = h_r C G then (if x = 0 then some (-3, τ0) else o_call (f_X11_takesOf (nI A) 1 τ0) fun _ S14 => some (0, S14)) else some (-3, τ0)) := by
          rw [pre]; unfold f_X11_makeTwo; rw [call_s (m0_yes mm e), if_neg n10, call_s (m0_yes mm e2), if_neg n10, o_l, o_l, m_rI (n := 33) (k := 10) rfl (by omega) (by decide) tq.2.1, call_s g0, if_pos rfl, m_rI (n := 33) (k := 8) rfl (by omega) (by decide) tq0.1, if_neg (show ¬ nI (h_m C A) < (1 : Int32) from nI_nlt (b := 1) c0 (by omega)), call_s (show f_X11_kind (nI A) 0 τ0 = _ from k0), m_rI (n := 33) (k := 10) rfl (by omega) (by decide) tg0.2.1, call_s (show f_X11_isFirst (nI G) 0 (nI A) 1 τ0 = _ from f)]
        by_cases d : h_r C G = h_k C A 0
        · rw [if_pos d.symm] at rf
          rcases i with ⟨rfl, i⟩ | ⟨rfl, i⟩
          · right
            rw [if_neg n10] at rf
            have ij : ∀ j, j < h_m C G → h_k C G j = h_k C A (j + 1) := fun j hj => by
              have := i.2.2 j (Nat.zero_le _) hj
              rw [show 1 + j - 0 = j + 1 by omega] at this; exact this
            obtain ⟨τ, f1, f2⟩ := m_takesOf (i := 1) t0 hC hA (by decide) (by omega)
            rw [Nat.zero_add] at f2
            have f3 : mB C ρ Z (nI A) (nI G) 0 0 (h_m C A - 1) (q_tail (h_k C A)) (h_r C A) τ := f2.eqk (fun j h3 h4 => by
              rw [if_neg (Nat.not_lt_zero j)]; show h_k C A (1 + (j - 0)) = h_k C A (j + 1); congr 1; omega)
            refine ⟨h_m C A - 1, q_tail (h_k C A), h_r C A, 0, fun S w kk h rm => ?_, ⟨τ, ?_, f3.1, f3.A (by omega)⟩, ⟨by omega, hKA.2.1, fun j hj => hKA.2.2 (j + 1) (by omega)⟩, ?_, ?_, ?_, ?_⟩
            · obtain ⟨t', S4, u1, u2, u3⟩ := tail_is (kk.ty hA) c0 (rm.le (by decide) (by decide))
              refine ⟨t', S4, 2, 7, ?_, u2, by decide, by decide, u3⟩
              rw [cls S w kk h]
              unfold f_X3_typeOfFold
              obtain ⟨y, v1, v2⟩ := first_is (kk.ty hG) (kk.ty hA) hKG.2.2 (a := 0) (b := 1) (by decide) (by decide)
              rw [gI_s (kk.ty hG).2.1 (kk.ty hG).2.2.1, ck_t (kk.ty hA).2.1, call_s (show f_X9_kind _ 0 S = _ from kind_yes (kk.ty hA) (j := 0) c0), if_pos d, ck_t (kk.ty hG).2.1, call_s (show f_X9_isFirstOf _ _ 0 1 S = _ from v1)]
              rcases v2 with ⟨rfl, v2⟩ | ⟨rfl, v2⟩
              · rw [if_neg n10, ck_t (kk.ty hA).2.1, call_id]; exact u1
              · refine absurd (fun j _ hj => ⟨by omega, ?_⟩) v2
                rw [show 1 + j - 0 = j + 1 by omega]; exact ij j hj
            · rw [rf, call_s (show f_X11_takesOf (nI A) 1 τ0 = _ from f1)]
            · exact Or.inr (Or.inr (Or.inr (Or.inr (Or.inr (Or.inr (Or.inr (Or.inr (Or.inr (Or.inr (Or.inr (Or.inr (Or.inr (Or.inr (Or.inr (Or.inr (Or.inl ⟨rfl, A, G, hA, hG, rfl, rfl, c0, d, i.2.1, ij, rfl, rfl, fun _ _ => rfl⟩))))))))))))))))
            · exact fun z => absurd z (by decide)
            · exact fun z => absurd z (by decide)
            · exact fun S w kk h => x_bits0 kk h (by decide)
          · left
            rw [if_pos rfl] at rf
            refine ⟨none (fun z => i ⟨Nat.zero_le _, z.2.2.1, fun j _ hj => ?_⟩), τ0, rf, t0.1⟩
            rw [show 1 + j - 0 = j + 1 by omega]; exact z.2.2.2 j hj
        · left
          rw [if_neg (fun z => d z.symm)] at rf
          exact ⟨none (fun z => d z.2.1), τ0, rf, t0.1⟩
      · left
        refine ⟨none (fun z => c0 z.1), τ0, ?_, t0.1⟩
        rw [pre]; unfold f_X11_makeTwo; rw [call_s (m0_yes mm e), if_neg n10, call_s (m0_yes mm e2), if_neg n10, o_l, o_l, m_rI (n := 33) (k := 10) rfl (by omega) (by decide) tq.2.1, call_s g0, if_pos rfl, m_rI (n := 33) (k := 8) rfl (by omega) (by decide) tq0.1, if_pos (show nI (h_m C A) < (1 : Int32) from nI_lt (b := 1) (by omega) (by decide))]
  · refine make_noh kk mm hC hV hS hZ (by decide) (xb := 1) (xc := 0) (xv := 0) (by decide) (by decide) (by decide) (by decide) (by decide) (by decide) (by decide) hn ?_
    rw [pre]
    unfold f_X11_makeTwo
    rw [call_s (m0_no mm e), if_pos rfl]
theorem mk_17 (kk : cI ad C ρ Z (q + 1) S) (mm : mR C ρ Z σ) (hC : wfC C) (hV : wfV C ρ) (hS : okS ρ) (hZ : wfK (z_m Z) (z_k Z) (z_r Z)) : jStep (ad 0) q (f_X10_make (ad 0) 17 a b c v S) (f_X11_make 17 a b c v σ) := by
  have h32 := hC.1
  have st := mB.start mm
  have pre : mk_pre 17 a b c v (mk_clear (h_n C) σ) = f_X11_makeTwo 17 a b (mk_clear (h_n C) σ) := by
    unfold mk_pre
    rw [if_pos (by decide), if_neg (by decide), if_neg (by decide), if_neg (by decide), if_neg (by decide), if_pos rfl]
  rcases in_idx a (n := h_n C) (by omega) with ⟨A, hA, rfl, e⟩ | ⟨hn, e⟩
  · have hm4 := (hC.2 A hA).1.1
    have hKA := (hC.2 A hA).1
    have m0 := mk_clear_R mm
    refine make_asm (P := True ∧ (∃ G, G < h_n C ∧ b = nI G) ∧ True ∧ True) (xb := 1) (xc := 0) (xv := 0) (b1 := b) (c1 := 0) (v1 := 0) kk mm hC hV hS hZ (by decide) (by decide) (by decide) (by decide) rfl rfl rfl (fun S w kk h => told_of kk h (by decide) (x_hnd kk h (by decide) (by decide) (by decide) hA rfl) (fun _ => x_secH kk h h32 (by decide) (by decide)) (fun _ => x_thi h (by decide)) (fun _ => x_kbm h (by decide))) (fun hn => ?_) (fun hy => ?_)
    · rcases in_idx b (n := h_n C) (by omega) with ⟨G, hG, rfl, e2⟩ | ⟨d2, e2⟩
      · exact absurd ⟨trivial, ⟨G, hG, rfl⟩, trivial, trivial⟩ hn
      · rw [pre]; unfold f_X11_makeTwo; rw [call_s (m0_yes mm e), if_neg n10, call_s (m0_no mm e2), if_pos rfl]
        exact ⟨_, rfl, mk_clear_R mm⟩
    · obtain ⟨-, ⟨G, hG, rfl⟩, -, -⟩ := hy
      have e2 : f_X11_in (nI G).toInt64 0 ((nI (h_n C) - (1 : Int32)).toInt64) = some 1 := by
        rcases in_idx (nI G) (n := h_n C) (by omega) with ⟨-, -, -, z⟩ | ⟨z, -⟩
        · exact z
        · exact absurd rfl (z G hG)
      have hKG := (hC.2 G hG).1
      have hG4 := hKG.1
      have bq := (st.p4 (nI A)).p5 (nI G)
      have tq := (bq.1.hi hA).ty
      obtain ⟨τ0, g0, t0⟩ := m_gives bq h32 (h_r C A)
      have tq0 := (t0.1.hi hA).ty
      have tg0 := (t0.1.hi hG).ty
      obtain ⟨τ1, g1, t1⟩ := m_all t0 hC hA
      obtain ⟨τ2, g2, t2⟩ := m_gives t1 h32 (h_r C G)
      have tq2 := (t2.1.hi hA).ty
      have tg1 := (t1.1.hi hG).ty
      have tg2 := (t2.1.hi hG).ty
      have cls : ∀ S w, cI ad C ρ Z q S → hwB S w 17 (nI A) (nI G) 0 0 → f_X3_typeOf (ad 5) w (ad 9) S = f_X3_typeOfThen (ad (2 * A + 21)) (ad (2 * G + 21)) S := fun S w kk h => by
        unfold f_X3_typeOf; rw [gI_s h.1 h.2.1, if_pos (by decide), gR_s kk.1.2.2.2.2.2.2.2.2.2.1 kk.1.2.2.2.2.2.2.2.2.2.2.1, gI_s h.1 h.2.2.1, cs_s rfl, ck_t kk.1.2.1.1, call_s (ty_yes kk.1.2.1 hA), cs_s rfl, gI_s h.1 h.2.1, if_neg (by decide), if_neg (by decide), if_neg (by decide), if_neg (by decide), if_neg (by decide), if_neg (by decide), if_pos (by decide), ck_t kk.1.2.2.2.2.2.2.2.2.2.1, call_id, xs_17 kk h h32 hG]
      have none : ¬ (h_m C G = 1 ∧ h_k C G 0 = h_r C A) → ∀ S w, cI ad C ρ Z q S → hwB S w 17 (nI A) (nI G) 0 0 → roomy S 4 14 → ∃ S4 n s, f_X3_typeOf (ad 5) w (ad 9) S = some (none, S4) ∧ grows S S4 n s ∧ n ≤ 4 ∧ s ≤ 14 := fun hc S w kk h rm => by
        refine ⟨S, 0, 0, ?_, grows.refl rm.1, by decide, by decide⟩
        rw [cls S w kk h]
        unfold f_X3_typeOfThen
        rw [gI_s (kk.ty hG).2.1 (kk.ty hG).2.2.2.1]
        by_cases d : h_m C G = 1
        · rw [if_pos (by rw [d]; rfl), ck_t (kk.ty hG).2.1, call_s (show f_X9_kind _ 0 S = _ from kind_yes (kk.ty hG) (j := 0) (by omega)), gI_s (kk.ty hA).2.1 (kk.ty hA).2.2.1, if_neg (fun z => hc ⟨d, z⟩)]
        · rw [if_neg (show ¬ nI (h_m C G) = (1 : Int32) from fun z => d ((nI_eq (by omega) (by decide)).mp (show nI (h_m C G) = nI 1 from z)))]
      by_cases d : h_m C G = 1
      · have k0 := m_kind (σ := τ2) (i := G) (j := 0) (by omega) (by decide) (tg2.2.2 0 (by omega))
        have rf : mk_pre 17 (nI A) (nI G) c v (mk_clear (h_n C) σ) = (if h_k C G 0 = h_r C A then some (0, τ2) else some (-3, τ2)) := by
          rw [pre]; unfold f_X11_makeTwo; rw [call_s (m0_yes mm e), if_neg n10, call_s (m0_yes mm e2), if_neg n10, o_l, o_l, m_rI (n := 33) (k := 10) rfl (by omega) (by decide) tq.2.1, call_s g0, if_neg (by decide), call_s g1, if_pos rfl, m_rI (n := 33) (k := 10) rfl (by omega) (by decide) tg1.2.1, call_s g2, m_rI (n := 33) (k := 8) rfl (by omega) (by decide) tg2.1, if_pos (by rw [d]; rfl), call_s (show f_X11_kind (nI G) 0 τ2 = _ from k0), m_rI (n := 33) (k := 10) rfl (by omega) (by decide) tq2.2.1]
        by_cases f : h_k C G 0 = h_r C A
        · right
          rw [if_pos f] at rf
          refine ⟨h_m C A, h_k C A, h_r C G, 0, fun S w kk h rm => ?_, ⟨τ2, rf, t2.1, t2.A hm4⟩, ⟨hm4, hKG.2.1, hKA.2.2⟩, ?_, ?_, ?_, ?_⟩
          · obtain ⟨t', S4, u1, u2, u3⟩ := giving_is (kk.ty hA) (h_r C G) (rm.le (by decide) (by decide))
            refine ⟨t', S4, 1, 3, ?_, u2, by decide, by decide, u3⟩
            rw [cls S w kk h]
            unfold f_X3_typeOfThen
            rw [gI_s (kk.ty hG).2.1 (kk.ty hG).2.2.2.1, if_pos (by rw [d]; rfl), ck_t (kk.ty hG).2.1, call_s (show f_X9_kind _ 0 S = _ from kind_yes (kk.ty hG) (j := 0) (by omega)), gI_s (kk.ty hA).2.1 (kk.ty hA).2.2.1, if_pos f, gI_s (kk.ty hG).2.1 (kk.ty hG).2.2.1, ck_t (kk.ty hA).2.1, call_id]
            exact u1
          · exact Or.inr (Or.inr (Or.inr (Or.inr (Or.inr (Or.inr (Or.inr (Or.inr (Or.inr (Or.inr (Or.inr (Or.inr (Or.inr (Or.inr (Or.inr (Or.inr (Or.inr (Or.inl ⟨rfl, A, G, hA, hG, rfl, rfl, d, f, rfl, rfl, fun _ _ => rfl⟩)))))))))))))))))
          · exact fun z => absurd z (by decide)
          · exact fun z => absurd z (by decide)
          · exact fun S w kk h => x_bits0 kk h (by decide)
        · left
          rw [if_neg f] at rf
          exact ⟨none (fun z => f z.2), τ2, rf, t2.1⟩
      · left
        refine ⟨none (fun z => d z.1), τ2, ?_, t2.1⟩
        rw [pre]; unfold f_X11_makeTwo; rw [call_s (m0_yes mm e), if_neg n10, call_s (m0_yes mm e2), if_neg n10, o_l, o_l, m_rI (n := 33) (k := 10) rfl (by omega) (by decide) tq.2.1, call_s g0, if_neg (by decide), call_s g1, if_pos rfl, m_rI (n := 33) (k := 10) rfl (by omega) (by decide) tg1.2.1, call_s g2, m_rI (n := 33) (k := 8) rfl (by omega) (by decide) tg2.1, if_neg (show ¬ nI (h_m C G) = (1 : Int32) from fun z => d ((nI_eq (by omega) (by decide)).mp (show nI (h_m C G) = nI 1 from z)))]
  · refine make_noh kk mm hC hV hS hZ (by decide) (xb := 1) (xc := 0) (xv := 0) (by decide) (by decide) (by decide) (by decide) (by decide) (by decide) (by decide) hn ?_
    rw [pre]
    unfold f_X11_makeTwo
    rw [call_s (m0_no mm e), if_pos rfl]
theorem mk_18 (kk : cI ad C ρ Z (q + 1) S) (mm : mR C ρ Z σ) (hC : wfC C) (hV : wfV C ρ) (hS : okS ρ) (hZ : wfK (z_m Z) (z_k Z) (z_r Z)) : jStep (ad 0) q (f_X10_make (ad 0) 18 a b c v S) (f_X11_make 18 a b c v σ) := by
  have h32 := hC.1
  have st := mB.start mm
  have pre : mk_pre 18 a b c v (mk_clear (h_n C) σ) = f_X11_makeGuard a b c (mk_clear (h_n C) σ) := by
    unfold mk_pre
    rw [if_pos (by decide), if_neg (by decide), if_pos rfl]
  rcases in_idx a (n := h_n C) (by omega) with ⟨A, hA, rfl, e⟩ | ⟨hn, e⟩
  · have hm4 := (hC.2 A hA).1.1
    have hKA := (hC.2 A hA).1
    have m0 := mk_clear_R mm
    refine make_asm (P := True ∧ (∃ B, B < h_n C ∧ b = nI B) ∧ (∃ G, G < h_n C ∧ c = nI G) ∧ True) (xb := 1) (xc := 1) (xv := 0) (b1 := b) (c1 := c) (v1 := 0) kk mm hC hV hS hZ (by decide) (by decide) (by decide) (by decide) rfl rfl rfl (fun S w kk h => told_of kk h (by decide) (x_hnd kk h (by decide) (by decide) (by decide) hA rfl) (fun _ => x_secH kk h h32 (by decide) (by decide)) (fun _ => x_thiH kk h h32 (by decide) (by decide)) (fun _ => x_kbm h (by decide))) (fun hn => ?_) (fun hy => ?_)
    · rcases in_idx b (n := h_n C) (by omega) with ⟨B, hB, rfl, e2⟩ | ⟨d2, e2⟩
      · rcases in_idx c (n := h_n C) (by omega) with ⟨G, hG, rfl, e3⟩ | ⟨d3, e3⟩
        · exact absurd ⟨trivial, ⟨B, hB, rfl⟩, ⟨G, hG, rfl⟩, trivial⟩ hn
        · rw [pre]; unfold f_X11_makeGuard; rw [call_s (m0_yes mm e), if_neg n10, call_s (m0_yes mm e2), if_neg n10, call_s (m0_no mm e3), if_pos rfl]
          exact ⟨_, rfl, mk_clear_R mm⟩
      · rw [pre]; unfold f_X11_makeGuard; rw [call_s (m0_yes mm e), if_neg n10, call_s (m0_no mm e2), if_pos rfl]
        exact ⟨_, rfl, mk_clear_R mm⟩
    · obtain ⟨-, ⟨B, hB, rfl⟩, ⟨G, hG, rfl⟩, -⟩ := hy
      have e2 : f_X11_in (nI B).toInt64 0 ((nI (h_n C) - (1 : Int32)).toInt64) = some 1 := by
        rcases in_idx (nI B) (n := h_n C) (by omega) with ⟨-, -, -, z⟩ | ⟨z, -⟩
        · exact z
        · exact absurd rfl (z B hB)
      have e3 : f_X11_in (nI G).toInt64 0 ((nI (h_n C) - (1 : Int32)).toInt64) = some 1 := by
        rcases in_idx (nI G) (n := h_n C) (by omega) with ⟨-, -, -, z⟩ | ⟨z, -⟩
        · exact z
        · exact absurd rfl (z G hG)
      have hKG := (hC.2 G hG).1
      have hKB := (hC.2 B hB).1
      have bq := ((st.p4 (nI A)).p5 (nI B)).p6 (nI G)
      have tb := (bq.1.hi hB).ty
      obtain ⟨τ0, g0, t0⟩ := m_gives bq h32 (h_r C B)
      obtain ⟨τ1, g1, t1⟩ := m_all t0 hC hB
      have tq1 := (t1.1.hi hA).ty
      have tb1 := (t1.1.hi hB).ty
      have tg1 := (t1.1.hi hG).ty
      obtain ⟨x, f, i⟩ := malike_is tb1 tg1 (by omega) (by omega) hKG.1 hKB.1
      obtain ⟨y, f', i'⟩ := mfirst_is tq1 tb1 (by omega) (by omega) hm4 hKB.1 (a := 0) (b := 0) (by decide) (by decide)
      have rf : mk_pre 18 (nI A) (nI B) (nI G) v (mk_clear (h_n C) σ) = (if h_r C A = 0 then if x = 0 then some (-3, τ1) else if y = 0 then some (-3, τ1) else some (0, τ1) else some (-3, τ1)) := by
        rw [pre]; unfold f_X11_makeGuard; rw [call_s (m0_yes mm e), if_neg n10, call_s (m0_yes mm e2), if_neg n10, call_s (m0_yes mm e3), if_neg n10, o_l, o_l, o_l, m_rI (n := 33) (k := 10) rfl (by omega) (by decide) tb.2.1, call_s g0, call_s g1, m_rI (n := 33) (k := 10) rfl (by omega) (by decide) tq1.2.1, call_s f, call_s (show f_X11_isFirst (nI A) 0 (nI B) 0 τ1 = _ from f')]
      have cls : ∀ S w, cI ad C ρ Z q S → hwB S w 18 (nI A) (nI B) (nI G) 0 → f_X3_typeOf (ad 5) w (ad 9) S = f_X3_typeOfGuard (ad (2 * A + 21)) (ad (2 * B + 21)) (ad (2 * G + 21)) S := fun S w kk h => by
        unfold f_X3_typeOf; rw [gI_s h.1 h.2.1, if_pos (by decide), gR_s kk.1.2.2.2.2.2.2.2.2.2.1 kk.1.2.2.2.2.2.2.2.2.2.2.1, gI_s h.1 h.2.2.1, cs_s rfl, ck_t kk.1.2.1.1, call_s (ty_yes kk.1.2.1 hA), cs_s rfl, gI_s h.1 h.2.1, if_neg (by decide), if_neg (by decide), if_neg (by decide), if_neg (by decide), if_neg (by decide), if_neg (by decide), if_pos (by decide), ck_t kk.1.2.2.2.2.2.2.2.2.2.1, call_id, xs_18 kk h h32 hB hG]
      have all : ∀ S w, cI ad C ρ Z q S → hwB S w 18 (nI A) (nI B) (nI G) 0 → roomy S 4 14 → f_X3_typeOf (ad 5) w (ad 9) S = some (if h_r C A = 0 then if y = 0 then none else if x = 0 then none else some (ad (2 * B + 21)) else none, S) := fun S w kk h rm => by
        rw [cls S w kk h]
        unfold f_X3_typeOfGuard
        rw [gI_s (kk.ty hA).2.1 (kk.ty hA).2.2.1]
        by_cases d : h_r C A = 0
        · obtain ⟨u, u1, u2⟩ := first_is (kk.ty hA) (kk.ty hB) hKA.2.2 (a := 0) (b := 0) (by decide) (by decide)
          rw [if_pos d, if_pos d, ck_t (kk.ty hA).2.1, call_s (show f_X9_isFirstOf _ _ 0 0 S = _ from u1)]
          rcases i' with ⟨rfl, i'⟩ | ⟨rfl, i'⟩
          · rcases u2 with ⟨rfl, u2⟩ | ⟨rfl, u2⟩
            · obtain ⟨u, w1, w2⟩ := same_is (kk.ty hB) (kk.ty hG) hKB.2.2
              rw [if_neg n10, if_neg n10, ck_t (kk.ty hB).2.1, call_s w1]
              rcases i with ⟨rfl, i⟩ | ⟨rfl, i⟩
              · rcases w2 with ⟨rfl, w2⟩ | ⟨rfl, w2⟩
                · rw [if_neg n10, if_neg n10]
                · exact absurd i.symm w2
              · rcases w2 with ⟨rfl, w2⟩ | ⟨rfl, w2⟩
                · exact absurd w2.symm i
                · rw [if_pos rfl, if_pos rfl]
            · exact absurd (fun j h1 h2 => ⟨by have := i'.2.1; omega, i'.2.2 j h1 h2⟩) u2
          · rcases u2 with ⟨rfl, u2⟩ | ⟨rfl, u2⟩
            · refine absurd ⟨Nat.zero_le _, ?_, fun j h1 h2 => (u2 j h1 h2).2⟩ i'
              by_cases g : h_m C A = 0
              · omega
              · have := (u2 (h_m C A - 1) (Nat.zero_le _) (by omega)).1; omega
            · rw [if_pos rfl, if_pos rfl]
        · rw [if_neg d, if_neg d]
      by_cases d : h_r C A = 0
      · rw [if_pos d] at rf
        simp only [if_pos d] at all
        rcases i with ⟨rfl, i⟩ | ⟨rfl, i⟩
        · rw [if_neg n10] at rf
          rcases i' with ⟨rfl, i'⟩ | ⟨rfl, i'⟩
          · right
            rw [if_neg n10] at rf
            simp only [if_neg n10] at all
            refine ⟨h_m C B, h_k C B, h_r C B, 0, fun S w kk h rm => ⟨ad (2 * B + 21), S, 0, 0, all S w kk h rm, grows.refl rm.1, by decide, by decide, kk.ty hB⟩, ⟨τ1, rf, t1.1, t1.A hKB.1⟩, hKB, ?_, ?_, ?_, ?_⟩
            · refine Or.inr (Or.inr (Or.inr (Or.inr (Or.inr (Or.inr (Or.inr (Or.inr (Or.inr (Or.inr (Or.inr (Or.inr (Or.inr (Or.inr (Or.inr (Or.inr (Or.inr (Or.inr (Or.inl ⟨rfl, A, B, G, hA, hB, hG, rfl, rfl, rfl, d, by have := i'.2.1; omega, fun j hj => ?_, i, rfl, rfl, fun _ _ => rfl⟩))))))))))))))))))
              have := i'.2.2 j (Nat.zero_le _) hj
              rw [show 0 + j - 0 = j by omega] at this; exact this
            · exact fun z => absurd z (by decide)
            · exact fun z => absurd z (by decide)
            · exact fun S w kk h => x_bits0 kk h (by decide)
          · left
            rw [if_pos rfl] at rf
            simp only [if_pos (rfl : (0 : Int32) = 0)] at all
            exact ⟨fun S w kk h rm => ⟨S, 0, 0, all S w kk h rm, grows.refl rm.1, by decide, by decide⟩, τ1, rf, t1.1⟩
        · left
          rw [if_pos rfl] at rf
          refine ⟨fun S w kk h rm => ⟨S, 0, 0, ?_, grows.refl rm.1, by decide, by decide⟩, τ1, rf, t1.1⟩
          rw [all S w kk h rm]
          congr 2
          by_cases z : y = 0
          · rw [if_pos z]
          · rw [if_neg z, if_pos rfl]
      · left
        rw [if_neg d] at rf
        simp only [if_neg d] at all
        exact ⟨fun S w kk h rm => ⟨S, 0, 0, all S w kk h rm, grows.refl rm.1, by decide, by decide⟩, τ1, rf, t1.1⟩
  · refine make_noh kk mm hC hV hS hZ (by decide) (xb := 1) (xc := 1) (xv := 0) (by decide) (by decide) (by decide) (by decide) (by decide) (by decide) (by decide) hn ?_
    rw [pre]
    unfold f_X11_makeGuard
    rw [call_s (m0_no mm e), if_pos rfl]
theorem mk_19 (kk : cI ad C ρ Z (q + 1) S) (mm : mR C ρ Z σ) (hC : wfC C) (hV : wfV C ρ) (hS : okS ρ) (hZ : wfK (z_m Z) (z_k Z) (z_r Z)) : jStep (ad 0) q (f_X10_make (ad 0) 19 a b c v S) (f_X11_make 19 a b c v σ) := by
  have h32 := hC.1
  have st := mB.start mm
  have pre : mk_pre 19 a b c v (mk_clear (h_n C) σ) = f_X11_makeCatch a b c (mk_clear (h_n C) σ) := by
    unfold mk_pre
    rw [if_pos (by decide), if_neg (by decide), if_neg (by decide), if_pos rfl]
  rcases in_idx a (n := h_n C) (by omega) with ⟨A, hA, rfl, e⟩ | ⟨hn, e⟩
  · have hm4 := (hC.2 A hA).1.1
    have hKA := (hC.2 A hA).1
    have m0 := mk_clear_R mm
    obtain ⟨xh, -, -, hh⟩ := held_is b
    refine make_asm (P := True ∧ heldp b ∧ (∃ G, G < h_n C ∧ c = nI G) ∧ True) (xb := 1) (xc := 1) (xv := 0) (b1 := b) (c1 := c) (v1 := 0) kk mm hC hV hS hZ (by decide) (by decide) (by decide) (by decide) rfl rfl rfl (fun S w kk h => told_of kk h (by decide) (x_hnd kk h (by decide) (by decide) (by decide) hA rfl) (fun _ => x_sec19 h) (fun _ => x_thiH kk h h32 (by decide) (by decide)) (fun _ => x_kbm h (by decide))) (fun hn => ?_) (fun hy => ?_)
    · rcases in_idx c (n := h_n C) (by omega) with ⟨G, hG, rfl, e3⟩ | ⟨d3, e3⟩
      · rcases hh with ⟨d, -⟩ | ⟨d, d1, d2, d3⟩
        · exact absurd ⟨trivial, d, ⟨G, hG, rfl⟩, trivial⟩ hn
        · rw [pre]; unfold f_X11_makeCatch; rw [call_s (m0_yes mm e), if_neg n10, call_s (m0_yes mm e3), if_neg n10, if_neg d1, cP_s d2, if_pos rfl, cP_s d3, if_pos rfl]
          exact ⟨_, rfl, mk_clear_R mm⟩
      · rw [pre]; unfold f_X11_makeCatch; rw [call_s (m0_yes mm e), if_neg n10, call_s (m0_no mm e3), if_pos rfl]
        exact ⟨_, rfl, mk_clear_R mm⟩
    · obtain ⟨-, hb, ⟨G, hG, rfl⟩, -⟩ := hy
      have e3 : f_X11_in (nI G).toInt64 0 ((nI (h_n C) - (1 : Int32)).toInt64) = some 1 := by
        rcases in_idx (nI G) (n := h_n C) (by omega) with ⟨-, -, -, z⟩ | ⟨z, -⟩
        · exact z
        · exact absurd rfl (z G hG)
      have hKG := (hC.2 G hG).1
      have hG4 := hKG.1
      have r49 : mk_pre 19 (nI A) b (nI G) v (mk_clear (h_n C) σ) = f_X11_makeCatch_b49 (nI A) b (nI G) (mk_clear (h_n C) σ) := by
        rw [pre]; unfold f_X11_makeCatch; rw [call_s (m0_yes mm e), if_neg n10, call_s (m0_yes mm e3), if_neg n10]
        rcases hh with ⟨-, d | d | ⟨d, d2⟩⟩ | ⟨d, -⟩
        · rw [if_pos d]
        · by_cases z : b = -1
          · rw [if_pos z]
          · rw [if_neg z, cP_s d, if_neg n10]
        · by_cases z : b = -1
          · rw [if_pos z]
          · rw [if_neg z, cP_s d, if_pos rfl, cP_s d2, if_neg n10]
        · exact absurd hb d
      have bq := ((st.p4 (nI A)).p5 b).p6 (nI G)
      have tq := (bq.1.hi hA).ty
      obtain ⟨τ0, g0, t0⟩ := m_gives bq h32 (h_r C A)
      obtain ⟨τ1, g1, t1⟩ := m_all t0 hC hA
      have tq1 := (t1.1.hi hA).ty
      have tg1 := (t1.1.hi hG).ty
      obtain ⟨x, f, i⟩ := mfirst_is tg1 tq1 (by omega) (by omega) hG4 hm4 (a := 1) (b := 0) (by decide) (by decide)
      have cls : ∀ S w, cI ad C ρ Z q S → hwB S w 19 (nI A) b (nI G) 0 → f_X3_typeOf (ad 5) w (ad 9) S = f_X3_typeOfCatch (ad (2 * A + 21)) (ad (2 * G + 21)) S := fun S w kk h => by
        unfold f_X3_typeOf; rw [gI_s h.1 h.2.1, if_pos (by decide), gR_s kk.1.2.2.2.2.2.2.2.2.2.1 kk.1.2.2.2.2.2.2.2.2.2.2.1, gI_s h.1 h.2.2.1, cs_s rfl, ck_t kk.1.2.1.1, call_s (ty_yes kk.1.2.1 hA), cs_s rfl, gI_s h.1 h.2.1, if_neg (by decide), if_neg (by decide), if_neg (by decide), if_neg (by decide), if_neg (by decide), if_neg (by decide), if_pos (by decide), ck_t kk.1.2.2.2.2.2.2.2.2.2.1, call_id, xs_19 kk h h32 hG]
      have none : ¬ (1 ≤ h_m C G ∧ h_k C G 0 = 4 ∧ h_r C G = h_r C A ∧ h_m C G ≤ h_m C A + 1 ∧ ∀ j, j + 1 < h_m C G → h_k C G (j + 1) = h_k C A j) → ∀ S w, cI ad C ρ Z q S → hwB S w 19 (nI A) b (nI G) 0 → roomy S 4 14 → ∃ S4 n s, f_X3_typeOf (ad 5) w (ad 9) S = some (none, S4) ∧ grows S S4 n s ∧ n ≤ 4 ∧ s ≤ 14 := fun hc S w kk h rm => by
        refine ⟨S, 0, 0, ?_, grows.refl rm.1, by decide, by decide⟩
        rw [cls S w kk h]
        unfold f_X3_typeOfCatch
        rw [ck_t (kk.ty hG).2.1, call_s (show f_X9_kind _ 0 S = _ from kind_any (kk.ty hG) (j := 0) (by decide))]
        by_cases c0 : (if 0 < h_m C G then h_k C G 0 else -1) = 4
        · have g0 : 0 < h_m C G := by
            by_cases z : 0 < h_m C G
            · exact z
            · rw [if_neg z] at c0; exact absurd c0 (by decide)
          obtain ⟨y, u1, u2⟩ := first_is (kk.ty hG) (kk.ty hA) hKG.2.2 (a := 1) (b := 0) (by decide) (by decide)
          rw [if_pos c0, ck_t (kk.ty hG).2.1, call_s (show f_X9_isFirstOf _ _ 1 0 S = _ from u1)]
          rw [if_pos g0] at c0
          rcases u2 with ⟨rfl, u2⟩ | ⟨rfl, u2⟩
          · rw [if_neg n10, gI_s (kk.ty hG).2.1 (kk.ty hG).2.2.1, gI_s (kk.ty hA).2.1 (kk.ty hA).2.2.1]
            by_cases d : h_r C G = h_r C A
            · refine absurd ⟨g0, c0, d, ?_, fun j hj => ?_⟩ hc
              · by_cases g : h_m C G = 1
                · omega
                · have := (u2 (h_m C G - 1) (by omega) (by omega)).1; omega
              · have := (u2 (j + 1) (by omega) hj).2
                rw [show 0 + (j + 1) - 1 = j by omega] at this; exact this
            · rw [if_neg d]
          · rw [if_pos rfl]
        · rw [if_neg c0]
      have rf0 : f_X11_makeCatch_b49 (nI A) b (nI G) (mk_clear (h_n C) σ) = (if nI (h_m C G) < 1 then some (-3, τ1) else o_call (f_X11_kind (nI G) 0 τ1) fun x3 S6 => if x3 = 4 then (o_ck (¬ (nI G < 0 ∨ 33 ≤ (nI G).toNatClampNeg)) (o_let (m_aI S6 10 (nI G).toNatClampNeg) fun x4 => o_ck (¬ (nI A < 0 ∨ 33 ≤ (nI A).toNatClampNeg)) (o_let (m_aI S6 10 (nI A).toNatClampNeg) fun x5 => if x4 = x5 then (o_call (f_X11_isFirst (nI G) 1 (nI A) 0 S6) fun x6 S7 => if x6 = 0 then (some ((-3), S7)) else (some (0, S7))) else (some ((-3), S6))))) else (some ((-3), S6))) := by
        unfold f_X11_makeCatch_b49
        rw [o_l, o_l, o_l, m_rI (n := 33) (k := 10) rfl (by omega) (by decide) tq.2.1, call_s g0, call_s g1, m_rI (n := 33) (k := 8) rfl (by omega) (by decide) tg1.1]
      by_cases c1 : h_m C G < 1
      · left
        rw [if_pos (show nI (h_m C G) < (1 : Int32) from nI_lt (b := 1) c1 (by decide))] at rf0
        exact ⟨none (fun z => by omega), τ1, r49.trans rf0, t1.1⟩
      have k0 := m_kind (σ := τ1) (i := G) (j := 0) (by omega) (by decide) (tg1.2.2 0 (by omega))
      rw [if_neg (show ¬ nI (h_m C G) < (1 : Int32) from nI_nlt (b := 1) (by omega) (by omega)), call_s (show f_X11_kind (nI G) 0 τ1 = _ from k0), m_rI (n := 33) (k := 10) rfl (by omega) (by decide) tg1.2.1, m_rI (n := 33) (k := 10) rfl (by omega) (by decide) tq1.2.1, call_s (show f_X11_isFirst (nI G) 1 (nI A) 0 τ1 = _ from f)] at rf0
      by_cases d0 : h_k C G 0 = 4
      · rw [if_pos d0] at rf0
        by_cases d2 : h_r C G = h_r C A
        · rw [if_pos d2] at rf0
          rcases i with ⟨rfl, i⟩ | ⟨rfl, i⟩
          · right
            rw [if_neg n10] at rf0
            have ij : ∀ j, j + 1 < h_m C G → h_k C G (j + 1) = h_k C A j := fun j hj => by
              have := i.2.2 (j + 1) (by omega) hj
              rw [show 0 + (j + 1) - 1 = j by omega] at this; exact this
            refine ⟨h_m C A, h_k C A, h_r C A, 0, fun S w kk h rm => ?_, ⟨τ1, r49.trans rf0, t1.1, t1.A hm4⟩, hKA, ?_, ?_, ?_, ?_⟩
            · refine ⟨ad (2 * A + 21), S, 0, 0, ?_, grows.refl rm.1, by decide, by decide, kk.ty hA⟩
              rw [cls S w kk h]
              unfold f_X3_typeOfCatch
              obtain ⟨y, v1, v2⟩ := first_is (kk.ty hG) (kk.ty hA) hKG.2.2 (a := 1) (b := 0) (by decide) (by decide)
              rw [ck_t (kk.ty hG).2.1, call_s (show f_X9_kind _ 0 S = _ from kind_yes (kk.ty hG) (j := 0) (by omega)), if_pos d0, ck_t (kk.ty hG).2.1, call_s (show f_X9_isFirstOf _ _ 1 0 S = _ from v1)]
              rcases v2 with ⟨rfl, v2⟩ | ⟨rfl, v2⟩
              · rw [if_neg n10, gI_s (kk.ty hG).2.1 (kk.ty hG).2.2.1, gI_s (kk.ty hA).2.1 (kk.ty hA).2.2.1, if_pos d2]
              · exact absurd (fun j h1 h2 => ⟨by have := i.2.1; omega, i.2.2 j h1 h2⟩) v2
            · exact Or.inr (Or.inr (Or.inr (Or.inr (Or.inr (Or.inr (Or.inr (Or.inr (Or.inr (Or.inr (Or.inr (Or.inr (Or.inr (Or.inr (Or.inr (Or.inr (Or.inr (Or.inr (Or.inr (Or.inl ⟨rfl, A, G, hA, hG, rfl, rfl, hb, by omega, d0, d2, i.2.1, ij, rfl, rfl, fun _ _ => rfl⟩)))))))))))))))))))
            · exact fun z => absurd z (by decide)
            · exact fun z => absurd z (by decide)
            · exact fun S w kk h => x_bits0 kk h (by decide)
          · left
            rw [if_pos rfl] at rf0
            refine ⟨none (fun z => i ⟨z.1, z.2.2.2.1, fun j h1 h2 => ?_⟩), τ1, r49.trans rf0, t1.1⟩
            have := z.2.2.2.2 (j - 1) (by omega)
            rw [show j - 1 + 1 = j by omega] at this
            rw [show 0 + j - 1 = j - 1 by omega]; exact this
        · left
          rw [if_neg d2] at rf0
          exact ⟨none (fun z => d2 z.2.2.1), τ1, r49.trans rf0, t1.1⟩
      · left
        rw [if_neg d0] at rf0
        exact ⟨none (fun z => d0 z.2.1), τ1, r49.trans rf0, t1.1⟩
  · refine make_noh kk mm hC hV hS hZ (by decide) (xb := 1) (xc := 1) (xv := 0) (by decide) (by decide) (by decide) (by decide) (by decide) (by decide) (by decide) hn ?_
    rw [pre]
    unfold f_X11_makeCatch
    rw [call_s (m0_no mm e), if_pos rfl]
theorem mk_20 (kk : cI ad C ρ Z (q + 1) S) (mm : mR C ρ Z σ) (hC : wfC C) (hV : wfV C ρ) (hS : okS ρ) (hZ : wfK (z_m Z) (z_k Z) (z_r Z)) : jStep (ad 0) q (f_X10_make (ad 0) 20 a b c v S) (f_X11_make 20 a b c v σ) := by
  have h32 := hC.1
  have st := mB.start mm
  have pre : mk_pre 20 a b c v (mk_clear (h_n C) σ) = f_X11_makeTwo 20 a b (mk_clear (h_n C) σ) := by
    unfold mk_pre
    rw [if_pos (by decide), if_neg (by decide), if_neg (by decide), if_neg (by decide), if_neg (by decide), if_neg (by decide), if_pos rfl]
  rcases in_idx a (n := h_n C) (by omega) with ⟨A, hA, rfl, e⟩ | ⟨hn, e⟩
  · have hm4 := (hC.2 A hA).1.1
    have hKA := (hC.2 A hA).1
    have m0 := mk_clear_R mm
    refine make_asm (P := True ∧ (∃ G, G < h_n C ∧ b = nI G) ∧ True ∧ True) (xb := 1) (xc := 0) (xv := 0) (b1 := b) (c1 := 0) (v1 := 0) kk mm hC hV hS hZ (by decide) (by decide) (by decide) (by decide) rfl rfl rfl (fun S w kk h => told_of kk h (by decide) (x_hnd kk h (by decide) (by decide) (by decide) hA rfl) (fun _ => x_secH kk h h32 (by decide) (by decide)) (fun _ => x_thi h (by decide)) (fun _ => x_kbm h (by decide))) (fun hn => ?_) (fun hy => ?_)
    · rcases in_idx b (n := h_n C) (by omega) with ⟨G, hG, rfl, e2⟩ | ⟨d2, e2⟩
      · exact absurd ⟨trivial, ⟨G, hG, rfl⟩, trivial, trivial⟩ hn
      · rw [pre]; unfold f_X11_makeTwo; rw [call_s (m0_yes mm e), if_neg n10, call_s (m0_no mm e2), if_pos rfl]
        exact ⟨_, rfl, mk_clear_R mm⟩
    · obtain ⟨-, ⟨G, hG, rfl⟩, -, -⟩ := hy
      have e2 : f_X11_in (nI G).toInt64 0 ((nI (h_n C) - (1 : Int32)).toInt64) = some 1 := by
        rcases in_idx (nI G) (n := h_n C) (by omega) with ⟨-, -, -, z⟩ | ⟨z, -⟩
        · exact z
        · exact absurd rfl (z G hG)
      have hKG := (hC.2 G hG).1
      have hG4 := hKG.1
      have bq := (st.p4 (nI A)).p5 (nI G)
      have tq := (bq.1.hi hA).ty
      obtain ⟨τ0, g0, t0⟩ := m_gives bq h32 (h_r C A)
      have tq0 := (t0.1.hi hA).ty
      have tg0 := (t0.1.hi hG).ty
      obtain ⟨τ1, g1, t1⟩ := m_all t0 hC hA
      have tq1 := (t1.1.hi hA).ty
      have tg1 := (t1.1.hi hG).ty
      obtain ⟨x, f, i⟩ := mfirst_is tg1 tq1 (by omega) (by omega) hG4 hm4 (a := 2) (b := 0) (by decide) (by decide)
      have cls : ∀ S w, cI ad C ρ Z q S → hwB S w 20 (nI A) (nI G) 0 0 → f_X3_typeOf (ad 5) w (ad 9) S = f_X3_typeOfLast (ad (2 * A + 21)) (ad (2 * G + 21)) S := fun S w kk h => by
        unfold f_X3_typeOf; rw [gI_s h.1 h.2.1, if_pos (by decide), gR_s kk.1.2.2.2.2.2.2.2.2.2.1 kk.1.2.2.2.2.2.2.2.2.2.2.1, gI_s h.1 h.2.2.1, cs_s rfl, ck_t kk.1.2.1.1, call_s (ty_yes kk.1.2.1 hA), cs_s rfl, gI_s h.1 h.2.1, if_neg (by decide), if_neg (by decide), if_neg (by decide), if_neg (by decide), if_neg (by decide), if_neg (by decide), if_pos (by decide), ck_t kk.1.2.2.2.2.2.2.2.2.2.1, call_id, xs_20 kk h h32 hG]
      have none : ¬ (2 ≤ h_m C G ∧ h_k C G 0 = 4 ∧ h_k C G 1 = h_r C A ∧ h_r C G = h_r C A ∧ h_m C G ≤ h_m C A + 2 ∧ ∀ j, j + 2 < h_m C G → h_k C G (j + 2) = h_k C A j) → ∀ S w, cI ad C ρ Z q S → hwB S w 20 (nI A) (nI G) 0 0 → roomy S 4 14 → ∃ S4 n s, f_X3_typeOf (ad 5) w (ad 9) S = some (none, S4) ∧ grows S S4 n s ∧ n ≤ 4 ∧ s ≤ 14 := fun hc S w kk h rm => by
        refine ⟨S, 0, 0, ?_, grows.refl rm.1, by decide, by decide⟩
        rw [cls S w kk h]
        unfold f_X3_typeOfLast
        rw [ck_t (kk.ty hG).2.1, call_s (show f_X9_kind _ 0 S = _ from kind_any (kk.ty hG) (j := 0) (by decide))]
        have b0 : f_X3_typeOfLast_b26 (ad (2 * A + 21)) (ad (2 * G + 21)) 0 S = some (Option.none, S) := by unfold f_X3_typeOfLast_b26; rw [if_pos rfl]
        by_cases c0 : (if 0 < h_m C G then h_k C G 0 else -1) = 4
        · rw [if_pos c0, ck_t (kk.ty hG).2.1, call_s (show f_X9_kind _ 1 S = _ from kind_any (kk.ty hG) (j := 1) (by decide)), gI_s (kk.ty hA).2.1 (kk.ty hA).2.2.1]
          by_cases c1 : (if 1 < h_m C G then h_k C G 1 else -1) = h_r C A
          · rw [if_pos c1]
            unfold f_X3_typeOfLast_b26
            have g1 : 1 < h_m C G := by
              by_cases z : 1 < h_m C G
              · exact z
              · rw [if_neg z] at c1; exact absurd c1.symm (kind_ne hKA.2.1)
            rw [if_pos g1] at c1
            rw [if_pos (by omega)] at c0
            obtain ⟨y, u1, u2⟩ := first_is (kk.ty hG) (kk.ty hA) hKG.2.2 (a := 2) (b := 0) (by decide) (by decide)
            rw [if_neg n10, ck_t (kk.ty hG).2.1, call_s (show f_X9_isFirstOf _ _ 2 0 S = _ from u1)]
            rcases u2 with ⟨rfl, u2⟩ | ⟨rfl, u2⟩
            · rw [if_neg n10, gI_s (kk.ty hG).2.1 (kk.ty hG).2.2.1, gI_s (kk.ty hA).2.1 (kk.ty hA).2.2.1]
              by_cases d : h_r C G = h_r C A
              · refine absurd ⟨g1, c0, c1, d, ?_, fun j hj => ?_⟩ hc
                · by_cases g : h_m C G = 2
                  · omega
                  · have := (u2 (h_m C G - 1) (by omega) (by omega)).1; omega
                · have := (u2 (j + 2) (by omega) hj).2
                  rw [show 0 + (j + 2) - 2 = j by omega] at this; exact this
              · rw [if_neg d]
            · rw [if_pos rfl]
          · rw [if_neg c1, b0]
        · rw [if_neg c0, b0]
      by_cases c2 : h_m C G < 2
      · left
        refine ⟨none (fun z => by omega), τ1, ?_, t1.1⟩
        rw [pre]; unfold f_X11_makeTwo; rw [call_s (m0_yes mm e), if_neg n10, call_s (m0_yes mm e2), if_neg n10, o_l, o_l, m_rI (n := 33) (k := 10) rfl (by omega) (by decide) tq.2.1, call_s g0, if_neg (by decide), call_s g1, if_neg (by decide), m_rI (n := 33) (k := 8) rfl (by omega) (by decide) tg1.1, if_pos (show nI (h_m C G) < (2 : Int32) from nI_lt (b := 2) c2 (by decide))]
      have k0 := m_kind (σ := τ1) (i := G) (j := 0) (by omega) (by decide) (tg1.2.2 0 (by omega))
      have k1 := m_kind (σ := τ1) (i := G) (j := 1) (by omega) (by decide) (tg1.2.2 1 (by omega))
      have rf : mk_pre 20 (nI A) (nI G) c v (mk_clear (h_n C) σ) = (if h_k C G 0 = 4 then if h_k C G 1 = h_r C A then if h_r C G = h_r C A then if x = 0 then some (-3, τ1) else some (0, τ1) else some (-3, τ1) else some (-3, τ1) else some (-3, τ1)) := by
        rw [pre]; unfold f_X11_makeTwo; rw [call_s (m0_yes mm e), if_neg n10, call_s (m0_yes mm e2), if_neg n10, o_l, o_l, m_rI (n := 33) (k := 10) rfl (by omega) (by decide) tq.2.1, call_s g0, if_neg (by decide), call_s g1, if_neg (by decide), m_rI (n := 33) (k := 8) rfl (by omega) (by decide) tg1.1, if_neg (show ¬ nI (h_m C G) < (2 : Int32) from nI_nlt (b := 2) (by omega) (by omega)), call_s (show f_X11_kind (nI G) 0 τ1 = _ from k0), call_s (show f_X11_kind (nI G) 1 τ1 = _ from k1), m_rI (n := 33) (k := 10) rfl (by omega) (by decide) tq1.2.1, m_rI (n := 33) (k := 10) rfl (by omega) (by decide) tg1.2.1, m_rI (n := 33) (k := 10) rfl (by omega) (by decide) tq1.2.1, call_s (show f_X11_isFirst (nI G) 2 (nI A) 0 τ1 = _ from f)]
      by_cases d0 : h_k C G 0 = 4
      · rw [if_pos d0] at rf
        by_cases d1 : h_k C G 1 = h_r C A
        · rw [if_pos d1] at rf
          by_cases d2 : h_r C G = h_r C A
          · rw [if_pos d2] at rf
            rcases i with ⟨rfl, i⟩ | ⟨rfl, i⟩
            · right
              rw [if_neg n10] at rf
              have ij : ∀ j, j + 2 < h_m C G → h_k C G (j + 2) = h_k C A j := fun j hj => by
                have := i.2.2 (j + 2) (by omega) hj
                rw [show 0 + (j + 2) - 2 = j by omega] at this; exact this
              refine ⟨h_m C A, h_k C A, h_r C A, 0, fun S w kk h rm => ?_, ⟨τ1, rf, t1.1, t1.A hm4⟩, hKA, ?_, ?_, ?_, ?_⟩
              · refine ⟨ad (2 * A + 21), S, 0, 0, ?_, grows.refl rm.1, by decide, by decide, kk.ty hA⟩
                rw [cls S w kk h]
                unfold f_X3_typeOfLast
                obtain ⟨y, v1, v2⟩ := first_is (kk.ty hG) (kk.ty hA) hKG.2.2 (a := 2) (b := 0) (by decide) (by decide)
                rw [ck_t (kk.ty hG).2.1, call_s (show f_X9_kind _ 0 S = _ from kind_yes (kk.ty hG) (j := 0) (by omega)), if_pos d0, ck_t (kk.ty hG).2.1, call_s (show f_X9_kind _ 1 S = _ from kind_yes (kk.ty hG) (j := 1) (by omega)), gI_s (kk.ty hA).2.1 (kk.ty hA).2.2.1, if_pos d1]
                unfold f_X3_typeOfLast_b26
                rw [if_neg n10, ck_t (kk.ty hG).2.1, call_s (show f_X9_isFirstOf _ _ 2 0 S = _ from v1)]
                rcases v2 with ⟨rfl, v2⟩ | ⟨rfl, v2⟩
                · rw [if_neg n10, gI_s (kk.ty hG).2.1 (kk.ty hG).2.2.1, gI_s (kk.ty hA).2.1 (kk.ty hA).2.2.1, if_pos d2]
                · exact absurd (fun j h1 h2 => ⟨by have := i.2.1; omega, i.2.2 j h1 h2⟩) v2
              · exact Or.inr (Or.inr (Or.inr (Or.inr (Or.inr (Or.inr (Or.inr (Or.inr (Or.inr (Or.inr (Or.inr (Or.inr (Or.inr (Or.inr (Or.inr (Or.inr (Or.inr (Or.inr (Or.inr (Or.inr (Or.inl ⟨rfl, A, G, hA, hG, rfl, rfl, by omega, d0, d1, d2, i.2.1, ij, rfl, rfl, fun _ _ => rfl⟩))))))))))))))))))))
              · exact fun z => absurd z (by decide)
              · exact fun z => absurd z (by decide)
              · exact fun S w kk h => x_bits0 kk h (by decide)
            · left
              rw [if_pos rfl] at rf
              refine ⟨none (fun z => i ⟨z.1, z.2.2.2.2.1, fun j h1 h2 => ?_⟩), τ1, rf, t1.1⟩
              have := z.2.2.2.2.2 (j - 2) (by omega)
              rw [show j - 2 + 2 = j by omega] at this
              rw [show 0 + j - 2 = j - 2 by omega]; exact this
          · left
            rw [if_neg d2] at rf
            exact ⟨none (fun z => d2 z.2.2.2.1), τ1, rf, t1.1⟩
        · left
          rw [if_neg d1] at rf
          exact ⟨none (fun z => d1 z.2.2.1), τ1, rf, t1.1⟩
      · left
        rw [if_neg d0] at rf
        exact ⟨none (fun z => d0 z.2.1), τ1, rf, t1.1⟩
  · refine make_noh kk mm hC hV hS hZ (by decide) (xb := 1) (xc := 0) (xv := 0) (by decide) (by decide) (by decide) (by decide) (by decide) (by decide) (by decide) hn ?_
    rw [pre]
    unfold f_X11_makeTwo
    rw [call_s (m0_no mm e), if_pos rfl]
end MK2
