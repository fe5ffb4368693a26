/-! the reference's run of a handle is what a run is -/
section MNODE
variable {C : hS} {ρ : eS} {Z : zS} {σ σ0 S τ : mS} {δ h : Nat} {p : Nat → Int64} {P : eP} {oc : eO}
theorem mPop.upL (k : mPop C Z (δ + 1) S oc τ) (hS : mFr δ σ0 S) {v : Int32} {r : Int64} (hr : oc.1 = 0 → r = oc.2.1) : mPop C Z δ σ0 oc (m_pL (m_pI (m_wI τ 12 δ v) 7 (nI δ)) 1 r) := by
  obtain ⟨k1, k2, k3, k4, k5⟩ := k
  exact ⟨rfl, k2.a12 δ v, k3, hr, ((hS.trans (k5.le (by omega))).trans mFr.w12).trans mFr.I7⟩
theorem mPop.to (k : mPop C Z δ σ oc τ) (hS : mFr δ σ0 σ) : mPop C Z δ σ0 oc τ := ⟨k.1, k.2.1, k.2.2.1, k.2.2.2.1, hS.trans k.2.2.2.2⟩
theorem mEnd.to {T : Nat} {o : eO} (k : mEnd C Z δ σ T S o) (hS : mFr δ σ0 σ) : mEnd C Z δ σ0 T S o := by
  obtain ⟨k, τ, e1, e2, e3⟩ := k
  exact ⟨k, τ, e1, e2.to hS, e3⟩
/-- one that is run from here -/
theorem goM (hP : rHyp C Z h P) {g : Nat} {p1 : Nat → Int64} {f : Nat → Int64} (hg : g < h) (hd : δ + h ≤ 32) (hS : okS ρ) (hV : wfV C ρ) (hA : okA C g ρ p1) (m : mR C ρ Z S) (h7 : m_I S 7 = nI (δ + 1)) (hf : ∀ j, j < h_m C g → f j = p1 j) :
    mOut C Z (δ + 1) (m_f S 20 f) (e_T ρ) (P g p1 ρ) (f_X11_begin (nI g) (m_f S 20 f)) :=
  hP g p1 ρ (m_f S 20 f) (δ + 1) hg (by omega) hS hV hA (m.f20 f) h7 (fun j hj => by rw [mf_at]; exact hf j hj)
theorem frS {f : Nat → Int64} {v : Int32} : mFr δ σ (m_f (m_wI σ 12 δ v) 20 f) := mFr.w12.trans mFr.f20
theorem node_hands (hd : δ + h ≤ 32) (h32 : h_n C ≤ 32) (hh : h < h_n C) (hm4 : h_m C h ≤ 4) (hs : h_so C h = 11 ∨ h_so C h = 12 ∨ h_so C h = 13 ∨ h_so C h = 14) (t : mTop C Z ρ δ h 0 p σ) {A : Nat} {f : Nat → Int64} (h1 : f_X11_handsOn (nI h) (m_wI σ 12 δ (nI (0 + 1))) = f_X11_begin (nI A) (m_f (m_wI σ 12 δ (nI (0 + 1))) 20 f)) (c : mOut C Z (δ + 1) (m_f (m_wI σ 12 δ (nI (0 + 1))) 20 f) (e_T ρ) oc (f_X11_begin (nI A) (m_f (m_wI σ 12 δ (nI (0 + 1))) 20 f))) : mEnd C Z δ σ (e_T ρ) σ oc := by
  refine mEnd.tail (by omega) t.2.1 ((one_hands0 t hh h32 (by omega) (by rcases hs with z | z | z | z <;> simp [z])).trans h1) c (fun τ e => ?_)
  have tt : mTop C Z oc.2.2 δ h 1 p τ := (t.next.f20 f).after hm4 e
  exact ⟨_, one_hands1 tt hh h32 (by omega) hs, e.upL frS (fun z => e.2.2.2.1 z)⟩
theorem beg_fail {v : Int32} {f : Nat → Int64} (hd : δ + h ≤ 32) (h32 : h_n C ≤ 32) (hh : h < h_n C) (hm4 : h_m C h ≤ 4) (hs : h_so C h = 15 ∨ h_so C h = 16 ∨ h_so C h = 17 ∨ h_so C h = 18) (t : mTop C Z ρ δ h 1 p (m_f (m_wI σ 12 δ v) 20 f)) (τ : mS) (e : mPop C Z (δ + 1) (m_f (m_wI σ 12 δ v) 20 f) oc τ) (c0 : oc.1 ≠ 0) : ∃ υ, f_X11_one τ = some ((), υ) ∧ mPop C Z δ σ oc υ := by
  have tt : mTop C Z oc.2.2 δ h 1 p τ := t.after hm4 e
  exact ⟨_, one_beg1f tt hh h32 (by omega) hs (by rw [e.2.2.1]; exact c0), e.up frS⟩
theorem beg_last {v : Int32} {f : Nat → Int64} (hd : δ + h ≤ 32) (h32 : h_n C ≤ 32) (hh : h < h_n C) (hm4 : h_m C h ≤ 4) (hs : h_so C h = 15 ∨ h_so C h = 16 ∨ h_so C h = 17 ∨ h_so C h = 18) (t : mTop C Z ρ δ h 2 p (m_f (m_wI σ 12 δ v) 20 f)) (hS : mFr δ σ0 σ) (τ : mS) (e : mPop C Z (δ + 1) (m_f (m_wI σ 12 δ v) 20 f) oc τ) : ∃ υ, f_X11_one τ = some ((), υ) ∧ mPop C Z δ σ0 oc υ := by
  have tt : mTop C Z oc.2.2 δ h 2 p τ := t.after hm4 e
  exact ⟨_, one_beg2 tt hh h32 (by omega) hs, e.up (hS.trans frS)⟩
theorem m_node (hC : wfC C) (hP : rHyp C Z h P) (hO : ∀ g q ρ1, g < h → okS ρ1 → wfV C ρ1 → okA C g ρ1 q → okO C g ρ1 (P g q ρ1)) (hT : ∀ g q ρ1, g < h → okS ρ1 → wfV C ρ1 → okA C g ρ1 q → (P g q ρ1).1 = 0 → e_T ρ1 < e_T (P g q ρ1).2.2)
    (hh : h < h_n C) (hd : δ + h ≤ 32) (hS : okS ρ) (hV : wfV C ρ) (hp : okA C h ρ p) (t : mTop C Z ρ δ h 0 p σ) (h8 : m_I σ 8 = 0) (h13 : m_aI σ 13 δ = nI 0) : mEnd C Z δ σ (e_T ρ) σ (e_act C P h p ρ) := by
  have h32 := hC.1
  have hδ : δ ≤ 32 := by omega
  obtain ⟨⟨hm4, hkr, hkk⟩, hw⟩ := hC.2 h hh
  have t1 := t.next
  have acts : h_so C h ≤ 10 → mEnd C Z δ σ (e_T ρ) σ (e_act C P h p ρ) := fun hs => by
    obtain ⟨τ, e1, e2⟩ := m_acts (P := P) hC hh hS hp t1.1 t1.2.1 hδ t1.2.2.1 t1.2.2.2.2 hs
    have le := (act_ok hC hh hS hV hp hO).2.1.2.1
    exact mEnd.pop hδ t.2.1 ((one_acts t hh h32 hδ hs).trans e1) (e2.to mFr.w12) le
  rcases hw with ⟨hs, w1, w2, w3, w4⟩ | ⟨hs, w1, w2, w3, w4⟩ | ⟨hs, w1, w2, w3, w4⟩ | ⟨hs, w1, w2, w3, w4⟩ | ⟨hs, w1, w2, w3, w4⟩ | ⟨hs, w1, w2, w3, w4⟩ | ⟨hs, w1, w2, w3, w4⟩ | ⟨hs, w1, w2, w3, w4⟩ | ⟨hs, w1, w2, w3, w4⟩ | ⟨hs, w1, w5, w2, w3, w4⟩ | ⟨hs, w1, w2, w3, w4⟩ |
    ⟨hs, A, B, a1, a2, a3, a4, a5, a6, w2, w3, w4⟩ | ⟨hs, A, B, a1, a2, a3, a4, w2, w3, w4⟩ | ⟨hs, A, a1, a2, a3, a4, w2, w3, w4⟩ | ⟨hs, A, a1, a2, a3, w2, w3, w4⟩ |
    ⟨hs, A, B, G, a1, a2, a3, a4, a5, a6, a7, a8, w2, w3, w4⟩ | ⟨hs, A, G, a1, a2, a3, a4, a5, a6, a7, a8, w2, w3, w4⟩ | ⟨hs, A, G, a1, a2, a3, a4, a5, a6, w2, w3, w4⟩ |
    ⟨hs, A, B, G, a1, a2, a3, a4, a5, a6, a7, a8, a9, ⟨b1, b2, b3⟩, w2, w3, w4⟩ | ⟨hs, A, G, a1, a2, a3, a4, a5, a6, a7, a8, a9, b1, w2, w3, w4⟩ | ⟨hs, A, G, a1, a2, a3, a4, a5, a6, a7, a8, a9, b1, w2, w3, w4⟩ |
    ⟨hs, A, a1, a2, a3, a4, a5, w2, w3, w4⟩ | ⟨hs, A, a1, a2, a3, a4, a5⟩
  · exact acts (by rw [hs]; decide)
  · exact acts (by rw [hs]; decide)
  · exact acts (by rw [hs]; decide)
  · exact acts (by rw [hs]; decide)
  · exact acts (by rw [hs]; decide)
  · exact acts (by rw [hs]; decide)
  · exact acts (by rw [hs]; decide)
  · exact acts (by rw [hs]; decide)
  · exact acts (by rw [hs]; decide)
  · exact acts (by rw [hs]; decide)
  · exact acts (by rw [hs]; decide)
  · rw [act_11 hs, a2, a3, nt_nI (by omega), nt_nI (by omega)]
    obtain ⟨f, f1, f2⟩ := hands_11 t1 hh h32 hδ hm4 hs a2 a3 (by omega)
    exact node_hands hd h32 hh hm4 (by simp [hs]) t f1 (goM hP a1 hd hS hV (kd_drop w2 w4 hp) t1.1 t1.2.1 (fun j hj => f2 j (by omega)))
  · have hmA := (hC.2 A (by omega)).1.1
    rw [act_12 hs, a2, a3, nt_nI (by omega), nt_nI (by omega)]
    obtain ⟨f, f1, f2⟩ := hands_12 t1 hh h32 hδ hm4 hs a2 a3 (by omega)
    exact node_hands hd h32 hh hm4 (by simp [hs]) t f1 (goM hP a1 hd hS hV (kd_swap a4 w2 w4 hp) t1.1 t1.2.1 (fun j hj => f2 j (by omega)))
  · have hmA := (hC.2 A (by omega)).1.1
    rw [act_13 hs, a2, nt_nI (by omega)]
    obtain ⟨f, f1, f2⟩ := hands_cons t1 hh h32 hδ (by omega) (Or.inl hs) a2 (v := p 0) (fun _ => ⟨rfl, by omega⟩) (fun z => by rw [hs] at z; exact absurd z (by decide))
    exact node_hands hd h32 hh hm4 (by simp [hs]) t f1 (goM hP a1 hd hS hV (kd_twice a3 a4 w2 w4 hp) t1.1 t1.2.1 (fun j hj => f2 j (by omega)))
  · have hmA := (hC.2 A (by omega)).1.1
    have hv := (hV h hh).2 hs
    rw [a2, nt_nI (by omega)] at hv
    rw [act_14 hs, a2, nt_nI (by omega)]
    obtain ⟨f, f1, f2⟩ := hands_cons t1 hh h32 hδ (by omega) (Or.inr hs) a2 (v := h_v C h) (fun z => by rw [hs] at z; exact absurd z (by decide)) (fun _ => rfl)
    exact node_hands hd h32 hh hm4 (by simp [hs]) t f1 (goM hP a1 hd hS hV (kd_cons a3 w2 w4 hp hv) t1.1 t1.2.1 (fun j hj => f2 j (by omega)))
  · have hmA := (hC.2 A (by omega)).1.1
    have hsb : h_so C h = 15 ∨ h_so C h = 16 ∨ h_so C h = 17 ∨ h_so C h = 18 := by simp [hs]
    rw [act_15 hs, a3, a4, a5, nt_nI (by omega), nt_nI (by omega), nt_nI (by omega)]
    obtain ⟨f, f1, f2⟩ := begins_c t1 hh h32 hδ hm4 hs a4 (by omega) a5
    have ok1 := hO G (fun _ => p B) ρ a2 hS hV (kd_filG a6 a7 w2 w4 hp)
    refine mEnd.bind hδ t.2.1 ((one_beg0 t hh h32 hδ hsb).trans f1) (goM hP a2 hd hS hV (kd_filG a6 a7 w2 w4 hp) t1.1 t1.2.1 (fun j hj => (congrArg f (show j = 0 by omega)).trans f2)) (beg_fail hd h32 hh hm4 hsb (t1.f20 f)) (fun τ e c0 => ?_)
    have tt : mTop C Z _ δ h 1 p τ := (t1.f20 f).after hm4 e
    have t2 := tt.next
    obtain ⟨g, g1, g2⟩ := goes_15 t2 hh h32 hδ hm4 hs a3 a4 (by omega)
    have eL : m_L (m_wI τ 12 δ (nI (1 + 1))) 1 = (P G (fun _ => p B) ρ).2.1 := e.2.2.2.1 c0
    rw [eL] at g2
    have fr : mFr δ σ τ := frS.trans (e.2.2.2.2.le (by omega))
    exact mEnd.tail hδ tt.2.1 ((one_beg1 tt hh h32 hδ hsb (e.2.2.1.trans c0)).trans g1) (goM hP a1 hd ok1.1 (hV.mono ok1.2.1) (kd_filA a8 w2 w4 hp _ _ ok1.2.1 (ok1.2.2 c0)) t2.1 t2.2.1 (fun j hj => g2 j (by omega))) (beg_last hd h32 hh hm4 hsb (t2.f20 g) fr)
  · have hmA := (hC.2 A (by omega)).1.1
    have hsb : h_so C h = 15 ∨ h_so C h = 16 ∨ h_so C h = 17 ∨ h_so C h = 18 := by simp [hs]
    rw [act_16 hs, a3, a4, nt_nI (by omega), nt_nI (by omega)]
    obtain ⟨f, f1, f2⟩ := begins_b t1 hh h32 hδ hm4 hs a4
    have ok1 := hO G p ρ a2 hS hV (kd_foldG a7 a8 w2 w4 hp)
    refine mEnd.bind hδ t.2.1 ((one_beg0 t hh h32 hδ hsb).trans f1) (goM hP a2 hd hS hV (kd_foldG a7 a8 w2 w4 hp) t1.1 t1.2.1 (fun j hj => f2 j (by omega))) (beg_fail hd h32 hh hm4 hsb (t1.f20 f)) (fun τ e c0 => ?_)
    have tt : mTop C Z _ δ h 1 p τ := (t1.f20 f).after hm4 e
    have t2 := tt.next
    obtain ⟨g, g1, g2⟩ := goes_16 t2 hh h32 hδ (by omega) hs a3
    have eL : m_L (m_wI τ 12 δ (nI (1 + 1))) 1 = (P G p ρ).2.1 := e.2.2.2.1 c0
    rw [eL] at g2
    have fr : mFr δ σ τ := frS.trans (e.2.2.2.2.le (by omega))
    exact mEnd.tail hδ tt.2.1 ((one_beg1 tt hh h32 hδ hsb (e.2.2.1.trans c0)).trans g1) (goM hP a1 hd ok1.1 (hV.mono ok1.2.1) (kd_foldA a5 a6 w2 w4 hp _ _ ok1.2.1 (ok1.2.2 c0)) t2.1 t2.2.1 (fun j hj => g2 j (by omega))) (beg_last hd h32 hh hm4 hsb (t2.f20 g) fr)
  · have hsb : h_so C h = 15 ∨ h_so C h = 16 ∨ h_so C h = 17 ∨ h_so C h = 18 := by simp [hs]
    rw [act_17 hs, a3, a4, nt_nI (by omega), nt_nI (by omega)]
    obtain ⟨f, f1, f2⟩ := begins_a t1 hh h32 hδ hm4 (by rw [hs]; decide) (by rw [hs]; decide) a3
    have hA := kd_same w2 w4 hp
    have ok1 := hO A p ρ a1 hS hV hA
    refine mEnd.bind hδ t.2.1 ((one_beg0 t hh h32 hδ hsb).trans f1) (goM hP a1 hd hS hV hA t1.1 t1.2.1 (fun j hj => f2 j (by omega))) (beg_fail hd h32 hh hm4 hsb (t1.f20 f)) (fun τ e c0 => ?_)
    have tt : mTop C Z _ δ h 1 p τ := (t1.f20 f).after hm4 e
    have t2 := tt.next
    obtain ⟨g, g1, g2⟩ := goes_17 t2 hh h32 hs a4
    have eL : m_L (m_wI τ 12 δ (nI (1 + 1))) 1 = (P A p ρ).2.1 := e.2.2.2.1 c0
    rw [eL] at g2
    have fr : mFr δ σ τ := frS.trans (e.2.2.2.2.le (by omega))
    exact mEnd.tail hδ tt.2.1 ((one_beg1 tt hh h32 hδ hsb (e.2.2.1.trans c0)).trans g1) (goM hP a2 hd ok1.1 (hV.mono ok1.2.1) (kd_thenG (A := A) a5 a6 _ _ ok1.2.1 (ok1.2.2 c0)) t2.1 t2.2.1 (fun j hj => by
      have : j = 0 := by omega
      subst this; exact g2)) (beg_last hd h32 hh hm4 hsb (t2.f20 g) fr)
  · have hsb : h_so C h = 15 ∨ h_so C h = 16 ∨ h_so C h = 17 ∨ h_so C h = 18 := by simp [hs]
    rw [act_18 hs, a4, a5, a6, nt_nI (by omega), nt_nI (by omega), nt_nI (by omega)]
    unfold t_guard
    obtain ⟨f, f1, f2⟩ := begins_a t1 hh h32 hδ hm4 (by rw [hs]; decide) (by rw [hs]; decide) a4
    have hA := kd_guardA a8 a9 w2 w4 hp
    have ok1 := hO A p ρ a1 hS hV hA
    refine mEnd.bind hδ t.2.1 ((one_beg0 t hh h32 hδ hsb).trans f1) (goM hP a1 hd hS hV hA t1.1 t1.2.1 (fun j hj => f2 j (by omega))) (beg_fail hd h32 hh hm4 hsb (t1.f20 f)) (fun τ e c0 => ?_)
    have tt : mTop C Z _ δ h 1 p τ := (t1.f20 f).after hm4 e
    have t2 := tt.next
    have eL : m_L (m_wI τ 12 δ (nI (1 + 1))) 1 = (P A p ρ).2.1 := e.2.2.2.1 c0
    have ht : (P A p ρ).2.1 = 0 ∨ (P A p ρ).2.1 = 1 := (okv_cast (ok1.2.2 c0) a7).1 rfl
    obtain ⟨g, g1, g2⟩ := goes_18 t2 hh h32 hδ hm4 hs a5 a6 (by rw [eL]; exact ht)
    rw [eL] at g1
    have fr : mFr δ σ τ := frS.trans (e.2.2.2.2.le (by omega))
    have hBG := kd_guardB b1 b3 w2 w4 hp _ ok1.2.1
    by_cases cv : (P A p ρ).2.1 = 0
    · rw [if_pos cv] at g1 ⊢
      exact mEnd.tail hδ tt.2.1 ((one_beg1 tt hh h32 hδ hsb (e.2.2.1.trans c0)).trans g1) (goM hP a3 hd ok1.1 (hV.mono ok1.2.1) hBG.2 t2.1 t2.2.1 (fun j hj => g2 j (by omega))) (beg_last hd h32 hh hm4 hsb (t2.f20 g) fr)
    · rw [if_neg cv] at g1 ⊢
      exact mEnd.tail hδ tt.2.1 ((one_beg1 tt hh h32 hδ hsb (e.2.2.1.trans c0)).trans g1) (goM hP a2 hd ok1.1 (hV.mono ok1.2.1) hBG.1 t2.1 t2.2.1 (fun j hj => g2 j (by omega))) (beg_last hd h32 hh hm4 hsb (t2.f20 g) fr)
  · have hmG := (hC.2 G (by omega)).1.1
    rw [act_19 hs, a3, a4, nt_nI (by omega), nt_nI (by omega)]
    unfold t_catch
    obtain ⟨f, f1, f2⟩ := begins_a t1 hh h32 hδ hm4 (by rw [hs]; decide) (by rw [hs]; decide) a3
    have hA := kd_same w2 w4 hp
    have ok1 := hO A p ρ a1 hS hV hA
    have c1 := goM hP a1 hd hS hV hA t1.1 t1.2.1 (f := f) (fun j hj => f2 j (by omega))
    have h1 := (catch_0 t hh h32 hδ hs).trans f1
    by_cases cc : (P A p ρ).1 = 0 ∨ (P A p ρ).1 = 7 ∨ ¬ (h_b C h = -1 ∨ h_b C h = (P A p ρ).1)
    · rw [if_pos cc]
      refine mEnd.tail hδ t.2.1 h1 c1 (fun τ e => ?_)
      have tt : mTop C Z _ δ h 1 p τ := (t1.f20 f).after hm4 e
      exact ⟨_, catch_g tt hh h32 hδ hs e.2.2.1 cc, e.up frS⟩
    · rw [if_neg cc]
      refine mEnd.child hδ t.2.1 h1 c1 (fun τ e c7 => ?_) (fun τ e c7 => absurd (Or.inr (Or.inl c7)) cc)
      have tt : mTop C Z _ δ h 1 p τ := (t1.f20 f).after hm4 e
      have t2 := tt.next
      obtain ⟨g, g1, g2⟩ := catch_h tt hh h32 hδ hs e.2.2.1 cc a4
      have fr : mFr δ σ τ := frS.trans (e.2.2.2.2.le (by omega))
      refine mEnd.tail hδ tt.2.1 g1 (goM hP a2 hd ok1.1 (hV.mono ok1.2.1) (kd_catG a7 a9 b1 w2 w4 hp _ _ ok1.2.1) t2.1 t2.2.1 (fun j hj => g2 j (by omega) (by omega))) (fun υ e2 => ?_)
      have t3 : mTop C Z _ δ h 2 p υ := (t2.f20 g).after hm4 e2
      exact ⟨_, catch_2 t3 hh h32 hδ hs, e2.up (fr.trans frS)⟩
  · have hmG := (hC.2 G (by omega)).1.1
    rw [act_20 hs, a3, a4, nt_nI (by omega), nt_nI (by omega)]
    unfold t_last
    obtain ⟨f, f1, f2⟩ := begins_a t1 hh h32 hδ hm4 (by rw [hs]; decide) (by rw [hs]; decide) a3
    have hA := kd_same w2 w4 hp
    have ok1 := hO A p ρ a1 hS hV hA
    have c1 := goM hP a1 hd hS hV hA t1.1 t1.2.1 (f := f) (fun j hj => f2 j (by omega))
    have h1 := (last_0 t hh h32 hδ hs).trans f1
    by_cases c7 : (P A p ρ).1 = 7
    · rw [if_pos c7]
      refine mEnd.tail hδ t.2.1 h1 c1 (fun τ e => ?_)
      have tt : mTop C Z _ δ h 1 p τ := (t1.f20 f).after hm4 e
      have u := e.up (frS (σ := σ) (δ := δ) (f := f) (v := nI (0 + 1))) (v := nI (1 + 1))
      exact ⟨_, last_s tt hh h32 hδ hs (e.2.2.1.trans c7), ⟨u.1, u.2.1, c7.symm, fun z => by rw [c7] at z; exact absurd z (by decide), u.2.2.2.2⟩⟩
    · rw [if_neg c7]
      have hA2 : okA C G (P A p ρ).2.2 (g_cons (P A p ρ).1.toInt64 (g_cons (if (P A p ρ).1 = 0 then (P A p ρ).2.1 else t_none (h_r C h)) p)) := by
        refine kd_lastG a6 a7 a9 b1 w2 w4 hp _ _ _ ok1.2.1 ?_
        by_cases c : (P A p ρ).1 = 0
        · rw [if_pos c]; exact ok1.2.2 c
        · rw [if_neg c, w3]; exact okv.tnone _ _
      have ok2 := hO G _ _ a2 ok1.1 (hV.mono ok1.2.1) hA2
      refine mEnd.child hδ t.2.1 h1 c1 (fun τ e c7 => ?_) (fun τ e z => absurd z c7)
      have tt : mTop C Z _ δ h 1 p τ := (t1.f20 f).after hm4 e
      have t2 := tt.next
      obtain ⟨g, g1, g2⟩ := last_1 tt hh h32 hδ hs e.2.2.1 c7 a1 a3 a4
      have fr : mFr δ σ τ := frS.trans (e.2.2.2.2.le (by omega))
      have t2' : mTop C Z (P A p ρ).2.2 δ h 2 p (m_wI (m_wI τ 12 δ (nI (1 + 1))) 14 δ (P A p ρ).1) := t2
      have fr2 : mFr δ σ (m_f (m_wI (m_wI τ 12 δ (nI (1 + 1))) 14 δ (P A p ρ).1) 20 g) := ((fr.trans mFr.w12).trans mFr.w14).trans mFr.f20
      have e14 : m_aI (m_f (m_wI (m_wI τ 12 δ (nI (1 + 1))) 14 δ (P A p ρ).1) 20 g) 14 δ = (P A p ρ).1 := by show (if 14 = 14 ∧ δ = δ then (P A p ρ).1 else _) = _; simp
      have hg : ∀ j, j < h_m C G → g j = g_cons (P A p ρ).1.toInt64 (g_cons (if (P A p ρ).1 = 0 then (P A p ρ).2.1 else t_none (h_r C h)) p) j := fun j hj => by
        rw [g2 j (by omega) (by omega), ← w3]
        by_cases c : (P A p ρ).1 = 0
        · rw [if_pos c, if_pos c, e.2.2.2.1 c]
        · rw [if_neg c, if_neg c]
      have c2 := goM hP a2 hd ok1.1 (hV.mono ok1.2.1) hA2 t2'.1 t2'.2.1 (f := g) hg
      generalize P G (g_cons (P A p ρ).1.toInt64 (g_cons (if (P A p ρ).1 = 0 then (P A p ρ).2.1 else t_none (h_r C h)) p)) (P A p ρ).2.2 = oc at *
      have pop : ∀ υ, mPop C Z (δ + 1) (m_f (m_wI (m_wI τ 12 δ (nI (1 + 1))) 14 δ (P A p ρ).1) 20 g) oc υ → ∃ κ, f_X11_one υ = some ((), κ) ∧ m_I κ 7 = nI δ ∧ mR C oc.2.2 Z κ ∧ m_I κ 8 = (if oc.1 = 0 then (P A p ρ).1 else oc.1) ∧ (oc.1 = 0 → m_L κ 1 = oc.2.1) ∧ mFr δ σ κ := fun υ e2 => by
        have t3 : mTop C Z _ δ h 2 p υ := (t2'.f20 g).after hm4 e2
        have q := last_2 t3 hh h32 hδ hs e2.2.2.1
        have u := e2.up fr2 (v := nI (2 + 1))
        have e14' : m_aI υ 14 δ = (P A p ρ).1 := (e2.2.2.2.2 δ (by omega)).2.2.2.1.trans e14
        rw [e14'] at q
        exact ⟨_, q, u.1, u.2.1, rfl, u.2.2.2.1, u.2.2.2.2⟩
      by_cases c0 : oc.1 = 0
      · rw [if_pos c0]
        refine mEnd.child hδ tt.2.1 g1 c2 (fun υ e2 _ => ?_) (fun υ e2 z => by rw [c0] at z; exact absurd z (by decide))
        obtain ⟨κ, k1, k2, k3, k4, k5, k6⟩ := pop υ e2
        rw [if_pos c0] at k4
        exact mEnd.pop hδ e2.1 k1 ⟨k2, k3, k4, fun _ => k5 c0, k6⟩ (Nat.le_refl _)
      · rw [if_neg c0]
        refine mEnd.tail hδ tt.2.1 g1 c2 (fun υ e2 => ?_)
        obtain ⟨κ, k1, k2, k3, k4, k5, k6⟩ := pop υ e2
        rw [if_neg c0] at k4
        exact ⟨κ, k1, k2, k3, k4, k5, k6⟩
  · rw [act_21 hs, a2, nt_nI (by omega)]
    have hm : 2 ≤ h_m C h := by omega
    have key : ∀ (n i : Nat) (v : Int64) (ρ1 : eS) (σ1 : mS), n + i = 3000 → i ≤ e_T ρ1 → e_le ρ ρ1 → okS ρ1 → okv ρ1 (h_r C A) v → m_I σ1 7 = nI (δ + 1) → mFr δ σ σ1 → lStep C Z ρ1 δ h A p i v σ1 → mEnd C Z δ σ (e_T ρ1) σ1 (t_loop P A (if 2001 < p 0 then 2001 else p 0) p n i v ρ1) := by
      intro n
      induction n with
      | zero => intro i v ρ1 σ1 h1 h2 le s1; have := s1.2.1; omega
      | succ n ih =>
        intro i v ρ1 σ1 h1 h2 le s1 hv h7 fr st
        have hi := s1.2.1
        unfold t_loop
        have cN : (if 2001 < p 0 then 2001 else p 0) ≤ lN i ↔ ¬ lN i < p 0 := by
          by_cases c : 2001 < p 0
          · rw [if_pos c, Int64.lt_iff_toInt_lt, Int64.le_iff_toInt_le, lN_toInt (by omega)]
            rw [Int64.lt_iff_toInt_lt] at c
            rw [show (2001 : Int64).toInt = 2001 by decide] at c ⊢
            constructor
            · intro z; omega
            · intro z; omega
          · rw [if_neg c, Int64.lt_iff_toInt_lt, Int64.le_iff_toInt_le]; omega
        by_cases c : lN i < p 0
        · rw [if_neg (fun z => cN.mp z c)]
          obtain ⟨S2, f, f1, f2, f3, f4, f5⟩ := st.1 c
          have hA2 := kd_loop a4 a5 w2 w4 hp v i ρ1 le hv
          have ok1 := hO A _ ρ1 a1 s1 (hV.mono le) hA2
          have hT1 := hT A _ ρ1 a1 s1 (hV.mono le) hA2
          have fr2 : mFr δ σ (m_f S2 20 f) := (fr.trans f4).trans mFr.f20
          refine mEnd.bind hδ h7 f1 (goM hP a1 hd s1 (hV.mono le) hA2 f2.1 f2.2.1 (fun j hj => f5 j (by omega))) (fun τ e c0 => ?_) (fun τ e c0 => ?_)
          · have tt : mTop C Z _ δ h (i + 1) p τ := (f2.f20 f).after hm4 e
            exact ⟨_, loop_f tt hh h32 hδ hs (by omega) (by rw [e.2.2.1]; exact c0), e.up fr2⟩
          · have tt : mTop C Z _ δ h (i + 1) p τ := (f2.f20 f).after hm4 e
            have e13 : m_aI τ 13 δ = nI i := (e.2.2.2.2 δ (by omega)).2.2.1.trans f3
            refine ih (i + 1) _ _ τ (by omega) (by have := hT1 c0; omega) (le.trans ok1.2.1) ok1.1 (ok1.2.2 c0) tt.2.1 (fr2.trans (e.2.2.2.2.le (by omega))) ?_
            exact loop_next tt hh h32 hδ hm hm4 hs (by omega) a2 (e.2.2.1.trans c0) e13 (e.2.2.2.1 c0)
        · rw [if_pos (cN.mpr c)]
          obtain ⟨τ, e1, e2⟩ := st.2 c
          exact mEnd.pop hδ h7 e1 (e2.to fr) (Nat.le_refl _)
    exact key 3000 0 (p 1) ρ σ rfl (Nat.zero_le _) (e_le.refl ρ) hS (kd_loop1 a3 a5 w2 w4 hp) t.2.1 (mFr.refl δ σ) (loop_first t hh h32 hδ hm hm4 hs a2 h8 h13)
  · rw [act_22 hs, a2, nt_nI (by omega)]
    unfold t_as
    obtain ⟨⟨-, hAr, hAk⟩, -⟩ := hC.2 A (by omega)
    obtain ⟨g1, g2⟩ := kd_asA hkk hAk a3 a5 hp
    obtain ⟨f, f1, f2⟩ := hands_22 t1 hh h32 hδ hm4 hs a1 a3 a2 g2
    have ok1 := hO A _ ρ a1 hS hV g1
    refine mEnd.bind hδ t.2.1 ((one_hands0 t hh h32 hδ (by simp [hs])).trans f1) (goM hP a1 hd hS hV g1 t1.1 t1.2.1 (fun j hj => f2 j (by omega))) (fun τ e c0 => ?_) (fun τ e c0 => ?_)
    · have tt : mTop C Z _ δ h 1 p τ := (t1.f20 f).after hm4 e
      exact ⟨_, (one_as1 tt hh h32 hδ hs a1 a2).1 (by rw [e.2.2.1]; exact c0), e.upL frS (fun z => absurd z c0)⟩
    · have tt : mTop C Z _ δ h 1 p τ := (t1.f20 f).after hm4 e
      obtain ⟨r, q1, q2, q3⟩ := wid_ok hAr hkr a4 (ok1.2.2 c0)
      have e1 := (one_as1 tt hh h32 hδ hs a1 a2).2 (e.2.2.1.trans c0) _ r (e.2.2.2.1 c0) q2
      rw [q1]
      refine mEnd.pop hδ e.1 e1 ⟨rfl, ?_, ?_, fun _ => rfl, ?_⟩ (Nat.le_refl _)
      · exact tt.1
      · exact e.2.2.1.trans c0
      · exact ((((frS (σ := σ) (f := f) (v := nI (0 + 1))).trans (e.2.2.2.2.le (by omega))).trans mFr.w12).trans mFr.I7)
theorem m_run (hC : wfC C) : ∀ (d h : Nat) (p : Nat → Int64) (ρ : eS) (σ : mS) (δ : Nat), h < d → h < h_n C → δ + h ≤ 32 → okS ρ → wfV C ρ → okA C h ρ p → mR C ρ Z σ → m_I σ 7 = nI δ → (∀ j, j < h_m C h → m_aL σ 20 j = p j) → mOut C Z δ σ (e_T ρ) (eE C d h p ρ) (f_X11_begin (nI h) σ) := by
  intro d
  induction d with
  | zero => intro h p ρ σ δ hd; omega
  | succ d ih =>
    intro h p ρ σ δ hd hh hδ hS hV hp m h7 hF
    have h32 := hC.1
    have hT := hS.2.1
    have hm4 := (hC.2 h hh).1.1
    unfold eE
    by_cases cT : e_T ρ = 2000
    · rw [if_pos cT]
      obtain ⟨τ, e1, e2, e3, e4, e5⟩ := m_spent m cT h
      refine ⟨τ, 0, τ, e1, rfl, ⟨e3.trans h7, e2, e4, fun z => absurd (show (7 : Int32) = 0 from z) (by decide), e5 δ⟩, ?_⟩
      show 0 + 1 + 2 * e_T ρ ≤ 2 * e_T ρ + (if (7 : Int32) = 7 then 1 else 0)
      rw [if_pos rfl]; omega
    rw [if_neg cT]
    obtain ⟨τ, e1, e2, e3, e4, e5, e6, e7, e8, e9, e10⟩ := m_begin m h7 (by omega) (by omega) (nI h)
    have hP : rHyp C Z h (eE C d) := fun g p ρ S dep g1 g2 g3 g4 g5 g6 g7 g8 => ih g p ρ S dep (by omega) (by omega) g2 g3 g4 g5 g6 g7 g8
    have hO : ∀ g q ρ1, g < h → okS ρ1 → wfV C ρ1 → okA C g ρ1 q → okO C g ρ1 (eE C d g q ρ1) := fun g q ρ1 g1 g2 g3 g4 => eE_ok hC d g q ρ1 (by omega) g2 g3 g4
    have hT2 : ∀ g q ρ1, g < h → okS ρ1 → wfV C ρ1 → okA C g ρ1 q → (eE C d g q ρ1).1 = 0 → e_T ρ1 < e_T (eE C d g q ρ1).2.2 := fun g q ρ1 g1 g2 g3 g4 g5 => eE_T hC (by omega) g2 g3 g4 g5
    have t : mTop C Z (e_tick ρ) δ h 0 p τ := ⟨e2, e3, e5, e6, fun j hj => (e9 j (by omega)).trans (hF j hj)⟩
    obtain ⟨k, υ, k1, k2, k3⟩ := m_node hC hP hO hT2 hh hδ (hS.tick (by omega)) (hV.mono (le_tick ρ)) (hp.mono (le_tick ρ)) t e4 e7
    refine ⟨τ, k, υ, e1, k1, k2.to e10, ?_⟩
    have : e_T (e_tick ρ) = e_T ρ + 1 := rfl
    omega
end MNODE
