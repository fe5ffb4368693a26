/-! the class runs what is made of others -/
def pHyp (ad : Nat → Nat) (C : hS) (Z : zS) (q h : Nat) (P : eP) (Pf : Nat → Int32 → Int32 → wS → Option (Int64 × wS)) : Prop :=
  ∀ (g : Nat) (p : Nat → Int64) (ρ : eS) (S : wS) (dep : Nat), g < h → dep + g ≤ 40 → okS ρ → wfV C ρ → okA C g ρ p → cI ad C ρ Z q S → s_I S 11 (ad 6) = 0 → (∀ j, j < h_m C g → s_aL S (ad 7) (4 * dep + j) = p j) → pOut ad C Z q S (4 * (dep + 1)) (P g p ρ) (Pf (ad 6) (nI g) (nI dep) S)
theorem call_id {α σ : Type} {o : Option (α × σ)} : o_call o (fun x S => some (x, S)) = o := by cases o <;> rfl
section PERF
variable {ad : Nat → Nat} {C : hS} {ρ : eS} {Z : zS} {q : Nat} {S : wS} {P : eP} {Pf : Nat → Int32 → Int32 → wS → Option (Int64 × wS)} {h dep : Nat} {p : Nat → Int64}
theorem pOut.mono {S0 : wS} {l l0 : Nat} {o : eO} {res : Option (Int64 × wS)} (k : pOut ad C Z q S l o res) (hl : l0 ≤ l) (hF : ∀ i, i < l0 → s_aL S (ad 7) i = s_aL S0 (ad 7) i) : pOut ad C Z q S0 l0 o res := by
  obtain ⟨r, S1, e1, e2, e3, e4, e5⟩ := k
  exact ⟨r, S1, e1, e2, e3, e4, fun i hi => (e5 i (by omega)).trans (hF i hi)⟩
/-- one of the same handles as they stand now -/
theorem cI.hd (k : cI ad C ρ Z q S) (hh : h < h_n C) : hdA C ad S h := (k.1.2.1.2.2.2.2.2.2 h hh).2
theorem on_00 (k : cI ad C ρ Z q S) (hd : dep ≤ 40) : ∃ g, f_X7_handOn (ad 6) (nI dep) 0 0 S = some ((), s_fr S (ad 7) g) ∧ (∀ j, j < 4 → g (4 * (dep + 1) + j) = s_aL S (ad 7) (4 * dep + j)) ∧ ∀ i, i < 4 * (dep + 1) → g i = s_aL S (ad 7) i := by
  obtain ⟨g, e1, e2, e3⟩ := run_on k hd (f := 0) (t := 0) (by decide) (by decide)
  exact ⟨g, e1, fun j hj => e2 j hj, fun i hi => e3 i (by omega)⟩
theorem on_01 (k : cI ad C ρ Z q S) (hd : dep ≤ 40) : ∃ g, f_X7_handOn (ad 6) (nI dep) 0 1 S = some ((), s_fr S (ad 7) g) ∧ (∀ j, j < 3 → g (4 * (dep + 1) + 1 + j) = s_aL S (ad 7) (4 * dep + j)) ∧ ∀ i, i < 4 * (dep + 1) → g i = s_aL S (ad 7) i := by
  obtain ⟨g, e1, e2, e3⟩ := run_on k hd (f := 0) (t := 1) (by decide) (by decide)
  exact ⟨g, e1, fun j hj => e2 j hj, fun i hi => e3 i (by omega)⟩
theorem on_02 (k : cI ad C ρ Z q S) (hd : dep ≤ 40) : ∃ g, f_X7_handOn (ad 6) (nI dep) 0 2 S = some ((), s_fr S (ad 7) g) ∧ (∀ j, j < 2 → g (4 * (dep + 1) + 2 + j) = s_aL S (ad 7) (4 * dep + j)) ∧ ∀ i, i < 4 * (dep + 1) → g i = s_aL S (ad 7) i := by
  obtain ⟨g, e1, e2, e3⟩ := run_on k hd (f := 0) (t := 2) (by decide) (by decide)
  exact ⟨g, e1, fun j hj => e2 j hj, fun i hi => e3 i (by omega)⟩
theorem hand1 (k : cI ad C ρ Z q S) (hd : dep ≤ 40) {j : Nat} (hj : j < 4) (v : Int64) : f_X7_hand (ad 6) (nI dep + (1 : Int32)) (nI j) v S = some ((), s_fr S (ad 7) (fun i => if i = 4 * (dep + 1) + j then v else s_aL S (ad 7) i)) := by
  rw [nI_1]; exact run_hand k (by omega) hj v
/-- one that is run goes on from here -/
theorem goP (hP : pHyp ad C Z q h P Pf) {g : Nat} {p1 : Nat → Int64} (hg : g < h) (hd : dep + h ≤ 40) (hS : okS ρ) (hV : wfV C ρ) (hA : okA C g ρ p1) (k : cI ad C ρ Z q S) (h0 : s_I S 11 (ad 6) = 0) (hF : ∀ j, j < h_m C g → s_aL S (ad 7) (4 * (dep + 1) + j) = p1 j) :
    pOut ad C Z q S (4 * (dep + 2)) (P g p1 ρ) (Pf (ad 6) (nI g) (nI dep + (1 : Int32)) S) := by
  rw [nI_1]
  exact hP g p1 ρ S (dep + 1) hg (by omega) hS hV hA k h0 hF
theorem arr_drop (hC : wfC C) (hP : pHyp ad C Z q h P Pf) (hh : h < h_n C) (hd : dep + h ≤ 40) (hS : okS ρ) (hV : wfV C ρ) (k : cI ad C ρ Z q S) (h0 : s_I S 11 (ad 6) = 0) (hF : ∀ j, j < h_m C h → s_aL S (ad 7) (4 * dep + j) = p j)
    (hs : h_so C h = 11) {A B : Nat} (a1 : A < h) (a2 : h_a C h = nI A) (a3 : h_b C h = nI B) (a4 : B ≤ h_m C A) (a5 : h_m C A < 4) (a6 : h_m C h = h_m C A + 1) (hA : okA C A ρ (g_drop B p)) :
    pOut ad C Z q S (4 * (dep + 1)) (P A (g_drop B p) ρ) (f_X7_arrange Pf (ad 6) (ad (2 * h + 20)) (nI dep) S) := by
  obtain ⟨x1, x2, x3, x4, x5, x6, x7, x8, x9⟩ := k.hd hh
  unfold f_X7_arrange
  rw [gI_s x1 (x4.trans a3), gI_s x1 (x2.trans hs), if_pos rfl, ck_t k.2.1]
  obtain ⟨g, e1, e2, e3⟩ := on_00 k (by omega : dep ≤ 40)
  have k1 := k.fr g
  obtain ⟨g2, b1, b2, b3⟩ := run_on k1 (by omega : dep ≤ 40) (f := B + 1) (t := B) (by omega) (by omega)
  have k2 := k1.fr g2
  have y := k2.hd hh
  rw [call_s e1, ck_t k1.2.1, nI_1, call_s b1, gI_s y.1 (y.2.2.1.trans a2), ck_t k2.2.1, call_id]
  refine (goP hP a1 hd hS hV hA k2 h0 (fun j hj => ?_)).mono (by omega) (fun i hi => ?_)
  · rw [fr_at]
    unfold g_drop
    by_cases c : j < B
    · rw [if_pos c, b3 _ (by omega), fr_at, e2 j (by omega)]; exact hF j (by omega)
    · rw [if_neg c]
      have := b2 (j - B) (by omega)
      rw [show 4 * (dep + 1) + B + (j - B) = 4 * (dep + 1) + j by omega, show 4 * dep + (B + 1) + (j - B) = 4 * dep + (j + 1) by omega] at this
      rw [this, fr_at, e3 _ (by omega)]; exact hF (j + 1) (by omega)
  · rw [fr_at, b3 i (by omega), fr_at, e3 i hi]
theorem arr_swap (hC : wfC C) (hP : pHyp ad C Z q h P Pf) (hh : h < h_n C) (hd : dep + h ≤ 40) (hS : okS ρ) (hV : wfV C ρ) (k : cI ad C ρ Z q S) (h0 : s_I S 11 (ad 6) = 0) (hF : ∀ j, j < h_m C h → s_aL S (ad 7) (4 * dep + j) = p j)
    (hs : h_so C h = 12) {A B : Nat} (a1 : A < h) (a2 : h_a C h = nI A) (a3 : h_b C h = nI B) (a4 : B + 1 < h_m C A) (a5 : h_m C A ≤ 4) (a6 : h_m C h = h_m C A) (hA : okA C A ρ (g_swap B p)) :
    pOut ad C Z q S (4 * (dep + 1)) (P A (g_swap B p) ρ) (f_X7_arrange Pf (ad 6) (ad (2 * h + 20)) (nI dep) S) := by
  obtain ⟨x1, x2, x3, x4, x5, x6, x7, x8, x9⟩ := k.hd hh
  unfold f_X7_arrange
  rw [gI_s x1 (x4.trans a3), gI_s x1 (x2.trans hs), if_neg (by decide), if_pos rfl, ck_t k.2.1]
  obtain ⟨g, e1, e2, e3⟩ := on_00 k (by omega : dep ≤ 40)
  have k1 := k.fr g
  have t1 := run_taken k1 (d := dep) (j := B + 1) (by omega) (by omega)
  have u1 := hand1 k1 (dep := dep) (by omega) (j := B) (by omega) (s_aL (s_fr S (ad 7) g) (ad 7) (4 * dep + (B + 1)))
  have k2 := k1.fr (fun i => if i = 4 * (dep + 1) + B then s_aL (s_fr S (ad 7) g) (ad 7) (4 * dep + (B + 1)) else s_aL (s_fr S (ad 7) g) (ad 7) i)
  rw [call_s e1, ck_t k1.2.1, nI_1 B, call_s t1, ck_t k1.2.1, call_s u1, ck_t k2.2.1]
  rw [fr_fr] at k2 ⊢
  have t2 := run_taken k2 (d := dep) (j := B) (by omega) (by omega)
  have u2 := hand1 k2 (dep := dep) (by omega) (j := B + 1) (by omega)
  rw [call_s t2, ck_t k2.2.1, call_s (u2 _)]
  have k3 := k2.fr (fun i => if i = 4 * (dep + 1) + (B + 1) then s_aL (s_fr S (ad 7) (fun i => if i = 4 * (dep + 1) + B then s_aL (s_fr S (ad 7) g) (ad 7) (4 * dep + (B + 1)) else s_aL (s_fr S (ad 7) g) (ad 7) i)) (ad 7) (4 * dep + B) else s_aL (s_fr S (ad 7) (fun i => if i = 4 * (dep + 1) + B then s_aL (s_fr S (ad 7) g) (ad 7) (4 * dep + (B + 1)) else s_aL (s_fr S (ad 7) g) (ad 7) i)) (ad 7) i)
  have y := k3.hd hh
  rw [gI_s y.1 (y.2.2.1.trans a2), ck_t k3.2.1, call_id]
  refine (goP hP a1 hd hS hV hA k3 h0 (fun j hj => ?_)).mono (by omega) (fun i hi => ?_)
  · simp only [fr_at]
    unfold g_swap
    by_cases c : j = B
    · rw [if_pos c, if_neg (by omega), if_pos (by omega), e3 _ (by omega)]; exact hF (B + 1) (by omega)
    rw [if_neg c]
    by_cases c2 : j = B + 1
    · rw [if_pos c2, if_pos (by omega), if_neg (by omega), e3 _ (by omega)]; exact hF B (by omega)
    · rw [if_neg c2, if_neg (by omega), if_neg (by omega), e2 j (by omega)]; exact hF j (by omega)
  · simp only [fr_at]
    rw [if_neg (by omega), if_neg (by omega), e3 i hi]
theorem arr_cons (hC : wfC C) (hP : pHyp ad C Z q h P Pf) (hh : h < h_n C) (hd : dep + h ≤ 40) (hS : okS ρ) (hV : wfV C ρ) (k : cI ad C ρ Z q S) (h0 : s_I S 11 (ad 6) = 0) (hF : ∀ j, j < h_m C h → s_aL S (ad 7) (4 * dep + j) = p j)
    (hs : h_so C h = 13 ∨ h_so C h = 14) {A : Nat} {v : Int64} (a1 : A < h) (a2 : h_a C h = nI A) (a4 : h_m C A ≤ 4) (a6 : h_m C h + 1 = h_m C A) (hv : h_so C h = 13 → v = p 0 ∧ 0 < h_m C h) (hv2 : h_so C h = 14 → v = h_v C h) (hA : okA C A ρ (g_cons v p)) :
    pOut ad C Z q S (4 * (dep + 1)) (P A (g_cons v p) ρ) (f_X7_arrange Pf (ad 6) (ad (2 * h + 20)) (nI dep) S) := by
  obtain ⟨x1, x2, x3, x4, x5, x6, x7, x8, x9⟩ := k.hd hh
  obtain ⟨g, e1, e2, e3⟩ := on_01 k (by omega : dep ≤ 40)
  have k1 := k.fr g
  have u1 := hand1 k1 (dep := dep) (by omega) (j := 0) (by decide) v
  have k2 := k1.fr (fun i => if i = 4 * (dep + 1) + 0 then v else s_aL (s_fr S (ad 7) g) (ad 7) i)
  have y := k2.hd hh
  have main : pOut ad C Z q S (4 * (dep + 1)) (P A (g_cons v p) ρ) (Pf (ad 6) (nI A) (nI dep + (1 : Int32)) (s_fr (s_fr S (ad 7) g) (ad 7) (fun i => if i = 4 * (dep + 1) + 0 then v else s_aL (s_fr S (ad 7) g) (ad 7) i))) := by
    refine (goP hP a1 hd hS hV hA k2 h0 (fun j hj => ?_)).mono (by omega) (fun i hi => ?_)
    · simp only [fr_at]
      unfold g_cons
      by_cases c : j = 0
      · rw [if_pos c, if_pos (by omega)]
      · rw [if_neg c, if_neg (by omega)]
        have := e2 (j - 1) (by omega)
        rw [show 4 * (dep + 1) + 1 + (j - 1) = 4 * (dep + 1) + j by omega] at this
        rw [this]; exact hF (j - 1) (by omega)
    · simp only [fr_at]
      rw [if_neg (by omega), e3 i hi]
  unfold f_X7_arrange
  rcases hs with hs | hs
  · obtain ⟨v1, v2⟩ := hv hs
    have t1 : f_X7_taken (ad 6) (nI dep) 0 (s_fr S (ad 7) g) = some (v, s_fr S (ad 7) g) := by
      have := run_taken k1 (d := dep) (j := 0) (by omega) (by decide)
      rw [fr_at, e3 _ (by omega), hF 0 v2, ← v1] at this
      exact this
    rw [gI_s x1 rfl, gI_s x1 (x2.trans hs), if_neg (by decide), if_neg (by decide), if_pos rfl, ck_t k.2.1, call_s e1, ck_t k1.2.1, call_s t1, ck_t k1.2.1, call_s (show f_X7_hand (ad 6) (nI dep + (1 : Int32)) 0 v (s_fr S (ad 7) g) = _ from u1), gI_s y.1 (y.2.2.1.trans a2), ck_t k2.2.1, call_id]
    exact main
  · have v1 := hv2 hs
    have x6' : s_L (s_fr S (ad 7) g) 0 (ad (2 * h + 20)) = v := x6.trans v1.symm
    rw [gI_s x1 rfl, gI_s x1 (x2.trans hs), if_neg (by decide), if_neg (by decide), if_neg (by decide), ck_t k.2.1, call_s e1, gL_s (show s_K (s_fr S (ad 7) g) (ad (2 * h + 20)) = 1 from x1) x6', ck_t k1.2.1, call_s (show f_X7_hand (ad 6) (nI dep + (1 : Int32)) 0 v (s_fr S (ad 7) g) = _ from u1), gI_s y.1 (y.2.2.1.trans a2), ck_t k2.2.1, call_id]
    exact main
/-- the second of two, behind the first -/
theorem pOut.bind {S0 : wS} {l : Nat} {o : eO} {res : Option (Int64 × wS)} {f : Int64 → eS → eO} {F : Int64 → wS → Option (Int64 × wS)} (k : pOut ad C Z q S (l + 4) o res) (hl : ∀ i, i < l → s_aL S (ad 7) i = s_aL S0 (ad 7) i)
    (h1 : ∀ (v : Int64) (S1 : wS), o.1 ≠ 0 → s_K S1 (ad 6) = 7 → s_I S1 11 (ad 6) = o.1 → ∃ v1, F v S1 = some (v1, S1))
    (h2 : ∀ S1 : wS, o.1 = 0 → cI ad C o.2.2 Z q S1 → s_I S1 11 (ad 6) = 0 → (∀ i, i < l + 4 → s_aL S1 (ad 7) i = s_aL S (ad 7) i) → pOut ad C Z q S1 l (f o.2.1 o.2.2) (F o.2.1 S1)) : pOut ad C Z q S0 l (e_bind o f) (o_call res F) := by
  obtain ⟨r, S1, e1, e2, e3, e4, e5⟩ := k
  rw [call_s e1]
  unfold e_bind
  by_cases c : o.1 = 0
  · rw [if_pos c, e4 c]
    exact (h2 S1 c e2 (e3.trans c) e5).mono (Nat.le_refl _) (fun i hi => (e5 i (by omega)).trans (hl i hi))
  · rw [if_neg c]
    obtain ⟨v1, hv⟩ := h1 r S1 c e2.2.1 e3
    rw [hv]
    exact ⟨v1, S1, rfl, e2, e3, fun z => absurd z c, fun i hi => (e5 i (by omega)).trans (hl i hi)⟩
theorem run_filter (hC : wfC C) (hP : pHyp ad C Z q h P Pf) (hO : ∀ g q ρ1, g < h → okS ρ1 → wfV C ρ1 → okA C g ρ1 q → okO C g ρ1 (P g q ρ1)) (hh : h < h_n C) (hd : dep + h ≤ 40) (hS : okS ρ) (hV : wfV C ρ) (k : cI ad C ρ Z q S) (h0 : s_I S 11 (ad 6) = 0) (hF : ∀ j, j < h_m C h → s_aL S (ad 7) (4 * dep + j) = p j)
    {A B G : Nat} (a1 : A < h) (a2 : G < h) (a3 : h_a C h = nI A) (a4 : h_b C h = nI B) (a5 : h_c C h = nI G) (a6 : B < h_m C h) (a7 : h_m C G = 1) (a8 : h_m C A = h_m C h) (a9 : h_m C h ≤ 4) (hA : okA C G ρ (fun _ => p B)) (hA2 : ∀ v ρ1, e_le ρ ρ1 → okv ρ1 (h_r C G) v → okA C A ρ1 (g_at B v p)) :
    pOut ad C Z q S (4 * (dep + 1)) (e_bind (P G (fun _ => p B) ρ) (fun v ρ1 => P A (g_at B v p) ρ1)) (f_X7_filter Pf (ad 6) (ad (2 * h + 20)) (nI dep) S) := by
  obtain ⟨x1, x2, x3, x4, x5, x6, x7, x8, x9⟩ := k.hd hh
  unfold f_X7_filter
  have t1 := run_taken k (d := dep) (j := B) (by omega) (by omega)
  have u1 := hand1 k (dep := dep) (by omega) (j := 0) (by decide) (s_aL S (ad 7) (4 * dep + B))
  have k1 := k.fr (fun i => if i = 4 * (dep + 1) + 0 then s_aL S (ad 7) (4 * dep + B) else s_aL S (ad 7) i)
  have y := k1.hd hh
  rw [gI_s x1 (x4.trans a4), ck_t k.2.1, call_s t1, ck_t k.2.1, call_s (show f_X7_hand (ad 6) (nI dep + (1 : Int32)) 0 _ S = _ from u1), gI_s y.1 (y.2.2.2.2.1.trans a5), ck_t k1.2.1]
  have first := goP hP a2 hd hS hV hA k1 h0 (fun j hj => by
    have : j = 0 := by omega
    subst this
    rw [fr_at, if_pos rfl]; exact hF B (by omega))
  have ok1 := hO G (fun _ => p B) ρ a2 hS hV hA
  refine pOut.bind (l := 4 * (dep + 1)) first (fun i hi => by rw [fr_at, if_neg (by omega)]) (fun v S1 c hK hc => ?_) (fun S1 c m1 m2 m3 => ?_)
  · exact ⟨0, by rw [gI_s hK hc, if_neg c]⟩
  · rw [gI_s m1.2.1 m2, if_pos rfl, ck_t m1.2.1]
    obtain ⟨g, e1, e2, e3⟩ := on_00 m1 (by omega : dep ≤ 40)
    have n1 := m1.fr g
    have y1 := n1.hd hh
    have u2 := hand1 n1 (dep := dep) (by omega) (j := B) (by omega) (P G (fun _ => p B) ρ).2.1
    have n2 := n1.fr (fun i => if i = 4 * (dep + 1) + B then (P G (fun _ => p B) ρ).2.1 else s_aL (s_fr S1 (ad 7) g) (ad 7) i)
    have y2 := n2.hd hh
    rw [call_s e1, gI_s y1.1 (y1.2.2.2.1.trans a4), ck_t n1.2.1, call_s u2, gI_s y2.1 (y2.2.2.1.trans a3), ck_t n2.2.1, call_id]
    refine (goP hP a1 hd ok1.1 (hV.mono ok1.2.1) (hA2 _ _ ok1.2.1 (ok1.2.2 c)) n2 m2 (fun j hj => ?_)).mono (by omega) (fun i hi => ?_)
    · simp only [fr_at]
      unfold g_at
      by_cases d : j = B
      · rw [if_pos d, if_pos (by omega)]
      · rw [if_neg d, if_neg (by omega), e2 j (by omega), m3 _ (by omega), fr_at, if_neg (by omega)]; exact hF j (by omega)
    · simp only [fr_at]
      rw [if_neg (by omega), e3 i hi]
theorem run_fold (hC : wfC C) (hP : pHyp ad C Z q h P Pf) (hO : ∀ g q ρ1, g < h → okS ρ1 → wfV C ρ1 → okA C g ρ1 q → okO C g ρ1 (P g q ρ1)) (hh : h < h_n C) (hd : dep + h ≤ 40) (hS : okS ρ) (hV : wfV C ρ) (k : cI ad C ρ Z q S) (h0 : s_I S 11 (ad 6) = 0) (hF : ∀ j, j < h_m C h → s_aL S (ad 7) (4 * dep + j) = p j)
    {A G : Nat} (a1 : A < h) (a2 : G < h) (a3 : h_a C h = nI A) (a4 : h_b C h = nI G) (a7 : h_m C G ≤ h_m C h) (a8 : h_m C A = h_m C h + 1) (a9 : h_m C A ≤ 4) (hA : okA C G ρ p) (hA2 : ∀ v ρ1, e_le ρ ρ1 → okv ρ1 (h_r C G) v → okA C A ρ1 (g_cons v p)) :
    pOut ad C Z q S (4 * (dep + 1)) (e_bind (P G p ρ) (fun v ρ1 => P A (g_cons v p) ρ1)) (f_X7_fold Pf (ad 6) (ad (2 * h + 20)) (nI dep) S) := by
  unfold f_X7_fold
  rw [ck_t k.2.1]
  obtain ⟨g, e1, e2, e3⟩ := on_00 k (by omega : dep ≤ 40)
  have k1 := k.fr g
  have y := k1.hd hh
  rw [call_s e1, gI_s y.1 (y.2.2.2.1.trans a4), ck_t k1.2.1]
  have first := goP hP a2 hd hS hV hA k1 h0 (fun j hj => by
    rw [fr_at, e2 j (by omega)]; exact hF j (by omega))
  have ok1 := hO G p ρ a2 hS hV hA
  refine pOut.bind (l := 4 * (dep + 1)) first (fun i hi => by rw [fr_at, e3 i hi]) (fun v S1 c hK hc => ?_) (fun S1 c m1 m2 m3 => ?_)
  · exact ⟨0, by rw [gI_s hK hc, if_neg c]⟩
  · rw [gI_s m1.2.1 m2, if_pos rfl, ck_t m1.2.1]
    obtain ⟨g2, e1, e2', e3'⟩ := on_01 m1 (by omega : dep ≤ 40)
    have n1 := m1.fr g2
    have u2 := hand1 n1 (dep := dep) (by omega) (j := 0) (by decide) (P G p ρ).2.1
    have n2 := n1.fr (fun i => if i = 4 * (dep + 1) + 0 then (P G p ρ).2.1 else s_aL (s_fr S1 (ad 7) g2) (ad 7) i)
    have y2 := n2.hd hh
    rw [call_s e1, ck_t n1.2.1, call_s (show f_X7_hand (ad 6) (nI dep + (1 : Int32)) 0 _ (s_fr S1 (ad 7) g2) = _ from u2), gI_s y2.1 (y2.2.2.1.trans a3), ck_t n2.2.1, call_id]
    refine (goP hP a1 hd ok1.1 (hV.mono ok1.2.1) (hA2 _ _ ok1.2.1 (ok1.2.2 c)) n2 m2 (fun j hj => ?_)).mono (by omega) (fun i hi => ?_)
    · simp only [fr_at]
      unfold g_cons
      by_cases d : j = 0
      · rw [if_pos d, if_pos (by omega)]
      · rw [if_neg d, if_neg (by omega)]
        have := e2' (j - 1) (by omega)
        rw [show 4 * (dep + 1) + 1 + (j - 1) = 4 * (dep + 1) + j by omega] at this
        rw [this, m3 _ (by omega), fr_at, e3 _ (by omega)]; exact hF (j - 1) (by omega)
    · simp only [fr_at]
      rw [if_neg (by omega), e3' i hi]
theorem run_then (hC : wfC C) (hP : pHyp ad C Z q h P Pf) (hO : ∀ g q ρ1, g < h → okS ρ1 → wfV C ρ1 → okA C g ρ1 q → okO C g ρ1 (P g q ρ1)) (hh : h < h_n C) (hd : dep + h ≤ 40) (hS : okS ρ) (hV : wfV C ρ) (k : cI ad C ρ Z q S) (h0 : s_I S 11 (ad 6) = 0) (hF : ∀ j, j < h_m C h → s_aL S (ad 7) (4 * dep + j) = p j)
    {A G : Nat} (a1 : A < h) (a2 : G < h) (a3 : h_a C h = nI A) (a4 : h_b C h = nI G) (a7 : h_m C G = 1) (a8 : h_m C A = h_m C h) (a9 : h_m C A ≤ 4) (hA : okA C A ρ p) (hA2 : ∀ v ρ1, e_le ρ ρ1 → okv ρ1 (h_r C A) v → okA C G ρ1 (g_cons v p)) :
    pOut ad C Z q S (4 * (dep + 1)) (e_bind (P A p ρ) (fun v ρ1 => P G (g_cons v p) ρ1)) (f_X7_thenOther Pf (ad 6) (ad (2 * h + 20)) (nI dep) S) := by
  unfold f_X7_thenOther
  rw [ck_t k.2.1]
  obtain ⟨g, e1, e2, e3⟩ := on_00 k (by omega : dep ≤ 40)
  have k1 := k.fr g
  have y := k1.hd hh
  rw [call_s e1, gI_s y.1 (y.2.2.1.trans a3), ck_t k1.2.1]
  have first := goP hP a1 hd hS hV hA k1 h0 (fun j hj => by
    rw [fr_at, e2 j (by omega)]; exact hF j (by omega))
  have ok1 := hO A p ρ a1 hS hV hA
  refine pOut.bind (l := 4 * (dep + 1)) first (fun i hi => by rw [fr_at, e3 i hi]) (fun v S1 c hK hc => ?_) (fun S1 c m1 m2 m3 => ?_)
  · exact ⟨0, by rw [gI_s hK hc, if_neg c]⟩
  · rw [gI_s m1.2.1 m2, if_pos rfl, ck_t m1.2.1]
    have u2 := hand1 m1 (dep := dep) (by omega) (j := 0) (by decide) (P A p ρ).2.1
    have n2 := m1.fr (fun i => if i = 4 * (dep + 1) + 0 then (P A p ρ).2.1 else s_aL S1 (ad 7) i)
    have y2 := n2.hd hh
    rw [call_s (show f_X7_hand (ad 6) (nI dep + (1 : Int32)) 0 _ S1 = _ from u2), gI_s y2.1 (y2.2.2.2.1.trans a4), ck_t n2.2.1, call_id]
    refine (goP hP a2 hd ok1.1 (hV.mono ok1.2.1) (hA2 _ _ ok1.2.1 (ok1.2.2 c)) n2 m2 (fun j hj => ?_)).mono (by omega) (fun i hi => ?_)
    · have : j = 0 := by omega
      subst this
      rw [fr_at, if_pos rfl]; rfl
    · rw [fr_at, if_neg (by omega)]
theorem run_guard (hC : wfC C) (hP : pHyp ad C Z q h P Pf) (hO : ∀ g q ρ1, g < h → okS ρ1 → wfV C ρ1 → okA C g ρ1 q → okO C g ρ1 (P g q ρ1)) (hh : h < h_n C) (hd : dep + h ≤ 40) (hS : okS ρ) (hV : wfV C ρ) (k : cI ad C ρ Z q S) (h0 : s_I S 11 (ad 6) = 0) (hF : ∀ j, j < h_m C h → s_aL S (ad 7) (4 * dep + j) = p j)
    {A B G : Nat} (a1 : A < h) (a2 : B < h) (a2' : G < h) (a3 : h_a C h = nI A) (a4 : h_b C h = nI B) (a5 : h_c C h = nI G) (a7 : h_m C A ≤ h_m C h) (a8 : h_m C B = h_m C h) (a8' : h_m C G = h_m C h) (a9 : h_m C h ≤ 4) (hA : okA C A ρ p) (hA2 : ∀ ρ1, e_le ρ ρ1 → okA C B ρ1 p ∧ okA C G ρ1 p) :
    pOut ad C Z q S (4 * (dep + 1)) (t_guard P A B G p ρ) (f_X7_guard Pf (ad 6) (ad (2 * h + 20)) (nI dep) S) := by
  unfold f_X7_guard t_guard
  rw [ck_t k.2.1]
  obtain ⟨g, e1, e2, e3⟩ := on_00 k (by omega : dep ≤ 40)
  have k1 := k.fr g
  have y := k1.hd hh
  rw [call_s e1, gI_s y.1 (y.2.2.1.trans a3), ck_t k1.2.1]
  have first := goP hP a1 hd hS hV hA k1 h0 (fun j hj => by
    rw [fr_at, e2 j (by omega)]; exact hF j (by omega))
  have ok1 := hO A p ρ a1 hS hV hA
  refine pOut.bind (l := 4 * (dep + 1)) first (fun i hi => by rw [fr_at, e3 i hi]) (fun v S1 c hK hc => ?_) (fun S1 c m1 m2 m3 => ?_)
  · exact ⟨0, by rw [gI_s hK hc, if_neg c]⟩
  · rw [gI_s m1.2.1 m2, if_pos rfl]
    have y2 := m1.hd hh
    have fr1 : ∀ j, j < h_m C h → s_aL S1 (ad 7) (4 * (dep + 1) + j) = p j := fun j hj => by
      rw [m3 _ (by omega), fr_at, e2 j (by omega)]; exact hF j hj
    by_cases c0 : (P A p ρ).2.1 = 0
    · rw [if_pos c0, if_pos c0, gI_s y2.1 (y2.2.2.2.2.1.trans a5), ck_t m1.2.1, call_id]
      exact (goP hP a2' hd ok1.1 (hV.mono ok1.2.1) (hA2 _ ok1.2.1).2 m1 m2 (fun j hj => fr1 j (by omega))).mono (by omega) (fun i hi => rfl)
    · rw [if_neg c0, if_neg c0, gI_s y2.1 (y2.2.2.2.1.trans a4), ck_t m1.2.1, call_id]
      exact (goP hP a2 hd ok1.1 (hV.mono ok1.2.1) (hA2 _ ok1.2.1).1 m1 m2 (fun j hj => fr1 j (by omega))).mono (by omega) (fun i hi => rfl)
theorem cI.f11 (k : cI ad C ρ Z q S) (v : Int32) : cI ad C ρ Z q (s_pI S 11 (ad 6) v) ∧ s_I (s_pI S 11 (ad 6) v) 11 (ad 6) = v := by
  refine ⟨⟨cJ.pI (by simp) k.1, k.2⟩, ?_⟩
  show (if 11 = 11 ∧ ad 6 = ad 6 then v else _) = v
  simp
theorem run_catch (hC : wfC C) (hP : pHyp ad C Z q h P Pf) (hO : ∀ g q ρ1, g < h → okS ρ1 → wfV C ρ1 → okA C g ρ1 q → okO C g ρ1 (P g q ρ1)) (hh : h < h_n C) (hd : dep + h ≤ 40) (hS : okS ρ) (hV : wfV C ρ) (k : cI ad C ρ Z q S) (h0 : s_I S 11 (ad 6) = 0) (hF : ∀ j, j < h_m C h → s_aL S (ad 7) (4 * dep + j) = p j)
    {A G : Nat} (a1 : A < h) (a2 : G < h) (a3 : h_a C h = nI A) (a5 : h_c C h = nI G) (a7 : h_m C G ≤ h_m C h + 1) (a8 : h_m C A = h_m C h) (a9 : h_m C h ≤ 4) (a9' : h_m C G ≤ 4) (hA : okA C A ρ p) (hA2 : ∀ c ρ1, e_le ρ ρ1 → okA C G ρ1 (g_cons (Int32.toInt64 c) p)) :
    pOut ad C Z q S (4 * (dep + 1)) (t_catch P A (h_b C h) G p ρ) (f_X7_catchFailure Pf (ad 6) (ad (2 * h + 20)) (nI dep) S) := by
  unfold f_X7_catchFailure t_catch
  rw [ck_t k.2.1]
  obtain ⟨g, e1, e2, e3⟩ := on_00 k (by omega : dep ≤ 40)
  have k1 := k.fr g
  have y := k1.hd hh
  rw [call_s e1, gI_s y.1 (y.2.2.1.trans a3), ck_t k1.2.1]
  obtain ⟨r, S1, f1, f2, f3, f4, f5⟩ := goP hP a1 hd hS hV hA k1 h0 (fun j hj => by
    rw [fr_at, e2 j (by omega)]; exact hF j (by omega))
  have ok1 := hO A p ρ a1 hS hV hA
  have z := f2.hd hh
  rw [call_s f1, gI_s f2.2.1 f3]
  have same : pOut ad C Z q S (4 * (dep + 1)) (P A p ρ) (some (r, S1)) := ⟨r, S1, rfl, f2, f3, f4, fun i hi => by rw [f5 i (by omega), fr_at, e3 i hi]⟩
  have held : pOut ad C Z q S (4 * (dep + 1)) (P G (g_cons (P A p ρ).1.toInt64 p) (P A p ρ).2.2) (f_X7_catchFailure_b56 Pf (ad 6) (ad (2 * h + 20)) (nI dep) (P A p ρ).1 S1) := by
    unfold f_X7_catchFailure_b56
    obtain ⟨n1, n2⟩ := f2.f11 0
    rw [pI_s f2.2.1, ck_t n1.2.1]
    obtain ⟨g2, d1, d2, d3⟩ := on_01 n1 (by omega : dep ≤ 40)
    have n3 := n1.fr g2
    have u2 := hand1 n3 (dep := dep) (by omega) (j := 0) (by decide) ((P A p ρ).1.toInt64)
    have n4 := n3.fr (fun i => if i = 4 * (dep + 1) + 0 then ((P A p ρ).1.toInt64) else s_aL (s_fr (s_pI S1 11 (ad 6) 0) (ad 7) g2) (ad 7) i)
    have y2 := n4.hd hh
    rw [call_s d1, ck_t n3.2.1, call_s (show f_X7_hand (ad 6) (nI dep + (1 : Int32)) 0 _ (s_fr (s_pI S1 11 (ad 6) 0) (ad 7) g2) = _ from u2), gI_s y2.1 (y2.2.2.2.2.1.trans a5), ck_t n4.2.1, call_id]
    refine (goP hP a2 hd ok1.1 (hV.mono ok1.2.1) (hA2 _ _ ok1.2.1) n4 n2 (fun j hj => ?_)).mono (by omega) (fun i hi => ?_)
    · simp only [fr_at]
      unfold g_cons
      by_cases d : j = 0
      · rw [if_pos d, if_pos (by omega)]
      · rw [if_neg d, if_neg (by omega)]
        have := d2 (j - 1) (by omega)
        rw [show 4 * (dep + 1) + 1 + (j - 1) = 4 * (dep + 1) + j by omega] at this
        rw [this]
        show s_aL S1 (ad 7) _ = _
        rw [f5 _ (by omega), fr_at, e3 _ (by omega)]; exact hF (j - 1) (by omega)
    · simp only [fr_at]
      rw [if_neg (by omega), d3 i hi]
      show s_aL S1 (ad 7) i = _
      rw [f5 i (by omega), fr_at, e3 i hi]
  by_cases c0 : (P A p ρ).1 = 0
  · rw [if_pos c0, if_pos (Or.inl c0)]; exact same
  rw [if_neg c0]
  by_cases c7 : (P A p ρ).1 = 7
  · rw [if_pos c7, if_pos (Or.inr (Or.inl c7))]; exact same
  rw [if_neg c7, gI_s z.1 z.2.2.2.1]
  by_cases c1 : h_b C h = -1
  · rw [if_pos c1, if_neg (fun w => w.elim c0 (fun w => w.elim c7 (fun w => w (Or.inl c1))))]; exact held
  rw [if_neg c1, gI_s z.1 z.2.2.2.1]
  by_cases c2 : h_b C h = (P A p ρ).1
  · rw [if_pos c2, if_neg (fun w => w.elim c0 (fun w => w.elim c7 (fun w => w (Or.inr c2))))]; exact held
  · rw [if_neg c2, if_pos (Or.inr (Or.inr (fun w => w.elim c1 c2)))]; exact same
theorem nothing_is {k : Int32} (hk : kindp k) : f_X2_nothing k = some (t_none k) := by
  obtain ⟨j, hj, rfl⟩ := hk
  have : ∀ j, j < 17 → f_X2_nothing (nI j) = some (t_none (nI j)) := by decide +kernel
  exact this j hj
theorem run_last (hC : wfC C) (hP : pHyp ad C Z q h P Pf) (hO : ∀ g q ρ1, g < h → okS ρ1 → wfV C ρ1 → okA C g ρ1 q → okO C g ρ1 (P g q ρ1)) (hh : h < h_n C) (hd : dep + h ≤ 40) (hS : okS ρ) (hV : wfV C ρ) (k : cI ad C ρ Z q S) (h0 : s_I S 11 (ad 6) = 0) (hF : ∀ j, j < h_m C h → s_aL S (ad 7) (4 * dep + j) = p j)
    {A G : Nat} (a1 : A < h) (a2 : G < h) (a3 : h_a C h = nI A) (a5 : h_b C h = nI G) (a7 : h_m C G ≤ h_m C h + 2) (a8 : h_m C A = h_m C h) (a9 : h_m C h ≤ 4) (a9' : h_m C G ≤ 4) (hr : kindp (h_r C h)) (hA : okA C A ρ p)
    (hA2 : okA C G (P A p ρ).2.2 (g_cons (P A p ρ).1.toInt64 (g_cons (if (P A p ρ).1 = 0 then (P A p ρ).2.1 else t_none (h_r C h)) p))) :
    pOut ad C Z q S (4 * (dep + 1)) (t_last P A G (h_r C h) p ρ) (f_X7_doAtLast Pf (ad 6) (ad (2 * h + 20)) (nI dep) S) := by
  unfold f_X7_doAtLast t_last
  rw [ck_t k.2.1]
  obtain ⟨g, e1, e2, e3⟩ := on_00 k (by omega : dep ≤ 40)
  have k1 := k.fr g
  have y := k1.hd hh
  rw [call_s e1, gI_s y.1 (y.2.2.1.trans a3), ck_t k1.2.1]
  obtain ⟨r, S1, f1, f2, f3, f4, f5⟩ := goP hP a1 hd hS hV hA k1 h0 (fun j hj => by
    rw [fr_at, e2 j (by omega)]; exact hF j (by omega))
  have ok1 := hO A p ρ a1 hS hV hA
  rw [call_s f1, gI_s f2.2.1 f3]
  by_cases c7 : (P A p ρ).1 = 7
  · rw [if_pos c7, if_pos c7]
    exact ⟨0, S1, rfl, f2, f3, fun z => by rw [c7] at z; exact absurd z (by decide), fun i hi => by rw [f5 i (by omega), fr_at, e3 i hi]⟩
  rw [if_neg c7, if_neg c7]
  obtain ⟨n1, n2⟩ := f2.f11 0
  rw [pI_s f2.2.1, ck_t n1.2.1]
  obtain ⟨g2, d1, d2, d3⟩ := on_02 n1 (by omega : dep ≤ 40)
  have n3 := n1.fr g2
  have u2 := hand1 n3 (dep := dep) (by omega) (j := 0) (by decide) ((P A p ρ).1.toInt64)
  have n4 := n3.fr (fun i => if i = 4 * (dep + 1) + 0 then ((P A p ρ).1.toInt64) else s_aL (s_fr (s_pI S1 11 (ad 6) 0) (ad 7) g2) (ad 7) i)
  rw [call_s d1, ck_t n3.2.1, call_s (show f_X7_hand (ad 6) (nI dep + (1 : Int32)) 0 _ (s_fr (s_pI S1 11 (ad 6) 0) (ad 7) g2) = _ from u2)]
  generalize hT : (fun i => if i = 4 * (dep + 1) + 0 then ((P A p ρ).1.toInt64) else s_aL (s_fr (s_pI S1 11 (ad 6) 0) (ad 7) g2) (ad 7) i) = T at *
  generalize hU : s_fr (s_fr (s_pI S1 11 (ad 6) 0) (ad 7) g2) (ad 7) T = U at *
  have hU7 : ∀ i, s_aL U (ad 7) i = T i := fun i => by rw [← hU, fr_at]
  have hU11 : s_I U 11 (ad 6) = 0 := by rw [← hU]; exact n2
  have tail : ∀ v : Int64, v = (if (P A p ρ).1 = 0 then (P A p ρ).2.1 else t_none (h_r C h)) →
      pOut ad C Z q S (4 * (dep + 1)) (if (P G (g_cons (P A p ρ).1.toInt64 (g_cons (if (P A p ρ).1 = 0 then (P A p ρ).2.1 else t_none (h_r C h)) p)) (P A p ρ).2.2).1 = 0
        then ((P A p ρ).1, (P G (g_cons (P A p ρ).1.toInt64 (g_cons (if (P A p ρ).1 = 0 then (P A p ρ).2.1 else t_none (h_r C h)) p)) (P A p ρ).2.2).2.1, (P G (g_cons (P A p ρ).1.toInt64 (g_cons (if (P A p ρ).1 = 0 then (P A p ρ).2.1 else t_none (h_r C h)) p)) (P A p ρ).2.2).2.2)
        else P G (g_cons (P A p ρ).1.toInt64 (g_cons (if (P A p ρ).1 = 0 then (P A p ρ).2.1 else t_none (h_r C h)) p)) (P A p ρ).2.2)
        (f_X7_doAtLast_b81 Pf (ad 6) (ad (2 * h + 20)) (nI dep) (P A p ρ).1 v 1 (nI dep + (1 : Int32)) (ad 6) U) := by
    intro v hv
    rw [← hv] at hA2 ⊢
    unfold f_X7_doAtLast_b81
    have u3 := hand1 n4 (dep := dep) (by omega) (j := 1) (by decide) v
    have n5 := n4.fr (fun i => if i = 4 * (dep + 1) + 1 then v else s_aL U (ad 7) i)
    have y2 := n5.hd hh
    rw [ck_t n4.2.1, call_s (show f_X7_hand (ad 6) (nI dep + (1 : Int32)) 1 _ U = _ from u3), gI_s y2.1 (y2.2.2.2.1.trans a5), ck_t n5.2.1]
    obtain ⟨r2, S2, q1, q2, q3, q4, q5⟩ := goP hP a2 hd ok1.1 (hV.mono ok1.2.1) hA2 n5 hU11 (fun j hj => by
      rw [fr_at, hU7]
      unfold g_cons
      by_cases d : j = 0
      · rw [if_pos d, if_neg (by omega), ← hT]
        show (if 4 * (dep + 1) + j = 4 * (dep + 1) + 0 then _ else _) = _
        rw [if_pos (by omega)]
      rw [if_neg d]
      by_cases d1 : j - 1 = 0
      · rw [if_pos d1, if_pos (by omega)]
      · rw [if_neg d1, if_neg (by omega), ← hT]
        show (if 4 * (dep + 1) + j = 4 * (dep + 1) + 0 then _ else s_aL (s_fr (s_pI S1 11 (ad 6) 0) (ad 7) g2) (ad 7) (4 * (dep + 1) + j)) = _
        rw [if_neg (by omega), fr_at]
        have := d2 (j - 2) (by omega)
        rw [show 4 * (dep + 1) + 2 + (j - 2) = 4 * (dep + 1) + j by omega] at this
        rw [this]
        show s_aL S1 (ad 7) _ = _
        rw [f5 _ (by omega), fr_at, e3 _ (by omega), show j - 1 - 1 = j - 2 by omega]; exact hF (j - 2) (by omega))
    have back : ∀ i, i < 4 * (dep + 1) → s_aL S2 (ad 7) i = s_aL S (ad 7) i := fun i hi => by
      rw [q5 i (by omega), fr_at, if_neg (by omega), hU7, ← hT]
      show (if i = 4 * (dep + 1) + 0 then _ else s_aL (s_fr (s_pI S1 11 (ad 6) 0) (ad 7) g2) (ad 7) i) = _
      rw [if_neg (by omega), fr_at, d3 i hi]
      show s_aL S1 (ad 7) i = _
      rw [f5 i (by omega), fr_at, e3 i hi]
    rw [call_s q1, gI_s q2.2.1 q3]
    generalize P G (g_cons (P A p ρ).1.toInt64 (g_cons v p)) (P A p ρ).2.2 = o at *
    by_cases c : o.1 = 0
    · rw [if_pos c, if_pos c, pI_s q2.2.1]
      obtain ⟨w1, w2⟩ := q2.f11 (P A p ρ).1
      exact ⟨r2, _, rfl, w1, w2, fun _ => q4 c, back⟩
    · rw [if_neg c, if_neg c]
      exact ⟨r2, S2, rfl, q2, q3, q4, back⟩
  by_cases c0 : (P A p ρ).1 = 0
  · have := tail r (by rw [if_pos c0]; exact f4 c0)
    rw [if_pos c0]
    rw [c0] at this ⊢
    exact this
  · have y2 := n4.hd hh
    have := tail _ (show t_none (h_r C h) = _ by rw [if_neg c0])
    rw [if_neg c0] at this ⊢
    rw [if_neg c0, gR_s y2.1 y2.2.2.2.2.2.2.2.1, cs_s rfl, gI_s y2.2.2.2.2.2.2.2.2.2.1 y2.2.2.2.2.2.2.2.2.2.2.1, cP_s (nothing_is hr)]
    exact this
theorem loop_bad {n : Nat} {N l5 : Int64} {l2 l7 : Int32} {x : Nat} {Pf : Nat → Int32 → Int32 → wS → Option (Int64 × wS)} {S : wS} (hK : s_K S (ad 6) = 7) (hf : s_I S 11 (ad 6) ≠ 0) : f_X7_loop_b24 Pf (n + 1) (ad 6) x l2 N l5 l7 S = some (l5, S) := by
  rw [f_X7_loop_b24.eq_2]
  by_cases c : N ≤ l7.toInt64
  · rw [if_pos c]
  · rw [if_neg c, gI_s hK rfl, if_neg hf]
theorem run_loop (hC : wfC C) (hP : pHyp ad C Z q h P Pf) (hO : ∀ g q ρ1, g < h → okS ρ1 → wfV C ρ1 → okA C g ρ1 q → okO C g ρ1 (P g q ρ1)) (hh : h < h_n C) (hd : dep + h ≤ 40) (hS : okS ρ) (hV : wfV C ρ) (k : cI ad C ρ Z q S) (h0 : s_I S 11 (ad 6) = 0) (hF : ∀ j, j < h_m C h → s_aL S (ad 7) (4 * dep + j) = p j)
    {A : Nat} (a1 : A < h) (a3 : h_a C h = nI A) (a4 : 2 ≤ h_m C h) (a8 : h_m C A = h_m C h) (a9 : h_m C h ≤ 4) (hv : okv ρ (h_r C A) (p 1)) (hA2 : ∀ (v : Int64) (i : Nat) ρ1, e_le ρ ρ1 → okv ρ1 (h_r C A) v → okA C A ρ1 (g_cons v (g_cons (lN i) (fun j => p (j + 2))))) :
    pOut ad C Z q S (4 * (dep + 1)) (t_loop P A (if 2001 < p 0 then 2001 else p 0) p 3000 0 (p 1) ρ) (f_X7_loop Pf (ad 6) (ad (2 * h + 20)) (nI dep) S) := by
  unfold f_X7_loop
  have t0 := run_taken k (d := dep) (j := 0) (by omega) (by decide)
  have t1 := run_taken k (d := dep) (j := 1) (by omega) (by decide)
  rw [hF 0 (by omega)] at t0
  rw [hF 1 (by omega)] at t1
  rw [ck_t k.2.1, call_s (show f_X7_taken (ad 6) (nI dep) 0 S = _ from t0), ck_t k.2.1, call_s (show f_X7_taken (ad 6) (nI dep) 1 S = _ from t1)]
  have hN : (if 2001 < p 0 then 2001 else p 0).toInt ≤ 2001 := by
    by_cases c : 2001 < p 0
    · rw [if_pos c]; decide
    · rw [if_neg c]; rw [Int64.lt_iff_toInt_lt, show (2001 : Int64).toInt = 2001 by decide] at c; omega
  generalize (if 2001 < p 0 then 2001 else p 0) = N at *
  have key : ∀ (n i : Nat) (v : Int64) (ρ1 : eS) (S1 : wS), n + i = 3000 → i ≤ 2001 → e_le ρ ρ1 → okS ρ1 → okv ρ1 (h_r C A) v → cI ad C ρ1 Z q S1 → s_I S1 11 (ad 6) = 0 → (∀ i, i < 4 * (dep + 1) → s_aL S1 (ad 7) i = s_aL S (ad 7) i) →
      pOut ad C Z q S (4 * (dep + 1)) (t_loop P A N p n i v ρ1) (f_X7_loop_b24 Pf n (ad 6) (ad (2 * h + 20)) (nI dep) N v (nI i) S1) := by
    intro n
    induction n with
    | zero => intro i v ρ1 S1 h1 h2; omega
    | succ n ih =>
      intro i v ρ1 S1 h1 h2 le s1 hv1 k1 f0 fr
      rw [f_X7_loop_b24.eq_2, nI_l (by omega)]
      unfold t_loop
      by_cases c : N ≤ lN i
      · rw [if_pos c, if_pos c]
        exact ⟨v, S1, rfl, k1, f0, fun _ => rfl, fr⟩
      rw [if_neg c, if_neg c, gI_s k1.2.1 f0, if_pos rfl, ck_t k1.2.1]
      have hi : i < 2001 := by
        rw [Int64.le_iff_toInt_le, lN_toInt (by omega)] at c; omega
      obtain ⟨g, e1, e2, e3⟩ := on_00 k1 (by omega : dep ≤ 40)
      have k2 := k1.fr g
      have u1 := hand1 k2 (dep := dep) (by omega) (j := 0) (by decide) v
      have k3 := k2.fr (fun i => if i = 4 * (dep + 1) + 0 then v else s_aL (s_fr S1 (ad 7) g) (ad 7) i)
      have u2 := hand1 k3 (dep := dep) (by omega) (j := 1) (by decide) (lN i)
      have k4 := k3.fr (fun j => if j = 4 * (dep + 1) + 1 then lN i else s_aL (s_fr (s_fr S1 (ad 7) g) (ad 7) (fun i => if i = 4 * (dep + 1) + 0 then v else s_aL (s_fr S1 (ad 7) g) (ad 7) i)) (ad 7) j)
      have y := k4.hd hh
      rw [call_s e1, ck_t k2.2.1, call_s (show f_X7_hand (ad 6) (nI dep + (1 : Int32)) 0 v (s_fr S1 (ad 7) g) = _ from u1), ck_t k3.2.1, call_s (show f_X7_hand (ad 6) (nI dep + (1 : Int32)) 1 (lN i) _ = _ from u2), gI_s y.1 (y.2.2.1.trans a3), ck_t k4.2.1]
      have hA1 := hA2 v i ρ1 le hv1
      obtain ⟨r, S2, f1, f2, f3, f4, f5⟩ := goP hP a1 hd s1 (hV.mono le) hA1 k4 f0 (fun j hj => by
        simp only [fr_at]
        unfold g_cons
        by_cases d : j = 0
        · rw [if_pos d, if_neg (by omega), if_pos (by omega)]
        rw [if_neg d]
        by_cases d1 : j - 1 = 0
        · rw [if_pos d1, if_pos (by omega)]
        · rw [if_neg d1, if_neg (by omega), if_neg (by omega), e2 j (by omega), fr _ (by omega)]
          show _ = p (j - 1 - 1 + 2)
          rw [show j - 1 - 1 + 2 = j by omega]; exact hF j (by omega))
      have back : ∀ i, i < 4 * (dep + 1) → s_aL S2 (ad 7) i = s_aL S (ad 7) i := fun i hi => by
        rw [f5 i (by omega)]
        simp only [fr_at]
        rw [if_neg (by omega), if_neg (by omega), e3 i hi, fr i hi]
      have ok1 := hO A _ ρ1 a1 s1 (hV.mono le) hA1
      rw [call_s f1]
      unfold e_bind
      simp only [o_let]
      generalize P A (g_cons v (g_cons (lN i) (fun j => p (j + 2)))) ρ1 = o at *
      by_cases c0 : o.1 = 0
      · rw [if_pos c0, nI_1, f4 c0]
        exact ih (i + 1) _ _ _ (by omega) (by omega) (le.trans ok1.2.1) ok1.1 (ok1.2.2 c0) f2 (f3.trans c0) back
      · rw [if_neg c0]
        obtain ⟨n, rfl⟩ : ∃ n', n = n' + 1 := ⟨n - 1, by omega⟩
        rw [loop_bad f2.2.1 (by rw [f3]; exact c0)]
        exact ⟨r, S2, rfl, f2, f3, f4, back⟩
  exact key 3000 0 (p 1) ρ S rfl (by decide) (e_le.refl ρ) hS hv k h0 (fun _ _ => rfl)
theorem run_as (hC : wfC C) (hP : pHyp ad C Z q h P Pf) (hO : ∀ g q ρ1, g < h → okS ρ1 → wfV C ρ1 → okA C g ρ1 q → okO C g ρ1 (P g q ρ1)) (hh : h < h_n C) (hd : dep + h ≤ 40) (hS : okS ρ) (hV : wfV C ρ) (k : cI ad C ρ Z q S) (h0 : s_I S 11 (ad 6) = 0) (hF : ∀ j, j < h_m C h → s_aL S (ad 7) (4 * dep + j) = p j)
    {A : Nat} (a1 : A < h) (a3 : h_a C h = nI A) (a8 : h_m C h = h_m C A) (a9 : h_m C h ≤ 4) (hw : ∀ j, j < h_m C h → ∃ r, f_X2_widened (h_k C h j) (h_k C A j) (p j) = some r) (hA : okA C A ρ (g_as C h A p)) (hw2 : ∀ v ρ1, okv ρ1 (h_r C A) v → ∃ r, f_X2_widened (h_r C A) (h_r C h) v = some r) :
    pOut ad C Z q S (4 * (dep + 1)) (t_as P C h A p ρ) (f_X7_widen Pf (ad 6) (ad (2 * h + 20)) (nI dep) S) := by
  obtain ⟨x1, x2, x3, x4, x5, x6, x7, x8, x9⟩ := k.hd hh
  have hAn : A < h_n C := by omega
  unfold f_X7_widen
  rw [gR_s k.2.1 k.2.2.1, gI_s x1 (x3.trans a3), cs_s rfl, ck_t k.1.2.1.1, call_s (ty_yes k.1.2.1 hAn), cs_s rfl, gR_s x1 x8, cs_s rfl]
  have ok1 := hO A _ ρ a1 hS hV hA
  have key : ∀ (n i : Nat) (S1 : wS), 6 ≤ n + i → i ≤ h_m C h → cI ad C ρ Z q S1 → s_I S1 11 (ad 6) = 0 → (∀ i, i < 4 * (dep + 1) → s_aL S1 (ad 7) i = s_aL S (ad 7) i) → (∀ j, j < i → s_aL S1 (ad 7) (4 * (dep + 1) + j) = g_as C h A p j) →
      pOut ad C Z q S (4 * (dep + 1)) (t_as P C h A p ρ) (f_X7_widen_b34 Pf n (ad 6) (ad (2 * h + 20)) (nI dep) (ad (2 * A + 21)) (ad (2 * h + 21)) (nI i) S1) := by
    intro n
    induction n with
    | zero => intro i S1 h1 h2; omega
    | succ n ih =>
      intro i S1 h1 h2 k1 f0 fr fa
      have y := k1.hd hh
      have yA := (k1.hd hAn).2.2.2.2.2.2.2.2
      have yh := y.2.2.2.2.2.2.2.2
      rw [f_X7_widen_b34.eq_2, gI_s yh.2.1 yh.2.2.2.1]
      by_cases c : h_m C h ≤ i
      · rw [if_pos (nI_le c (by omega)), gI_s y.1 (y.2.2.1.trans a3), ck_t k1.2.1]
        unfold t_as
        refine pOut.bind (l := 4 * (dep + 1)) (goP hP a1 hd hS hV hA k1 f0 (fun j hj => fa j (by omega))) fr (fun v S2 c hK hc => ?_) (fun S2 c m1 m2 m3 => ?_)
        · exact ⟨0, by rw [gI_s hK hc, if_neg c]⟩
        · have z := (m1.hd hh).2.2.2.2.2.2.2.2
          have zA := (m1.hd hAn).2.2.2.2.2.2.2.2
          obtain ⟨r, hr⟩ := hw2 _ _ (ok1.2.2 c)
          rw [gI_s m1.2.1 m2, if_pos rfl, gI_s zA.2.1 zA.2.2.1, gI_s z.2.1 z.2.2.1, cP_s hr]
          exact pOut.ret m1 m2 (by rw [hr]; rfl)
      · rw [if_neg (nI_ge (by omega) (by omega))]
        have t1 := run_taken k1 (d := dep) (j := i) (by omega) (by omega)
        rw [fr _ (by omega), hF i (by omega)] at t1
        obtain ⟨r, hr⟩ := hw i (by omega)
        have u1 := hand1 k1 (dep := dep) (by omega) (j := i) (by omega) r
        rw [ck_t k1.2.1, call_s t1, ck_t yh.2.1, call_s (kind_yes yh (by omega)), ck_t yA.2.1, call_s (kind_yes yA (by omega)), cP_s hr, ck_t k1.2.1, call_s u1]
        simp only [o_let]
        rw [nI_1]
        refine ih (i + 1) _ (by omega) (by omega) (k1.fr _) f0 (fun j hj => ?_) (fun j hj => ?_)
        · rw [fr_at, if_neg (by omega)]; exact fr j hj
        · rw [fr_at]
          by_cases d : j = i
          · subst d
            rw [if_pos rfl]; unfold g_as; rw [hr]; rfl
          · rw [if_neg (by omega)]; exact fa j (by omega)
  exact key 12 0 S (by decide) (Nat.zero_le _) k h0 (fun _ _ => rfl) (fun j hj => absurd hj (by omega))
end PERF
