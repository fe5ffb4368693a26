/-! kinds held against one another, in the class and in the reference -/
def isIt (v : Int32) (P : Prop) : Prop := (v = 1 ∧ P) ∨ (v = 0 ∧ ¬ P)
theorem isIt.iff {v : Int32} {P Q : Prop} (h : isIt v P) (e : P ↔ Q) : isIt v Q := by
  rcases h with ⟨h1, h2⟩ | ⟨h1, h2⟩
  · exact Or.inl ⟨h1, e.mp h2⟩
  · exact Or.inr ⟨h1, fun z => h2 (e.mpr z)⟩
theorem kind_ne {k : Int32} (h : kindp k) : ¬ k = -1 := by
  obtain ⟨j, h1, rfl⟩ := h
  intro z
  have : (nI j).toInt = (-1 : Int32).toInt := by rw [z]
  rw [nI_toInt (by omega), show (-1 : Int32).toInt = -1 by decide] at this
  omega
theorem goes_is {a b : Int32} (ha : kindp a) (hb : kindp b) : ∃ v, f_X2_goes a b = some v ∧ f_X11_goes a b = some v ∧ isIt v (goesp a b) := by
  obtain ⟨i, h1, rfl⟩ := ha
  obtain ⟨j, h2, rfl⟩ := hb
  obtain ⟨e1, e2⟩ := goes_same i h1 j h2
  rcases e2 with e2 | e2
  · exact ⟨0, e2, e1 ▸ e2, Or.inr ⟨rfl, fun z => by unfold goesp at z; rw [e2] at z; exact absurd z (by decide)⟩⟩
  · exact ⟨1, e2, e1 ▸ e2, Or.inl ⟨rfl, e2⟩⟩
section KD1
variable {S : wS} {t t' m m' : Nat} {k k' : Nat → Int32} {r r' : Int32}
theorem first_b (h : tyA S t m k r) (h' : tyA S t' m' k' r') (hk : ∀ j, j < m → kindp (k j)) {a b : Nat} (hb : b ≤ 4) : ∀ (n i : Nat), 5 ≤ n + i → a ≤ i → i ≤ 4 → ∃ v, f_X9_isFirstOf_b3 n t t' (nI a) (nI b) (nI i) S = some (v, S) ∧ isIt v (∀ j, i ≤ j → j < m → b + j - a < m' ∧ k j = k' (b + j - a)) := by
  have hm := h.1
  have hm' := h'.1
  intro n
  induction n with
  | zero => intro i h1 h2; omega
  | succ n ih =>
    intro i h1 h2 h3
    rw [f_X9_isFirstOf_b3.eq_2, gI_s h.2.1 h.2.2.2.1]
    by_cases c : m ≤ i
    · rw [if_pos (nI_le c (by omega))]
      exact ⟨1, rfl, Or.inl ⟨rfl, fun j _ _ => by omega⟩⟩
    · rw [if_neg (nI_ge (by omega) (by omega)), ck_t h.2.1, call_s (kind_yes h (by omega)), ck_t h'.2.1, nI_add, pk_sub (by omega)]
      by_cases d : b + i - a < m'
      · rw [call_s (kind_yes h' d)]
        by_cases e : k i = k' (b + i - a)
        · rw [if_pos e, o_l, nI_1]
          obtain ⟨v, e1, e2⟩ := ih (i + 1) (by omega) (by omega) (by omega)
          refine ⟨v, e1, e2.iff ⟨fun z j h4 h5 => ?_, fun z j h4 h5 => z j (by omega) h5⟩⟩
          by_cases f : j = i
          · subst f; exact ⟨d, e⟩
          · exact z j (by omega) h5
        · rw [if_neg e]
          exact ⟨0, rfl, Or.inr ⟨rfl, fun z => e (z i (Nat.le_refl _) (by omega)).2⟩⟩
      · rw [call_s (kind_no h' (fun j hj z => by rw [nI_eq (by omega) (by omega)] at z; omega)), if_neg (kind_ne (hk i (by omega)))]
        exact ⟨0, rfl, Or.inr ⟨rfl, fun z => d (z i (Nat.le_refl _) (by omega)).1⟩⟩
theorem first_is (h : tyA S t m k r) (h' : tyA S t' m' k' r') (hk : ∀ j, j < m → kindp (k j)) {a b : Nat} (ha : a ≤ 4) (hb : b ≤ 4) : ∃ v, f_X9_isFirstOf t t' (nI a) (nI b) S = some (v, S) ∧ isIt v (∀ j, a ≤ j → j < m → b + j - a < m' ∧ k j = k' (b + j - a)) :=
  first_b h h' hk hb 12 a (by omega) (Nat.le_refl _) ha
theorem same_is (h : tyA S t m k r) (h' : tyA S t' m' k' r') (hk : ∀ j, j < m → kindp (k j)) : ∃ v, f_X9_isSame t t' S = some (v, S) ∧ isIt v (tyeq m k r m' k' r') := by
  unfold f_X9_isSame
  rw [gI_s h.2.1 h.2.2.1, gI_s h'.2.1 h'.2.2.1]
  by_cases c1 : r = r'
  · rw [if_pos c1, gI_s h.2.1 h.2.2.2.1, gI_s h'.2.1 h'.2.2.2.1]
    by_cases c2 : m = m'
    · rw [if_pos (by rw [c2]), ck_t h.2.1]
      obtain ⟨v, e1, e2⟩ := first_is h h' hk (a := 0) (b := 0) (by decide) (by decide)
      rw [call_s (show f_X9_isFirstOf t t' 0 0 S = _ from e1)]
      have q : (∀ j, 0 ≤ j → j < m → 0 + j - 0 < m' ∧ k j = k' (0 + j - 0)) ↔ tyeq m k r m' k' r' := by
        constructor
        · intro z
          refine ⟨c2, c1, fun j hj => ?_⟩
          have := (z j (Nat.zero_le _) (by omega)).2
          rw [show 0 + j - 0 = j by omega] at this; exact this
        · intro z j _ hj
          refine ⟨by omega, ?_⟩
          rw [show 0 + j - 0 = j by omega]; exact z.2.2 j (by omega)
      rcases e2 with ⟨rfl, e3⟩ | ⟨rfl, e3⟩
      · rw [if_neg n10]; exact ⟨1, rfl, Or.inl ⟨rfl, q.mp e3⟩⟩
      · rw [if_pos rfl]; exact ⟨0, rfl, Or.inr ⟨rfl, fun z => e3 (q.mpr z)⟩⟩
    · rw [if_neg (fun z => c2 ((nI_eq (by have := h.1; omega) (by have := h'.1; omega)).mp z))]
      exact ⟨0, rfl, Or.inr ⟨rfl, fun z => c2 z.1⟩⟩
  · rw [if_neg c1]
    exact ⟨0, rfl, Or.inr ⟨rfl, fun z => c1 z.2.1⟩⟩
theorem goto_b (h : tyA S t m k r) (h' : tyA S t' m k' r') (hk : ∀ j, j < m → kindp (k j)) (hk' : ∀ j, j < m → kindp (k' j)) : ∀ (n i : Nat), 5 ≤ n + i → i ≤ 4 → ∃ v, f_X9_goesTo_b29 n t t' (nI i) S = some (v, S) ∧ isIt v (∀ j, i ≤ j → j < m → goesp (k j) (k' j)) := by
  have hm := h.1
  intro n
  induction n with
  | zero => intro i h1 h2; omega
  | succ n ih =>
    intro i h1 h3
    rw [f_X9_goesTo_b29.eq_2, gI_s h.2.1 h.2.2.2.1]
    by_cases c : m ≤ i
    · rw [if_pos (nI_le c (by omega))]
      exact ⟨1, rfl, Or.inl ⟨rfl, fun j _ _ => by omega⟩⟩
    · obtain ⟨v, e1, -, e2⟩ := goes_is (hk i (by omega)) (hk' i (by omega))
      rw [if_neg (nI_ge (by omega) (by omega)), ck_t h.2.1, call_s (kind_yes h (by omega)), ck_t h'.2.1, call_s (kind_yes h' (by omega)), cP_s e1]
      rcases e2 with ⟨rfl, e2⟩ | ⟨rfl, e2⟩
      · rw [if_neg n10, o_l, nI_1]
        obtain ⟨v, f1, f2⟩ := ih (i + 1) (by omega) (by omega)
        refine ⟨v, f1, f2.iff ⟨fun z j h4 h5 => ?_, fun z j h4 h5 => z j (by omega) h5⟩⟩
        by_cases f : j = i
        · subst f; exact e2
        · exact z j (by omega) h5
      · rw [if_pos rfl]
        exact ⟨0, rfl, Or.inr ⟨rfl, fun z => e2 (z i (Nat.le_refl _) (by omega))⟩⟩
theorem goto_is (h : tyA S t m k r) (h' : tyA S t' m' k' r') (w : wfK m k r) (w' : wfK m' k' r') : ∃ v, f_X9_goesTo t t' S = some (v, S) ∧ isIt v (m = m' ∧ goesp r' r ∧ ∀ j, j < m → goesp (k j) (k' j)) := by
  unfold f_X9_goesTo
  rw [gI_s h.2.1 h.2.2.2.1, gI_s h'.2.1 h'.2.2.2.1]
  by_cases c2 : m = m'
  · subst c2
    obtain ⟨v, e1, -, e2⟩ := goes_is w'.2.1 w.2.1
    rw [if_pos rfl, gI_s h'.2.1 h'.2.2.1, gI_s h.2.1 h.2.2.1, cP_s e1]
    rcases e2 with ⟨rfl, e2⟩ | ⟨rfl, e2⟩
    · rw [if_neg n10]
      obtain ⟨v, f1, f2⟩ := goto_b h h' w.2.2 w'.2.2 12 0 (by omega) (by omega)
      exact ⟨v, f1, f2.iff ⟨fun z => ⟨rfl, e2, fun j hj => z j (Nat.zero_le _) hj⟩, fun z j _ hj => z.2.2 j hj⟩⟩
    · rw [if_pos rfl]
      exact ⟨0, rfl, Or.inr ⟨rfl, fun z => e2 z.2.1⟩⟩
  · rw [if_neg (fun z => c2 ((nI_eq (by have := h.1; omega) (by have := h'.1; omega)).mp z))]
    exact ⟨0, rfl, Or.inr ⟨rfl, fun z => c2 z.1⟩⟩
end KD1
def mTy (σ : mS) (g m : Nat) (k : Nat → Int32) (r : Int32) : Prop := m_aI σ 8 g = nI m ∧ m_aI σ 10 g = r ∧ ∀ j, j < m → m_aI σ 9 (4 * g + j) = k j
theorem mHi.ty {C : hS} {σ : mS} {i : Nat} (h : mHi C σ i) : mTy σ i (h_m C i) (h_k C i) (h_r C i) := ⟨h.2.2.2.2.2.1, h.2.2.2.2.2.2.1, h.2.2.2.2.2.2.2⟩
section KD2
variable {σ : mS} {g h m m' : Nat} {k k' : Nat → Int32} {r r' : Int32}
theorem mfirst_b (t : mTy σ g m k r) (t' : mTy σ h m' k' r') (hg : g < 33) (hh : h < 33) (hm : m ≤ 4) (hm' : m' ≤ 4) {a b : Nat} (hb : b ≤ 4) (hab : m + b ≤ m' + a) : ∀ (n i : Nat), 6 ≤ n + i → a ≤ i → i ≤ 4 → ∃ v, f_X11_isFirst_b40 n (nI g) (nI a) (nI h) (nI b) 1 (nI i) σ = some (v, σ) ∧ isIt v (∀ j, i ≤ j → j < m → k j = k' (b + j - a)) := by
  intro n
  induction n with
  | zero => intro i h1 h2; omega
  | succ n ih =>
    intro i h1 h2 h3
    rw [f_X11_isFirst_b40.eq_2, m_rI (n := 33) rfl (by omega) (by decide) t.1]
    by_cases c : m ≤ i
    · rw [if_pos (nI_le c (by omega)), ck_t (Or.inr rfl)]
      exact ⟨1, rfl, Or.inl ⟨rfl, fun j _ _ => by omega⟩⟩
    · rw [if_neg (nI_ge (by omega) (by omega)), if_neg n10, call_s (m_kind hg (by omega) (t.2.2 i (by omega))), nI_add, pk_sub (by omega), call_s (m_kind hh (by omega) (t'.2.2 (b + i - a) (by omega)))]
      by_cases e : k i = k' (b + i - a)
      · rw [if_pos e, o_l, nI_1]
        obtain ⟨v, e1, e2⟩ := ih (i + 1) (by omega) (by omega) (by omega)
        refine ⟨v, e1, e2.iff ⟨fun z j h4 h5 => ?_, fun z j h4 h5 => z j (by omega) h5⟩⟩
        by_cases f : j = i
        · subst f; exact e
        · exact z j (by omega) h5
      · rw [if_neg e, o_l, nI_1]
        obtain ⟨n, rfl⟩ : ∃ n', n = n' + 1 := ⟨n - 1, by omega⟩
        rw [f_X11_isFirst_b40.eq_2, m_rI (n := 33) rfl (by omega) (by decide) t.1]
        refine ⟨0, ?_, Or.inr ⟨rfl, fun z => e (z i (Nat.le_refl _) (by omega))⟩⟩
        by_cases c2 : nI m ≤ nI (i + 1)
        · rw [if_pos c2, ck_t (Or.inl rfl)]
        · rw [if_neg c2, if_pos rfl, ck_t (Or.inl rfl)]
theorem mfirst_is (t : mTy σ g m k r) (t' : mTy σ h m' k' r') (hg : g < 33) (hh : h < 33) (hm : m ≤ 4) (hm' : m' ≤ 4) {a b : Nat} (ha : a ≤ 4) (hb : b ≤ 4) : ∃ v, f_X11_isFirst (nI g) (nI a) (nI h) (nI b) σ = some (v, σ) ∧ isIt v (a ≤ m ∧ m + b ≤ m' + a ∧ ∀ j, a ≤ j → j < m → k j = k' (b + j - a)) := by
  have no : ∃ v, f_X11_isFirst_b40 12 (nI g) (nI a) (nI h) (nI b) 0 (nI a) σ = some (v, σ) ∧ v = 0 := by
    rw [f_X11_isFirst_b40.eq_2, m_rI (n := 33) rfl (by omega) (by decide) t.1]
    refine ⟨0, ?_, rfl⟩
    by_cases c2 : nI m ≤ nI a
    · rw [if_pos c2, ck_t (Or.inl rfl)]
    · rw [if_neg c2, if_pos rfl, ck_t (Or.inl rfl)]
  unfold f_X11_isFirst
  rw [m_rI (n := 33) rfl (by omega) (by decide) t.1]
  by_cases c : m < a
  · obtain ⟨v, e1, rfl⟩ := no
    rw [if_pos (nI_lt c (by omega)), e1]
    exact ⟨0, rfl, Or.inr ⟨rfl, fun z => by have := z.1; omega⟩⟩
  rw [if_neg (nI_nlt (by omega) (by omega)), m_rI (n := 33) rfl (by omega) (by decide) t.1, m_rI (n := 33) rfl (by omega) (by decide) t'.1]
  have e : nI m' - nI b < nI m - nI a ↔ ¬ m + b ≤ m' + a := by
    rw [Int32.lt_iff_toInt_lt, pk_sub_toInt (by omega) (by omega), pk_sub_toInt (by omega) (by omega)]; omega
  by_cases d : m + b ≤ m' + a
  · rw [if_neg (fun z => (e.mp z) d)]
    obtain ⟨v, e1, e2⟩ := mfirst_b t t' hg hh hm hm' hb d 12 a (by omega) (Nat.le_refl _) ha
    exact ⟨v, e1, e2.iff ⟨fun z => ⟨by omega, d, z⟩, fun z => z.2.2⟩⟩
  · obtain ⟨v, e1, rfl⟩ := no
    rw [if_pos (e.mpr d), e1]
    exact ⟨0, rfl, Or.inr ⟨rfl, fun z => d z.2.1⟩⟩
theorem malike_is (t : mTy σ h m' k' r') (t' : mTy σ g m k r) (hg : g < 33) (hh : h < 33) (hm : m ≤ 4) (hm' : m' ≤ 4) : ∃ v, f_X11_isAlike (nI h) (nI g) σ = some (v, σ) ∧ isIt v (tyeq m k r m' k' r') := by
  unfold f_X11_isAlike
  rw [m_rI (n := 33) rfl (by omega) (by decide) t.1, m_rI (n := 33) rfl (by omega) (by decide) t'.1]
  by_cases c1 : m' = m
  · rw [if_pos (by rw [c1]), m_rI (n := 33) rfl (by omega) (by decide) t.2.1, m_rI (n := 33) rfl (by omega) (by decide) t'.2.1]
    by_cases c2 : r' = r
    · rw [if_pos c2]
      obtain ⟨v, e1, e2⟩ := mfirst_is t' t hg hh hm hm' (a := 0) (b := 0) (by decide) (by decide)
      rw [call_s (show f_X11_isFirst (nI g) 0 (nI h) 0 σ = _ from e1)]
      have q : (0 ≤ m ∧ m + 0 ≤ m' + 0 ∧ ∀ j, 0 ≤ j → j < m → k j = k' (0 + j - 0)) ↔ tyeq m k r m' k' r' := by
        constructor
        · intro z
          refine ⟨c1.symm, c2.symm, fun j hj => ?_⟩
          have := z.2.2 j (Nat.zero_le _) (by omega)
          rw [show 0 + j - 0 = j by omega] at this; exact this
        · intro z
          refine ⟨Nat.zero_le _, by omega, fun j _ hj => ?_⟩
          rw [show 0 + j - 0 = j by omega]; exact z.2.2 j (by omega)
      rcases e2 with ⟨rfl, e3⟩ | ⟨rfl, e3⟩
      · rw [if_neg n10]; exact ⟨1, rfl, Or.inl ⟨rfl, q.mp e3⟩⟩
      · rw [if_pos rfl]; exact ⟨0, rfl, Or.inr ⟨rfl, fun z => e3 (q.mpr z)⟩⟩
    · rw [if_neg c2]
      exact ⟨0, rfl, Or.inr ⟨rfl, fun z => c2 z.2.1.symm⟩⟩
  · rw [if_neg (fun z => c1 ((nI_eq (by omega) (by omega)).mp z))]
    exact ⟨0, rfl, Or.inr ⟨rfl, fun z => c1 z.1.symm⟩⟩
variable {Z : zS}
theorem mgoes_b (o : mOb Z σ) (t' : mTy σ h m' k' r') (hh : h < 33) (hm' : z_m Z = m') (hk : ∀ j, j < z_m Z → kindp (z_k Z j)) (hk' : ∀ j, j < m' → kindp (k' j)) : ∀ (n i : Nat), 6 ≤ n + i → i ≤ 4 → ∃ v, f_X11_handGoes_b37 n (nI h) 1 (nI i) σ = some (v, σ) ∧ isIt v (∀ j, i ≤ j → j < z_m Z → goesp (z_k Z j) (k' j)) := by
  have hm := o.2.2.1
  intro n
  induction n with
  | zero => intro i h1 h2; omega
  | succ n ih =>
    intro i h1 h3
    rw [f_X11_handGoes_b37.eq_2, m_gI o.2.1]
    by_cases c : z_m Z ≤ i
    · rw [if_pos (nI_le c (by omega)), ck_t (Or.inr rfl)]
      exact ⟨1, rfl, Or.inl ⟨rfl, fun j _ _ => by omega⟩⟩
    · obtain ⟨v, -, e1, e2⟩ := goes_is (hk i (by omega)) (hk' i (by omega))
      rw [if_neg (nI_ge (by omega) (by omega)), if_neg n10, m_rI (n := 4) rfl (by omega) (by decide) (o.2.2.2.1 i (by omega)), call_s (m_kind hh (by omega) (t'.2.2 i (by omega))), cP_s e1, o_l, nI_1]
      rcases e2 with ⟨rfl, e2⟩ | ⟨rfl, e2⟩
      · obtain ⟨v, f1, f2⟩ := ih (i + 1) (by omega) (by omega)
        refine ⟨v, f1, f2.iff ⟨fun z j h4 h5 => ?_, fun z j h4 h5 => z j (by omega) h5⟩⟩
        by_cases f : j = i
        · subst f; exact e2
        · exact z j (by omega) h5
      · obtain ⟨n, rfl⟩ : ∃ n', n = n' + 1 := ⟨n - 1, by omega⟩
        rw [f_X11_handGoes_b37.eq_2, m_gI o.2.1]
        refine ⟨0, ?_, Or.inr ⟨rfl, fun z => e2 (z i (Nat.le_refl _) (by omega))⟩⟩
        by_cases c2 : nI (z_m Z) ≤ nI (i + 1)
        · rw [if_pos c2, ck_t (Or.inl rfl)]
        · rw [if_neg c2, if_pos rfl, ck_t (Or.inl rfl)]
theorem mgoes_is (o : mOb Z σ) (t' : mTy σ h m' k' r') (hh : h < 33) (w : wfK (z_m Z) (z_k Z) (z_r Z)) (w' : wfK m' k' r') : ∃ v, f_X11_handGoes (nI h) σ = some (v, σ) ∧ isIt v (z_m Z = m' ∧ goesp r' (z_r Z) ∧ ∀ j, j < z_m Z → goesp (z_k Z j) (k' j)) := by
  have no : f_X11_handGoes_b37 12 (nI h) 0 0 σ = some (0, σ) := by
    rw [f_X11_handGoes_b37.eq_2, m_gI o.2.1]
    by_cases c2 : nI (z_m Z) ≤ 0
    · rw [if_pos c2, ck_t (Or.inl rfl)]
    · rw [if_neg c2, if_pos rfl, ck_t (Or.inl rfl)]
  unfold f_X11_handGoes
  rw [m_gI o.2.1, m_rI (n := 33) rfl (by omega) (by decide) t'.1]
  by_cases c : z_m Z = m'
  · obtain ⟨v, -, e1, e2⟩ := goes_is w'.2.1 w.2.1
    rw [if_pos (by rw [c]), m_rI (n := 33) rfl (by omega) (by decide) t'.2.1, m_gI o.1, cP_s e1]
    rcases e2 with ⟨rfl, e2⟩ | ⟨rfl, e2⟩
    · rw [if_neg n10]
      obtain ⟨v, f1, f2⟩ := mgoes_b o t' hh c w.2.2 w'.2.2 12 0 (by omega) (by omega)
      exact ⟨v, f1, f2.iff ⟨fun z => ⟨c, e2, fun j hj => z j (Nat.zero_le _) hj⟩, fun z j _ hj => z.2.2 j hj⟩⟩
    · rw [if_pos rfl, no]
      exact ⟨0, rfl, Or.inr ⟨rfl, fun z => e2 z.2.1⟩⟩
  · rw [if_neg (fun z => c ((nI_eq (by have := o.2.2.1; omega) (by have := w'.1; omega)).mp z)), no]
    exact ⟨0, rfl, Or.inr ⟨rfl, fun z => c z.1⟩⟩
theorem mhand_b (o : mOb Z σ) (t' : mTy σ h m' k' r') (hh : h < 33) (hm' : z_m Z = m') : ∀ (n i : Nat), 6 ≤ n + i → i ≤ 4 → ∃ v, f_X11_isHand_b34 n (nI h) 1 (nI i) σ = some (v, σ) ∧ isIt v (∀ j, i ≤ j → j < z_m Z → z_k Z j = k' j) := by
  have hm := o.2.2.1
  intro n
  induction n with
  | zero => intro i h1 h2; omega
  | succ n ih =>
    intro i h1 h3
    rw [f_X11_isHand_b34.eq_2, m_gI o.2.1]
    by_cases c : z_m Z ≤ i
    · rw [if_pos (nI_le c (by omega)), ck_t (Or.inr rfl)]
      exact ⟨1, rfl, Or.inl ⟨rfl, fun j _ _ => by omega⟩⟩
    · rw [if_neg (nI_ge (by omega) (by omega)), if_neg n10, m_rI (n := 4) rfl (by omega) (by decide) (o.2.2.2.1 i (by omega)), call_s (m_kind hh (by omega) (t'.2.2 i (by omega)))]
      by_cases e2 : z_k Z i = k' i
      · rw [if_pos e2, o_l, nI_1]
        obtain ⟨v, f1, f2⟩ := ih (i + 1) (by omega) (by omega)
        refine ⟨v, f1, f2.iff ⟨fun z j h4 h5 => ?_, fun z j h4 h5 => z j (by omega) h5⟩⟩
        by_cases f : j = i
        · subst f; exact e2
        · exact z j (by omega) h5
      · rw [if_neg e2, o_l, nI_1]
        obtain ⟨n, rfl⟩ : ∃ n', n = n' + 1 := ⟨n - 1, by omega⟩
        rw [f_X11_isHand_b34.eq_2, m_gI o.2.1]
        refine ⟨0, ?_, Or.inr ⟨rfl, fun z => e2 (z i (Nat.le_refl _) (by omega))⟩⟩
        by_cases c2 : nI (z_m Z) ≤ nI (i + 1)
        · rw [if_pos c2, ck_t (Or.inl rfl)]
        · rw [if_neg c2, if_pos rfl, ck_t (Or.inl rfl)]
theorem mhand_is (o : mOb Z σ) (t' : mTy σ h m' k' r') (hh : h < 33) (hm' : m' ≤ 4) : ∃ v, f_X11_isHand (nI h) σ = some (v, σ) ∧ isIt v (tyeq (z_m Z) (z_k Z) (z_r Z) m' k' r') := by
  have no : f_X11_isHand_b34 12 (nI h) 0 0 σ = some (0, σ) := by
    rw [f_X11_isHand_b34.eq_2, m_gI o.2.1]
    by_cases c2 : nI (z_m Z) ≤ 0
    · rw [if_pos c2, ck_t (Or.inl rfl)]
    · rw [if_neg c2, if_pos rfl, ck_t (Or.inl rfl)]
  unfold f_X11_isHand
  rw [m_gI o.2.1, m_rI (n := 33) rfl (by omega) (by decide) t'.1]
  by_cases c : z_m Z = m'
  · rw [if_pos (by rw [c]), m_rI (n := 33) rfl (by omega) (by decide) t'.2.1, m_gI o.1]
    by_cases e2 : r' = z_r Z
    · rw [if_pos e2]
      obtain ⟨v, f1, f2⟩ := mhand_b o t' hh c 12 0 (by omega) (by omega)
      exact ⟨v, f1, f2.iff ⟨fun z => ⟨c, e2.symm, fun j hj => z j (Nat.zero_le _) (by omega)⟩, fun z j _ hj => z.2.2 j (by omega)⟩⟩
    · rw [if_neg e2, no]
      exact ⟨0, rfl, Or.inr ⟨rfl, fun z => e2 z.2.1.symm⟩⟩
  · rw [if_neg (fun z => c ((nI_eq (by have := o.2.2.1; omega) (by omega)).mp z)), no]
    exact ⟨0, rfl, Or.inr ⟨rfl, fun z => c z.1⟩⟩
end KD2
