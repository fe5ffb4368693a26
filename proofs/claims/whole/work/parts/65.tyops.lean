/-! make: types made of types, in the class -/
section TYOP
variable {ad : Nat → Nat} {C : hS} {ρ : eS} {Z : zS} {q o w : Nat} {S : wS} {σ : mS} {so a b c : Int32} {v : Int64} {m t : Nat} {k : Nat → Int32} {r : Int32}
theorem kind_any (h : tyA S t m k r) {j : Nat} (hj : j < 2 ^ 31) : f_X9_kind t (nI j) S = some (if j < m then k j else -1, S) := by
  by_cases c : j < m
  · rw [if_pos c]; exact kind_yes h c
  · rw [if_neg c]
    exact kind_no h (fun i hi z => by have := h.1; rw [nI_eq hj (by omega)] at z; omega)
theorem new_ty2 {α : Type} {ka mm : Nat} {kk : Nat → Int32} {G : Int32 → Int32} (rm : roomy S 1 3) (h : tyA S t m k r) (hm : mm ≤ 4) (hG : G (nI m) = nI mm) (hk : karr S ka mm kk) {F : Nat → wS → Option α} :
    ∃ S1, (o_new 8 3 S fun a1 S1 => o_gI 8 12 t S1 fun x2 => o_gI 8 13 t S1 fun x3 => o_call (f_X9_init a1 x2 (G x3) ka S1) fun _ S2 => F a1 S2) = F (s_nx S) S1 ∧ grows S S1 1 3 ∧ tyA S1 (s_nx S) mm kk r := by
  obtain ⟨S1, e1, e2, e3⟩ := new_ty (rr := r) (mm := nI mm) rm hm rfl hk (F := F)
  refine ⟨S1, ?_, e2, e3⟩
  have w0 := rm.1 (s_nx S) (Nat.le_refl _)
  have h1 : tyA (s_new S 8 3) t m k r := h.ext ((s_ext.refl S).new w0)
  rw [new_s ⟨rm.2.1, rm.2.2⟩] at e1
  rw [new_s ⟨rm.2.1, rm.2.2⟩, gI_s h1.2.1 h1.2.2.1, gI_s h1.2.1 h1.2.2.2.1, hG]
  exact e1
theorem longer_b {S0 : wS} {a1 B : Nat} {c : Int32} (h : tyA S0 t m k r) (hm : m < 4) (hB : B ≤ m) (ha : s_K S0 a1 = 0) (rm : roomy S0 2 7) : ∀ (n i : Nat) (S : wS), 6 ≤ n + i → i ≤ 4 → grows S0 S 1 4 → s_K S a1 = 21 → s_n S a1 = 4 → (∀ j, j < i → j < m + 1 → s_aI S a1 j = q_drop B c k j) →
    ∃ t' S4, f_X9_longer_b7 n t (nI B) c a1 (nI i) S = some (some t', S4) ∧ grows S0 S4 2 7 ∧ tyA S4 t' (m + 1) (q_drop B c k) r := by
  intro n
  induction n with
  | zero => intro i S h1 h2; omega
  | succ n ih =>
    intro i S h1 h2 g hK hn hv
    have ht := h.ext g.1
    rw [f_X9_longer_b7.eq_2, len_s hK hn]
    by_cases c4 : i = 4
    · subst c4
      rw [if_pos (by decide)]
      obtain ⟨S1, e1, e2, e3⟩ := new_ty2 (G := fun x => if 4 < (x + (1 : Int32)) then 4 else (x + (1 : Int32))) (rm.after (n := 1) (s := 4) g) ht (mm := m + 1) (by omega) (by
        show (if 4 < (nI m + (1 : Int32)) then 4 else (nI m + (1 : Int32))) = nI (m + 1)
        rw [nI_1, if_neg (show ¬ (4 : Int32) < nI (m + 1) from nI_nlt (a := 4) (b := m + 1) (by omega) (by decide))]) ⟨hK, hn, fun j hj => hv j (by omega) hj⟩ (F := fun a1 S2 => some ((some a1 : Option Nat), S2))
      exact ⟨_, _, e1, g.trans e2, e3⟩
    · rw [if_neg (nI_ge (by omega) (by decide))]
      have step : ∀ (x : Int32), (i < m + 1 → x = q_drop B c k i) → ∃ t' S4, (o_wI a1 (nI i) x S fun S4 => o_let (nI i + 1) fun x5 => f_X9_longer_b7 n t (nI B) c a1 x5 S4) = some (some t', S4) ∧ grows S0 S4 2 7 ∧ tyA S4 t' (m + 1) (q_drop B c k) r := fun x hx => by
        rw [wI_s hK hn rfl (by omega) (by decide), o_l, nI_1]
        refine ih (i + 1) _ (by omega) (by omega) (g.wI ha) hK hn (fun j h3 h4 => ?_)
        rw [wI_at]
        by_cases d : j = i
        · subst d; rw [if_pos rfl]; exact hx h4
        · rw [if_neg d]; exact hv j (by omega) h4
      by_cases c1 : B ≤ i
      · rw [if_pos (nI_le c1 (by omega))]
        by_cases c2 : i = B
        · subst c2
          rw [if_pos rfl]
          exact step c (fun _ => by unfold q_drop; rw [if_neg (by omega), if_pos rfl])
        · rw [if_neg (fun z => c2 ((nI_eq (by omega) (by omega)).mp z)), ck_t ht.2.1, show nI i - (1 : Int32) = nI (i - 1) from pk_sub (b := 1) (by omega), call_s (kind_any ht (by omega))]
          exact step _ (fun hi => by rw [if_pos (by omega)]; unfold q_drop; rw [if_neg (by omega), if_neg c2])
      · rw [if_neg (nI_ge (by omega) (by omega)), ck_t ht.2.1, call_s (kind_any ht (by omega))]
        exact step _ (fun hi => by rw [if_pos (by omega)]; unfold q_drop; rw [if_pos (by omega)])
theorem longer_is {B : Nat} {c : Int32} (h : tyA S t m k r) (hm : m < 4) (hB : B ≤ m) (rm : roomy S 2 7) : ∃ t' S4, f_X9_longer t (nI B) c S = some (some t', S4) ∧ grows S S4 2 7 ∧ tyA S4 t' (m + 1) (q_drop B c k) r := by
  obtain ⟨e1, e2, e3, e4, e5⟩ := new_arr (α := Option Nat × wS) (S := S) (rm.le (by decide) (by decide)) (F := fun a1 S1 => f_X9_longer_b7 12 t (nI B) c a1 0 S1)
  unfold f_X9_longer
  rw [e1]
  exact longer_b h hm hB e3 rm 12 0 _ (by omega) (by omega) e2 e4 e5 (fun j hj => by omega)
theorem changed_b {S0 : wS} {a1 B : Nat} {c : Int32} (h : tyA S0 t m k r) (hB : B ≤ 4) (ha : s_K S0 a1 = 0) (rm : roomy S0 2 7) : ∀ (n i : Nat) (S : wS), 6 ≤ n + i → i ≤ 4 → grows S0 S 1 4 → s_K S a1 = 21 → s_n S a1 = 4 → (∀ j, j < i → j < m → s_aI S a1 j = q_at B c k j) →
    ∃ t' S4, f_X9_changed_b7 n t (nI B) c a1 (nI i) S = some (some t', S4) ∧ grows S0 S4 2 7 ∧ tyA S4 t' m (q_at B c k) r := by
  have hm := h.1
  intro n
  induction n with
  | zero => intro i S h1 h2; omega
  | succ n ih =>
    intro i S h1 h2 g hK hn hv
    have ht := h.ext g.1
    rw [f_X9_changed_b7.eq_2, len_s hK hn]
    by_cases c4 : i = 4
    · subst c4
      rw [if_pos (by decide)]
      obtain ⟨S1, e1, e2, e3⟩ := new_ty2 (G := fun x => x) (rm.after (n := 1) (s := 4) g) ht (mm := m) hm rfl ⟨hK, hn, fun j hj => hv j (by omega) hj⟩ (F := fun a1 S2 => some ((some a1 : Option Nat), S2))
      exact ⟨_, _, e1, g.trans e2, e3⟩
    · rw [if_neg (nI_ge (by omega) (by decide))]
      have step : ∀ (x : Int32), (i < m → x = q_at B c k i) → ∃ t' S4, (o_wI a1 (nI i) x S fun S4 => o_let (nI i + 1) fun x5 => f_X9_changed_b7 n t (nI B) c a1 x5 S4) = some (some t', S4) ∧ grows S0 S4 2 7 ∧ tyA S4 t' m (q_at B c k) r := fun x hx => by
        rw [wI_s hK hn rfl (by omega) (by decide), o_l, nI_1]
        refine ih (i + 1) _ (by omega) (by omega) (g.wI ha) hK hn (fun j h3 h4 => ?_)
        rw [wI_at]
        by_cases d : j = i
        · subst d; rw [if_pos rfl]; exact hx h4
        · rw [if_neg d]; exact hv j (by omega) h4
      by_cases c2 : i = B
      · subst c2
        rw [if_pos rfl]
        exact step c (fun _ => by unfold q_at; rw [if_pos rfl])
      · rw [if_neg (fun z => c2 ((nI_eq (by omega) (by omega)).mp z)), ck_t ht.2.1, call_s (kind_any ht (by omega))]
        exact step _ (fun hi => by rw [if_pos hi]; unfold q_at; rw [if_neg c2])
theorem changed_is {B : Nat} {c : Int32} (h : tyA S t m k r) (hB : B ≤ 4) (rm : roomy S 2 7) : ∃ t' S4, f_X9_changed t (nI B) c S = some (some t', S4) ∧ grows S S4 2 7 ∧ tyA S4 t' m (q_at B c k) r := by
  obtain ⟨e1, e2, e3, e4, e5⟩ := new_arr (α := Option Nat × wS) (S := S) (rm.le (by decide) (by decide)) (F := fun a1 S1 => f_X9_changed_b7 12 t (nI B) c a1 0 S1)
  unfold f_X9_changed
  rw [e1]
  exact changed_b h hB e3 rm 12 0 _ (by omega) (by omega) e2 e4 e5 (fun j hj => by omega)
theorem swapped_is {B : Nat} (h : tyA S t m k r) (hB : B + 1 < m) (rm : roomy S 4 14) : ∃ t' S4, f_X9_swapped t (nI B) S = some (some t', S4) ∧ grows S S4 4 14 ∧ tyA S4 t' m (q_swap B k) r := by
  have hm := h.1
  unfold f_X9_swapped
  obtain ⟨t1, S1, e1, e2, e3⟩ := changed_is (B := B) (c := k (B + 1)) h (by omega) (rm.le (by decide) (by decide))
  have h1 := h.ext e2.1
  obtain ⟨t2, S2, f1, f2, f3⟩ := changed_is (B := B + 1) (c := k B) e3 (by omega) ((rm.le (n1 := 2 + 2) (s1 := 7 + 7) (by decide) (by decide)).after e2)
  rw [ck_t h.2.1, nI_1, call_s (kind_yes h hB), ck_t h.2.1, call_s e1, cs_s rfl, ck_t h1.2.1, call_s (kind_yes h1 (by omega)), ck_t e3.2.1, call_s f1]
  refine ⟨t2, S2, rfl, e2.trans f2, f3.eqk (fun j hj => ?_)⟩
  unfold q_at q_swap
  by_cases d : j = B
  · subst d; rw [if_neg (by omega), if_pos rfl, if_pos rfl]
  · rw [if_neg d, if_neg d]
theorem tail_b {S0 : wS} {a1 : Nat} (h : tyA S0 t m k r) (h1m : 1 ≤ m) (ha : s_K S0 a1 = 0) (rm : roomy S0 2 7) : ∀ (n i : Nat) (S : wS), 6 ≤ n + i → i ≤ 4 → grows S0 S 1 4 → s_K S a1 = 21 → s_n S a1 = 4 → (∀ j, j < i → j < m - 1 → s_aI S a1 j = q_tail k j) →
    ∃ t' S4, f_X9_withoutFirst_b6 n t a1 (nI i) S = some (some t', S4) ∧ grows S0 S4 2 7 ∧ tyA S4 t' (m - 1) (q_tail k) r := by
  have hm := h.1
  intro n
  induction n with
  | zero => intro i S h1 h2; omega
  | succ n ih =>
    intro i S h1 h2 g hK hn hv
    have ht := h.ext g.1
    rw [f_X9_withoutFirst_b6.eq_2, len_s hK hn]
    by_cases c4 : i = 4
    · subst c4
      rw [if_pos (by decide)]
      obtain ⟨S1, e1, e2, e3⟩ := new_ty2 (G := fun x => if (x - (1 : Int32)) < 0 then 0 else (x - (1 : Int32))) (rm.after (n := 1) (s := 4) g) ht (mm := m - 1) (by omega) (by
        show (if (nI m - (1 : Int32)) < 0 then 0 else (nI m - (1 : Int32))) = nI (m - 1)
        rw [show nI m - (1 : Int32) = nI (m - 1) from pk_sub (b := 1) h1m, if_neg (nI_pos (by omega))]) ⟨hK, hn, fun j hj => hv j (by omega) hj⟩ (F := fun a1 S2 => some ((some a1 : Option Nat), S2))
      exact ⟨_, _, e1, g.trans e2, e3⟩
    · rw [if_neg (nI_ge (by omega) (by decide)), ck_t ht.2.1, nI_1, call_s (kind_any ht (by omega)), wI_s hK hn rfl (by omega) (by decide), o_l]
      refine ih (i + 1) _ (by omega) (by omega) (g.wI ha) hK hn (fun j h3 h4 => ?_)
      rw [wI_at]
      by_cases d : j = i
      · subst d; rw [if_pos rfl, if_pos (by omega)]; rfl
      · rw [if_neg d]; exact hv j (by omega) h4
theorem tail_is (h : tyA S t m k r) (h1m : 1 ≤ m) (rm : roomy S 2 7) : ∃ t' S4, f_X9_withoutFirst t S = some (some t', S4) ∧ grows S S4 2 7 ∧ tyA S4 t' (m - 1) (q_tail k) r := by
  obtain ⟨e1, e2, e3, e4, e5⟩ := new_arr (α := Option Nat × wS) (S := S) (rm.le (by decide) (by decide)) (F := fun a1 S1 => f_X9_withoutFirst_b6 12 t a1 0 S1)
  unfold f_X9_withoutFirst
  rw [e1]
  exact tail_b h h1m e3 rm 12 0 _ (by omega) (by omega) e2 e4 e5 (fun j hj => by omega)
theorem giving_is (h : tyA S t m k r) (rr : Int32) (rm : roomy S 1 3) : ∃ t' S4, f_X9_giving t rr S = some (some t', S4) ∧ grows S S4 1 3 ∧ tyA S4 t' m k rr := by
  obtain ⟨h0, h1, h2, h3, ka, h4, h5, h6, h7⟩ := id h
  obtain ⟨S1, e1, e2, e3⟩ := new_ty (rr := rr) (mm := nI m) rm h0 rfl ⟨h5, h6, h7⟩ (F := fun a1 S2 => some ((some a1 : Option Nat), S2))
  refine ⟨_, S1, ?_, e2, e3⟩
  have w0 := rm.1 (s_nx S) (Nat.le_refl _)
  have hh : tyA (s_new S 8 3) t m k r := h.ext ((s_ext.refl S).new w0)
  have h9 : s_R (s_new S 8 3) 9 t = some ka := (((s_ext.refl S).new w0 : s_ext S (s_new S 8 3)) t (nz h1 (by decide))).2.2.2.1 9 |>.trans h4
  unfold f_X9_giving
  rw [new_s ⟨rm.2.1, rm.2.2⟩] at e1
  rw [new_s ⟨rm.2.1, rm.2.2⟩, gI_s hh.2.1 hh.2.2.2.1, gR_s hh.2.1 h9, cs_s rfl]
  exact e1
theorem ty_any (kk : cI ad C ρ Z q S) (h32 : h_n C ≤ 32) (x : Int32) : ∃ y, f_X1_typeAt (ad 3) x S = some (y, S) := by
  rcases in_idx x (n := h_n C) (by omega) with ⟨j, hj, rfl, -⟩ | ⟨hn, -⟩
  · exact ⟨_, ty_yes kk.1.2.1 hj⟩
  · exact ⟨_, ty_no kk.1.2.1 hn⟩
theorem cI.ty (kk : cI ad C ρ Z q S) {A : Nat} (hA : A < h_n C) : tyA S (ad (2 * A + 21)) (h_m C A) (h_k C A) (h_r C A) := (kk.hd hA).2.2.2.2.2.2.2.2
theorem x_hnd (kk : cI ad C ρ Z q S) (h : hwB S w so a b c v) (hn : ¬ (so = 0 ∨ so = 1 ∨ so = 9)) (hn2 : ¬ (so = 2 ∨ so = 3 ∨ so = 4 ∨ so = 5 ∨ so = 10)) (hn3 : ¬ (so = 6 ∨ so = 7 ∨ so = 8)) {A : Nat} (hA : A < h_n C) (ha : a = nI A) : ∃ x, f_X3_isFirstTold (ad 5) w S = some (x, S) ∧ isIt x True := by
  subst ha
  unfold f_X3_isFirstTold
  rw [gI_s h.1 h.2.1, if_neg hn, if_neg hn2, if_neg hn3, gR_s kk.1.2.2.2.2.2.2.2.2.2.1 kk.1.2.2.2.2.2.2.2.2.2.2.1, gI_s h.1 h.2.2.1, cs_s rfl, ck_t kk.1.2.1.1, call_s (hnd_yes kk.1.2.1 hA), cs_s rfl]
  exact ⟨1, rfl, Or.inl ⟨rfl, trivial⟩⟩
theorem x_hno (kk : cI ad C ρ Z q S) (h : hwB S w so a b c v) (hn : ¬ (so = 0 ∨ so = 1 ∨ so = 9)) (hn2 : ¬ (so = 2 ∨ so = 3 ∨ so = 4 ∨ so = 5 ∨ so = 10)) (hn3 : ¬ (so = 6 ∨ so = 7 ∨ so = 8)) (ha : ∀ i, i < h_n C → a ≠ nI i) : ∃ x, f_X3_isFirstTold (ad 5) w S = some (x, S) ∧ isIt x False := by
  unfold f_X3_isFirstTold
  rw [gI_s h.1 h.2.1, if_neg hn, if_neg hn2, if_neg hn3, gR_s kk.1.2.2.2.2.2.2.2.2.2.1 kk.1.2.2.2.2.2.2.2.2.2.2.1, gI_s h.1 h.2.2.1, cs_s rfl, ck_t kk.1.2.1.1, call_s (hnd_no kk.1.2.1 ha), cs_n]
  exact ⟨0, rfl, Or.inr ⟨rfl, id⟩⟩
/-- b is a handle (16, 17, 18, 20); c is one (15, 18, 19) -/
theorem x_secH (kk : cI ad C ρ Z q S) (h : hwB S w so a b c v) (h32 : h_n C ≤ 32) (hs : ¬ so = 9 ∧ ¬ so = 11 ∧ ¬ so = 12 ∧ ¬ so = 15) (hs2 : so = 16 ∨ so = 17 ∨ so = 18 ∨ so = 20) : ∃ x, f_X3_isSecondTold (ad 5) w S = some (x, S) ∧ isIt x (∃ G, G < h_n C ∧ b = nI G) := by
  unfold f_X3_isSecondTold
  obtain ⟨s1, s2, s3, s4⟩ := hs
  rw [gI_s h.1 h.2.2.2.1, gI_s h.1 h.2.1, if_neg s1, if_neg s2, if_neg s3, if_neg s4, if_pos hs2, gR_s kk.1.2.2.2.2.2.2.2.2.2.1 kk.1.2.2.2.2.2.2.2.2.2.2.1, cs_s rfl, ck_t kk.1.2.1.1]
  rcases in_idx b (n := h_n C) (by omega) with ⟨j, hj, rfl, -⟩ | ⟨hn, -⟩
  · rw [call_s (hnd_yes kk.1.2.1 hj), cs_s rfl]; exact ⟨1, rfl, Or.inl ⟨rfl, j, hj, rfl⟩⟩
  · rw [call_s (hnd_no kk.1.2.1 hn), cs_n]; exact ⟨0, rfl, Or.inr ⟨rfl, fun ⟨j, hj, z⟩ => hn j hj z⟩⟩
theorem x_thiH (kk : cI ad C ρ Z q S) (h : hwB S w so a b c v) (h32 : h_n C ≤ 32) (hs : ¬ so = 11) (hs2 : so = 15 ∨ so = 18 ∨ so = 19) : ∃ x, f_X3_isThirdTold (ad 5) w S = some (x, S) ∧ isIt x (∃ G, G < h_n C ∧ c = nI G) := by
  unfold f_X3_isThirdTold
  rw [gI_s h.1 h.2.1, if_neg hs, if_pos hs2, gR_s kk.1.2.2.2.2.2.2.2.2.2.1 kk.1.2.2.2.2.2.2.2.2.2.2.1, gI_s h.1 h.2.2.2.2.1, cs_s rfl, ck_t kk.1.2.1.1]
  rcases in_idx c (n := h_n C) (by omega) with ⟨j, hj, rfl, -⟩ | ⟨hn, -⟩
  · rw [call_s (hnd_yes kk.1.2.1 hj), cs_s rfl]; exact ⟨1, rfl, Or.inl ⟨rfl, j, hj, rfl⟩⟩
  · rw [call_s (hnd_no kk.1.2.1 hn), cs_n]; exact ⟨0, rfl, Or.inr ⟨rfl, fun ⟨j, hj, z⟩ => hn j hj z⟩⟩
theorem par_is (kk : cI ad C ρ Z q S) {A : Nat} (hA : A < h_n C) : f_X3_parametersOf (ad 5) (nI A) S = some (nI (h_m C A), S) := by
  unfold f_X3_parametersOf
  rw [gR_s kk.1.2.2.2.2.2.2.2.2.2.1 kk.1.2.2.2.2.2.2.2.2.2.2.1, cs_s rfl, ck_t kk.1.2.1.1, call_s (ty_yes kk.1.2.1 hA), cs_s rfl, gI_s (kk.ty hA).2.1 (kk.ty hA).2.2.2.1]
theorem idx_of {b : Int32} {n : Nat} (hn : n < 2 ^ 30) : (∃ B, B ≤ n ∧ b = nI B ∧ ¬ b < 0 ∧ ¬ nI n < b) ∨ ((∀ B, B ≤ n → b ≠ nI B) ∧ (b < 0 ∨ nI n < b)) := by
  rcases in_rng b (n := n) hn with ⟨j, h1, h2, h3⟩ | ⟨h1, h2, h3⟩
  · left
    refine ⟨j, h1, h2, ?_, ?_⟩
    · rw [h2]; exact nI_pos (by omega)
    · rw [h2]; exact nI_nlt h1 (by omega)
  · exact Or.inr ⟨h3, h1⟩
theorem x_sec11 (kk : cI ad C ρ Z q S) {A : Nat} (h : hwB S w 11 (nI A) b c v) (hA : A < h_n C) (hm : h_m C A ≤ 4) : ∃ x, f_X3_isSecondTold (ad 5) w S = some (x, S) ∧ isIt x (∃ B, B ≤ h_m C A ∧ b = nI B) := by
  unfold f_X3_isSecondTold
  rw [gI_s h.1 h.2.2.2.1, gI_s h.1 h.2.1, if_neg (by decide), if_pos rfl]
  rcases idx_of (b := b) (n := h_m C A) (by omega) with ⟨B, b1, b2, b3, b4⟩ | ⟨b1, b2⟩
  · rw [if_neg b3, gI_s h.1 h.2.2.1, ck_t kk.1.2.2.2.2.2.2.2.2.2.1, call_s (par_is kk hA), if_neg b4]
    exact ⟨1, rfl, Or.inl ⟨rfl, B, b1, b2⟩⟩
  · by_cases d : b < 0
    · rw [if_pos d]; exact ⟨0, rfl, Or.inr ⟨rfl, fun ⟨B, z1, z2⟩ => b1 B z1 z2⟩⟩
    · rw [if_neg d, gI_s h.1 h.2.2.1, ck_t kk.1.2.2.2.2.2.2.2.2.2.1, call_s (par_is kk hA), if_pos (b2.resolve_left d)]
      exact ⟨0, rfl, Or.inr ⟨rfl, fun ⟨B, z1, z2⟩ => b1 B z1 z2⟩⟩
theorem x_sec12 (kk : cI ad C ρ Z q S) {A : Nat} (h : hwB S w 12 (nI A) b c v) (hA : A < h_n C) (hm : h_m C A ≤ 4) : ∃ x, f_X3_isSecondTold (ad 5) w S = some (x, S) ∧ isIt x (∃ B, B + 1 < h_m C A ∧ b = nI B) := by
  have e : (nI (h_m C A) - (1 : Int32)).toInt = (h_m C A : Int) - 1 := pk_sub_toInt (b := 1) (by omega) (by decide)
  unfold f_X3_isSecondTold
  rw [gI_s h.1 h.2.2.2.1, gI_s h.1 h.2.1, if_neg (by decide), if_neg (by decide), if_pos rfl]
  by_cases d : b < 0
  · rw [if_pos d]
    refine ⟨0, rfl, Or.inr ⟨rfl, fun ⟨B, z1, z2⟩ => ?_⟩⟩
    rw [z2] at d; exact nI_pos (by omega) d
  · obtain ⟨B, hB, rfl⟩ := nI_of d
    rw [if_neg d, gI_s h.1 h.2.2.1, ck_t kk.1.2.2.2.2.2.2.2.2.2.1, call_s (par_is kk hA)]
    by_cases f : B + 1 < h_m C A
    · rw [if_neg (by rw [Int32.le_iff_toInt_le, e, nI_toInt hB]; omega)]
      exact ⟨1, rfl, Or.inl ⟨rfl, B, f, rfl⟩⟩
    · rw [if_pos (by rw [Int32.le_iff_toInt_le, e, nI_toInt hB]; omega)]
      refine ⟨0, rfl, Or.inr ⟨rfl, fun ⟨B2, z1, z2⟩ => ?_⟩⟩
      rw [nI_eq hB (by omega)] at z2; omega
theorem x_sec15 (kk : cI ad C ρ Z q S) {A : Nat} (h : hwB S w 15 (nI A) b c v) (hA : A < h_n C) (hm : h_m C A ≤ 4) : ∃ x, f_X3_isSecondTold (ad 5) w S = some (x, S) ∧ isIt x (∃ B, B < h_m C A ∧ b = nI B) := by
  unfold f_X3_isSecondTold
  rw [gI_s h.1 h.2.2.2.1, gI_s h.1 h.2.1, if_neg (by decide), if_neg (by decide), if_neg (by decide), if_pos rfl]
  by_cases d : b < 0
  · rw [if_pos d]
    refine ⟨0, rfl, Or.inr ⟨rfl, fun ⟨B, z1, z2⟩ => ?_⟩⟩
    rw [z2] at d; exact nI_pos (by omega) d
  · obtain ⟨B, hB, rfl⟩ := nI_of d
    rw [if_neg d, gI_s h.1 h.2.2.1, ck_t kk.1.2.2.2.2.2.2.2.2.2.1, call_s (par_is kk hA)]
    by_cases f : B < h_m C A
    · rw [if_neg (nI_ge f (by omega))]
      exact ⟨1, rfl, Or.inl ⟨rfl, B, f, rfl⟩⟩
    · rw [if_pos (nI_le (by omega) hB)]
      refine ⟨0, rfl, Or.inr ⟨rfl, fun ⟨B2, z1, z2⟩ => ?_⟩⟩
      rw [nI_eq hB (by omega)] at z2; omega
theorem held_is (b : Int32) : ∃ x, f_X3_isHeld b = some x ∧ isIt x (heldp b) ∧ ((heldp b ∧ (b = -1 ∨ f_X11_in b.toInt64 1 6 = some 1 ∨ (f_X11_in b.toInt64 1 6 = some 0 ∧ f_X11_in b.toInt64 20 29 = some 1))) ∨ (¬ heldp b ∧ ¬ b = -1 ∧ f_X11_in b.toInt64 1 6 = some 0 ∧ f_X11_in b.toInt64 20 29 = some 0)) := by
  have e1 : (1 : Int32).toInt = 1 := by decide
  have e6 : (6 : Int32).toInt = 6 := by decide
  have e7 : (7 : Int32).toInt = 7 := by decide
  have e20 : (20 : Int32).toInt = 20 := by decide
  have e29 : (29 : Int32).toInt = 29 := by decide
  have l1 : (1 : Int64).toInt = 1 := by decide
  have l6 : (6 : Int64).toInt = 6 := by decide
  have l20 : (20 : Int64).toInt = 20 := by decide
  have l29 : (29 : Int64).toInt = 29 := by decide
  have hp : heldp b ↔ (b = -1 ∨ (1 ≤ b.toInt ∧ b.toInt ≤ 6) ∨ (20 ≤ b.toInt ∧ b.toInt ≤ 29)) := by
    unfold heldp
    rw [Int32.le_iff_toInt_le, Int32.le_iff_toInt_le, Int32.le_iff_toInt_le, Int32.le_iff_toInt_le, e1, e6, e20, e29]
  have i1 : f_X11_in b.toInt64 1 6 = some (if 1 ≤ b.toInt ∧ b.toInt ≤ 6 then 1 else 0) := by
    rw [in_is]; simp only [Int64.le_iff_toInt_le, Int32.toInt_toInt64, l1, l6]
  have i2 : f_X11_in b.toInt64 20 29 = some (if 20 ≤ b.toInt ∧ b.toInt ≤ 29 then 1 else 0) := by
    rw [in_is]; simp only [Int64.le_iff_toInt_le, Int32.toInt_toInt64, l20, l29]
  rw [i1, i2, hp]
  unfold f_X3_isHeld
  simp only [Int32.lt_iff_toInt_lt, e1, e7, e20, e29]
  by_cases c1 : b = -1
  · rw [if_pos c1]
    exact ⟨1, rfl, Or.inl ⟨rfl, Or.inl c1⟩, Or.inl ⟨Or.inl c1, Or.inl c1⟩⟩
  rw [if_neg c1]
  by_cases c2 : 1 ≤ b.toInt ∧ b.toInt ≤ 6
  · rw [if_neg (by omega), if_pos (by omega), if_pos c2]
    exact ⟨1, rfl, Or.inl ⟨rfl, Or.inr (Or.inl c2)⟩, Or.inl ⟨Or.inr (Or.inl c2), Or.inr (Or.inl rfl)⟩⟩
  by_cases c3 : 20 ≤ b.toInt ∧ b.toInt ≤ 29
  · rw [if_neg (by omega), if_neg (by omega), if_neg (by omega), if_neg (by omega), if_neg c2, if_pos c3]
    exact ⟨1, rfl, Or.inl ⟨rfl, Or.inr (Or.inr c3)⟩, Or.inl ⟨Or.inr (Or.inr c3), Or.inr (Or.inr ⟨rfl, rfl⟩)⟩⟩
  rw [if_neg c2, if_neg c3]
  refine ⟨0, ?_, Or.inr ⟨rfl, fun z => z.elim c1 (fun z => z.elim c2 c3)⟩, Or.inr ⟨fun z => z.elim c1 (fun z => z.elim c2 c3), c1, rfl, rfl⟩⟩
  by_cases d1 : b.toInt < 1
  · rw [if_pos d1, if_pos (by omega)]
  · rw [if_neg d1, if_neg (by omega)]
    by_cases d2 : b.toInt < 20
    · rw [if_pos d2]
    · rw [if_neg d2, if_pos (by omega)]
theorem x_sec19 (h : hwB S w 19 a b c v) : ∃ x, f_X3_isSecondTold (ad 5) w S = some (x, S) ∧ isIt x (heldp b) := by
  unfold f_X3_isSecondTold
  obtain ⟨x, e, i, -⟩ := held_is b
  rw [gI_s h.1 h.2.2.2.1, gI_s h.1 h.2.1, if_neg (by decide), if_neg (by decide), if_neg (by decide), if_neg (by decide), if_neg (by decide), if_pos rfl, cP_s e, ck_t (by rcases i with ⟨z, -⟩ | ⟨z, -⟩ <;> simp [z])]
  exact ⟨x, rfl, i⟩
theorem x_thi11 (h : hwB S w 11 a b c v) : ∃ x, f_X3_isThirdTold (ad 5) w S = some (x, S) ∧ isIt x (kindp c) := by
  unfold f_X3_isThirdTold
  rw [gI_s h.1 h.2.1, if_pos rfl, gI_s h.1 h.2.2.2.2.1]
  rcases kind_is c with ⟨d, e, -⟩ | ⟨d, e, -⟩
  · rw [cP_s e, ck_t (Or.inr rfl)]; exact ⟨1, rfl, Or.inl ⟨rfl, d⟩⟩
  · rw [cP_s e, ck_t (Or.inl rfl)]; exact ⟨0, rfl, Or.inr ⟨rfl, d⟩⟩
end TYOP
