/-! what is handed on keeps to the kinds, sort by sort -/
section KIDS
variable {C : hS} {ρ : eS} {h A B G : Nat} {p : Nat → Int64} {c : Int32}
theorem kd_drop (w2 : h_m C h = h_m C A + 1) (w4 : ∀ j, j < h_m C A + 1 → h_k C h j = q_drop B c (h_k C A) j) (hp : okA C h ρ p) : okA C A ρ (g_drop B p) := by
  intro j hj
  unfold g_drop
  by_cases c : j < B
  · rw [if_pos c]
    exact okv_cast (hp j (by omega)) ((w4 j (by omega)).trans (by unfold q_drop; rw [if_pos c]))
  · rw [if_neg c]
    exact okv_cast (hp (j + 1) (by omega)) ((w4 (j + 1) (by omega)).trans (by unfold q_drop; rw [if_neg (by omega), if_neg (by omega)]; rfl))
theorem kd_swap (a4 : B + 1 < h_m C A) (w2 : h_m C h = h_m C A) (w4 : ∀ j, j < h_m C A → h_k C h j = q_swap B (h_k C A) j) (hp : okA C h ρ p) : okA C A ρ (g_swap B p) := by
  intro j hj
  unfold g_swap
  by_cases c : j = B
  · rw [if_pos c, c]
    exact okv_cast (hp (B + 1) (by omega)) ((w4 (B + 1) (by omega)).trans (by unfold q_swap; rw [if_neg (by omega), if_pos rfl]))
  rw [if_neg c]
  by_cases c2 : j = B + 1
  · rw [if_pos c2, c2]
    exact okv_cast (hp B (by omega)) ((w4 B (by omega)).trans (by unfold q_swap; rw [if_pos rfl]))
  · rw [if_neg c2]
    exact okv_cast (hp j (by omega)) ((w4 j (by omega)).trans (by unfold q_swap; rw [if_neg c, if_neg c2]))
theorem kd_cons {v : Int64} (w1 : 1 ≤ h_m C A) (w2 : h_m C h = h_m C A - 1) (w4 : ∀ j, j < h_m C A - 1 → h_k C h j = q_tail (h_k C A) j) (hp : okA C h ρ p) (hv : okv ρ (h_k C A 0) v) : okA C A ρ (g_cons v p) := by
  intro j hj
  unfold g_cons
  by_cases c : j = 0
  · rw [if_pos c, c]; exact hv
  · rw [if_neg c]
    exact okv_cast (hp (j - 1) (by omega)) ((w4 (j - 1) (by omega)).trans (by unfold q_tail; rw [Nat.sub_add_cancel (by omega)]))
theorem kd_twice (a3 : 2 ≤ h_m C A) (a4 : h_k C A 0 = h_k C A 1) (w2 : h_m C h = h_m C A - 1) (w4 : ∀ j, j < h_m C A - 1 → h_k C h j = q_tail (h_k C A) j) (hp : okA C h ρ p) : okA C A ρ (g_cons (p 0) p) :=
  kd_cons (by omega) w2 w4 hp (okv_cast (hp 0 (by omega)) ((w4 0 (by omega)).trans (by unfold q_tail; exact a4.symm)))
theorem kd_filG (a6 : B < h_m C A) (a7 : h_m C G = 1) (w2 : h_m C h = h_m C A) (w4 : ∀ j, j < h_m C A → h_k C h j = q_at B (h_k C G 0) (h_k C A) j) (hp : okA C h ρ p) : okA C G ρ (fun _ => p B) := by
  intro j hj
  have hj0 : j = 0 := by omega
  subst hj0
  exact okv_cast (hp B (by omega)) ((w4 B (by omega)).trans (by unfold q_at; rw [if_pos rfl]))
theorem kd_filA (a8 : h_r C G = h_k C A B) (w2 : h_m C h = h_m C A) (w4 : ∀ j, j < h_m C A → h_k C h j = q_at B (h_k C G 0) (h_k C A) j) (hp : okA C h ρ p) : ∀ v ρ1, e_le ρ ρ1 → okv ρ1 (h_r C G) v → okA C A ρ1 (g_at B v p) := by
  intro v ρ1 le hv j hj
  unfold g_at
  by_cases c : j = B
  · rw [if_pos c, c]; exact okv_cast hv a8
  · rw [if_neg c]
    exact (okv_cast (hp j (by omega)) ((w4 j (by omega)).trans (by unfold q_at; rw [if_neg c]))).mono le
theorem kd_foldG (a7 : h_m C G + 1 ≤ h_m C A) (a8 : ∀ j, j < h_m C G → h_k C G j = h_k C A (j + 1)) (w2 : h_m C h = h_m C A - 1) (w4 : ∀ j, j < h_m C A - 1 → h_k C h j = q_tail (h_k C A) j) (hp : okA C h ρ p) : okA C G ρ p :=
  fun j hj => okv_cast (hp j (by omega)) ((w4 j (by omega)).trans (a8 j hj).symm)
theorem kd_foldA (a5 : 1 ≤ h_m C A) (a6 : h_r C G = h_k C A 0) (w2 : h_m C h = h_m C A - 1) (w4 : ∀ j, j < h_m C A - 1 → h_k C h j = q_tail (h_k C A) j) (hp : okA C h ρ p) : ∀ v ρ1, e_le ρ ρ1 → okv ρ1 (h_r C G) v → okA C A ρ1 (g_cons v p) :=
  fun _ _ le hv => kd_cons a5 w2 w4 (hp.mono le) (okv_cast hv a6)
theorem kd_same (w2 : h_m C h = h_m C A) (w4 : ∀ j, j < h_m C A → h_k C h j = h_k C A j) (hp : okA C h ρ p) : okA C A ρ p :=
  fun j hj => okv_cast (hp j (by omega)) (w4 j (by omega))
theorem kd_thenG (a5 : h_m C G = 1) (a6 : h_k C G 0 = h_r C A) : ∀ v ρ1, e_le ρ ρ1 → okv ρ1 (h_r C A) v → okA C G ρ1 (g_cons v p) := by
  intro v ρ1 _ hv j hj
  have hj0 : j = 0 := by omega
  subst hj0
  exact okv_cast hv a6.symm
theorem kd_guardA (a8 : h_m C A ≤ h_m C B) (a9 : ∀ j, j < h_m C A → h_k C A j = h_k C B j) (w2 : h_m C h = h_m C B) (w4 : ∀ j, j < h_m C B → h_k C h j = h_k C B j) (hp : okA C h ρ p) : okA C A ρ p :=
  fun j hj => okv_cast (hp j (by omega)) ((w4 j (by omega)).trans (a9 j hj).symm)
theorem kd_guardB (b1 : h_m C G = h_m C B) (b3 : ∀ j, j < h_m C B → h_k C G j = h_k C B j) (w2 : h_m C h = h_m C B) (w4 : ∀ j, j < h_m C B → h_k C h j = h_k C B j) (hp : okA C h ρ p) : ∀ ρ1, e_le ρ ρ1 → okA C B ρ1 p ∧ okA C G ρ1 p :=
  fun _ le => ⟨fun j hj => (okv_cast (hp j (by omega)) (w4 j (by omega))).mono le, fun j hj => (okv_cast (hp j (by omega)) ((w4 j (by omega)).trans (b3 j (by omega)).symm)).mono le⟩
theorem kd_catG (a7 : h_k C G 0 = 4) (a9 : h_m C G ≤ h_m C A + 1) (b1 : ∀ j, j + 1 < h_m C G → h_k C G (j + 1) = h_k C A j) (w2 : h_m C h = h_m C A) (w4 : ∀ j, j < h_m C A → h_k C h j = h_k C A j) (hp : okA C h ρ p) : ∀ c ρ1, e_le ρ ρ1 → okA C G ρ1 (g_cons (Int32.toInt64 c) p) := by
  intro c ρ1 le j hj
  unfold g_cons
  by_cases c0 : j = 0
  · rw [if_pos c0, c0, a7]; exact okv.num _ _ (by simp)
  · rw [if_neg c0]
    have := b1 (j - 1) (by omega)
    rw [Nat.sub_add_cancel (by omega)] at this
    exact (okv_cast (hp (j - 1) (by omega)) ((w4 (j - 1) (by omega)).trans this.symm)).mono le
theorem kd_lastG (a6 : h_k C G 0 = 4) (a7 : h_k C G 1 = h_r C A) (a9 : h_m C G ≤ h_m C A + 2) (b1 : ∀ j, j + 2 < h_m C G → h_k C G (j + 2) = h_k C A j) (w2 : h_m C h = h_m C A) (w4 : ∀ j, j < h_m C A → h_k C h j = h_k C A j) (hp : okA C h ρ p) : ∀ c v ρ1, e_le ρ ρ1 → okv ρ1 (h_r C A) v → okA C G ρ1 (g_cons (Int32.toInt64 c) (g_cons v p)) := by
  intro c v ρ1 le hv j hj
  unfold g_cons
  by_cases c0 : j = 0
  · rw [if_pos c0, c0, a6]; exact okv.num _ _ (by simp)
  · rw [if_neg c0]
    by_cases c1 : j - 1 = 0
    · have : j = 1 := by omega
      subst this
      rw [if_pos rfl, a7]; exact hv
    · rw [if_neg c1]
      have := b1 (j - 2) (by omega)
      rw [Nat.sub_add_cancel (by omega)] at this
      have e : j - 1 - 1 = j - 2 := by omega
      rw [e]
      exact (okv_cast (hp (j - 2) (by omega)) ((w4 (j - 2) (by omega)).trans this.symm)).mono le
theorem kd_loop (a4 : h_k C A 1 = 4) (a5 : h_k C A 0 = h_r C A) (w2 : h_m C h = h_m C A) (w4 : ∀ j, j < h_m C A → h_k C h j = q_swap 0 (h_k C A) j) (hp : okA C h ρ p) : ∀ (v : Int64) (i : Nat) ρ1, e_le ρ ρ1 → okv ρ1 (h_r C A) v → okA C A ρ1 (g_cons v (g_cons (lN i) (fun j => p (j + 2)))) := by
  intro v i ρ1 le hv j hj
  unfold g_cons
  by_cases c0 : j = 0
  · rw [if_pos c0, c0]; exact okv_cast hv a5.symm
  · rw [if_neg c0]
    by_cases c1 : j - 1 = 0
    · have : j = 1 := by omega
      subst this
      rw [if_pos rfl, a4]; exact okv.num _ _ (by simp)
    · rw [if_neg c1]
      have e : j - 1 - 1 + 2 = j := by omega
      show okv ρ1 _ (p (j - 1 - 1 + 2))
      rw [e]
      exact (okv_cast (hp j (by omega)) ((w4 j (by omega)).trans (by unfold q_swap; rw [if_neg c0, if_neg (by omega)]))).mono le
theorem kd_loop1 (a3 : 2 ≤ h_m C A) (a5 : h_k C A 0 = h_r C A) (w2 : h_m C h = h_m C A) (w4 : ∀ j, j < h_m C A → h_k C h j = q_swap 0 (h_k C A) j) (hp : okA C h ρ p) : okv ρ (h_r C A) (p 1) :=
  okv_cast (hp 1 (by omega)) ((w4 1 (by omega)).trans ((by unfold q_swap; rw [if_neg (by decide), if_pos rfl] : q_swap 0 (h_k C A) 1 = h_k C A 0).trans a5))
theorem kd_asA (hkk : ∀ j, j < h_m C h → kindp (h_k C h j)) (hAk : ∀ j, j < h_m C A → kindp (h_k C A j)) (a3 : h_m C h = h_m C A) (a5 : ∀ j, j < h_m C h → goesp (h_k C h j) (h_k C A j)) (hp : okA C h ρ p) :
    okA C A ρ (g_as C h A p) ∧ ∀ j, j < h_m C h → ∃ r, f_X2_widened (h_k C h j) (h_k C A j) (p j) = some r ∧ f_X11_widen (p j) (h_k C h j) (h_k C A j) = some r ∧ g_as C h A p j = r := by
  refine ⟨fun j hj => ?_, fun j hj => ?_⟩
  · unfold g_as
    obtain ⟨r, q1, q2, q3⟩ := wid_ok (hkk j (by omega)) (hAk j hj) (a5 j (by omega)) (hp j (by omega))
    rw [q1]; exact q3
  · obtain ⟨r, q1, q2, q3⟩ := wid_ok (hkk j hj) (hAk j (by omega)) (a5 j hj) (hp j hj)
    exact ⟨r, q1, q2, by unfold g_as; rw [q1]; rfl⟩
end KIDS
