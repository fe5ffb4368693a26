/-! small helps for the walks -/
theorem qc_lt {x y : Int64} : lg_cmp x y < 0 ↔ x < y := by
  unfold lg_cmp; split
  · next h => exact ⟨fun z => absurd z (by decide), fun z => absurd z (Int64.not_lt.mpr (Int64.le_of_lt h))⟩
  · split
    · next h => subst h; exact ⟨fun z => absurd z (by decide), fun z => (Int64.lt_irrefl z).elim⟩
    · next h1 h2 => exact ⟨fun _ => by rcases Int64.lt_or_lt_of_ne h2 with z | z; exact z; exact absurd z h1, fun _ => by decide⟩
theorem qc_gt {x y : Int64} : 0 < lg_cmp x y ↔ y < x := by
  unfold lg_cmp; split
  · next h => exact ⟨fun _ => h, fun _ => by decide⟩
  · split
    · next h => subst h; exact ⟨fun z => absurd z (by decide), fun z => (Int64.lt_irrefl z).elim⟩
    · next h1 h2 => exact ⟨fun z => absurd z (by decide), fun z => absurd z h1⟩
theorem qc_eq {x y : Int64} : lg_cmp x y = 0 ↔ x = y := by
  unfold lg_cmp; split
  · next h => exact ⟨fun z => absurd z (by decide), fun z => by subst z; exact (Int64.lt_irrefl h).elim⟩
  · split
    · next h => exact ⟨fun _ => h, fun _ => rfl⟩
    · next h1 h2 => exact ⟨fun z => absurd z (by decide), fun z => absurd z h2⟩
theorem qc_ge {x y : Int64} : 0 ≤ lg_cmp x y ↔ y ≤ x := by
  rw [← Int32.not_lt, qc_lt, Int64.not_lt]
theorem qc_le {x y : Int64} : lg_cmp x y ≤ 0 ↔ x ≤ y := by
  rw [← Int32.not_lt, qc_gt, Int64.not_lt]
theorem qz_b {v : Int32} (h : v = 0 ∨ v = 1) : narrow .boolean (.int v) = .int v := by rcases h with rfl | rfl <;> rfl
theorem sw_ne {x k : Int32} (h : ¬ x = k) {n : Int} (hn : k.toInt = n) : x.toInt ≠ n := fun z => h (Int32.toInt_inj.mp (z.trans hn.symm))
theorem wJ.cl {D : va_G} {Y : Nat → ClassId} {A : Nat → Prop} {s : State} {S0 S : wS} {H : Heap} {locs : List Loc} (h : wJ D Y A s S0 S H locs) : s_nx S - s_nx S0 ≤ s_lm S0 - s_nx S0 := by
  obtain ⟨⟨a1, a2, a3, a4, a5, a6⟩, -, -⟩ := h; omega
theorem wJ.sl {D : va_G} {Y : Nat → ClassId} {A : Nat → Prop} {s : State} {S0 S : wS} {H : Heap} {locs : List Loc} (h : wJ D Y A s S0 S H locs) : s_sl S - s_sl S0 ≤ s_sm S0 - s_sl S0 := by
  obtain ⟨⟨a1, a2, a3, a4, a5, a6⟩, -, -⟩ := h; omega
theorem mJ.to {D : va_G} {Y : Nat → ClassId} {A : Nat → Prop} {s : State} {ad : Nat → Nat} {σ : mS} {H : Heap} {locs locs1 : List Loc} (h : mJ D Y A s ad σ H locs) (h1 : va_S A s.heap H locs1) : mJ D Y A s ad σ H locs1 := ⟨h.1, h1⟩
section PN
variable {p : Program} {l : Launch} {e : Env} {R : Room} {s : State} {m : MethodId} {args : Array Value} {below : List Frame} {meth : Method} {c : Code} {H : Heap} {locs : List Loc} {cells slots : Nat} {Q : State → Prop}
variable {D : va_G} {Y : Nat → ClassId} {aR : Nat → Nat} {A : Nat → Prop} {cc : ByteArray} {own nm : String} {mx : Nat} {rt : Option FieldType} {pc : Nat} {ls : Array Slot} {st rest : List Value} {a index : Nat}
theorem jq_wrfN {ci k N : Nat} {C host : String} {T : u_T} {fs : List Value} {v : Value} {ty : FieldType} {ty0 : Nat → FieldType} (hX : jq_X D Y aR A p s m args meth c cc own nm mx rt) (hat : va_at D vwCl (a, .inr (ci, fs)) H) (hin : ∀ w ∈ u_ws C T N, w ∈ lw_all) (hty : ∀ k, k < N → parseFieldDescriptor (T k).2.2.1 = some (ty0 k)) (hnm : ∀ a, a < N → ∀ b, b < N → a ≠ b → (T a).2.1 ≠ (T b).2.1) (hc : vwCl[ci]? = some (C, T, N)) (hk : k < N)
    (hl : Cond.fieldLinkNest own index (T k).1 (T k).2.1 (T k).2.2.1 host ∈ lw_nest) (hfin : (T k).2.2.2 = false) (hd : parseFieldDescriptor (T k).2.2.1 = some ty) (hn : narrow ty v = v) (hfit : fits ty v = true) (hlen : k < fs.length) (hS : va_S A s.heap H locs) (hA : A a) (hdg : decode cc pc = .ok (.putfield index, 3))
    (kk : ∀ (H1 : Heap) (locs1 : List Loc), va_at D vwCl (a, .inr (ci, fs.set k v)) H1 → H1.size = H.size → (∀ q : Nat, q ≠ a → H1[q]? = H[q]?) → va_S A s.heap H1 locs1 → W p l e R s m args below meth c H1 locs1 cells slots Q (F0 m (pc + 3) ls rest)) : W p l e R s m args below meth c H locs cells slots Q (F0 m pc ls (v :: .ref a :: rest)) := by
  obtain ⟨hx, hb, -, hown, hts, ⟨hK, hnst, -⟩, -⟩ := hX
  have hap := va_apart (own := own) hts hin ty0 hty hnm hK hc
  obtain ⟨r, h1, cell, q1, q2, q3, q4⟩ := hat
  have hr : r = (C, T, N) := Option.some.inj (h1.symm.trans hc)
  subst hr
  obtain ⟨hSl, hfc, kC, hkC, hkind⟩ := hK.1 ci _ hc
  obtain ⟨cf, kf, fi, f, hi, hsl⟩ := hSl k hk
  have hst := (u_facts hfc hkC (u_lays hts hin hk) hi).1
  have hlay := hts _ (hin _ (u_in_lay hk))
  unfold u_lay at hlay
  rw [if_neg (by rw [hfin]; decide)] at hlay
  have h6 := u_store hfc hkC hkind hlay hi hd hn hfit
  refine va_WputK hx hb (f := f) hown (va_Nw.use rfl (hnst _ hl)) hi hst (by rw [q2]; exact h6) q1 q3 (by rw [hsl]; exact k2_hasslot (q4 k hk)) rfl rfl hdg fun H' e1 e2 e3 => ?_
  rw [hsl] at e1 ⊢
  exact kk H' _ ⟨_, hc, t_OB.to (V := updV (vp_V fs) k v) ⟨_, e1, q2, q3, t_set q4 hap hk v⟩ (fun j _ => vp_updV_set hlen v j)⟩ e2 e3 (hS.put e2 e3 hA)
theorem pn_X0_number {S0 S S1 : wS} {v : Int32} {host : String} (hX : jq_X D Y aR A p s m args meth c cc own nm mx rt) (hJ : wJ D Y A s S0 S H locs) (hk : s_K S a = 1) (hx : s_pI S 4 a v = S1) (hl : Cond.fieldLinkNest own index "ScoreHandles$Handle" "number" "I" host ∈ lw_nest) (hdg : decode cc pc = .ok (.putfield index, 3)) (kk : ∀ (H1 : Heap) (locs1 : List Loc), wJ D Y A s S0 S1 H1 locs1 → W p l e R s m args below meth c H1 locs1 (s_nx S1 - s_nx S0) (s_sl S1 - s_sl S0) Q (F0 m (pc + 3) ls rest)) : W p l e R s m args below meth c H locs (s_nx S - s_nx S0) (s_sl S - s_sl S0) Q (F0 m pc ls (.int v :: .ref a :: rest)) := by
  subst hx
  have h := hJ.2.1.at (a := a) (by rw [hk]; decide)
  rw [wE_X0 hk] at h
  refine jq_wrfN hX h ly_X0 tyX0_ok nmX0 rfl (k := 6) (by decide) hl rfl (ty := .int) (by decide +kernel) rfl rfl (by show _ < _; simp) hJ.2.2 (hJ.2.1.2 a (by rw [hk]; decide)).2 hdg (fun H1 locs1 h1 hz hq hS1 => kk H1 locs1 ⟨hJ.1, hJ.2.1.set (a := a) (by rw [hk]; decide) rfl rfl (fun b hb => wE_pI S 4 a _ hb) ?_ hz hq, hS1⟩)
  rw [wE_X0 (S := s_pI S 4 a _) hk]
  simp only [I_pI, L_pI, R_pI, and_true, if_true, reduceIte, Nat.reduceEqDiff, false_and]
  exact h1
end PN
