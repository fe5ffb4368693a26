/-! what is known at the law's entry: classes, arrays, the two constants -/
theorem lw_eqL {args : Array Value} {s : State} {t : Term} {z : Int64} (h : (Cond.eq t (.long z)).before args s = true) : t.eval args s none [] s = some (.long z) := by
  cases hv : t.eval args s none [] s with
  | none => simp [Cond.before, Cond.holds, Cond.value, hv] at h
  | some w =>
    have hz : (Term.long z).eval args s none [] s = some (.long z) := rfl
    simp only [Cond.before, Cond.holds, Cond.value, hv, hz] at h
    cases w <;> simp_all
theorem lw_arr {s : State} {args : Array Value} {ty : FieldType} (h : (Cond.arrayClass ty).before args s = true) : ∃ cA : ClassId, s.vm.findClass ("[" ++ ty.toString) = some cA ∧ ∃ (kA : Class) (comp : ClassId), s.vm.classes[cA]? = some kA ∧ kA.kind = .array comp ty := by
  obtain ⟨c, k, comp, h1, h2, h3⟩ := Cond.arrayClass_spec h
  exact ⟨c, h1, k, comp, h2, h3⟩
theorem lw_classes {s : State} {args : Array Value} (hts : ∀ w ∈ lw_all, w.before args s = true) : ∃ D : va_G, ∀ (c : Nat) (q : vw_C), vwCl[c]? = some q → u_Kn s q.1 q.2.1 q.2.2 (D.1 c) (D.2 c) := by
  obtain ⟨c0, i0, k0⟩ := u_known (C := RX0) (T := TX0) (N := 7) hts ly_X0 (hts _ qw256)
  obtain ⟨c1, i1, k1⟩ := u_known (C := RX1) (T := TX1) (N := 2) hts ly_X1 (hts _ qw42)
  obtain ⟨c2, i2, k2⟩ := u_known (C := RX3) (T := TX3) (N := 2) hts ly_X3 (hts _ qw58)
  obtain ⟨c3, i3, k3⟩ := u_known (C := RX4) (T := TX4) (N := 0) hts (fun w hw => absurd hw (by simp [u_ws])) (hts _ qw202)
  obtain ⟨c4, i4, k4⟩ := u_known (C := RX5) (T := TX5) (N := 2) hts ly_X5 (hts _ qw162)
  obtain ⟨c5, i5, k5⟩ := u_known (C := RX6) (T := TX6) (N := 2) hts ly_X6 (hts _ qw26)
  obtain ⟨c6, i6, k6⟩ := u_known (C := RX7) (T := TX7) (N := 7) hts ly_X7 (hts _ qw71)
  obtain ⟨c7, i7, k7⟩ := u_known (C := RX9) (T := TX9) (N := 3) hts ly_X9 (hts _ qw104)
  obtain ⟨c8, i8, k8⟩ := u_known (C := RX10) (T := TX10) (N := 8) hts ly_X10 (hts _ qw18)
  obtain ⟨c9, i9, k9⟩ := u_known (C := RX11) (T := TX11) (N := 36) hts ly_X11 (hts _ qw684)
  refine ⟨(fun k => if k = 0 then c0 else if k = 1 then c1 else if k = 2 then c2 else if k = 3 then c3 else if k = 4 then c4 else if k = 5 then c5 else if k = 6 then c6 else if k = 7 then c7 else if k = 8 then c8 else c9, fun k => if k = 0 then i0 else if k = 1 then i1 else if k = 2 then i2 else if k = 3 then i3 else if k = 4 then i4 else if k = 5 then i5 else if k = 6 then i6 else if k = 7 then i7 else if k = 8 then i8 else i9), ?_⟩
  intro k q hq
  match k, hq with
  | 0, hq => cases hq; exact k0
  | 1, hq => cases hq; exact k1
  | 2, hq => cases hq; exact k2
  | 3, hq => cases hq; exact k3
  | 4, hq => cases hq; exact k4
  | 5, hq => cases hq; exact k5
  | 6, hq => cases hq; exact k6
  | 7, hq => cases hq; exact k7
  | 8, hq => cases hq; exact k8
  | 9, hq => cases hq; exact k9
  | k + 10, hq => simp [vwCl] at hq
theorem lw_sub {w : Cond} (i : Nat) (h : tables_1[i]? = some w) : w ∈ lw_tbl := List.mem_append_right _ (List.mem_of_getElem? h)
theorem lw_types {s : State} {b : Nat} (hts : ∀ w ∈ lw_tbl, w.before #[Value.ref b] s = true) : ∃ Y : Nat → ClassId, ∀ (k : Nat) (q : ClassId × FieldType), (jq_T Y)[k]? = some q → ArrOfT s q.1 q.2 ∧ va_RA s q.1 q.2 := by
  obtain ⟨y0, a0, k0, p0, e0, f0⟩ := lw_arr (hts _ (lw_all_sub qw125))
  obtain ⟨y1, a1, k1, p1, e1, f1⟩ := lw_arr (hts _ (lw_all_sub qw102))
  obtain ⟨p2, y2, k2, g2, -, e2, f2, a2⟩ := Cond.arrayOver_spec (hts (Jvm.Cond.arrayOver (Jvm.ClassFile.FieldType.object "ScoreHandles$Handle")) (lw_sub 48 (by decide +kernel)))
  obtain ⟨p3, y3, k3, g3, -, e3, f3, a3⟩ := Cond.arrayOver_spec (hts (Jvm.Cond.arrayOver (Jvm.ClassFile.FieldType.object "ScoreHandles$Row")) (lw_sub 32 (by decide +kernel)))
  refine ⟨fun k => if k = 0 then y0 else if k = 1 then y1 else if k = 2 then y2 else y3, ?_⟩
  intro k q hq
  match k, hq with
  | 0, hq => cases hq; exact ⟨fun N z => ⟨(fun k h => by cases h), k0, e0, p0, f0⟩, a0⟩
  | 1, hq => cases hq; exact ⟨fun N z => ⟨(fun k h => by cases h), k1, e1, p1, f1⟩, a1⟩
  | 2, hq => cases hq; exact ⟨fun N z => ⟨(fun k h => by cases h), k2, e2, p2, f2⟩, k2, p2, e2, f2, g2, a2⟩
  | 3, hq => cases hq; exact ⟨fun N z => ⟨(fun k h => by cases h), k3, e3, p3, f3⟩, k3, p3, e3, f3, g3, a3⟩
  | k + 4, hq => simp [jq_T] at hq
set_option maxHeartbeats 4000000 in
theorem lw_const {s : State} {b : Nat} (hts : ∀ w ∈ lw_tbl, w.before #[Value.ref b] s = true) (hgv : (Jvm.Cond.and given_1 narrow_1).before #[Value.ref b] s = true) {A : Nat → Prop} (hA : ∀ a : Nat, a < s.heap.size → ¬ A a) : ∃ aR : Nat → Nat, jq_R aR A s s.heap := by
  have hs := flat_of_before _ hgv
  have hini := hts _ (lw_all_sub qw12)
  have hx0 : (Cond.exactly (.static "ScoreHandles$Real" "SINGLE" "LScoreHandles$Real;") "ScoreHandles$Real").before #[Value.ref b] s = true := hs _ (by decide +kernel)
  obtain ⟨a0, -, -, -, q0, -⟩ := Cond.exactly_spec hx0
  have hl0 := hts (Jvm.Cond.laysStatic "ScoreHandles$Real" "SINGLE" "LScoreHandles$Real;") (lw_sub 198 (by decide +kernel))
  have f0 : (Cond.eq (.field (.static "ScoreHandles$Real" "SINGLE" "LScoreHandles$Real;") "ScoreHandles$Real" "fraction" "I") (.int 23)).before #[Value.ref b] s = true := hs _ (by decide +kernel)
  have b0 : (Cond.eq (.field (.static "ScoreHandles$Real" "SINGLE" "LScoreHandles$Real;") "ScoreHandles$Real" "bias" "I") (.int 127)).before #[Value.ref b] s = true := hs _ (by decide +kernel)
  have y0 : (Cond.eq (.field (.static "ScoreHandles$Real" "SINGLE" "LScoreHandles$Real;") "ScoreHandles$Real" "beyond" "I") (.int 255)).before #[Value.ref b] s = true := hs _ (by decide +kernel)
  have s0 : (Cond.eq (.field (.static "ScoreHandles$Real" "SINGLE" "LScoreHandles$Real;") "ScoreHandles$Real" "signs" "J") (.long (-2147483648))).before #[Value.ref b] s = true := hs _ (by decide +kernel)
  have hx1 : (Cond.exactly (.static "ScoreHandles$Real" "DOUBLE" "LScoreHandles$Real;") "ScoreHandles$Real").before #[Value.ref b] s = true := hs _ (by decide +kernel)
  obtain ⟨a1, -, -, -, q1, -⟩ := Cond.exactly_spec hx1
  have hl1 := hts (Jvm.Cond.laysStatic "ScoreHandles$Real" "DOUBLE" "LScoreHandles$Real;") (lw_sub 222 (by decide +kernel))
  have f1 : (Cond.eq (.field (.static "ScoreHandles$Real" "DOUBLE" "LScoreHandles$Real;") "ScoreHandles$Real" "fraction" "I") (.int 52)).before #[Value.ref b] s = true := hs _ (by decide +kernel)
  have b1 : (Cond.eq (.field (.static "ScoreHandles$Real" "DOUBLE" "LScoreHandles$Real;") "ScoreHandles$Real" "bias" "I") (.int 1023)).before #[Value.ref b] s = true := hs _ (by decide +kernel)
  have y1 : (Cond.eq (.field (.static "ScoreHandles$Real" "DOUBLE" "LScoreHandles$Real;") "ScoreHandles$Real" "beyond" "I") (.int 2047)).before #[Value.ref b] s = true := hs _ (by decide +kernel)
  have s1 : (Cond.eq (.field (.static "ScoreHandles$Real" "DOUBLE" "LScoreHandles$Real;") "ScoreHandles$Real" "signs" "J") (.long (-9223372036854775808))).before #[Value.ref b] s = true := hs _ (by decide +kernel)
  refine ⟨fun k => if k = 0 then a0 else a1, fun k hk => ?_⟩
  match k, hk with
  | 0, _ => exact ⟨va_Zref hl0 hini q0 hA, va_Oof hx0 q0 hA, vk_OFof q0 (va_eqt f0) hA, vk_OFof q0 (va_eqt b0) hA, vk_OFof q0 (va_eqt y0) hA, vk_OFof q0 (lw_eqL s0) hA⟩
  | 1, _ => exact ⟨va_Zref hl1 hini q1 hA, va_Oof hx1 q1 hA, vk_OFof q1 (va_eqt f1) hA, vk_OFof q1 (va_eqt b1) hA, vk_OFof q1 (va_eqt y1) hA, vk_OFof q1 (lw_eqL s1) hA⟩
  | k + 2, hk => exact absurd hk (by omega)
theorem lw_known {s : State} {b : Nat} (hts : ∀ w ∈ lw_tbl, w.before #[Value.ref b] s = true) (hgv : (Jvm.Cond.and given_1 narrow_1).before #[Value.ref b] s = true) : ∃ (D : va_G) (Y : Nat → ClassId) (aR : Nat → Nat), jq_K D Y aR (fun q => s.heap.size ≤ q) s := by
  obtain ⟨D, hD⟩ := lw_classes (args := #[Value.ref b]) (fun w hw => hts w (lw_all_sub hw))
  obtain ⟨Y, hY⟩ := lw_types hts
  obtain ⟨aR, hR⟩ := lw_const hts hgv (A := fun q => s.heap.size ≤ q) (fun a h => Nat.not_le.mpr h)
  refine ⟨D, Y, aR, ⟨hD, hY⟩, fun w hw => ?_, va_AO.of (hts _ (lw_sub 48 (by decide +kernel))), va_AO.of (hts _ (lw_sub 32 (by decide +kernel))), fun q h => h, hR⟩
  have h1 := (List.mem_filter.mp hw)
  refine va_Nw.of ?_ (hts w (List.mem_append_right _ h1.1))
  have h2 : lw_isNest w = true := h1.2
  cases w <;> first | rfl | (exact absurd h2 (by simp [lw_isNest]))
