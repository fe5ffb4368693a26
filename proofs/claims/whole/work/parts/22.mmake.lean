theorem dX11_freshRow_0 : decode cX11_freshRow 0 = .ok (.aload_n 0, 1) := by decide +kernel
theorem dX11_freshRow_1 : decode cX11_freshRow 1 = .ok (.getfield 7, 3) := by decide +kernel
theorem dX11_freshRow_4 : decode cX11_freshRow 4 = .ok (.aload_n 0, 1) := by decide +kernel
theorem dX11_freshRow_5 : decode cX11_freshRow 5 = .ok (.getfield 86, 3) := by decide +kernel
theorem dX11_freshRow_8 : decode cX11_freshRow 8 = .ok (.iload_n 1, 1) := by decide +kernel
theorem dX11_freshRow_9 : decode cX11_freshRow 9 = .ok (.iastore, 1) := by decide +kernel
theorem dX11_freshRow_10 : decode cX11_freshRow 10 = .ok (.aload_n 0, 1) := by decide +kernel
theorem dX11_freshRow_11 : decode cX11_freshRow 11 = .ok (.getfield 13, 3) := by decide +kernel
theorem dX11_freshRow_14 : decode cX11_freshRow 14 = .ok (.aload_n 0, 1) := by decide +kernel
theorem dX11_freshRow_15 : decode cX11_freshRow 15 = .ok (.getfield 86, 3) := by decide +kernel
theorem dX11_freshRow_18 : decode cX11_freshRow 18 = .ok (.iload_n 2, 1) := by decide +kernel
theorem dX11_freshRow_19 : decode cX11_freshRow 19 = .ok (.iastore, 1) := by decide +kernel
theorem dX11_freshRow_20 : decode cX11_freshRow 20 = .ok (.iconst 0, 1) := by decide +kernel
theorem dX11_freshRow_21 : decode cX11_freshRow 21 = .ok (.istore_n 3, 1) := by decide +kernel
theorem dX11_freshRow_22 : decode cX11_freshRow 22 = .ok (.iload_n 3, 1) := by decide +kernel
theorem dX11_freshRow_23 : decode cX11_freshRow 23 = .ok (.bipush 8, 2) := by decide +kernel
theorem dX11_freshRow_25 : decode cX11_freshRow 25 = .ok (.if_icmp .ge 24, 3) := by decide +kernel
theorem dX11_freshRow_49 : decode cX11_freshRow 49 = .ok (.aload_n 0, 1) := by decide +kernel
theorem dX11_freshRow_50 : decode cX11_freshRow 50 = .ok (.dup, 1) := by decide +kernel
theorem dX11_freshRow_51 : decode cX11_freshRow 51 = .ok (.getfield 86, 3) := by decide +kernel
theorem dX11_freshRow_54 : decode cX11_freshRow 54 = .ok (.iconst 1, 1) := by decide +kernel
theorem dX11_freshRow_55 : decode cX11_freshRow 55 = .ok (.iadd, 1) := by decide +kernel
theorem dX11_freshRow_56 : decode cX11_freshRow 56 = .ok (.putfield 86, 3) := by decide +kernel
theorem dX11_freshRow_59 : decode cX11_freshRow 59 = .ok (.aload_n 0, 1) := by decide +kernel
theorem dX11_freshRow_60 : decode cX11_freshRow 60 = .ok (.getfield 86, 3) := by decide +kernel
theorem dX11_freshRow_63 : decode cX11_freshRow 63 = .ok (.iconst 1, 1) := by decide +kernel
theorem dX11_freshRow_64 : decode cX11_freshRow 64 = .ok (.isub, 1) := by decide +kernel
theorem dX11_freshRow_65 : decode cX11_freshRow 65 = .ok (.ireturn, 1) := by decide +kernel
theorem dX11_freshRow_28 : decode cX11_freshRow 28 = .ok (.aload_n 0, 1) := by decide +kernel
theorem dX11_freshRow_29 : decode cX11_freshRow 29 = .ok (.getfield 16, 3) := by decide +kernel
theorem dX11_freshRow_32 : decode cX11_freshRow 32 = .ok (.bipush 8, 2) := by decide +kernel
theorem dX11_freshRow_34 : decode cX11_freshRow 34 = .ok (.aload_n 0, 1) := by decide +kernel
theorem dX11_freshRow_35 : decode cX11_freshRow 35 = .ok (.getfield 86, 3) := by decide +kernel
theorem dX11_freshRow_38 : decode cX11_freshRow 38 = .ok (.imul, 1) := by decide +kernel
theorem dX11_freshRow_39 : decode cX11_freshRow 39 = .ok (.iload_n 3, 1) := by decide +kernel
theorem dX11_freshRow_40 : decode cX11_freshRow 40 = .ok (.iadd, 1) := by decide +kernel
theorem dX11_freshRow_41 : decode cX11_freshRow 41 = .ok (.lconst 0, 1) := by decide +kernel
theorem dX11_freshRow_42 : decode cX11_freshRow 42 = .ok (.lastore, 1) := by decide +kernel
theorem dX11_freshRow_43 : decode cX11_freshRow 43 = .ok (.iinc 3 1, 3) := by decide +kernel
theorem dX11_freshRow_46 : decode cX11_freshRow 46 = .ok (.goto (-24), 3) := by decide +kernel
theorem hy_X11_freshRow : yX11_freshRow.cls ≠ "java/lang/invoke/MethodHandle" ∧ yX11_freshRow.cls ≠ "java/lang/invoke/VarHandle" ∧ (parseMethodDescriptor yX11_freshRow.desc).map (fun d => d.parameters.length) = some 2 := ⟨by decide, by decide, by decide +kernel⟩
def f_X11_freshRow_b22 : Nat → Int32 → mS → Option ((Int32) × mS)
  | 0, _, _ => none
  | n + 1, l3, S => 
  if 8 ≤ l3 then (
  o_let (m_I S 0) fun x1 =>
  o_let (m_pI S 0 (x1 + (1 : Int32))) fun S1 =>
  o_let (m_I S1 0) fun x2 =>
  some (x2 - (1 : Int32), S1)) else (
  o_let (m_I S 0) fun x3 =>
  o_ck (¬ ((((8 : Int32) * x3) + l3) < 0 ∨ 128 ≤ ((((8 : Int32) * x3) + l3)).toNatClampNeg)) (o_let (m_wL S 15 ((((8 : Int32) * x3) + l3)).toNatClampNeg 0) fun S2 =>
  o_let (l3 + 1) fun x4 =>
  f_X11_freshRow_b22 n x4 S2))
set_option maxHeartbeats 4000000 in
set_option maxRecDepth 100000 in
theorem w_X11_freshRow_b22 {l : Launch} {D : va_G} {Y : Nat → ClassId} {aR : Nat → Nat} {A : Nat → Prop} {ad : Nat → Nat} {p : Program} {e : Env} {s : State} {m : MethodId} {args : Array Value} {below : List Frame} {meth : Method} {c : Code} : ∀ (n : Nat) (l3 : Int32) (S S' : mS) (r : Int32) (H : Heap) (locs : List Loc) (ls : Array Slot), jq_X D Y aR A p s m args meth c cX11_freshRow RX11 "freshRow" 4 (some .int) → mJ D Y A s ad S H locs → f_X11_freshRow_b22 n l3 S = some (r, S') → lv_has ls 4 [(0, .ref (ad 0)), (3, .int l3)] → W p l e { frames := 0, cells := 0, slots := 0, locals := 0 } s m args below meth c H locs 0 0 (jq_Z below A (fun v k n H => v = (some (.int r)) ∧ k = 0 ∧ n = 0 ∧ mH D Y A ad S' H) s) (F0 m 22 ls []) := by
  intro n
  induction n with
  | zero =>
    intro l3 S S' r H locs ls hX hJ hf hl
    cases hf
  | succ n ih =>
    intro l3 S S' r H locs ls hX hJ hf hl
    rw [f_X11_freshRow_b22.eq_2] at hf
    have hx := hX.1
    have hb := hX.2.1
    have hm := hX.2.2.1
    have ho := hX.2.2.2.1
    have ht := hX.2.2.2.2.1
    have hn := hX.2.2.2.2.2.1.2.1
    refine lv_iload_n hx hb dX11_freshRow_22 rfl (lv_at hl 1 rfl) ?_
    refine lv_bipush (v := 8) hx hb dX11_freshRow_23 (by decide) ?_
    refine lv_icmp_ge (tgt := 49) hx hb dX11_freshRow_25 (by decide) (fun c1 => ?_) (fun c1 => ?_)
    · replace hf := o_t hf c1
      refine lv_aload_n hx hb dX11_freshRow_49 rfl (lv_at hl 0 rfl) ?_
      refine lv_dup hx hb dX11_freshRow_50 rfl ?_
      replace hf := o_let_e hf
      obtain ⟨x1, hx1, hf⟩ := hf
      refine mg_rows hX hJ hx1 qw689 dX11_freshRow_51 ?_
      refine lv_iconst (v := 1) hx hb dX11_freshRow_54 (by decide) ?_
      refine lv_iadd hx hb dX11_freshRow_55 ?_
      replace hf := o_let_e hf
      obtain ⟨S1, hS1, hf⟩ := hf
      refine mp_rows hX hJ hS1 qw689 dX11_freshRow_56 (fun H locs hJ' => ?_)
      clear hJ
      have hJ := hJ'
      clear hJ'
      refine lv_aload_n hx hb dX11_freshRow_59 rfl (lv_at hl 0 rfl) ?_
      replace hf := o_let_e hf
      obtain ⟨x2, hx2, hf⟩ := hf
      refine mg_rows hX hJ hx2 qw689 dX11_freshRow_60 ?_
      refine lv_iconst (v := 1) hx hb dX11_freshRow_63 (by decide) ?_
      refine lv_isub hx hb dX11_freshRow_64 ?_
      obtain ⟨rfl, rfl⟩ := Prod.mk.inj (Option.some.inj hf)
      exact jq_iret hX hJ.2 dX11_freshRow_65 ⟨rfl, rfl, rfl, hJ.1⟩
    · replace hf := o_f hf c1
      refine lv_aload_n hx hb dX11_freshRow_28 rfl (lv_at hl 0 rfl) ?_
      refine mg_items hX hJ qw692 dX11_freshRow_29 ?_
      refine lv_bipush (v := 8) hx hb dX11_freshRow_32 (by decide) ?_
      refine lv_aload_n hx hb dX11_freshRow_34 rfl (lv_at hl 0 rfl) ?_
      replace hf := o_let_e hf
      obtain ⟨x3, hx3, hf⟩ := hf
      refine mg_rows hX hJ hx3 qw689 dX11_freshRow_35 ?_
      refine lv_imul hx hb dX11_freshRow_38 ?_
      refine lv_iload_n hx hb dX11_freshRow_39 rfl (lv_at hl 1 rfl) ?_
      refine lv_iadd hx hb dX11_freshRow_40 ?_
      refine lv_lconst (v := 0) hx hb dX11_freshRow_41 (by decide) ?_
      replace hf := o_ck_e hf
      obtain ⟨hk1, hf⟩ := hf
      replace hf := o_let_e hf
      obtain ⟨S2, hS2, hf⟩ := hf
      refine mw_L 15 hX hJ (by decide) hk1 hS2 dX11_freshRow_42 (fun H locs hJ' => ?_)
      clear hJ
      have hJ := hJ'
      clear hJ'
      replace hf := o_let_e hf
      obtain ⟨x4, hx4, hf⟩ := hf
      refine lv_iinc (v := x4) (lv' := [(3, .int x4), (0, .ref (ad 0))]) hx hb dX11_freshRow_43 hl (k := 1) rfl (by rw [← hx4]; rfl) (by decide) rfl (fun ls hl' => ?_)
      clear hl
      have hl := hl'
      clear hl'
      refine lv_goto (tgt := 22) hx hb dX11_freshRow_46 (by decide) ?_
      replace hl := lv_sub hl (l' := [(0, .ref (ad 0)), (3, .int x4)]) [1, 0] rfl
      exact ih x4 S2 S' r H locs ls hX hJ hf hl
def f_X11_freshRow (p1 : Int32) (p2 : Int32) (S : mS) : Option ((Int32) × mS) :=
  o_let (m_I S 0) fun x1 =>
  o_ck (¬ (x1 < 0 ∨ 16 ≤ (x1).toNatClampNeg)) (o_let (m_wI S 1 (x1).toNatClampNeg p1) fun S1 =>
  o_let (m_I S1 0) fun x2 =>
  o_ck (¬ (x2 < 0 ∨ 16 ≤ (x2).toNatClampNeg)) (o_let (m_wI S1 2 (x2).toNatClampNeg p2) fun S2 =>
  f_X11_freshRow_b22 12 0 S2))
set_option maxHeartbeats 4000000 in
set_option maxRecDepth 100000 in
theorem c_X11_freshRow {l : Launch} {D : va_G} {Y : Nat → ClassId} {aR : Nat → Nat} {A : Nat → Prop} {ad : Nat → Nat} {p1 : Int32} {p2 : Int32} {S S' : mS} {r : Int32} (hf : f_X11_freshRow p1 p2 S = some (r, S')) : jq_M l D Y aR A ad yX11_freshRow cX11_freshRow 4 (some .int) 0 0 [.ref (ad 0), .int p1, .int p2] S (some (.int r)) S' := by
  unfold f_X11_freshRow at hf
  refine jq_enterM (by decide) (Nat.le_of_ble_eq_true rfl) fun p e s m args below meth c ls H locs hX hJ hl => ?_
  have hl : lv_has ls 4 [(0, .ref (ad 0)), (1, .int p1), (2, .int p2)] := hl
  have hx := hX.1
  have hb := hX.2.1
  have hm := hX.2.2.1
  have ho := hX.2.2.2.1
  have ht := hX.2.2.2.2.1
  have hn := hX.2.2.2.2.2.1.2.1
  refine lv_aload_n hx hb dX11_freshRow_0 rfl (lv_at hl 0 rfl) ?_
  refine mg_laneOf hX hJ qw690 dX11_freshRow_1 ?_
  refine lv_aload_n hx hb dX11_freshRow_4 rfl (lv_at hl 0 rfl) ?_
  replace hf := o_let_e hf
  obtain ⟨x1, hx1, hf⟩ := hf
  refine mg_rows hX hJ hx1 qw689 dX11_freshRow_5 ?_
  refine lv_iload_n hx hb dX11_freshRow_8 rfl (lv_at hl 1 rfl) ?_
  replace hf := o_ck_e hf
  obtain ⟨hk1, hf⟩ := hf
  replace hf := o_let_e hf
  obtain ⟨S1, hS1, hf⟩ := hf
  refine mw_I 1 hX hJ (by decide) hk1 hS1 dX11_freshRow_9 (fun H locs hJ' => ?_)
  clear hJ
  have hJ := hJ'
  clear hJ'
  refine lv_aload_n hx hb dX11_freshRow_10 rfl (lv_at hl 0 rfl) ?_
  refine mg_sizeOf hX hJ qw691 dX11_freshRow_11 ?_
  refine lv_aload_n hx hb dX11_freshRow_14 rfl (lv_at hl 0 rfl) ?_
  replace hf := o_let_e hf
  obtain ⟨x2, hx2, hf⟩ := hf
  refine mg_rows hX hJ hx2 qw689 dX11_freshRow_15 ?_
  refine lv_iload_n hx hb dX11_freshRow_18 rfl (lv_at hl 2 rfl) ?_
  replace hf := o_ck_e hf
  obtain ⟨hk2, hf⟩ := hf
  replace hf := o_let_e hf
  obtain ⟨S2, hS2, hf⟩ := hf
  refine mw_I 2 hX hJ (by decide) hk2 hS2 dX11_freshRow_19 (fun H locs hJ' => ?_)
  clear hJ
  have hJ := hJ'
  clear hJ'
  refine lv_iconst (v := 0) hx hb dX11_freshRow_20 (by decide) ?_
  refine lv_istore_n (lv' := [(3, .int 0), (0, .ref (ad 0)), (1, .int p1), (2, .int p2)]) hx hb dX11_freshRow_21 rfl hl (by decide) rfl (fun ls hl' => ?_)
  clear hl
  have hl := hl'
  clear hl'
  replace hl := lv_sub hl (l' := [(0, .ref (ad 0)), (3, .int 0)]) [1, 0] rfl
  exact w_X11_freshRow_b22 12 0 S2 S' r H locs ls hX hJ hf hl
theorem dX11_row_0 : decode cX11_row 0 = .ok (.iload_n 1, 1) := by decide +kernel
theorem dX11_row_1 : decode cX11_row 1 = .ok (.i2l, 1) := by decide +kernel
theorem dX11_row_2 : decode cX11_row 2 = .ok (.lconst 0, 1) := by decide +kernel
theorem dX11_row_3 : decode cX11_row 3 = .ok (.ldc2_w 78, 3) := by decide +kernel
theorem dX11_row_6 : decode cX11_row 6 = .ok (.invokestatic 80, 3) := by decide +kernel
theorem dX11_row_9 : decode cX11_row 9 = .ok (.ifCond .eq 15, 3) := by decide +kernel
theorem dX11_row_24 : decode cX11_row 24 = .ok (.iconst (-1), 1) := by decide +kernel
theorem dX11_row_25 : decode cX11_row 25 = .ok (.ireturn, 1) := by decide +kernel
theorem dX11_row_12 : decode cX11_row 12 = .ok (.iload_n 2, 1) := by decide +kernel
theorem dX11_row_13 : decode cX11_row 13 = .ok (.i2l, 1) := by decide +kernel
theorem dX11_row_14 : decode cX11_row 14 = .ok (.lconst 0, 1) := by decide +kernel
theorem dX11_row_15 : decode cX11_row 15 = .ok (.ldc2_w 84, 3) := by decide +kernel
theorem dX11_row_18 : decode cX11_row 18 = .ok (.invokestatic 80, 3) := by decide +kernel
theorem dX11_row_21 : decode cX11_row 21 = .ok (.ifCond .ne 5, 3) := by decide +kernel
theorem dX11_row_26 : decode cX11_row 26 = .ok (.aload_n 0, 1) := by decide +kernel
theorem dX11_row_27 : decode cX11_row 27 = .ok (.getfield 86, 3) := by decide +kernel
theorem dX11_row_30 : decode cX11_row 30 = .ok (.bipush 16, 2) := by decide +kernel
theorem dX11_row_32 : decode cX11_row 32 = .ok (.if_icmp .ne 6, 3) := by decide +kernel
theorem dX11_row_38 : decode cX11_row 38 = .ok (.aload_n 0, 1) := by decide +kernel
theorem dX11_row_39 : decode cX11_row 39 = .ok (.iload_n 1, 1) := by decide +kernel
theorem dX11_row_40 : decode cX11_row 40 = .ok (.iload_n 2, 1) := by decide +kernel
theorem dX11_row_41 : decode cX11_row 41 = .ok (.invokevirtual 89, 3) := by decide +kernel
theorem dX11_row_44 : decode cX11_row 44 = .ok (.ireturn, 1) := by decide +kernel
theorem dX11_row_35 : decode cX11_row 35 = .ok (.bipush (-2), 2) := by decide +kernel
theorem dX11_row_37 : decode cX11_row 37 = .ok (.ireturn, 1) := by decide +kernel
theorem hy_X11_row : yX11_row.cls ≠ "java/lang/invoke/MethodHandle" ∧ yX11_row.cls ≠ "java/lang/invoke/VarHandle" ∧ (parseMethodDescriptor yX11_row.desc).map (fun d => d.parameters.length) = some 2 := ⟨by decide, by decide, by decide +kernel⟩
def f_X11_row (p1 : Int32) (p2 : Int32) (S : mS) : Option ((Int32) × mS) :=
  o_cP (f_X11_in ((p1).toInt64) 0 7) fun x1 =>
  if x1 = 0 then (
  some ((-1), S)) else (
  o_cP (f_X11_in ((p2).toInt64) 0 8) fun x2 =>
  if x2 = 0 then (
  some ((-1), S)) else (
  o_let (m_I S 0) fun x3 =>
  if x3 = 16 then (
  some ((-2), S)) else (
  o_call (f_X11_freshRow p1 p2 S) fun x4 S1 =>
  some (x4, S1))))
set_option maxHeartbeats 4000000 in
set_option maxRecDepth 100000 in
theorem c_X11_row {l : Launch} {D : va_G} {Y : Nat → ClassId} {aR : Nat → Nat} {A : Nat → Prop} {ad : Nat → Nat} {p1 : Int32} {p2 : Int32} {S S' : mS} {r : Int32} (hf : f_X11_row p1 p2 S = some (r, S')) : jq_M l D Y aR A ad yX11_row cX11_row 3 (some .int) 1 25 [.ref (ad 0), .int p1, .int p2] S (some (.int r)) S' := by
  unfold f_X11_row at hf
  refine jq_enterM (by decide) (Nat.le_of_ble_eq_true rfl) fun p e s m args below meth c ls H locs hX hJ hl => ?_
  have hl : lv_has ls 3 [(0, .ref (ad 0)), (1, .int p1), (2, .int p2)] := hl
  have hx := hX.1
  have hb := hX.2.1
  have hm := hX.2.2.1
  have ho := hX.2.2.2.1
  have ht := hX.2.2.2.2.1
  have hn := hX.2.2.2.2.2.1.2.1
  refine lv_iload_n hx hb dX11_row_0 rfl (lv_at hl 1 rfl) ?_
  refine lv_i2l hx hb dX11_row_1 rfl ?_
  refine lv_lconst (v := 0) hx hb dX11_row_2 (by decide) ?_
  refine lv_ldc2 (v := 7) hx hb ho (ht _ qw802) dX11_row_3 ?_
  replace hf := o_cP_e hf
  obtain ⟨x1, hq1, hf⟩ := hf
  refine jq_doP hX hJ.2 (jq_okS (As := [.long ((p1).toInt64), .long 0, .long 7]) (rest := []) hx hb hm ho ht qw803 qw804 qw805 qw7 hy_X11_in rfl hl.1 (Nat.le_of_ble_eq_true rfl) dX11_row_6) (c_X11_in hq1) (Nat.le_of_ble_eq_true rfl) (Nat.le_of_ble_eq_true rfl) (Nat.le_refl _) (Nat.le_refl _) (fun locs hS9 => ?_)
  replace hJ := mJ.to hJ hS9
  refine lv_if_eq (tgt := 24) hx hb dX11_row_9 (by decide) (fun c1 => ?_) (fun c1 => ?_)
  · replace hf := o_t hf c1
    refine lv_iconst (v := (-1)) hx hb dX11_row_24 (by decide) ?_
    obtain ⟨rfl, rfl⟩ := Prod.mk.inj (Option.some.inj hf)
    exact jq_iret hX hJ.2 dX11_row_25 ⟨rfl, rfl, rfl, hJ.1⟩
  · replace hf := o_f hf c1
    refine lv_iload_n hx hb dX11_row_12 rfl (lv_at hl 2 rfl) ?_
    refine lv_i2l hx hb dX11_row_13 rfl ?_
    refine lv_lconst (v := 0) hx hb dX11_row_14 (by decide) ?_
    refine lv_ldc2 (v := 8) hx hb ho (ht _ qw806) dX11_row_15 ?_
    replace hf := o_cP_e hf
    obtain ⟨x2, hq2, hf⟩ := hf
    refine jq_doP hX hJ.2 (jq_okS (As := [.long ((p2).toInt64), .long 0, .long 8]) (rest := []) hx hb hm ho ht qw803 qw804 qw805 qw7 hy_X11_in rfl hl.1 (Nat.le_of_ble_eq_true rfl) dX11_row_18) (c_X11_in hq2) (Nat.le_of_ble_eq_true rfl) (Nat.le_of_ble_eq_true rfl) (Nat.le_refl _) (Nat.le_refl _) (fun locs hS9 => ?_)
    replace hJ := mJ.to hJ hS9
    refine lv_if_ne (tgt := 26) hx hb dX11_row_21 (by decide) (fun c2 => ?_) (fun c2 => ?_)
    · replace hf := o_f hf c2
      refine lv_aload_n hx hb dX11_row_26 rfl (lv_at hl 0 rfl) ?_
      replace hf := o_let_e hf
      obtain ⟨x3, hx3, hf⟩ := hf
      refine mg_rows hX hJ hx3 qw689 dX11_row_27 ?_
      refine lv_bipush (v := 16) hx hb dX11_row_30 (by decide) ?_
      refine lv_icmp_ne (tgt := 38) hx hb dX11_row_32 (by decide) (fun c3 => ?_) (fun c3 => ?_)
      · replace hf := o_f hf c3
        refine lv_aload_n hx hb dX11_row_38 rfl (lv_at hl 0 rfl) ?_
        refine lv_iload_n hx hb dX11_row_39 rfl (lv_at hl 1 rfl) ?_
        refine lv_iload_n hx hb dX11_row_40 rfl (lv_at hl 2 rfl) ?_
        replace hf := o_call_e hf
        obtain ⟨x4, S1, hq3, hf⟩ := hf
        refine jq_doM hX hJ (jq_okV (As := [.int p1, .int p2]) (rest := []) hx hb hm ho ht (mJ.recv hX hJ) qw807 qw809 qs72 qw810 qw7 hy_X11_freshRow rfl hl.1 (Nat.le_of_ble_eq_true rfl) dX11_row_41) (c_X11_freshRow hq3) (Nat.le_of_ble_eq_true rfl) (Nat.le_of_ble_eq_true rfl) (Nat.le_refl _) (Nat.le_refl _) (fun H locs hJ' => ?_)
        clear hJ
        have hJ := hJ'
        clear hJ'
        obtain ⟨rfl, rfl⟩ := Prod.mk.inj (Option.some.inj hf)
        exact jq_iret hX hJ.2 dX11_row_44 ⟨rfl, rfl, rfl, hJ.1⟩
      · replace hf := o_t hf c3
        refine lv_bipush (v := (-2)) hx hb dX11_row_35 (by decide) ?_
        obtain ⟨rfl, rfl⟩ := Prod.mk.inj (Option.some.inj hf)
        exact jq_iret hX hJ.2 dX11_row_37 ⟨rfl, rfl, rfl, hJ.1⟩
    · replace hf := o_t hf c2
      refine lv_iconst (v := (-1)) hx hb dX11_row_24 (by decide) ?_
      obtain ⟨rfl, rfl⟩ := Prod.mk.inj (Option.some.inj hf)
      exact jq_iret hX hJ.2 dX11_row_25 ⟨rfl, rfl, rfl, hJ.1⟩
theorem dX11_isRow_0 : decode cX11_isRow 0 = .ok (.lload_n 1, 1) := by decide +kernel
theorem dX11_isRow_1 : decode cX11_isRow 1 = .ok (.lconst 0, 1) := by decide +kernel
theorem dX11_isRow_2 : decode cX11_isRow 2 = .ok (.aload_n 0, 1) := by decide +kernel
theorem dX11_isRow_3 : decode cX11_isRow 3 = .ok (.getfield 86, 3) := by decide +kernel
theorem dX11_isRow_6 : decode cX11_isRow 6 = .ok (.iconst 1, 1) := by decide +kernel
theorem dX11_isRow_7 : decode cX11_isRow 7 = .ok (.isub, 1) := by decide +kernel
theorem dX11_isRow_8 : decode cX11_isRow 8 = .ok (.i2l, 1) := by decide +kernel
theorem dX11_isRow_9 : decode cX11_isRow 9 = .ok (.invokestatic 80, 3) := by decide +kernel
theorem dX11_isRow_12 : decode cX11_isRow 12 = .ok (.ireturn, 1) := by decide +kernel
theorem hy_X11_isRow : yX11_isRow.cls ≠ "java/lang/invoke/MethodHandle" ∧ yX11_isRow.cls ≠ "java/lang/invoke/VarHandle" ∧ (parseMethodDescriptor yX11_isRow.desc).map (fun d => d.parameters.length) = some 1 := ⟨by decide, by decide, by decide +kernel⟩
def f_X11_isRow (p1 : Int64) (S : mS) : Option ((Int32) × mS) :=
  o_let (m_I S 0) fun x1 =>
  o_cP (f_X11_in p1 0 (((x1 - (1 : Int32))).toInt64)) fun x2 =>
  o_ck (x2 = 0 ∨ x2 = 1) (some (x2, S))
set_option maxHeartbeats 4000000 in
set_option maxRecDepth 100000 in
theorem c_X11_isRow {l : Launch} {D : va_G} {Y : Nat → ClassId} {aR : Nat → Nat} {A : Nat → Prop} {ad : Nat → Nat} {p1 : Int64} {S S' : mS} {r : Int32} (hf : f_X11_isRow p1 S = some (r, S')) : jq_M l D Y aR A ad yX11_isRow cX11_isRow 3 (some .boolean) 1 25 [.ref (ad 0), .long p1] S (some (.int r)) S' := by
  unfold f_X11_isRow at hf
  refine jq_enterM (by decide) (Nat.le_of_ble_eq_true rfl) fun p e s m args below meth c ls H locs hX hJ hl => ?_
  have hl : lv_has ls 3 [(0, .ref (ad 0)), (1, .long p1)] := hl
  have hx := hX.1
  have hb := hX.2.1
  have hm := hX.2.2.1
  have ho := hX.2.2.2.1
  have ht := hX.2.2.2.2.1
  have hn := hX.2.2.2.2.2.1.2.1
  refine lv_lload_n hx hb dX11_isRow_0 rfl (lv_at hl 1 rfl) ?_
  refine lv_lconst (v := 0) hx hb dX11_isRow_1 (by decide) ?_
  refine lv_aload_n hx hb dX11_isRow_2 rfl (lv_at hl 0 rfl) ?_
  replace hf := o_let_e hf
  obtain ⟨x1, hx1, hf⟩ := hf
  refine mg_rows hX hJ hx1 qw689 dX11_isRow_3 ?_
  refine lv_iconst (v := 1) hx hb dX11_isRow_6 (by decide) ?_
  refine lv_isub hx hb dX11_isRow_7 ?_
  refine lv_i2l hx hb dX11_isRow_8 rfl ?_
  replace hf := o_cP_e hf
  obtain ⟨x2, hq1, hf⟩ := hf
  refine jq_doP hX hJ.2 (jq_okS (As := [.long p1, .long 0, .long (((x1 - (1 : Int32))).toInt64)]) (rest := []) hx hb hm ho ht qw803 qw804 qw805 qw7 hy_X11_in rfl hl.1 (Nat.le_of_ble_eq_true rfl) dX11_isRow_9) (c_X11_in hq1) (Nat.le_of_ble_eq_true rfl) (Nat.le_of_ble_eq_true rfl) (Nat.le_refl _) (Nat.le_refl _) (fun locs hS9 => ?_)
  replace hJ := mJ.to hJ hS9
  replace hf := o_ck_e hf
  obtain ⟨hc1, hf⟩ := hf
  obtain ⟨rfl, rfl⟩ := Prod.mk.inj (Option.some.inj hf)
  exact jq_zret hX hJ.2 (qz_b hc1) dX11_isRow_12 ⟨rfl, rfl, rfl, hJ.1⟩
theorem dX11_isItem_0 : decode cX11_isItem 0 = .ok (.aload_n 0, 1) := by decide +kernel
theorem dX11_isItem_1 : decode cX11_isItem 1 = .ok (.lload_n 1, 1) := by decide +kernel
theorem dX11_isItem_2 : decode cX11_isItem 2 = .ok (.invokevirtual 93, 3) := by decide +kernel
theorem dX11_isItem_5 : decode cX11_isItem 5 = .ok (.ifCond .eq 25, 3) := by decide +kernel
theorem dX11_isItem_30 : decode cX11_isItem 30 = .ok (.iconst 0, 1) := by decide +kernel
theorem dX11_isItem_31 : decode cX11_isItem 31 = .ok (.ireturn, 1) := by decide +kernel
theorem dX11_isItem_8 : decode cX11_isItem 8 = .ok (.lload_n 3, 1) := by decide +kernel
theorem dX11_isItem_9 : decode cX11_isItem 9 = .ok (.lconst 0, 1) := by decide +kernel
theorem dX11_isItem_10 : decode cX11_isItem 10 = .ok (.aload_n 0, 1) := by decide +kernel
theorem dX11_isItem_11 : decode cX11_isItem 11 = .ok (.getfield 13, 3) := by decide +kernel
theorem dX11_isItem_14 : decode cX11_isItem 14 = .ok (.lload_n 1, 1) := by decide +kernel
theorem dX11_isItem_15 : decode cX11_isItem 15 = .ok (.l2i, 1) := by decide +kernel
theorem dX11_isItem_16 : decode cX11_isItem 16 = .ok (.iaload, 1) := by decide +kernel
theorem dX11_isItem_17 : decode cX11_isItem 17 = .ok (.iconst 1, 1) := by decide +kernel
theorem dX11_isItem_18 : decode cX11_isItem 18 = .ok (.isub, 1) := by decide +kernel
theorem dX11_isItem_19 : decode cX11_isItem 19 = .ok (.i2l, 1) := by decide +kernel
theorem dX11_isItem_20 : decode cX11_isItem 20 = .ok (.invokestatic 80, 3) := by decide +kernel
theorem dX11_isItem_23 : decode cX11_isItem 23 = .ok (.ifCond .eq 7, 3) := by decide +kernel
theorem dX11_isItem_26 : decode cX11_isItem 26 = .ok (.iconst 1, 1) := by decide +kernel
theorem dX11_isItem_27 : decode cX11_isItem 27 = .ok (.goto 4, 3) := by decide +kernel
theorem hy_X11_isItem : yX11_isItem.cls ≠ "java/lang/invoke/MethodHandle" ∧ yX11_isItem.cls ≠ "java/lang/invoke/VarHandle" ∧ (parseMethodDescriptor yX11_isItem.desc).map (fun d => d.parameters.length) = some 2 := ⟨by decide, by decide, by decide +kernel⟩
def f_X11_isItem (p1 : Int64) (p2 : Int64) (S : mS) : Option ((Int32) × mS) :=
  o_call (f_X11_isRow p1 S) fun x1 S1 =>
  if x1 = 0 then (
  some (0, S1)) else (
  o_ck (¬ (((p1).toInt32) < 0 ∨ 16 ≤ (((p1).toInt32)).toNatClampNeg)) (o_let (m_aI S1 2 (((p1).toInt32)).toNatClampNeg) fun x2 =>
  o_cP (f_X11_in p2 0 (((x2 - (1 : Int32))).toInt64)) fun x3 =>
  if x3 = 0 then (
  some (0, S1)) else (
  some (1, S1))))
set_option maxHeartbeats 4000000 in
set_option maxRecDepth 100000 in
theorem c_X11_isItem {l : Launch} {D : va_G} {Y : Nat → ClassId} {aR : Nat → Nat} {A : Nat → Prop} {ad : Nat → Nat} {p1 : Int64} {p2 : Int64} {S S' : mS} {r : Int32} (hf : f_X11_isItem p1 p2 S = some (r, S')) : jq_M l D Y aR A ad yX11_isItem cX11_isItem 5 (some .boolean) 2 47 [.ref (ad 0), .long p1, .long p2] S (some (.int r)) S' := by
  unfold f_X11_isItem at hf
  refine jq_enterM (by decide) (Nat.le_of_ble_eq_true rfl) fun p e s m args below meth c ls H locs hX hJ hl => ?_
  have hl : lv_has ls 5 [(0, .ref (ad 0)), (1, .long p1), (3, .long p2)] := hl
  have hx := hX.1
  have hb := hX.2.1
  have hm := hX.2.2.1
  have ho := hX.2.2.2.1
  have ht := hX.2.2.2.2.1
  have hn := hX.2.2.2.2.2.1.2.1
  refine lv_aload_n hx hb dX11_isItem_0 rfl (lv_at hl 0 rfl) ?_
  refine lv_lload_n hx hb dX11_isItem_1 rfl (lv_at hl 1 rfl) ?_
  replace hf := o_call_e hf
  obtain ⟨x1, S1, hq1, hf⟩ := hf
  refine jq_doM hX hJ (jq_okV (As := [.long p1]) (rest := []) hx hb hm ho ht (mJ.recv hX hJ) qw819 qw821 qs74 qw822 qw7 hy_X11_isRow rfl hl.1 (Nat.le_of_ble_eq_true rfl) dX11_isItem_2) (c_X11_isRow hq1) (Nat.le_of_ble_eq_true rfl) (Nat.le_of_ble_eq_true rfl) (Nat.le_refl _) (Nat.le_refl _) (fun H locs hJ' => ?_)
  clear hJ
  have hJ := hJ'
  clear hJ'
  refine lv_if_eq (tgt := 30) hx hb dX11_isItem_5 (by decide) (fun c1 => ?_) (fun c1 => ?_)
  · replace hf := o_t hf c1
    refine lv_iconst (v := 0) hx hb dX11_isItem_30 (by decide) ?_
    obtain ⟨rfl, rfl⟩ := Prod.mk.inj (Option.some.inj hf)
    exact jq_zret hX hJ.2 (by decide) dX11_isItem_31 ⟨rfl, rfl, rfl, hJ.1⟩
  · replace hf := o_f hf c1
    refine lv_lload_n hx hb dX11_isItem_8 rfl (lv_at hl 2 rfl) ?_
    refine lv_lconst (v := 0) hx hb dX11_isItem_9 (by decide) ?_
    refine lv_aload_n hx hb dX11_isItem_10 rfl (lv_at hl 0 rfl) ?_
    refine mg_sizeOf hX hJ qw691 dX11_isItem_11 ?_
    refine lv_lload_n hx hb dX11_isItem_14 rfl (lv_at hl 1 rfl) ?_
    refine lv_l2i hx hb dX11_isItem_15 rfl ?_
    replace hf := o_ck_e hf
    obtain ⟨hk1, hf⟩ := hf
    replace hf := o_let_e hf
    obtain ⟨x2, hx2, hf⟩ := hf
    refine ma_I 2 hX hJ (by decide) hk1 hx2 dX11_isItem_16 ?_
    refine lv_iconst (v := 1) hx hb dX11_isItem_17 (by decide) ?_
    refine lv_isub hx hb dX11_isItem_18 ?_
    refine lv_i2l hx hb dX11_isItem_19 rfl ?_
    replace hf := o_cP_e hf
    obtain ⟨x3, hq2, hf⟩ := hf
    refine jq_doP hX hJ.2 (jq_okS (As := [.long p2, .long 0, .long (((x2 - (1 : Int32))).toInt64)]) (rest := []) hx hb hm ho ht qw803 qw804 qw805 qw7 hy_X11_in rfl hl.1 (Nat.le_of_ble_eq_true rfl) dX11_isItem_20) (c_X11_in hq2) (Nat.le_of_ble_eq_true rfl) (Nat.le_of_ble_eq_true rfl) (Nat.le_refl _) (Nat.le_refl _) (fun locs hS9 => ?_)
    replace hJ := mJ.to hJ hS9
    refine lv_if_eq (tgt := 30) hx hb dX11_isItem_23 (by decide) (fun c2 => ?_) (fun c2 => ?_)
    · replace hf := o_t hf c2
      refine lv_iconst (v := 0) hx hb dX11_isItem_30 (by decide) ?_
      obtain ⟨rfl, rfl⟩ := Prod.mk.inj (Option.some.inj hf)
      exact jq_zret hX hJ.2 (by decide) dX11_isItem_31 ⟨rfl, rfl, rfl, hJ.1⟩
    · replace hf := o_f hf c2
      refine lv_iconst (v := 1) hx hb dX11_isItem_26 (by decide) ?_
      refine lv_goto (tgt := 31) hx hb dX11_isItem_27 (by decide) ?_
      obtain ⟨rfl, rfl⟩ := Prod.mk.inj (Option.some.inj hf)
      exact jq_zret hX hJ.2 (by decide) dX11_isItem_31 ⟨rfl, rfl, rfl, hJ.1⟩
theorem dX11_put_0 : decode cX11_put 0 = .ok (.aload_n 0, 1) := by decide +kernel
theorem dX11_put_1 : decode cX11_put 1 = .ok (.iload_n 1, 1) := by decide +kernel
theorem dX11_put_2 : decode cX11_put 2 = .ok (.i2l, 1) := by decide +kernel
theorem dX11_put_3 : decode cX11_put 3 = .ok (.iload_n 2, 1) := by decide +kernel
theorem dX11_put_4 : decode cX11_put 4 = .ok (.i2l, 1) := by decide +kernel
theorem dX11_put_5 : decode cX11_put 5 = .ok (.invokevirtual 97, 3) := by decide +kernel
theorem dX11_put_8 : decode cX11_put 8 = .ok (.ifCond .ne 5, 3) := by decide +kernel
theorem dX11_put_13 : decode cX11_put 13 = .ok (.aload_n 0, 1) := by decide +kernel
theorem dX11_put_14 : decode cX11_put 14 = .ok (.getfield 16, 3) := by decide +kernel
theorem dX11_put_17 : decode cX11_put 17 = .ok (.bipush 8, 2) := by decide +kernel
theorem dX11_put_19 : decode cX11_put 19 = .ok (.iload_n 1, 1) := by decide +kernel
theorem dX11_put_20 : decode cX11_put 20 = .ok (.imul, 1) := by decide +kernel
theorem dX11_put_21 : decode cX11_put 21 = .ok (.iload_n 2, 1) := by decide +kernel
theorem dX11_put_22 : decode cX11_put 22 = .ok (.iadd, 1) := by decide +kernel
theorem dX11_put_23 : decode cX11_put 23 = .ok (.lload_n 3, 1) := by decide +kernel
theorem dX11_put_24 : decode cX11_put 24 = .ok (.aload_n 0, 1) := by decide +kernel
theorem dX11_put_25 : decode cX11_put 25 = .ok (.getfield 7, 3) := by decide +kernel
theorem dX11_put_28 : decode cX11_put 28 = .ok (.iload_n 1, 1) := by decide +kernel
theorem dX11_put_29 : decode cX11_put 29 = .ok (.iaload, 1) := by decide +kernel
theorem dX11_put_30 : decode cX11_put 30 = .ok (.invokestatic 101, 3) := by decide +kernel
theorem dX11_put_33 : decode cX11_put 33 = .ok (.lastore, 1) := by decide +kernel
theorem dX11_put_34 : decode cX11_put 34 = .ok (.iconst 1, 1) := by decide +kernel
theorem dX11_put_35 : decode cX11_put 35 = .ok (.ireturn, 1) := by decide +kernel
theorem dX11_put_11 : decode cX11_put 11 = .ok (.iconst (-1), 1) := by decide +kernel
theorem dX11_put_12 : decode cX11_put 12 = .ok (.ireturn, 1) := by decide +kernel
theorem hy_X11_put : yX11_put.cls ≠ "java/lang/invoke/MethodHandle" ∧ yX11_put.cls ≠ "java/lang/invoke/VarHandle" ∧ (parseMethodDescriptor yX11_put.desc).map (fun d => d.parameters.length) = some 3 := ⟨by decide, by decide, by decide +kernel⟩
def f_X11_put (p1 : Int32) (p2 : Int32) (p3 : Int64) (S : mS) : Option ((Int32) × mS) :=
  o_call (f_X11_isItem ((p1).toInt64) ((p2).toInt64) S) fun x1 S1 =>
  if x1 = 0 then (
  some ((-1), S1)) else (
  o_ck (¬ (p1 < 0 ∨ 16 ≤ (p1).toNatClampNeg)) (o_let (m_aI S1 1 (p1).toNatClampNeg) fun x2 =>
  o_cP (f_X11_cast p3 x2) fun x3 =>
  o_ck (¬ ((((8 : Int32) * p1) + p2) < 0 ∨ 128 ≤ ((((8 : Int32) * p1) + p2)).toNatClampNeg)) (o_let (m_wL S1 15 ((((8 : Int32) * p1) + p2)).toNatClampNeg x3) fun S2 =>
  some (1, S2))))
set_option maxHeartbeats 4000000 in
set_option maxRecDepth 100000 in
theorem c_X11_put {l : Launch} {D : va_G} {Y : Nat → ClassId} {aR : Nat → Nat} {A : Nat → Prop} {ad : Nat → Nat} {p1 : Int32} {p2 : Int32} {p3 : Int64} {S S' : mS} {r : Int32} (hf : f_X11_put p1 p2 p3 S = some (r, S')) : jq_M l D Y aR A ad yX11_put cX11_put 5 (some .int) 3 71 [.ref (ad 0), .int p1, .int p2, .long p3] S (some (.int r)) S' := by
  unfold f_X11_put at hf
  refine jq_enterM (by decide) (Nat.le_of_ble_eq_true rfl) fun p e s m args below meth c ls H locs hX hJ hl => ?_
  have hl : lv_has ls 5 [(0, .ref (ad 0)), (1, .int p1), (2, .int p2), (3, .long p3)] := hl
  have hx := hX.1
  have hb := hX.2.1
  have hm := hX.2.2.1
  have ho := hX.2.2.2.1
  have ht := hX.2.2.2.2.1
  have hn := hX.2.2.2.2.2.1.2.1
  refine lv_aload_n hx hb dX11_put_0 rfl (lv_at hl 0 rfl) ?_
  refine lv_iload_n hx hb dX11_put_1 rfl (lv_at hl 1 rfl) ?_
  refine lv_i2l hx hb dX11_put_2 rfl ?_
  refine lv_iload_n hx hb dX11_put_3 rfl (lv_at hl 2 rfl) ?_
  refine lv_i2l hx hb dX11_put_4 rfl ?_
  replace hf := o_call_e hf
  obtain ⟨x1, S1, hq1, hf⟩ := hf
  refine jq_doM hX hJ (jq_okV (As := [.long ((p1).toInt64), .long ((p2).toInt64)]) (rest := []) hx hb hm ho ht (mJ.recv hX hJ) qw815 qw817 qs73 qw818 qw7 hy_X11_isItem rfl hl.1 (Nat.le_of_ble_eq_true rfl) dX11_put_5) (c_X11_isItem hq1) (Nat.le_of_ble_eq_true rfl) (Nat.le_of_ble_eq_true rfl) (Nat.le_refl _) (Nat.le_refl _) (fun H locs hJ' => ?_)
  clear hJ
  have hJ := hJ'
  clear hJ'
  refine lv_if_ne (tgt := 13) hx hb dX11_put_8 (by decide) (fun c1 => ?_) (fun c1 => ?_)
  · replace hf := o_f hf c1
    refine lv_aload_n hx hb dX11_put_13 rfl (lv_at hl 0 rfl) ?_
    refine mg_items hX hJ qw692 dX11_put_14 ?_
    refine lv_bipush (v := 8) hx hb dX11_put_17 (by decide) ?_
    refine lv_iload_n hx hb dX11_put_19 rfl (lv_at hl 1 rfl) ?_
    refine lv_imul hx hb dX11_put_20 ?_
    refine lv_iload_n hx hb dX11_put_21 rfl (lv_at hl 2 rfl) ?_
    refine lv_iadd hx hb dX11_put_22 ?_
    refine lv_lload_n hx hb dX11_put_23 rfl (lv_at hl 3 rfl) ?_
    refine lv_aload_n hx hb dX11_put_24 rfl (lv_at hl 0 rfl) ?_
    refine mg_laneOf hX hJ qw690 dX11_put_25 ?_
    refine lv_iload_n hx hb dX11_put_28 rfl (lv_at hl 1 rfl) ?_
    replace hf := o_ck_e hf
    obtain ⟨hk1, hf⟩ := hf
    replace hf := o_let_e hf
    obtain ⟨x2, hx2, hf⟩ := hf
    refine ma_I 1 hX hJ (by decide) hk1 hx2 dX11_put_29 ?_
    replace hf := o_cP_e hf
    obtain ⟨x3, hq2, hf⟩ := hf
    refine jq_doP hX hJ.2 (jq_okS (As := [.long p3, .int x2]) (rest := [.int (((8 : Int32) * p1) + p2), .ref (ad 15)]) hx hb hm ho ht qw823 qw824 qw825 qw7 hy_X11_cast rfl hl.1 (Nat.le_of_ble_eq_true rfl) dX11_put_30) (c_X11_cast hq2) (Nat.le_of_ble_eq_true rfl) (Nat.le_of_ble_eq_true rfl) (Nat.le_refl _) (Nat.le_refl _) (fun locs hS9 => ?_)
    replace hJ := mJ.to hJ hS9
    replace hf := o_ck_e hf
    obtain ⟨hk2, hf⟩ := hf
    replace hf := o_let_e hf
    obtain ⟨S2, hS2, hf⟩ := hf
    refine mw_L 15 hX hJ (by decide) hk2 hS2 dX11_put_33 (fun H locs hJ' => ?_)
    clear hJ
    have hJ := hJ'
    clear hJ'
    refine lv_iconst (v := 1) hx hb dX11_put_34 (by decide) ?_
    obtain ⟨rfl, rfl⟩ := Prod.mk.inj (Option.some.inj hf)
    exact jq_iret hX hJ.2 dX11_put_35 ⟨rfl, rfl, rfl, hJ.1⟩
  · replace hf := o_t hf c1
    refine lv_iconst (v := (-1)) hx hb dX11_put_11 (by decide) ?_
    obtain ⟨rfl, rfl⟩ := Prod.mk.inj (Option.some.inj hf)
    exact jq_iret hX hJ.2 dX11_put_12 ⟨rfl, rfl, rfl, hJ.1⟩
theorem dX11_item_0 : decode cX11_item 0 = .ok (.aload_n 0, 1) := by decide +kernel
theorem dX11_item_1 : decode cX11_item 1 = .ok (.iload_n 1, 1) := by decide +kernel
theorem dX11_item_2 : decode cX11_item 2 = .ok (.i2l, 1) := by decide +kernel
theorem dX11_item_3 : decode cX11_item 3 = .ok (.iload_n 2, 1) := by decide +kernel
theorem dX11_item_4 : decode cX11_item 4 = .ok (.i2l, 1) := by decide +kernel
theorem dX11_item_5 : decode cX11_item 5 = .ok (.invokevirtual 97, 3) := by decide +kernel
theorem dX11_item_8 : decode cX11_item 8 = .ok (.ifCond .eq 17, 3) := by decide +kernel
theorem dX11_item_25 : decode cX11_item 25 = .ok (.lconst 0, 1) := by decide +kernel
theorem dX11_item_26 : decode cX11_item 26 = .ok (.lreturn, 1) := by decide +kernel
theorem dX11_item_11 : decode cX11_item 11 = .ok (.aload_n 0, 1) := by decide +kernel
theorem dX11_item_12 : decode cX11_item 12 = .ok (.getfield 16, 3) := by decide +kernel
theorem dX11_item_15 : decode cX11_item 15 = .ok (.bipush 8, 2) := by decide +kernel
theorem dX11_item_17 : decode cX11_item 17 = .ok (.iload_n 1, 1) := by decide +kernel
theorem dX11_item_18 : decode cX11_item 18 = .ok (.imul, 1) := by decide +kernel
theorem dX11_item_19 : decode cX11_item 19 = .ok (.iload_n 2, 1) := by decide +kernel
theorem dX11_item_20 : decode cX11_item 20 = .ok (.iadd, 1) := by decide +kernel
theorem dX11_item_21 : decode cX11_item 21 = .ok (.laload, 1) := by decide +kernel
theorem dX11_item_22 : decode cX11_item 22 = .ok (.goto 4, 3) := by decide +kernel
theorem hy_X11_item : yX11_item.cls ≠ "java/lang/invoke/MethodHandle" ∧ yX11_item.cls ≠ "java/lang/invoke/VarHandle" ∧ (parseMethodDescriptor yX11_item.desc).map (fun d => d.parameters.length) = some 2 := ⟨by decide, by decide, by decide +kernel⟩
def f_X11_item (p1 : Int32) (p2 : Int32) (S : mS) : Option ((Int64) × mS) :=
  o_call (f_X11_isItem ((p1).toInt64) ((p2).toInt64) S) fun x1 S1 =>
  if x1 = 0 then (
  some (0, S1)) else (
  o_ck (¬ ((((8 : Int32) * p1) + p2) < 0 ∨ 128 ≤ ((((8 : Int32) * p1) + p2)).toNatClampNeg)) (o_let (m_aL S1 15 ((((8 : Int32) * p1) + p2)).toNatClampNeg) fun x2 =>
  some (x2, S1)))
set_option maxHeartbeats 4000000 in
set_option maxRecDepth 100000 in
theorem c_X11_item {l : Launch} {D : va_G} {Y : Nat → ClassId} {aR : Nat → Nat} {A : Nat → Prop} {ad : Nat → Nat} {p1 : Int32} {p2 : Int32} {S S' : mS} {r : Int64} (hf : f_X11_item p1 p2 S = some (r, S')) : jq_M l D Y aR A ad yX11_item cX11_item 3 (some .long) 3 71 [.ref (ad 0), .int p1, .int p2] S (some (.long r)) S' := by
  unfold f_X11_item at hf
  refine jq_enterM (by decide) (Nat.le_of_ble_eq_true rfl) fun p e s m args below meth c ls H locs hX hJ hl => ?_
  have hl : lv_has ls 3 [(0, .ref (ad 0)), (1, .int p1), (2, .int p2)] := hl
  have hx := hX.1
  have hb := hX.2.1
  have hm := hX.2.2.1
  have ho := hX.2.2.2.1
  have ht := hX.2.2.2.2.1
  have hn := hX.2.2.2.2.2.1.2.1
  refine lv_aload_n hx hb dX11_item_0 rfl (lv_at hl 0 rfl) ?_
  refine lv_iload_n hx hb dX11_item_1 rfl (lv_at hl 1 rfl) ?_
  refine lv_i2l hx hb dX11_item_2 rfl ?_
  refine lv_iload_n hx hb dX11_item_3 rfl (lv_at hl 2 rfl) ?_
  refine lv_i2l hx hb dX11_item_4 rfl ?_
  replace hf := o_call_e hf
  obtain ⟨x1, S1, hq1, hf⟩ := hf
  refine jq_doM hX hJ (jq_okV (As := [.long ((p1).toInt64), .long ((p2).toInt64)]) (rest := []) hx hb hm ho ht (mJ.recv hX hJ) qw815 qw817 qs73 qw818 qw7 hy_X11_isItem rfl hl.1 (Nat.le_of_ble_eq_true rfl) dX11_item_5) (c_X11_isItem hq1) (Nat.le_of_ble_eq_true rfl) (Nat.le_of_ble_eq_true rfl) (Nat.le_refl _) (Nat.le_refl _) (fun H locs hJ' => ?_)
  clear hJ
  have hJ := hJ'
  clear hJ'
  refine lv_if_eq (tgt := 25) hx hb dX11_item_8 (by decide) (fun c1 => ?_) (fun c1 => ?_)
  · replace hf := o_t hf c1
    refine lv_lconst (v := 0) hx hb dX11_item_25 (by decide) ?_
    obtain ⟨rfl, rfl⟩ := Prod.mk.inj (Option.some.inj hf)
    exact jq_lret hX hJ.2 dX11_item_26 ⟨rfl, rfl, rfl, hJ.1⟩
  · replace hf := o_f hf c1
    refine lv_aload_n hx hb dX11_item_11 rfl (lv_at hl 0 rfl) ?_
    refine mg_items hX hJ qw692 dX11_item_12 ?_
    refine lv_bipush (v := 8) hx hb dX11_item_15 (by decide) ?_
    refine lv_iload_n hx hb dX11_item_17 rfl (lv_at hl 1 rfl) ?_
    refine lv_imul hx hb dX11_item_18 ?_
    refine lv_iload_n hx hb dX11_item_19 rfl (lv_at hl 2 rfl) ?_
    refine lv_iadd hx hb dX11_item_20 ?_
    replace hf := o_ck_e hf
    obtain ⟨hk1, hf⟩ := hf
    replace hf := o_let_e hf
    obtain ⟨x2, hx2, hf⟩ := hf
    refine ma_L 15 hX hJ (by decide) hk1 hx2 dX11_item_21 ?_
    refine lv_goto (tgt := 26) hx hb dX11_item_22 (by decide) ?_
    obtain ⟨rfl, rfl⟩ := Prod.mk.inj (Option.some.inj hf)
    exact jq_lret hX hJ.2 dX11_item_26 ⟨rfl, rfl, rfl, hJ.1⟩
theorem dX11_size_0 : decode cX11_size 0 = .ok (.aload_n 0, 1) := by decide +kernel
theorem dX11_size_1 : decode cX11_size 1 = .ok (.iload_n 1, 1) := by decide +kernel
theorem dX11_size_2 : decode cX11_size 2 = .ok (.i2l, 1) := by decide +kernel
theorem dX11_size_3 : decode cX11_size 3 = .ok (.invokevirtual 93, 3) := by decide +kernel
theorem dX11_size_6 : decode cX11_size 6 = .ok (.ifCond .eq 12, 3) := by decide +kernel
theorem dX11_size_18 : decode cX11_size 18 = .ok (.iconst (-1), 1) := by decide +kernel
theorem dX11_size_19 : decode cX11_size 19 = .ok (.ireturn, 1) := by decide +kernel
theorem dX11_size_9 : decode cX11_size 9 = .ok (.aload_n 0, 1) := by decide +kernel
theorem dX11_size_10 : decode cX11_size 10 = .ok (.getfield 13, 3) := by decide +kernel
theorem dX11_size_13 : decode cX11_size 13 = .ok (.iload_n 1, 1) := by decide +kernel
theorem dX11_size_14 : decode cX11_size 14 = .ok (.iaload, 1) := by decide +kernel
theorem dX11_size_15 : decode cX11_size 15 = .ok (.goto 4, 3) := by decide +kernel
theorem hy_X11_size : yX11_size.cls ≠ "java/lang/invoke/MethodHandle" ∧ yX11_size.cls ≠ "java/lang/invoke/VarHandle" ∧ (parseMethodDescriptor yX11_size.desc).map (fun d => d.parameters.length) = some 1 := ⟨by decide, by decide, by decide +kernel⟩
def f_X11_size (p1 : Int32) (S : mS) : Option ((Int32) × mS) :=
  o_call (f_X11_isRow ((p1).toInt64) S) fun x1 S1 =>
  if x1 = 0 then (
  some ((-1), S1)) else (
  o_ck (¬ (p1 < 0 ∨ 16 ≤ (p1).toNatClampNeg)) (o_let (m_aI S1 2 (p1).toNatClampNeg) fun x2 =>
  some (x2, S1)))
set_option maxHeartbeats 4000000 in
set_option maxRecDepth 100000 in
theorem c_X11_size {l : Launch} {D : va_G} {Y : Nat → ClassId} {aR : Nat → Nat} {A : Nat → Prop} {ad : Nat → Nat} {p1 : Int32} {S S' : mS} {r : Int32} (hf : f_X11_size p1 S = some (r, S')) : jq_M l D Y aR A ad yX11_size cX11_size 2 (some .int) 2 47 [.ref (ad 0), .int p1] S (some (.int r)) S' := by
  unfold f_X11_size at hf
  refine jq_enterM (by decide) (Nat.le_of_ble_eq_true rfl) fun p e s m args below meth c ls H locs hX hJ hl => ?_
  have hl : lv_has ls 2 [(0, .ref (ad 0)), (1, .int p1)] := hl
  have hx := hX.1
  have hb := hX.2.1
  have hm := hX.2.2.1
  have ho := hX.2.2.2.1
  have ht := hX.2.2.2.2.1
  have hn := hX.2.2.2.2.2.1.2.1
  refine lv_aload_n hx hb dX11_size_0 rfl (lv_at hl 0 rfl) ?_
  refine lv_iload_n hx hb dX11_size_1 rfl (lv_at hl 1 rfl) ?_
  refine lv_i2l hx hb dX11_size_2 rfl ?_
  replace hf := o_call_e hf
  obtain ⟨x1, S1, hq1, hf⟩ := hf
  refine jq_doM hX hJ (jq_okV (As := [.long ((p1).toInt64)]) (rest := []) hx hb hm ho ht (mJ.recv hX hJ) qw819 qw821 qs74 qw822 qw7 hy_X11_isRow rfl hl.1 (Nat.le_of_ble_eq_true rfl) dX11_size_3) (c_X11_isRow hq1) (Nat.le_of_ble_eq_true rfl) (Nat.le_of_ble_eq_true rfl) (Nat.le_refl _) (Nat.le_refl _) (fun H locs hJ' => ?_)
  clear hJ
  have hJ := hJ'
  clear hJ'
  refine lv_if_eq (tgt := 18) hx hb dX11_size_6 (by decide) (fun c1 => ?_) (fun c1 => ?_)
  · replace hf := o_t hf c1
    refine lv_iconst (v := (-1)) hx hb dX11_size_18 (by decide) ?_
    obtain ⟨rfl, rfl⟩ := Prod.mk.inj (Option.some.inj hf)
    exact jq_iret hX hJ.2 dX11_size_19 ⟨rfl, rfl, rfl, hJ.1⟩
  · replace hf := o_f hf c1
    refine lv_aload_n hx hb dX11_size_9 rfl (lv_at hl 0 rfl) ?_
    refine mg_sizeOf hX hJ qw691 dX11_size_10 ?_
    refine lv_iload_n hx hb dX11_size_13 rfl (lv_at hl 1 rfl) ?_
    replace hf := o_ck_e hf
    obtain ⟨hk1, hf⟩ := hf
    replace hf := o_let_e hf
    obtain ⟨x2, hx2, hf⟩ := hf
    refine ma_I 2 hX hJ (by decide) hk1 hx2 dX11_size_14 ?_
    refine lv_goto (tgt := 19) hx hb dX11_size_15 (by decide) ?_
    obtain ⟨rfl, rfl⟩ := Prod.mk.inj (Option.some.inj hf)
    exact jq_iret hX hJ.2 dX11_size_19 ⟨rfl, rfl, rfl, hJ.1⟩
theorem dX11_type_0 : decode cX11_type 0 = .ok (.iload_n 1, 1) := by decide +kernel
theorem dX11_type_1 : decode cX11_type 1 = .ok (.invokestatic 155, 3) := by decide +kernel
theorem dX11_type_4 : decode cX11_type 4 = .ok (.ifCond .eq 70, 3) := by decide +kernel
theorem dX11_type_74 : decode cX11_type 74 = .ok (.iconst 0, 1) := by decide +kernel
theorem dX11_type_7 : decode cX11_type 7 = .ok (.iload_n 2, 1) := by decide +kernel
theorem dX11_type_8 : decode cX11_type 8 = .ok (.i2l, 1) := by decide +kernel
theorem dX11_type_9 : decode cX11_type 9 = .ok (.lconst 0, 1) := by decide +kernel
theorem dX11_type_10 : decode cX11_type 10 = .ok (.ldc2_w 117, 3) := by decide +kernel
theorem dX11_type_13 : decode cX11_type 13 = .ok (.invokestatic 80, 3) := by decide +kernel
theorem dX11_type_16 : decode cX11_type 16 = .ok (.ifCond .eq 58, 3) := by decide +kernel
theorem dX11_type_19 : decode cX11_type 19 = .ok (.iload_n 2, 1) := by decide +kernel
theorem dX11_type_20 : decode cX11_type 20 = .ok (.iconst 1, 1) := by decide +kernel
theorem dX11_type_21 : decode cX11_type 21 = .ok (.if_icmp .lt 10, 3) := by decide +kernel
theorem dX11_type_31 : decode cX11_type 31 = .ok (.iload_n 2, 1) := by decide +kernel
theorem dX11_type_32 : decode cX11_type 32 = .ok (.iconst 2, 1) := by decide +kernel
theorem dX11_type_33 : decode cX11_type 33 = .ok (.if_icmp .lt 11, 3) := by decide +kernel
theorem dX11_type_36 : decode cX11_type 36 = .ok (.iload 4, 2) := by decide +kernel
theorem dX11_type_38 : decode cX11_type 38 = .ok (.invokestatic 155, 3) := by decide +kernel
theorem dX11_type_41 : decode cX11_type 41 = .ok (.ifCond .eq 33, 3) := by decide +kernel
theorem dX11_type_24 : decode cX11_type 24 = .ok (.iload_n 3, 1) := by decide +kernel
theorem dX11_type_25 : decode cX11_type 25 = .ok (.invokestatic 155, 3) := by decide +kernel
theorem dX11_type_28 : decode cX11_type 28 = .ok (.ifCond .eq 46, 3) := by decide +kernel
theorem dX11_type_75 : decode cX11_type 75 = .ok (.istore 7, 2) := by decide +kernel
theorem dX11_type_77 : decode cX11_type 77 = .ok (.iload 7, 2) := by decide +kernel
theorem dX11_type_79 : decode cX11_type 79 = .ok (.ifCond .ne 5, 3) := by decide +kernel
theorem dX11_type_84 : decode cX11_type 84 = .ok (.aload_n 0, 1) := by decide +kernel
theorem dX11_type_85 : decode cX11_type 85 = .ok (.iload_n 1, 1) := by decide +kernel
theorem dX11_type_86 : decode cX11_type 86 = .ok (.putfield 20, 3) := by decide +kernel
theorem dX11_type_89 : decode cX11_type 89 = .ok (.aload_n 0, 1) := by decide +kernel
theorem dX11_type_90 : decode cX11_type 90 = .ok (.iload_n 2, 1) := by decide +kernel
theorem dX11_type_91 : decode cX11_type 91 = .ok (.putfield 159, 3) := by decide +kernel
theorem dX11_type_94 : decode cX11_type 94 = .ok (.aload_n 0, 1) := by decide +kernel
theorem dX11_type_95 : decode cX11_type 95 = .ok (.getfield 24, 3) := by decide +kernel
theorem dX11_type_98 : decode cX11_type 98 = .ok (.iconst 0, 1) := by decide +kernel
theorem dX11_type_99 : decode cX11_type 99 = .ok (.iload_n 3, 1) := by decide +kernel
theorem dX11_type_100 : decode cX11_type 100 = .ok (.iastore, 1) := by decide +kernel
theorem dX11_type_101 : decode cX11_type 101 = .ok (.aload_n 0, 1) := by decide +kernel
theorem dX11_type_102 : decode cX11_type 102 = .ok (.getfield 24, 3) := by decide +kernel
theorem dX11_type_105 : decode cX11_type 105 = .ok (.iconst 1, 1) := by decide +kernel
theorem dX11_type_106 : decode cX11_type 106 = .ok (.iload 4, 2) := by decide +kernel
theorem dX11_type_108 : decode cX11_type 108 = .ok (.iastore, 1) := by decide +kernel
theorem dX11_type_109 : decode cX11_type 109 = .ok (.aload_n 0, 1) := by decide +kernel
theorem dX11_type_110 : decode cX11_type 110 = .ok (.getfield 24, 3) := by decide +kernel
theorem dX11_type_113 : decode cX11_type 113 = .ok (.iconst 2, 1) := by decide +kernel
theorem dX11_type_114 : decode cX11_type 114 = .ok (.iload 5, 2) := by decide +kernel
theorem dX11_type_116 : decode cX11_type 116 = .ok (.iastore, 1) := by decide +kernel
theorem dX11_type_117 : decode cX11_type 117 = .ok (.aload_n 0, 1) := by decide +kernel
theorem dX11_type_118 : decode cX11_type 118 = .ok (.getfield 24, 3) := by decide +kernel
theorem dX11_type_121 : decode cX11_type 121 = .ok (.iconst 3, 1) := by decide +kernel
theorem dX11_type_122 : decode cX11_type 122 = .ok (.iload 6, 2) := by decide +kernel
theorem dX11_type_124 : decode cX11_type 124 = .ok (.iastore, 1) := by decide +kernel
theorem dX11_type_125 : decode cX11_type 125 = .ok (.iconst 1, 1) := by decide +kernel
theorem dX11_type_126 : decode cX11_type 126 = .ok (.ireturn, 1) := by decide +kernel
theorem dX11_type_82 : decode cX11_type 82 = .ok (.iconst (-1), 1) := by decide +kernel
theorem dX11_type_83 : decode cX11_type 83 = .ok (.ireturn, 1) := by decide +kernel
theorem dX11_type_44 : decode cX11_type 44 = .ok (.iload_n 2, 1) := by decide +kernel
theorem dX11_type_45 : decode cX11_type 45 = .ok (.iconst 3, 1) := by decide +kernel
theorem dX11_type_46 : decode cX11_type 46 = .ok (.if_icmp .lt 11, 3) := by decide +kernel
theorem dX11_type_57 : decode cX11_type 57 = .ok (.iload_n 2, 1) := by decide +kernel
theorem dX11_type_58 : decode cX11_type 58 = .ok (.iconst 4, 1) := by decide +kernel
theorem dX11_type_59 : decode cX11_type 59 = .ok (.if_icmp .lt 11, 3) := by decide +kernel
theorem dX11_type_70 : decode cX11_type 70 = .ok (.iconst 1, 1) := by decide +kernel
theorem dX11_type_71 : decode cX11_type 71 = .ok (.goto 4, 3) := by decide +kernel
theorem dX11_type_62 : decode cX11_type 62 = .ok (.iload 6, 2) := by decide +kernel
theorem dX11_type_64 : decode cX11_type 64 = .ok (.invokestatic 155, 3) := by decide +kernel
theorem dX11_type_67 : decode cX11_type 67 = .ok (.ifCond .eq 7, 3) := by decide +kernel
theorem dX11_type_49 : decode cX11_type 49 = .ok (.iload 5, 2) := by decide +kernel
theorem dX11_type_51 : decode cX11_type 51 = .ok (.invokestatic 155, 3) := by decide +kernel
theorem dX11_type_54 : decode cX11_type 54 = .ok (.ifCond .eq 20, 3) := by decide +kernel
theorem hy_X11_type : yX11_type.cls ≠ "java/lang/invoke/MethodHandle" ∧ yX11_type.cls ≠ "java/lang/invoke/VarHandle" ∧ (parseMethodDescriptor yX11_type.desc).map (fun d => d.parameters.length) = some 6 := ⟨by decide, by decide, by decide +kernel⟩
def f_X11_type_b75 (l1 : Int32) (l2 : Int32) (l3 : Int32) (l4 : Int32) (l5 : Int32) (l6 : Int32) (t0 : Int32) (S : mS) : Option ((Int32) × mS) :=
  if t0 = 0 then (
  some ((-1), S)) else (
  o_let (m_pI S 1 l1) fun S1 =>
  o_let (m_pI S1 2 l2) fun S2 =>
  o_ck (¬ ((0 : Int32) < 0 ∨ 4 ≤ ((0 : Int32)).toNatClampNeg)) (o_let (m_wI S2 3 ((0 : Int32)).toNatClampNeg l3) fun S3 =>
  o_ck (¬ ((1 : Int32) < 0 ∨ 4 ≤ ((1 : Int32)).toNatClampNeg)) (o_let (m_wI S3 3 ((1 : Int32)).toNatClampNeg l4) fun S4 =>
  o_ck (¬ ((2 : Int32) < 0 ∨ 4 ≤ ((2 : Int32)).toNatClampNeg)) (o_let (m_wI S4 3 ((2 : Int32)).toNatClampNeg l5) fun S5 =>
  o_ck (¬ ((3 : Int32) < 0 ∨ 4 ≤ ((3 : Int32)).toNatClampNeg)) (o_let (m_wI S5 3 ((3 : Int32)).toNatClampNeg l6) fun S6 =>
  some (1, S6))))))
set_option maxHeartbeats 4000000 in
set_option maxRecDepth 100000 in
theorem w_X11_type_b75 {l : Launch} {D : va_G} {Y : Nat → ClassId} {aR : Nat → Nat} {A : Nat → Prop} {ad : Nat → Nat} {p : Program} {e : Env} {s : State} {m : MethodId} {args : Array Value} {below : List Frame} {meth : Method} {c : Code} : ∀ (l1 : Int32) (l2 : Int32) (l3 : Int32) (l4 : Int32) (l5 : Int32) (l6 : Int32) (t0 : Int32) (S S' : mS) (r : Int32) (H : Heap) (locs : List Loc) (ls : Array Slot), jq_X D Y aR A p s m args meth c cX11_type RX11 "type" 8 (some .int) → mJ D Y A s ad S H locs → f_X11_type_b75 l1 l2 l3 l4 l5 l6 t0 S = some (r, S') → lv_has ls 8 [(0, .ref (ad 0)), (1, .int l1), (2, .int l2), (3, .int l3), (4, .int l4), (5, .int l5), (6, .int l6)] → W p l e { frames := 2, cells := 0, slots := 0, locals := 45 } s m args below meth c H locs 0 0 (jq_Z below A (fun v k n H => v = (some (.int r)) ∧ k = 0 ∧ n = 0 ∧ mH D Y A ad S' H) s) (F0 m 75 ls [.int t0]) := by
  intro l1 l2 l3 l4 l5 l6 t0 S S' r H locs ls hX hJ hf hl
  unfold f_X11_type_b75 at hf
  have hx := hX.1
  have hb := hX.2.1
  have hm := hX.2.2.1
  have ho := hX.2.2.2.1
  have ht := hX.2.2.2.2.1
  have hn := hX.2.2.2.2.2.1.2.1
  refine lv_istore (lv' := [(7, .int t0), (0, .ref (ad 0)), (1, .int l1), (2, .int l2), (3, .int l3), (4, .int l4), (5, .int l5), (6, .int l6)]) hx hb dX11_type_75 hl (by decide) rfl (fun ls hl' => ?_)
  clear hl
  have hl := hl'
  clear hl'
  refine lv_iload hx hb dX11_type_77 (lv_at hl 0 rfl) ?_
  refine lv_if_ne (tgt := 84) hx hb dX11_type_79 (by decide) (fun c1 => ?_) (fun c1 => ?_)
  · replace hf := o_f hf c1
    refine lv_aload_n hx hb dX11_type_84 rfl (lv_at hl 1 rfl) ?_
    refine lv_iload_n hx hb dX11_type_85 rfl (lv_at hl 2 rfl) ?_
    replace hf := o_let_e hf
    obtain ⟨S1, hS1, hf⟩ := hf
    refine mp_handResult hX hJ hS1 qw693 dX11_type_86 (fun H locs hJ' => ?_)
    clear hJ
    have hJ := hJ'
    clear hJ'
    refine lv_aload_n hx hb dX11_type_89 rfl (lv_at hl 1 rfl) ?_
    refine lv_iload_n hx hb dX11_type_90 rfl (lv_at hl 3 rfl) ?_
    replace hf := o_let_e hf
    obtain ⟨S2, hS2, hf⟩ := hf
    refine mp_handMany hX hJ hS2 qw694 dX11_type_91 (fun H locs hJ' => ?_)
    clear hJ
    have hJ := hJ'
    clear hJ'
    refine lv_aload_n hx hb dX11_type_94 rfl (lv_at hl 1 rfl) ?_
    refine mg_handKind hX hJ qw695 dX11_type_95 ?_
    refine lv_iconst (v := 0) hx hb dX11_type_98 (by decide) ?_
    refine lv_iload_n hx hb dX11_type_99 rfl (lv_at hl 4 rfl) ?_
    replace hf := o_ck_e hf
    obtain ⟨hk1, hf⟩ := hf
    replace hf := o_let_e hf
    obtain ⟨S3, hS3, hf⟩ := hf
    refine mw_I 3 hX hJ (by decide) hk1 hS3 dX11_type_100 (fun H locs hJ' => ?_)
    clear hJ
    have hJ := hJ'
    clear hJ'
    refine lv_aload_n hx hb dX11_type_101 rfl (lv_at hl 1 rfl) ?_
    refine mg_handKind hX hJ qw695 dX11_type_102 ?_
    refine lv_iconst (v := 1) hx hb dX11_type_105 (by decide) ?_
    refine lv_iload hx hb dX11_type_106 (lv_at hl 5 rfl) ?_
    replace hf := o_ck_e hf
    obtain ⟨hk2, hf⟩ := hf
    replace hf := o_let_e hf
    obtain ⟨S4, hS4, hf⟩ := hf
    refine mw_I 3 hX hJ (by decide) hk2 hS4 dX11_type_108 (fun H locs hJ' => ?_)
    clear hJ
    have hJ := hJ'
    clear hJ'
    refine lv_aload_n hx hb dX11_type_109 rfl (lv_at hl 1 rfl) ?_
    refine mg_handKind hX hJ qw695 dX11_type_110 ?_
    refine lv_iconst (v := 2) hx hb dX11_type_113 (by decide) ?_
    refine lv_iload hx hb dX11_type_114 (lv_at hl 6 rfl) ?_
    replace hf := o_ck_e hf
    obtain ⟨hk3, hf⟩ := hf
    replace hf := o_let_e hf
    obtain ⟨S5, hS5, hf⟩ := hf
    refine mw_I 3 hX hJ (by decide) hk3 hS5 dX11_type_116 (fun H locs hJ' => ?_)
    clear hJ
    have hJ := hJ'
    clear hJ'
    refine lv_aload_n hx hb dX11_type_117 rfl (lv_at hl 1 rfl) ?_
    refine mg_handKind hX hJ qw695 dX11_type_118 ?_
    refine lv_iconst (v := 3) hx hb dX11_type_121 (by decide) ?_
    refine lv_iload hx hb dX11_type_122 (lv_at hl 7 rfl) ?_
    replace hf := o_ck_e hf
    obtain ⟨hk4, hf⟩ := hf
    replace hf := o_let_e hf
    obtain ⟨S6, hS6, hf⟩ := hf
    refine mw_I 3 hX hJ (by decide) hk4 hS6 dX11_type_124 (fun H locs hJ' => ?_)
    clear hJ
    have hJ := hJ'
    clear hJ'
    refine lv_iconst (v := 1) hx hb dX11_type_125 (by decide) ?_
    obtain ⟨rfl, rfl⟩ := Prod.mk.inj (Option.some.inj hf)
    exact jq_iret hX hJ.2 dX11_type_126 ⟨rfl, rfl, rfl, hJ.1⟩
  · replace hf := o_t hf c1
    refine lv_iconst (v := (-1)) hx hb dX11_type_82 (by decide) ?_
    obtain ⟨rfl, rfl⟩ := Prod.mk.inj (Option.some.inj hf)
    exact jq_iret hX hJ.2 dX11_type_83 ⟨rfl, rfl, rfl, hJ.1⟩
def f_X11_type_b44 (l1 : Int32) (l2 : Int32) (l3 : Int32) (l4 : Int32) (l5 : Int32) (l6 : Int32) (S : mS) : Option ((Int32) × mS) :=
  if l2 < 3 then (
  if l2 < 4 then (
  f_X11_type_b75 l1 l2 l3 l4 l5 l6 1 S) else (
  o_cP (f_X11_isKind l6) fun x1 =>
  if x1 = 0 then (
  f_X11_type_b75 l1 l2 l3 l4 l5 l6 0 S) else (
  f_X11_type_b75 l1 l2 l3 l4 l5 l6 1 S))) else (
  o_cP (f_X11_isKind l5) fun x2 =>
  if x2 = 0 then (
  f_X11_type_b75 l1 l2 l3 l4 l5 l6 0 S) else (
  if l2 < 4 then (
  f_X11_type_b75 l1 l2 l3 l4 l5 l6 1 S) else (
  o_cP (f_X11_isKind l6) fun x3 =>
  if x3 = 0 then (
  f_X11_type_b75 l1 l2 l3 l4 l5 l6 0 S) else (
  f_X11_type_b75 l1 l2 l3 l4 l5 l6 1 S))))
set_option maxHeartbeats 4000000 in
set_option maxRecDepth 100000 in
theorem w_X11_type_b44 {l : Launch} {D : va_G} {Y : Nat → ClassId} {aR : Nat → Nat} {A : Nat → Prop} {ad : Nat → Nat} {p : Program} {e : Env} {s : State} {m : MethodId} {args : Array Value} {below : List Frame} {meth : Method} {c : Code} : ∀ (l1 : Int32) (l2 : Int32) (l3 : Int32) (l4 : Int32) (l5 : Int32) (l6 : Int32) (S S' : mS) (r : Int32) (H : Heap) (locs : List Loc) (ls : Array Slot), jq_X D Y aR A p s m args meth c cX11_type RX11 "type" 8 (some .int) → mJ D Y A s ad S H locs → f_X11_type_b44 l1 l2 l3 l4 l5 l6 S = some (r, S') → lv_has ls 8 [(0, .ref (ad 0)), (1, .int l1), (2, .int l2), (3, .int l3), (4, .int l4), (5, .int l5), (6, .int l6)] → W p l e { frames := 2, cells := 0, slots := 0, locals := 45 } s m args below meth c H locs 0 0 (jq_Z below A (fun v k n H => v = (some (.int r)) ∧ k = 0 ∧ n = 0 ∧ mH D Y A ad S' H) s) (F0 m 44 ls []) := by
  intro l1 l2 l3 l4 l5 l6 S S' r H locs ls hX hJ hf hl
  unfold f_X11_type_b44 at hf
  have hx := hX.1
  have hb := hX.2.1
  have hm := hX.2.2.1
  have ho := hX.2.2.2.1
  have ht := hX.2.2.2.2.1
  have hn := hX.2.2.2.2.2.1.2.1
  refine lv_iload_n hx hb dX11_type_44 rfl (lv_at hl 2 rfl) ?_
  refine lv_iconst (v := 3) hx hb dX11_type_45 (by decide) ?_
  refine lv_icmp_lt (tgt := 57) hx hb dX11_type_46 (by decide) (fun c1 => ?_) (fun c1 => ?_)
  · replace hf := o_t hf c1
    refine lv_iload_n hx hb dX11_type_57 rfl (lv_at hl 2 rfl) ?_
    refine lv_iconst (v := 4) hx hb dX11_type_58 (by decide) ?_
    refine lv_icmp_lt (tgt := 70) hx hb dX11_type_59 (by decide) (fun c2 => ?_) (fun c2 => ?_)
    · replace hf := o_t hf c2
      refine lv_iconst (v := 1) hx hb dX11_type_70 (by decide) ?_
      refine lv_goto (tgt := 75) hx hb dX11_type_71 (by decide) ?_
      replace hl := lv_sub hl (l' := [(0, .ref (ad 0)), (1, .int l1), (2, .int l2), (3, .int l3), (4, .int l4), (5, .int l5), (6, .int l6)]) [0, 1, 2, 3, 4, 5, 6] rfl
      exact w_X11_type_b75 l1 l2 l3 l4 l5 l6 1 S S' r H locs ls hX hJ hf hl
    · replace hf := o_f hf c2
      refine lv_iload hx hb dX11_type_62 (lv_at hl 6 rfl) ?_
      replace hf := o_cP_e hf
      obtain ⟨x1, hq1, hf⟩ := hf
      refine jq_doP hX hJ.2 (jq_okS (As := [.int l6]) (rest := []) hx hb hm ho ht qw844 qw845 qw846 qw7 hy_X11_isKind rfl hl.1 (Nat.le_of_ble_eq_true rfl) dX11_type_64) (c_X11_isKind hq1) (Nat.le_of_ble_eq_true rfl) (Nat.le_of_ble_eq_true rfl) (Nat.le_refl _) (Nat.le_refl _) (fun locs hS9 => ?_)
      replace hJ := mJ.to hJ hS9
      refine lv_if_eq (tgt := 74) hx hb dX11_type_67 (by decide) (fun c3 => ?_) (fun c3 => ?_)
      · replace hf := o_t hf c3
        refine lv_iconst (v := 0) hx hb dX11_type_74 (by decide) ?_
        replace hl := lv_sub hl (l' := [(0, .ref (ad 0)), (1, .int l1), (2, .int l2), (3, .int l3), (4, .int l4), (5, .int l5), (6, .int l6)]) [0, 1, 2, 3, 4, 5, 6] rfl
        exact w_X11_type_b75 l1 l2 l3 l4 l5 l6 0 S S' r H locs ls hX hJ hf hl
      · replace hf := o_f hf c3
        refine lv_iconst (v := 1) hx hb dX11_type_70 (by decide) ?_
        refine lv_goto (tgt := 75) hx hb dX11_type_71 (by decide) ?_
        replace hl := lv_sub hl (l' := [(0, .ref (ad 0)), (1, .int l1), (2, .int l2), (3, .int l3), (4, .int l4), (5, .int l5), (6, .int l6)]) [0, 1, 2, 3, 4, 5, 6] rfl
        exact w_X11_type_b75 l1 l2 l3 l4 l5 l6 1 S S' r H locs ls hX hJ hf hl
  · replace hf := o_f hf c1
    refine lv_iload hx hb dX11_type_49 (lv_at hl 5 rfl) ?_
    replace hf := o_cP_e hf
    obtain ⟨x2, hq2, hf⟩ := hf
    refine jq_doP hX hJ.2 (jq_okS (As := [.int l5]) (rest := []) hx hb hm ho ht qw844 qw845 qw846 qw7 hy_X11_isKind rfl hl.1 (Nat.le_of_ble_eq_true rfl) dX11_type_51) (c_X11_isKind hq2) (Nat.le_of_ble_eq_true rfl) (Nat.le_of_ble_eq_true rfl) (Nat.le_refl _) (Nat.le_refl _) (fun locs hS9 => ?_)
    replace hJ := mJ.to hJ hS9
    refine lv_if_eq (tgt := 74) hx hb dX11_type_54 (by decide) (fun c4 => ?_) (fun c4 => ?_)
    · replace hf := o_t hf c4
      refine lv_iconst (v := 0) hx hb dX11_type_74 (by decide) ?_
      replace hl := lv_sub hl (l' := [(0, .ref (ad 0)), (1, .int l1), (2, .int l2), (3, .int l3), (4, .int l4), (5, .int l5), (6, .int l6)]) [0, 1, 2, 3, 4, 5, 6] rfl
      exact w_X11_type_b75 l1 l2 l3 l4 l5 l6 0 S S' r H locs ls hX hJ hf hl
    · replace hf := o_f hf c4
      refine lv_iload_n hx hb dX11_type_57 rfl (lv_at hl 2 rfl) ?_
      refine lv_iconst (v := 4) hx hb dX11_type_58 (by decide) ?_
      refine lv_icmp_lt (tgt := 70) hx hb dX11_type_59 (by decide) (fun c5 => ?_) (fun c5 => ?_)
      · replace hf := o_t hf c5
        refine lv_iconst (v := 1) hx hb dX11_type_70 (by decide) ?_
        refine lv_goto (tgt := 75) hx hb dX11_type_71 (by decide) ?_
        replace hl := lv_sub hl (l' := [(0, .ref (ad 0)), (1, .int l1), (2, .int l2), (3, .int l3), (4, .int l4), (5, .int l5), (6, .int l6)]) [0, 1, 2, 3, 4, 5, 6] rfl
        exact w_X11_type_b75 l1 l2 l3 l4 l5 l6 1 S S' r H locs ls hX hJ hf hl
      · replace hf := o_f hf c5
        refine lv_iload hx hb dX11_type_62 (lv_at hl 6 rfl) ?_
        replace hf := o_cP_e hf
        obtain ⟨x3, hq3, hf⟩ := hf
        refine jq_doP hX hJ.2 (jq_okS (As := [.int l6]) (rest := []) hx hb hm ho ht qw844 qw845 qw846 qw7 hy_X11_isKind rfl hl.1 (Nat.le_of_ble_eq_true rfl) dX11_type_64) (c_X11_isKind hq3) (Nat.le_of_ble_eq_true rfl) (Nat.le_of_ble_eq_true rfl) (Nat.le_refl _) (Nat.le_refl _) (fun locs hS9 => ?_)
        replace hJ := mJ.to hJ hS9
        refine lv_if_eq (tgt := 74) hx hb dX11_type_67 (by decide) (fun c6 => ?_) (fun c6 => ?_)
        · replace hf := o_t hf c6
          refine lv_iconst (v := 0) hx hb dX11_type_74 (by decide) ?_
          replace hl := lv_sub hl (l' := [(0, .ref (ad 0)), (1, .int l1), (2, .int l2), (3, .int l3), (4, .int l4), (5, .int l5), (6, .int l6)]) [0, 1, 2, 3, 4, 5, 6] rfl
          exact w_X11_type_b75 l1 l2 l3 l4 l5 l6 0 S S' r H locs ls hX hJ hf hl
        · replace hf := o_f hf c6
          refine lv_iconst (v := 1) hx hb dX11_type_70 (by decide) ?_
          refine lv_goto (tgt := 75) hx hb dX11_type_71 (by decide) ?_
          replace hl := lv_sub hl (l' := [(0, .ref (ad 0)), (1, .int l1), (2, .int l2), (3, .int l3), (4, .int l4), (5, .int l5), (6, .int l6)]) [0, 1, 2, 3, 4, 5, 6] rfl
          exact w_X11_type_b75 l1 l2 l3 l4 l5 l6 1 S S' r H locs ls hX hJ hf hl
def f_X11_type (p1 : Int32) (p2 : Int32) (p3 : Int32) (p4 : Int32) (p5 : Int32) (p6 : Int32) (S : mS) : Option ((Int32) × mS) :=
  o_cP (f_X11_isKind p1) fun x1 =>
  if x1 = 0 then (
  f_X11_type_b75 p1 p2 p3 p4 p5 p6 0 S) else (
  o_cP (f_X11_in ((p2).toInt64) 0 4) fun x2 =>
  if x2 = 0 then (
  f_X11_type_b75 p1 p2 p3 p4 p5 p6 0 S) else (
  if p2 < 1 then (
  if p2 < 2 then (
  f_X11_type_b44 p1 p2 p3 p4 p5 p6 S) else (
  o_cP (f_X11_isKind p4) fun x3 =>
  if x3 = 0 then (
  f_X11_type_b75 p1 p2 p3 p4 p5 p6 0 S) else (
  f_X11_type_b44 p1 p2 p3 p4 p5 p6 S))) else (
  o_cP (f_X11_isKind p3) fun x4 =>
  if x4 = 0 then (
  f_X11_type_b75 p1 p2 p3 p4 p5 p6 0 S) else (
  if p2 < 2 then (
  f_X11_type_b44 p1 p2 p3 p4 p5 p6 S) else (
  o_cP (f_X11_isKind p4) fun x5 =>
  if x5 = 0 then (
  f_X11_type_b75 p1 p2 p3 p4 p5 p6 0 S) else (
  f_X11_type_b44 p1 p2 p3 p4 p5 p6 S))))))
set_option maxHeartbeats 4000000 in
set_option maxRecDepth 100000 in
theorem c_X11_type {l : Launch} {D : va_G} {Y : Nat → ClassId} {aR : Nat → Nat} {A : Nat → Prop} {ad : Nat → Nat} {p1 : Int32} {p2 : Int32} {p3 : Int32} {p4 : Int32} {p5 : Int32} {p6 : Int32} {S S' : mS} {r : Int32} (hf : f_X11_type p1 p2 p3 p4 p5 p6 S = some (r, S')) : jq_M l D Y aR A ad yX11_type cX11_type 8 (some .int) 2 45 [.ref (ad 0), .int p1, .int p2, .int p3, .int p4, .int p5, .int p6] S (some (.int r)) S' := by
  unfold f_X11_type at hf
  refine jq_enterM (by decide) (Nat.le_of_ble_eq_true rfl) fun p e s m args below meth c ls H locs hX hJ hl => ?_
  have hl : lv_has ls 8 [(0, .ref (ad 0)), (1, .int p1), (2, .int p2), (3, .int p3), (4, .int p4), (5, .int p5), (6, .int p6)] := hl
  have hx := hX.1
  have hb := hX.2.1
  have hm := hX.2.2.1
  have ho := hX.2.2.2.1
  have ht := hX.2.2.2.2.1
  have hn := hX.2.2.2.2.2.1.2.1
  refine lv_iload_n hx hb dX11_type_0 rfl (lv_at hl 1 rfl) ?_
  replace hf := o_cP_e hf
  obtain ⟨x1, hq1, hf⟩ := hf
  refine jq_doP hX hJ.2 (jq_okS (As := [.int p1]) (rest := []) hx hb hm ho ht qw844 qw845 qw846 qw7 hy_X11_isKind rfl hl.1 (Nat.le_of_ble_eq_true rfl) dX11_type_1) (c_X11_isKind hq1) (Nat.le_of_ble_eq_true rfl) (Nat.le_of_ble_eq_true rfl) (Nat.le_refl _) (Nat.le_refl _) (fun locs hS9 => ?_)
  replace hJ := mJ.to hJ hS9
  refine lv_if_eq (tgt := 74) hx hb dX11_type_4 (by decide) (fun c1 => ?_) (fun c1 => ?_)
  · replace hf := o_t hf c1
    refine lv_iconst (v := 0) hx hb dX11_type_74 (by decide) ?_
    replace hl := lv_sub hl (l' := [(0, .ref (ad 0)), (1, .int p1), (2, .int p2), (3, .int p3), (4, .int p4), (5, .int p5), (6, .int p6)]) [0, 1, 2, 3, 4, 5, 6] rfl
    exact w_X11_type_b75 p1 p2 p3 p4 p5 p6 0 S S' r H locs ls hX hJ hf hl
  · replace hf := o_f hf c1
    refine lv_iload_n hx hb dX11_type_7 rfl (lv_at hl 2 rfl) ?_
    refine lv_i2l hx hb dX11_type_8 rfl ?_
    refine lv_lconst (v := 0) hx hb dX11_type_9 (by decide) ?_
    refine lv_ldc2 (v := 4) hx hb ho (ht _ qw848) dX11_type_10 ?_
    replace hf := o_cP_e hf
    obtain ⟨x2, hq2, hf⟩ := hf
    refine jq_doP hX hJ.2 (jq_okS (As := [.long ((p2).toInt64), .long 0, .long 4]) (rest := []) hx hb hm ho ht qw803 qw804 qw805 qw7 hy_X11_in rfl hl.1 (Nat.le_of_ble_eq_true rfl) dX11_type_13) (c_X11_in hq2) (Nat.le_of_ble_eq_true rfl) (Nat.le_of_ble_eq_true rfl) (Nat.le_refl _) (Nat.le_refl _) (fun locs hS9 => ?_)
    replace hJ := mJ.to hJ hS9
    refine lv_if_eq (tgt := 74) hx hb dX11_type_16 (by decide) (fun c2 => ?_) (fun c2 => ?_)
    · replace hf := o_t hf c2
      refine lv_iconst (v := 0) hx hb dX11_type_74 (by decide) ?_
      replace hl := lv_sub hl (l' := [(0, .ref (ad 0)), (1, .int p1), (2, .int p2), (3, .int p3), (4, .int p4), (5, .int p5), (6, .int p6)]) [0, 1, 2, 3, 4, 5, 6] rfl
      exact w_X11_type_b75 p1 p2 p3 p4 p5 p6 0 S S' r H locs ls hX hJ hf hl
    · replace hf := o_f hf c2
      refine lv_iload_n hx hb dX11_type_19 rfl (lv_at hl 2 rfl) ?_
      refine lv_iconst (v := 1) hx hb dX11_type_20 (by decide) ?_
      refine lv_icmp_lt (tgt := 31) hx hb dX11_type_21 (by decide) (fun c3 => ?_) (fun c3 => ?_)
      · replace hf := o_t hf c3
        refine lv_iload_n hx hb dX11_type_31 rfl (lv_at hl 2 rfl) ?_
        refine lv_iconst (v := 2) hx hb dX11_type_32 (by decide) ?_
        refine lv_icmp_lt (tgt := 44) hx hb dX11_type_33 (by decide) (fun c4 => ?_) (fun c4 => ?_)
        · replace hf := o_t hf c4
          replace hl := lv_sub hl (l' := [(0, .ref (ad 0)), (1, .int p1), (2, .int p2), (3, .int p3), (4, .int p4), (5, .int p5), (6, .int p6)]) [0, 1, 2, 3, 4, 5, 6] rfl
          exact w_X11_type_b44 p1 p2 p3 p4 p5 p6 S S' r H locs ls hX hJ hf hl
        · replace hf := o_f hf c4
          refine lv_iload hx hb dX11_type_36 (lv_at hl 4 rfl) ?_
          replace hf := o_cP_e hf
          obtain ⟨x3, hq3, hf⟩ := hf
          refine jq_doP hX hJ.2 (jq_okS (As := [.int p4]) (rest := []) hx hb hm ho ht qw844 qw845 qw846 qw7 hy_X11_isKind rfl hl.1 (Nat.le_of_ble_eq_true rfl) dX11_type_38) (c_X11_isKind hq3) (Nat.le_of_ble_eq_true rfl) (Nat.le_of_ble_eq_true rfl) (Nat.le_refl _) (Nat.le_refl _) (fun locs hS9 => ?_)
          replace hJ := mJ.to hJ hS9
          refine lv_if_eq (tgt := 74) hx hb dX11_type_41 (by decide) (fun c5 => ?_) (fun c5 => ?_)
          · replace hf := o_t hf c5
            refine lv_iconst (v := 0) hx hb dX11_type_74 (by decide) ?_
            replace hl := lv_sub hl (l' := [(0, .ref (ad 0)), (1, .int p1), (2, .int p2), (3, .int p3), (4, .int p4), (5, .int p5), (6, .int p6)]) [0, 1, 2, 3, 4, 5, 6] rfl
            exact w_X11_type_b75 p1 p2 p3 p4 p5 p6 0 S S' r H locs ls hX hJ hf hl
          · replace hf := o_f hf c5
            replace hl := lv_sub hl (l' := [(0, .ref (ad 0)), (1, .int p1), (2, .int p2), (3, .int p3), (4, .int p4), (5, .int p5), (6, .int p6)]) [0, 1, 2, 3, 4, 5, 6] rfl
            exact w_X11_type_b44 p1 p2 p3 p4 p5 p6 S S' r H locs ls hX hJ hf hl
      · replace hf := o_f hf c3
        refine lv_iload_n hx hb dX11_type_24 rfl (lv_at hl 3 rfl) ?_
        replace hf := o_cP_e hf
        obtain ⟨x4, hq4, hf⟩ := hf
        refine jq_doP hX hJ.2 (jq_okS (As := [.int p3]) (rest := []) hx hb hm ho ht qw844 qw845 qw846 qw7 hy_X11_isKind rfl hl.1 (Nat.le_of_ble_eq_true rfl) dX11_type_25) (c_X11_isKind hq4) (Nat.le_of_ble_eq_true rfl) (Nat.le_of_ble_eq_true rfl) (Nat.le_refl _) (Nat.le_refl _) (fun locs hS9 => ?_)
        replace hJ := mJ.to hJ hS9
        refine lv_if_eq (tgt := 74) hx hb dX11_type_28 (by decide) (fun c6 => ?_) (fun c6 => ?_)
        · replace hf := o_t hf c6
          refine lv_iconst (v := 0) hx hb dX11_type_74 (by decide) ?_
          replace hl := lv_sub hl (l' := [(0, .ref (ad 0)), (1, .int p1), (2, .int p2), (3, .int p3), (4, .int p4), (5, .int p5), (6, .int p6)]) [0, 1, 2, 3, 4, 5, 6] rfl
          exact w_X11_type_b75 p1 p2 p3 p4 p5 p6 0 S S' r H locs ls hX hJ hf hl
        · replace hf := o_f hf c6
          refine lv_iload_n hx hb dX11_type_31 rfl (lv_at hl 2 rfl) ?_
          refine lv_iconst (v := 2) hx hb dX11_type_32 (by decide) ?_
          refine lv_icmp_lt (tgt := 44) hx hb dX11_type_33 (by decide) (fun c7 => ?_) (fun c7 => ?_)
          · replace hf := o_t hf c7
            replace hl := lv_sub hl (l' := [(0, .ref (ad 0)), (1, .int p1), (2, .int p2), (3, .int p3), (4, .int p4), (5, .int p5), (6, .int p6)]) [0, 1, 2, 3, 4, 5, 6] rfl
            exact w_X11_type_b44 p1 p2 p3 p4 p5 p6 S S' r H locs ls hX hJ hf hl
          · replace hf := o_f hf c7
            refine lv_iload hx hb dX11_type_36 (lv_at hl 4 rfl) ?_
            replace hf := o_cP_e hf
            obtain ⟨x5, hq5, hf⟩ := hf
            refine jq_doP hX hJ.2 (jq_okS (As := [.int p4]) (rest := []) hx hb hm ho ht qw844 qw845 qw846 qw7 hy_X11_isKind rfl hl.1 (Nat.le_of_ble_eq_true rfl) dX11_type_38) (c_X11_isKind hq5) (Nat.le_of_ble_eq_true rfl) (Nat.le_of_ble_eq_true rfl) (Nat.le_refl _) (Nat.le_refl _) (fun locs hS9 => ?_)
            replace hJ := mJ.to hJ hS9
            refine lv_if_eq (tgt := 74) hx hb dX11_type_41 (by decide) (fun c8 => ?_) (fun c8 => ?_)
            · replace hf := o_t hf c8
              refine lv_iconst (v := 0) hx hb dX11_type_74 (by decide) ?_
              replace hl := lv_sub hl (l' := [(0, .ref (ad 0)), (1, .int p1), (2, .int p2), (3, .int p3), (4, .int p4), (5, .int p5), (6, .int p6)]) [0, 1, 2, 3, 4, 5, 6] rfl
              exact w_X11_type_b75 p1 p2 p3 p4 p5 p6 0 S S' r H locs ls hX hJ hf hl
            · replace hf := o_f hf c8
              replace hl := lv_sub hl (l' := [(0, .ref (ad 0)), (1, .int p1), (2, .int p2), (3, .int p3), (4, .int p4), (5, .int p5), (6, .int p6)]) [0, 1, 2, 3, 4, 5, 6] rfl
              exact w_X11_type_b44 p1 p2 p3 p4 p5 p6 S S' r H locs ls hX hJ hf hl
theorem dX11_isValue_0 : decode cX11_isValue 0 = .ok (.iload_n 1, 1) := by decide +kernel
theorem dX11_isValue_1 : decode cX11_isValue 1 = .ok (.bipush 8, 2) := by decide +kernel
theorem dX11_isValue_3 : decode cX11_isValue 3 = .ok (.if_icmp .lt 39, 3) := by decide +kernel
theorem dX11_isValue_42 : decode cX11_isValue 42 = .ok (.iconst 1, 1) := by decide +kernel
theorem dX11_isValue_43 : decode cX11_isValue 43 = .ok (.goto 4, 3) := by decide +kernel
theorem dX11_isValue_47 : decode cX11_isValue 47 = .ok (.ireturn, 1) := by decide +kernel
theorem dX11_isValue_6 : decode cX11_isValue 6 = .ok (.lload_n 2, 1) := by decide +kernel
theorem dX11_isValue_7 : decode cX11_isValue 7 = .ok (.ldc2_w 162, 3) := by decide +kernel
theorem dX11_isValue_10 : decode cX11_isValue 10 = .ok (.lcmp, 1) := by decide +kernel
theorem dX11_isValue_14 : decode cX11_isValue 14 = .ok (.aload_n 0, 1) := by decide +kernel
theorem dX11_isValue_15 : decode cX11_isValue 15 = .ok (.lload_n 2, 1) := by decide +kernel
theorem dX11_isValue_16 : decode cX11_isValue 16 = .ok (.invokevirtual 93, 3) := by decide +kernel
theorem dX11_isValue_19 : decode cX11_isValue 19 = .ok (.ifCond .eq 27, 3) := by decide +kernel
theorem dX11_isValue_46 : decode cX11_isValue 46 = .ok (.iconst 0, 1) := by decide +kernel
theorem dX11_isValue_22 : decode cX11_isValue 22 = .ok (.iload_n 1, 1) := by decide +kernel
theorem dX11_isValue_23 : decode cX11_isValue 23 = .ok (.bipush 16, 2) := by decide +kernel
theorem dX11_isValue_25 : decode cX11_isValue 25 = .ok (.if_icmp .eq 17, 3) := by decide +kernel
theorem dX11_isValue_28 : decode cX11_isValue 28 = .ok (.aload_n 0, 1) := by decide +kernel
theorem dX11_isValue_29 : decode cX11_isValue 29 = .ok (.getfield 7, 3) := by decide +kernel
theorem dX11_isValue_32 : decode cX11_isValue 32 = .ok (.lload_n 2, 1) := by decide +kernel
theorem dX11_isValue_33 : decode cX11_isValue 33 = .ok (.l2i, 1) := by decide +kernel
theorem dX11_isValue_34 : decode cX11_isValue 34 = .ok (.iaload, 1) := by decide +kernel
theorem dX11_isValue_35 : decode cX11_isValue 35 = .ok (.iload_n 1, 1) := by decide +kernel
theorem dX11_isValue_36 : decode cX11_isValue 36 = .ok (.bipush 8, 2) := by decide +kernel
theorem dX11_isValue_38 : decode cX11_isValue 38 = .ok (.isub, 1) := by decide +kernel
theorem dX11_isValue_39 : decode cX11_isValue 39 = .ok (.if_icmp .ne 7, 3) := by decide +kernel
theorem dX11_isValue_11 : decode cX11_isValue 11 = .ok (.ifCond .eq 31, 3) := by decide +kernel
theorem hy_X11_isValue : yX11_isValue.cls ≠ "java/lang/invoke/MethodHandle" ∧ yX11_isValue.cls ≠ "java/lang/invoke/VarHandle" ∧ (parseMethodDescriptor yX11_isValue.desc).map (fun d => d.parameters.length) = some 2 := ⟨by decide, by decide, by decide +kernel⟩
def f_X11_isValue (p1 : Int32) (p2 : Int64) (S : mS) : Option ((Int32) × mS) :=
  if p1 < 8 then (
  some (1, S)) else (
  if p2 = (-1) then (
  some (1, S)) else (
  o_call (f_X11_isRow p2 S) fun x1 S1 =>
  if x1 = 0 then (
  some (0, S1)) else (
  if p1 = 16 then (
  some (1, S1)) else (
  o_ck (¬ (((p2).toInt32) < 0 ∨ 16 ≤ (((p2).toInt32)).toNatClampNeg)) (o_let (m_aI S1 1 (((p2).toInt32)).toNatClampNeg) fun x2 =>
  if x2 = (p1 - (8 : Int32)) then (
  some (1, S1)) else (
  some (0, S1)))))))
set_option maxHeartbeats 4000000 in
set_option maxRecDepth 100000 in
theorem c_X11_isValue {l : Launch} {D : va_G} {Y : Nat → ClassId} {aR : Nat → Nat} {A : Nat → Prop} {ad : Nat → Nat} {p1 : Int32} {p2 : Int64} {S S' : mS} {r : Int32} (hf : f_X11_isValue p1 p2 S = some (r, S')) : jq_M l D Y aR A ad yX11_isValue cX11_isValue 4 (some .boolean) 2 47 [.ref (ad 0), .int p1, .long p2] S (some (.int r)) S' := by
  unfold f_X11_isValue at hf
  refine jq_enterM (by decide) (Nat.le_of_ble_eq_true rfl) fun p e s m args below meth c ls H locs hX hJ hl => ?_
  have hl : lv_has ls 4 [(0, .ref (ad 0)), (1, .int p1), (2, .long p2)] := hl
  have hx := hX.1
  have hb := hX.2.1
  have hm := hX.2.2.1
  have ho := hX.2.2.2.1
  have ht := hX.2.2.2.2.1
  have hn := hX.2.2.2.2.2.1.2.1
  refine lv_iload_n hx hb dX11_isValue_0 rfl (lv_at hl 1 rfl) ?_
  refine lv_bipush (v := 8) hx hb dX11_isValue_1 (by decide) ?_
  refine lv_icmp_lt (tgt := 42) hx hb dX11_isValue_3 (by decide) (fun c1 => ?_) (fun c1 => ?_)
  · replace hf := o_t hf c1
    refine lv_iconst (v := 1) hx hb dX11_isValue_42 (by decide) ?_
    refine lv_goto (tgt := 47) hx hb dX11_isValue_43 (by decide) ?_
    obtain ⟨rfl, rfl⟩ := Prod.mk.inj (Option.some.inj hf)
    exact jq_zret hX hJ.2 (by decide) dX11_isValue_47 ⟨rfl, rfl, rfl, hJ.1⟩
  · replace hf := o_f hf c1
    refine lv_lload_n hx hb dX11_isValue_6 rfl (lv_at hl 2 rfl) ?_
    refine lv_ldc2 (v := (-1)) hx hb ho (ht _ qw866) dX11_isValue_7 ?_
    refine W.lcmp hx hb dX11_isValue_10 ?_
    refine lv_if_eq (tgt := 42) hx hb dX11_isValue_11 (by decide) (fun c2 => ?_) (fun c2 => ?_)
    · replace hf := o_t hf (qc_eq.mp c2)
      refine lv_iconst (v := 1) hx hb dX11_isValue_42 (by decide) ?_
      refine lv_goto (tgt := 47) hx hb dX11_isValue_43 (by decide) ?_
      obtain ⟨rfl, rfl⟩ := Prod.mk.inj (Option.some.inj hf)
      exact jq_zret hX hJ.2 (by decide) dX11_isValue_47 ⟨rfl, rfl, rfl, hJ.1⟩
    · replace hf := o_f hf (fun z => c2 (qc_eq.mpr z))
      refine lv_aload_n hx hb dX11_isValue_14 rfl (lv_at hl 0 rfl) ?_
      refine lv_lload_n hx hb dX11_isValue_15 rfl (lv_at hl 2 rfl) ?_
      replace hf := o_call_e hf
      obtain ⟨x1, S1, hq1, hf⟩ := hf
      refine jq_doM hX hJ (jq_okV (As := [.long p2]) (rest := []) hx hb hm ho ht (mJ.recv hX hJ) qw819 qw821 qs74 qw822 qw7 hy_X11_isRow rfl hl.1 (Nat.le_of_ble_eq_true rfl) dX11_isValue_16) (c_X11_isRow hq1) (Nat.le_of_ble_eq_true rfl) (Nat.le_of_ble_eq_true rfl) (Nat.le_refl _) (Nat.le_refl _) (fun H locs hJ' => ?_)
      clear hJ
      have hJ := hJ'
      clear hJ'
      refine lv_if_eq (tgt := 46) hx hb dX11_isValue_19 (by decide) (fun c3 => ?_) (fun c3 => ?_)
      · replace hf := o_t hf c3
        refine lv_iconst (v := 0) hx hb dX11_isValue_46 (by decide) ?_
        obtain ⟨rfl, rfl⟩ := Prod.mk.inj (Option.some.inj hf)
        exact jq_zret hX hJ.2 (by decide) dX11_isValue_47 ⟨rfl, rfl, rfl, hJ.1⟩
      · replace hf := o_f hf c3
        refine lv_iload_n hx hb dX11_isValue_22 rfl (lv_at hl 1 rfl) ?_
        refine lv_bipush (v := 16) hx hb dX11_isValue_23 (by decide) ?_
        refine lv_icmp_eq (tgt := 42) hx hb dX11_isValue_25 (by decide) (fun c4 => ?_) (fun c4 => ?_)
        · replace hf := o_t hf c4
          refine lv_iconst (v := 1) hx hb dX11_isValue_42 (by decide) ?_
          refine lv_goto (tgt := 47) hx hb dX11_isValue_43 (by decide) ?_
          obtain ⟨rfl, rfl⟩ := Prod.mk.inj (Option.some.inj hf)
          exact jq_zret hX hJ.2 (by decide) dX11_isValue_47 ⟨rfl, rfl, rfl, hJ.1⟩
        · replace hf := o_f hf c4
          refine lv_aload_n hx hb dX11_isValue_28 rfl (lv_at hl 0 rfl) ?_
          refine mg_laneOf hX hJ qw690 dX11_isValue_29 ?_
          refine lv_lload_n hx hb dX11_isValue_32 rfl (lv_at hl 2 rfl) ?_
          refine lv_l2i hx hb dX11_isValue_33 rfl ?_
          replace hf := o_ck_e hf
          obtain ⟨hk1, hf⟩ := hf
          replace hf := o_let_e hf
          obtain ⟨x2, hx2, hf⟩ := hf
          refine ma_I 1 hX hJ (by decide) hk1 hx2 dX11_isValue_34 ?_
          refine lv_iload_n hx hb dX11_isValue_35 rfl (lv_at hl 1 rfl) ?_
          refine lv_bipush (v := 8) hx hb dX11_isValue_36 (by decide) ?_
          refine lv_isub hx hb dX11_isValue_38 ?_
          refine lv_icmp_ne (tgt := 46) hx hb dX11_isValue_39 (by decide) (fun c5 => ?_) (fun c5 => ?_)
          · replace hf := o_f hf c5
            refine lv_iconst (v := 0) hx hb dX11_isValue_46 (by decide) ?_
            obtain ⟨rfl, rfl⟩ := Prod.mk.inj (Option.some.inj hf)
            exact jq_zret hX hJ.2 (by decide) dX11_isValue_47 ⟨rfl, rfl, rfl, hJ.1⟩
          · replace hf := o_t hf c5
            refine lv_iconst (v := 1) hx hb dX11_isValue_42 (by decide) ?_
            refine lv_goto (tgt := 47) hx hb dX11_isValue_43 (by decide) ?_
            obtain ⟨rfl, rfl⟩ := Prod.mk.inj (Option.some.inj hf)
            exact jq_zret hX hJ.2 (by decide) dX11_isValue_47 ⟨rfl, rfl, rfl, hJ.1⟩
theorem dX11_gives_0 : decode cX11_gives 0 = .ok (.aload_n 0, 1) := by decide +kernel
theorem dX11_gives_1 : decode cX11_gives 1 = .ok (.getfield 51, 3) := by decide +kernel
theorem dX11_gives_4 : decode cX11_gives 4 = .ok (.aload_n 0, 1) := by decide +kernel
theorem dX11_gives_5 : decode cX11_gives 5 = .ok (.getfield 164, 3) := by decide +kernel
theorem dX11_gives_8 : decode cX11_gives 8 = .ok (.iload_n 1, 1) := by decide +kernel
theorem dX11_gives_9 : decode cX11_gives 9 = .ok (.iastore, 1) := by decide +kernel
theorem dX11_gives_10 : decode cX11_gives 10 = .ok (.return_, 1) := by decide +kernel
theorem hy_X11_gives : yX11_gives.cls ≠ "java/lang/invoke/MethodHandle" ∧ yX11_gives.cls ≠ "java/lang/invoke/VarHandle" ∧ (parseMethodDescriptor yX11_gives.desc).map (fun d => d.parameters.length) = some 1 := ⟨by decide, by decide, by decide +kernel⟩
def f_X11_gives (p1 : Int32) (S : mS) : Option ((Unit) × mS) :=
  o_let (m_I S 3) fun x1 =>
  o_ck (¬ (x1 < 0 ∨ 33 ≤ (x1).toNatClampNeg)) (o_let (m_wI S 10 (x1).toNatClampNeg p1) fun S1 =>
  some ((), S1))
set_option maxHeartbeats 4000000 in
set_option maxRecDepth 100000 in
theorem c_X11_gives {l : Launch} {D : va_G} {Y : Nat → ClassId} {aR : Nat → Nat} {A : Nat → Prop} {ad : Nat → Nat} {p1 : Int32} {S S' : mS} {r : Unit} (hf : f_X11_gives p1 S = some (r, S')) : jq_M l D Y aR A ad yX11_gives cX11_gives 2 none 0 0 [.ref (ad 0), .int p1] S none S' := by
  unfold f_X11_gives at hf
  refine jq_enterM (by decide) (Nat.le_of_ble_eq_true rfl) fun p e s m args below meth c ls H locs hX hJ hl => ?_
  have hl : lv_has ls 2 [(0, .ref (ad 0)), (1, .int p1)] := hl
  have hx := hX.1
  have hb := hX.2.1
  have hm := hX.2.2.1
  have ho := hX.2.2.2.1
  have ht := hX.2.2.2.2.1
  have hn := hX.2.2.2.2.2.1.2.1
  refine lv_aload_n hx hb dX11_gives_0 rfl (lv_at hl 0 rfl) ?_
  refine mg_resultOf hX hJ qw705 dX11_gives_1 ?_
  refine lv_aload_n hx hb dX11_gives_4 rfl (lv_at hl 0 rfl) ?_
  replace hf := o_let_e hf
  obtain ⟨x1, hx1, hf⟩ := hf
  refine mg_handles hX hJ hx1 qw697 dX11_gives_5 ?_
  refine lv_iload_n hx hb dX11_gives_8 rfl (lv_at hl 1 rfl) ?_
  replace hf := o_ck_e hf
  obtain ⟨hk1, hf⟩ := hf
  replace hf := o_let_e hf
  obtain ⟨S1, hS1, hf⟩ := hf
  refine mw_I 10 hX hJ (by decide) hk1 hS1 dX11_gives_9 (fun H locs hJ' => ?_)
  clear hJ
  have hJ := hJ'
  clear hJ'
  obtain ⟨rfl, rfl⟩ := Prod.mk.inj (Option.some.inj hf)
  exact jq_vret hX hJ.2 dX11_gives_10 ⟨rfl, rfl, rfl, hJ.1⟩
theorem dX11_takes_0 : decode cX11_takes 0 = .ok (.aload_n 0, 1) := by decide +kernel
theorem dX11_takes_1 : decode cX11_takes 1 = .ok (.getfield 45, 3) := by decide +kernel
theorem dX11_takes_4 : decode cX11_takes 4 = .ok (.aload_n 0, 1) := by decide +kernel
theorem dX11_takes_5 : decode cX11_takes 5 = .ok (.getfield 164, 3) := by decide +kernel
theorem dX11_takes_8 : decode cX11_takes 8 = .ok (.iaload, 1) := by decide +kernel
theorem dX11_takes_9 : decode cX11_takes 9 = .ok (.iconst 4, 1) := by decide +kernel
theorem dX11_takes_10 : decode cX11_takes 10 = .ok (.if_icmp .ge 25, 3) := by decide +kernel
theorem dX11_takes_35 : decode cX11_takes 35 = .ok (.aload_n 0, 1) := by decide +kernel
theorem dX11_takes_36 : decode cX11_takes 36 = .ok (.getfield 45, 3) := by decide +kernel
theorem dX11_takes_39 : decode cX11_takes 39 = .ok (.aload_n 0, 1) := by decide +kernel
theorem dX11_takes_40 : decode cX11_takes 40 = .ok (.getfield 164, 3) := by decide +kernel
theorem dX11_takes_43 : decode cX11_takes 43 = .ok (.dup2, 1) := by decide +kernel
theorem dX11_takes_44 : decode cX11_takes 44 = .ok (.iaload, 1) := by decide +kernel
theorem dX11_takes_45 : decode cX11_takes 45 = .ok (.iconst 1, 1) := by decide +kernel
theorem dX11_takes_46 : decode cX11_takes 46 = .ok (.iadd, 1) := by decide +kernel
theorem dX11_takes_47 : decode cX11_takes 47 = .ok (.iastore, 1) := by decide +kernel
theorem dX11_takes_48 : decode cX11_takes 48 = .ok (.return_, 1) := by decide +kernel
theorem dX11_takes_13 : decode cX11_takes 13 = .ok (.aload_n 0, 1) := by decide +kernel
theorem dX11_takes_14 : decode cX11_takes 14 = .ok (.getfield 48, 3) := by decide +kernel
theorem dX11_takes_17 : decode cX11_takes 17 = .ok (.iconst 4, 1) := by decide +kernel
theorem dX11_takes_18 : decode cX11_takes 18 = .ok (.aload_n 0, 1) := by decide +kernel
theorem dX11_takes_19 : decode cX11_takes 19 = .ok (.getfield 164, 3) := by decide +kernel
theorem dX11_takes_22 : decode cX11_takes 22 = .ok (.imul, 1) := by decide +kernel
theorem dX11_takes_23 : decode cX11_takes 23 = .ok (.aload_n 0, 1) := by decide +kernel
theorem dX11_takes_24 : decode cX11_takes 24 = .ok (.getfield 45, 3) := by decide +kernel
theorem dX11_takes_27 : decode cX11_takes 27 = .ok (.aload_n 0, 1) := by decide +kernel
theorem dX11_takes_28 : decode cX11_takes 28 = .ok (.getfield 164, 3) := by decide +kernel
theorem dX11_takes_31 : decode cX11_takes 31 = .ok (.iaload, 1) := by decide +kernel
theorem dX11_takes_32 : decode cX11_takes 32 = .ok (.iadd, 1) := by decide +kernel
theorem dX11_takes_33 : decode cX11_takes 33 = .ok (.iload_n 1, 1) := by decide +kernel
theorem dX11_takes_34 : decode cX11_takes 34 = .ok (.iastore, 1) := by decide +kernel
theorem hy_X11_takes : yX11_takes.cls ≠ "java/lang/invoke/MethodHandle" ∧ yX11_takes.cls ≠ "java/lang/invoke/VarHandle" ∧ (parseMethodDescriptor yX11_takes.desc).map (fun d => d.parameters.length) = some 1 := ⟨by decide, by decide, by decide +kernel⟩
def f_X11_takes (p1 : Int32) (S : mS) : Option ((Unit) × mS) :=
  o_let (m_I S 3) fun x1 =>
  o_ck (¬ (x1 < 0 ∨ 33 ≤ (x1).toNatClampNeg)) (o_let (m_aI S 8 (x1).toNatClampNeg) fun x2 =>
  if 4 ≤ x2 then (
  o_let (m_I S 3) fun x3 =>
  o_ck (¬ (x3 < 0 ∨ 33 ≤ (x3).toNatClampNeg)) (o_let (m_aI S 8 (x3).toNatClampNeg) fun x4 =>
  o_ck (¬ (x3 < 0 ∨ 33 ≤ (x3).toNatClampNeg)) (o_let (m_wI S 8 (x3).toNatClampNeg (x4 + (1 : Int32))) fun S1 =>
  some ((), S1)))) else (
  o_let (m_I S 3) fun x5 =>
  o_let (m_I S 3) fun x6 =>
  o_ck (¬ (x6 < 0 ∨ 33 ≤ (x6).toNatClampNeg)) (o_let (m_aI S 8 (x6).toNatClampNeg) fun x7 =>
  o_ck (¬ ((((4 : Int32) * x5) + x7) < 0 ∨ 132 ≤ ((((4 : Int32) * x5) + x7)).toNatClampNeg)) (o_let (m_wI S 9 ((((4 : Int32) * x5) + x7)).toNatClampNeg p1) fun S2 =>
  o_let (m_I S2 3) fun x8 =>
  o_ck (¬ (x8 < 0 ∨ 33 ≤ (x8).toNatClampNeg)) (o_let (m_aI S2 8 (x8).toNatClampNeg) fun x9 =>
  o_ck (¬ (x8 < 0 ∨ 33 ≤ (x8).toNatClampNeg)) (o_let (m_wI S2 8 (x8).toNatClampNeg (x9 + (1 : Int32))) fun S3 =>
  some ((), S3)))))))
set_option maxHeartbeats 4000000 in
set_option maxRecDepth 100000 in
theorem c_X11_takes {l : Launch} {D : va_G} {Y : Nat → ClassId} {aR : Nat → Nat} {A : Nat → Prop} {ad : Nat → Nat} {p1 : Int32} {S S' : mS} {r : Unit} (hf : f_X11_takes p1 S = some (r, S')) : jq_M l D Y aR A ad yX11_takes cX11_takes 2 none 0 0 [.ref (ad 0), .int p1] S none S' := by
  unfold f_X11_takes at hf
  refine jq_enterM (by decide) (Nat.le_of_ble_eq_true rfl) fun p e s m args below meth c ls H locs hX hJ hl => ?_
  have hl : lv_has ls 2 [(0, .ref (ad 0)), (1, .int p1)] := hl
  have hx := hX.1
  have hb := hX.2.1
  have hm := hX.2.2.1
  have ho := hX.2.2.2.1
  have ht := hX.2.2.2.2.1
  have hn := hX.2.2.2.2.2.1.2.1
  refine lv_aload_n hx hb dX11_takes_0 rfl (lv_at hl 0 rfl) ?_
  refine mg_manyOf hX hJ qw703 dX11_takes_1 ?_
  refine lv_aload_n hx hb dX11_takes_4 rfl (lv_at hl 0 rfl) ?_
  replace hf := o_let_e hf
  obtain ⟨x1, hx1, hf⟩ := hf
  refine mg_handles hX hJ hx1 qw697 dX11_takes_5 ?_
  replace hf := o_ck_e hf
  obtain ⟨hk1, hf⟩ := hf
  replace hf := o_let_e hf
  obtain ⟨x2, hx2, hf⟩ := hf
  refine ma_I 8 hX hJ (by decide) hk1 hx2 dX11_takes_8 ?_
  refine lv_iconst (v := 4) hx hb dX11_takes_9 (by decide) ?_
  refine lv_icmp_ge (tgt := 35) hx hb dX11_takes_10 (by decide) (fun c1 => ?_) (fun c1 => ?_)
  · replace hf := o_t hf c1
    refine lv_aload_n hx hb dX11_takes_35 rfl (lv_at hl 0 rfl) ?_
    refine mg_manyOf hX hJ qw703 dX11_takes_36 ?_
    refine lv_aload_n hx hb dX11_takes_39 rfl (lv_at hl 0 rfl) ?_
    replace hf := o_let_e hf
    obtain ⟨x3, hx3, hf⟩ := hf
    refine mg_handles hX hJ hx3 qw697 dX11_takes_40 ?_
    refine lv_dup2_11 hx hb dX11_takes_43 rfl rfl ?_
    replace hf := o_ck_e hf
    obtain ⟨hk2, hf⟩ := hf
    replace hf := o_let_e hf
    obtain ⟨x4, hx4, hf⟩ := hf
    refine ma_I 8 hX hJ (by decide) hk2 hx4 dX11_takes_44 ?_
    refine lv_iconst (v := 1) hx hb dX11_takes_45 (by decide) ?_
    refine lv_iadd hx hb dX11_takes_46 ?_
    replace hf := o_ck_e hf
    obtain ⟨hk3, hf⟩ := hf
    replace hf := o_let_e hf
    obtain ⟨S1, hS1, hf⟩ := hf
    refine mw_I 8 hX hJ (by decide) hk3 hS1 dX11_takes_47 (fun H locs hJ' => ?_)
    clear hJ
    have hJ := hJ'
    clear hJ'
    obtain ⟨rfl, rfl⟩ := Prod.mk.inj (Option.some.inj hf)
    exact jq_vret hX hJ.2 dX11_takes_48 ⟨rfl, rfl, rfl, hJ.1⟩
  · replace hf := o_f hf c1
    refine lv_aload_n hx hb dX11_takes_13 rfl (lv_at hl 0 rfl) ?_
    refine mg_kindOf hX hJ qw704 dX11_takes_14 ?_
    refine lv_iconst (v := 4) hx hb dX11_takes_17 (by decide) ?_
    refine lv_aload_n hx hb dX11_takes_18 rfl (lv_at hl 0 rfl) ?_
    replace hf := o_let_e hf
    obtain ⟨x5, hx5, hf⟩ := hf
    refine mg_handles hX hJ hx5 qw697 dX11_takes_19 ?_
    refine lv_imul hx hb dX11_takes_22 ?_
    refine lv_aload_n hx hb dX11_takes_23 rfl (lv_at hl 0 rfl) ?_
    refine mg_manyOf hX hJ qw703 dX11_takes_24 ?_
    refine lv_aload_n hx hb dX11_takes_27 rfl (lv_at hl 0 rfl) ?_
    replace hf := o_let_e hf
    obtain ⟨x6, hx6, hf⟩ := hf
    refine mg_handles hX hJ hx6 qw697 dX11_takes_28 ?_
    replace hf := o_ck_e hf
    obtain ⟨hk4, hf⟩ := hf
    replace hf := o_let_e hf
    obtain ⟨x7, hx7, hf⟩ := hf
    refine ma_I 8 hX hJ (by decide) hk4 hx7 dX11_takes_31 ?_
    refine lv_iadd hx hb dX11_takes_32 ?_
    refine lv_iload_n hx hb dX11_takes_33 rfl (lv_at hl 1 rfl) ?_
    replace hf := o_ck_e hf
    obtain ⟨hk5, hf⟩ := hf
    replace hf := o_let_e hf
    obtain ⟨S2, hS2, hf⟩ := hf
    refine mw_I 9 hX hJ (by decide) hk5 hS2 dX11_takes_34 (fun H locs hJ' => ?_)
    clear hJ
    have hJ := hJ'
    clear hJ'
    refine lv_aload_n hx hb dX11_takes_35 rfl (lv_at hl 0 rfl) ?_
    refine mg_manyOf hX hJ qw703 dX11_takes_36 ?_
    refine lv_aload_n hx hb dX11_takes_39 rfl (lv_at hl 0 rfl) ?_
    replace hf := o_let_e hf
    obtain ⟨x8, hx8, hf⟩ := hf
    refine mg_handles hX hJ hx8 qw697 dX11_takes_40 ?_
    refine lv_dup2_11 hx hb dX11_takes_43 rfl rfl ?_
    replace hf := o_ck_e hf
    obtain ⟨hk6, hf⟩ := hf
    replace hf := o_let_e hf
    obtain ⟨x9, hx9, hf⟩ := hf
    refine ma_I 8 hX hJ (by decide) hk6 hx9 dX11_takes_44 ?_
    refine lv_iconst (v := 1) hx hb dX11_takes_45 (by decide) ?_
    refine lv_iadd hx hb dX11_takes_46 ?_
    replace hf := o_ck_e hf
    obtain ⟨hk7, hf⟩ := hf
    replace hf := o_let_e hf
    obtain ⟨S3, hS3, hf⟩ := hf
    refine mw_I 8 hX hJ (by decide) hk7 hS3 dX11_takes_47 (fun H locs hJ' => ?_)
    clear hJ
    have hJ := hJ'
    clear hJ'
    obtain ⟨rfl, rfl⟩ := Prod.mk.inj (Option.some.inj hf)
    exact jq_vret hX hJ.2 dX11_takes_48 ⟨rfl, rfl, rfl, hJ.1⟩
theorem dX11_makeFirst_0 : decode cX11_makeFirst 0 = .ok (.iload_n 1, 1) := by decide +kernel
theorem dX11_makeFirst_1 : decode cX11_makeFirst 1 = .ok (.bipush 6, 2) := by decide +kernel
theorem dX11_makeFirst_3 : decode cX11_makeFirst 3 = .ok (.if_icmp .lt 13, 3) := by decide +kernel
theorem dX11_makeFirst_16 : decode cX11_makeFirst 16 = .ok (.iconst 0, 1) := by decide +kernel
theorem dX11_makeFirst_6 : decode cX11_makeFirst 6 = .ok (.iload_n 1, 1) := by decide +kernel
theorem dX11_makeFirst_7 : decode cX11_makeFirst 7 = .ok (.bipush 8, 2) := by decide +kernel
theorem dX11_makeFirst_9 : decode cX11_makeFirst 9 = .ok (.if_icmp .gt 7, 3) := by decide +kernel
theorem dX11_makeFirst_12 : decode cX11_makeFirst 12 = .ok (.iconst 1, 1) := by decide +kernel
theorem dX11_makeFirst_13 : decode cX11_makeFirst 13 = .ok (.goto 4, 3) := by decide +kernel
theorem dX11_makeFirst_17 : decode cX11_makeFirst 17 = .ok (.istore 6, 2) := by decide +kernel
theorem dX11_makeFirst_19 : decode cX11_makeFirst 19 = .ok (.iload 6, 2) := by decide +kernel
theorem dX11_makeFirst_21 : decode cX11_makeFirst 21 = .ok (.ifCond .eq 17, 3) := by decide +kernel
theorem dX11_makeFirst_38 : decode cX11_makeFirst 38 = .ok (.iload_n 1, 1) := by decide +kernel
theorem dX11_makeFirst_39 : decode cX11_makeFirst 39 = .ok (.ifCond .eq 14, 3) := by decide +kernel
theorem dX11_makeFirst_53 : decode cX11_makeFirst 53 = .ok (.iload_n 2, 1) := by decide +kernel
theorem dX11_makeFirst_54 : decode cX11_makeFirst 54 = .ok (.invokestatic 155, 3) := by decide +kernel
theorem dX11_makeFirst_57 : decode cX11_makeFirst 57 = .ok (.goto 7, 3) := by decide +kernel
theorem dX11_makeFirst_42 : decode cX11_makeFirst 42 = .ok (.iload_n 1, 1) := by decide +kernel
theorem dX11_makeFirst_43 : decode cX11_makeFirst 43 = .ok (.iconst 1, 1) := by decide +kernel
theorem dX11_makeFirst_44 : decode cX11_makeFirst 44 = .ok (.if_icmp .eq 9, 3) := by decide +kernel
theorem dX11_makeFirst_47 : decode cX11_makeFirst 47 = .ok (.iload_n 1, 1) := by decide +kernel
theorem dX11_makeFirst_48 : decode cX11_makeFirst 48 = .ok (.bipush 9, 2) := by decide +kernel
theorem dX11_makeFirst_50 : decode cX11_makeFirst 50 = .ok (.if_icmp .ne 10, 3) := by decide +kernel
theorem dX11_makeFirst_60 : decode cX11_makeFirst 60 = .ok (.iload_n 2, 1) := by decide +kernel
theorem dX11_makeFirst_61 : decode cX11_makeFirst 61 = .ok (.invokestatic 178, 3) := by decide +kernel
theorem dX11_makeFirst_24 : decode cX11_makeFirst 24 = .ok (.iload_n 2, 1) := by decide +kernel
theorem dX11_makeFirst_25 : decode cX11_makeFirst 25 = .ok (.i2l, 1) := by decide +kernel
theorem dX11_makeFirst_26 : decode cX11_makeFirst 26 = .ok (.ldc2_w 117, 3) := by decide +kernel
theorem dX11_makeFirst_29 : decode cX11_makeFirst 29 = .ok (.ldc2_w 78, 3) := by decide +kernel
theorem dX11_makeFirst_32 : decode cX11_makeFirst 32 = .ok (.invokestatic 80, 3) := by decide +kernel
theorem dX11_makeFirst_35 : decode cX11_makeFirst 35 = .ok (.goto 29, 3) := by decide +kernel
theorem dX11_makeFirst_64 : decode cX11_makeFirst 64 = .ok (.istore 7, 2) := by decide +kernel
theorem dX11_makeFirst_66 : decode cX11_makeFirst 66 = .ok (.iload 7, 2) := by decide +kernel
theorem dX11_makeFirst_68 : decode cX11_makeFirst 68 = .ok (.ifCond .eq 35, 3) := by decide +kernel
theorem dX11_makeFirst_103 : decode cX11_makeFirst 103 = .ok (.iconst (-1), 1) := by decide +kernel
theorem dX11_makeFirst_104 : decode cX11_makeFirst 104 = .ok (.ireturn, 1) := by decide +kernel
theorem dX11_makeFirst_71 : decode cX11_makeFirst 71 = .ok (.iload_n 1, 1) := by decide +kernel
theorem dX11_makeFirst_72 : decode cX11_makeFirst 72 = .ok (.bipush 9, 2) := by decide +kernel
theorem dX11_makeFirst_74 : decode cX11_makeFirst 74 = .ok (.if_icmp .ne 15, 3) := by decide +kernel
theorem dX11_makeFirst_89 : decode cX11_makeFirst 89 = .ok (.iload_n 1, 1) := by decide +kernel
theorem dX11_makeFirst_90 : decode cX11_makeFirst 90 = .ok (.ifCond .ne 15, 3) := by decide +kernel
theorem dX11_makeFirst_93 : decode cX11_makeFirst 93 = .ok (.aload_n 0, 1) := by decide +kernel
theorem dX11_makeFirst_94 : decode cX11_makeFirst 94 = .ok (.iload_n 2, 1) := by decide +kernel
theorem dX11_makeFirst_95 : decode cX11_makeFirst 95 = .ok (.lload 4, 2) := by decide +kernel
theorem dX11_makeFirst_97 : decode cX11_makeFirst 97 = .ok (.invokevirtual 183, 3) := by decide +kernel
theorem dX11_makeFirst_100 : decode cX11_makeFirst 100 = .ok (.ifCond .ne 5, 3) := by decide +kernel
theorem dX11_makeFirst_77 : decode cX11_makeFirst 77 = .ok (.iload_n 3, 1) := by decide +kernel
theorem dX11_makeFirst_78 : decode cX11_makeFirst 78 = .ok (.i2l, 1) := by decide +kernel
theorem dX11_makeFirst_79 : decode cX11_makeFirst 79 = .ok (.lconst 0, 1) := by decide +kernel
theorem dX11_makeFirst_80 : decode cX11_makeFirst 80 = .ok (.ldc2_w 181, 3) := by decide +kernel
theorem dX11_makeFirst_83 : decode cX11_makeFirst 83 = .ok (.invokestatic 80, 3) := by decide +kernel
theorem dX11_makeFirst_86 : decode cX11_makeFirst 86 = .ok (.ifCond .eq 17, 3) := by decide +kernel
theorem dX11_makeFirst_105 : decode cX11_makeFirst 105 = .ok (.aload_n 0, 1) := by decide +kernel
theorem dX11_makeFirst_106 : decode cX11_makeFirst 106 = .ok (.iload_n 2, 1) := by decide +kernel
theorem dX11_makeFirst_107 : decode cX11_makeFirst 107 = .ok (.putfield 187, 3) := by decide +kernel
theorem dX11_makeFirst_110 : decode cX11_makeFirst 110 = .ok (.aload_n 0, 1) := by decide +kernel
theorem dX11_makeFirst_111 : decode cX11_makeFirst 111 = .ok (.iload_n 1, 1) := by decide +kernel
theorem dX11_makeFirst_112 : decode cX11_makeFirst 112 = .ok (.bipush 9, 2) := by decide +kernel
theorem dX11_makeFirst_114 : decode cX11_makeFirst 114 = .ok (.if_icmp .ne 7, 3) := by decide +kernel
theorem dX11_makeFirst_121 : decode cX11_makeFirst 121 = .ok (.iconst 0, 1) := by decide +kernel
theorem dX11_makeFirst_122 : decode cX11_makeFirst 122 = .ok (.putfield 190, 3) := by decide +kernel
theorem dX11_makeFirst_125 : decode cX11_makeFirst 125 = .ok (.aload_n 0, 1) := by decide +kernel
theorem dX11_makeFirst_126 : decode cX11_makeFirst 126 = .ok (.iload_n 1, 1) := by decide +kernel
theorem dX11_makeFirst_127 : decode cX11_makeFirst 127 = .ok (.ifCond .ne 12, 3) := by decide +kernel
theorem dX11_makeFirst_139 : decode cX11_makeFirst 139 = .ok (.lconst 0, 1) := by decide +kernel
theorem dX11_makeFirst_130 : decode cX11_makeFirst 130 = .ok (.lload 4, 2) := by decide +kernel
theorem dX11_makeFirst_132 : decode cX11_makeFirst 132 = .ok (.iload_n 2, 1) := by decide +kernel
theorem dX11_makeFirst_133 : decode cX11_makeFirst 133 = .ok (.invokestatic 101, 3) := by decide +kernel
theorem dX11_makeFirst_136 : decode cX11_makeFirst 136 = .ok (.goto 4, 3) := by decide +kernel
theorem dX11_makeFirst_117 : decode cX11_makeFirst 117 = .ok (.iload_n 3, 1) := by decide +kernel
theorem dX11_makeFirst_118 : decode cX11_makeFirst 118 = .ok (.goto 4, 3) := by decide +kernel
theorem dX11_makeFirst_140 : decode cX11_makeFirst 140 = .ok (.putfield 193, 3) := by decide +kernel
theorem dX11_makeFirst_143 : decode cX11_makeFirst 143 = .ok (.aload_n 0, 1) := by decide +kernel
theorem dX11_makeFirst_144 : decode cX11_makeFirst 144 = .ok (.iload_n 2, 1) := by decide +kernel
theorem dX11_makeFirst_145 : decode cX11_makeFirst 145 = .ok (.invokevirtual 197, 3) := by decide +kernel
theorem dX11_makeFirst_148 : decode cX11_makeFirst 148 = .ok (.iload_n 1, 1) := by decide +kernel
theorem dX11_makeFirst_149 : decode cX11_makeFirst 149 = .ok (.tableswitch 177 1 10 #[55, 63, 79, 100, 116, 132, 132, 132, 177, 160], 55) := by decide +kernel
theorem dX11_makeFirst_204 : decode cX11_makeFirst 204 = .ok (.aload_n 0, 1) := by decide +kernel
theorem dX11_makeFirst_205 : decode cX11_makeFirst 205 = .ok (.iload_n 2, 1) := by decide +kernel
theorem dX11_makeFirst_206 : decode cX11_makeFirst 206 = .ok (.invokevirtual 170, 3) := by decide +kernel
theorem dX11_makeFirst_209 : decode cX11_makeFirst 209 = .ok (.goto 117, 3) := by decide +kernel
theorem dX11_makeFirst_326 : decode cX11_makeFirst 326 = .ok (.iconst 0, 1) := by decide +kernel
theorem dX11_makeFirst_327 : decode cX11_makeFirst 327 = .ok (.ireturn, 1) := by decide +kernel
theorem dX11_makeFirst_212 : decode cX11_makeFirst 212 = .ok (.aload_n 0, 1) := by decide +kernel
theorem dX11_makeFirst_213 : decode cX11_makeFirst 213 = .ok (.bipush 8, 2) := by decide +kernel
theorem dX11_makeFirst_215 : decode cX11_makeFirst 215 = .ok (.iload_n 2, 1) := by decide +kernel
theorem dX11_makeFirst_216 : decode cX11_makeFirst 216 = .ok (.iadd, 1) := by decide +kernel
theorem dX11_makeFirst_217 : decode cX11_makeFirst 217 = .ok (.invokevirtual 170, 3) := by decide +kernel
theorem dX11_makeFirst_220 : decode cX11_makeFirst 220 = .ok (.aload_n 0, 1) := by decide +kernel
theorem dX11_makeFirst_221 : decode cX11_makeFirst 221 = .ok (.iconst 4, 1) := by decide +kernel
theorem dX11_makeFirst_222 : decode cX11_makeFirst 222 = .ok (.invokevirtual 170, 3) := by decide +kernel
theorem dX11_makeFirst_225 : decode cX11_makeFirst 225 = .ok (.goto 101, 3) := by decide +kernel
theorem dX11_makeFirst_228 : decode cX11_makeFirst 228 = .ok (.aload_n 0, 1) := by decide +kernel
theorem dX11_makeFirst_229 : decode cX11_makeFirst 229 = .ok (.bipush 8, 2) := by decide +kernel
theorem dX11_makeFirst_231 : decode cX11_makeFirst 231 = .ok (.iload_n 2, 1) := by decide +kernel
theorem dX11_makeFirst_232 : decode cX11_makeFirst 232 = .ok (.iadd, 1) := by decide +kernel
theorem dX11_makeFirst_233 : decode cX11_makeFirst 233 = .ok (.invokevirtual 170, 3) := by decide +kernel
theorem dX11_makeFirst_236 : decode cX11_makeFirst 236 = .ok (.aload_n 0, 1) := by decide +kernel
theorem dX11_makeFirst_237 : decode cX11_makeFirst 237 = .ok (.iconst 4, 1) := by decide +kernel
theorem dX11_makeFirst_238 : decode cX11_makeFirst 238 = .ok (.invokevirtual 170, 3) := by decide +kernel
theorem dX11_makeFirst_241 : decode cX11_makeFirst 241 = .ok (.aload_n 0, 1) := by decide +kernel
theorem dX11_makeFirst_242 : decode cX11_makeFirst 242 = .ok (.iload_n 2, 1) := by decide +kernel
theorem dX11_makeFirst_243 : decode cX11_makeFirst 243 = .ok (.invokevirtual 170, 3) := by decide +kernel
theorem dX11_makeFirst_246 : decode cX11_makeFirst 246 = .ok (.goto 80, 3) := by decide +kernel
theorem dX11_makeFirst_249 : decode cX11_makeFirst 249 = .ok (.aload_n 0, 1) := by decide +kernel
theorem dX11_makeFirst_250 : decode cX11_makeFirst 250 = .ok (.bipush 8, 2) := by decide +kernel
theorem dX11_makeFirst_252 : decode cX11_makeFirst 252 = .ok (.iload_n 2, 1) := by decide +kernel
theorem dX11_makeFirst_253 : decode cX11_makeFirst 253 = .ok (.iadd, 1) := by decide +kernel
theorem dX11_makeFirst_254 : decode cX11_makeFirst 254 = .ok (.invokevirtual 170, 3) := by decide +kernel
theorem dX11_makeFirst_257 : decode cX11_makeFirst 257 = .ok (.aload_n 0, 1) := by decide +kernel
theorem dX11_makeFirst_258 : decode cX11_makeFirst 258 = .ok (.iconst 4, 1) := by decide +kernel
theorem dX11_makeFirst_259 : decode cX11_makeFirst 259 = .ok (.invokevirtual 197, 3) := by decide +kernel
theorem dX11_makeFirst_262 : decode cX11_makeFirst 262 = .ok (.goto 64, 3) := by decide +kernel
theorem dX11_makeFirst_265 : decode cX11_makeFirst 265 = .ok (.aload_n 0, 1) := by decide +kernel
theorem dX11_makeFirst_266 : decode cX11_makeFirst 266 = .ok (.iconst 4, 1) := by decide +kernel
theorem dX11_makeFirst_267 : decode cX11_makeFirst 267 = .ok (.invokevirtual 170, 3) := by decide +kernel
theorem dX11_makeFirst_270 : decode cX11_makeFirst 270 = .ok (.aload_n 0, 1) := by decide +kernel
theorem dX11_makeFirst_271 : decode cX11_makeFirst 271 = .ok (.bipush 8, 2) := by decide +kernel
theorem dX11_makeFirst_273 : decode cX11_makeFirst 273 = .ok (.iload_n 2, 1) := by decide +kernel
theorem dX11_makeFirst_274 : decode cX11_makeFirst 274 = .ok (.iadd, 1) := by decide +kernel
theorem dX11_makeFirst_275 : decode cX11_makeFirst 275 = .ok (.invokevirtual 197, 3) := by decide +kernel
theorem dX11_makeFirst_278 : decode cX11_makeFirst 278 = .ok (.goto 48, 3) := by decide +kernel
theorem dX11_makeFirst_281 : decode cX11_makeFirst 281 = .ok (.aload_n 0, 1) := by decide +kernel
theorem dX11_makeFirst_282 : decode cX11_makeFirst 282 = .ok (.iload_n 2, 1) := by decide +kernel
theorem dX11_makeFirst_283 : decode cX11_makeFirst 283 = .ok (.invokevirtual 170, 3) := by decide +kernel
theorem dX11_makeFirst_286 : decode cX11_makeFirst 286 = .ok (.aload_n 0, 1) := by decide +kernel
theorem dX11_makeFirst_287 : decode cX11_makeFirst 287 = .ok (.iload_n 2, 1) := by decide +kernel
theorem dX11_makeFirst_288 : decode cX11_makeFirst 288 = .ok (.invokevirtual 170, 3) := by decide +kernel
theorem dX11_makeFirst_291 : decode cX11_makeFirst 291 = .ok (.aload_n 0, 1) := by decide +kernel
theorem dX11_makeFirst_292 : decode cX11_makeFirst 292 = .ok (.iload_n 1, 1) := by decide +kernel
theorem dX11_makeFirst_293 : decode cX11_makeFirst 293 = .ok (.bipush 8, 2) := by decide +kernel
theorem dX11_makeFirst_295 : decode cX11_makeFirst 295 = .ok (.if_icmp .ne 7, 3) := by decide +kernel
theorem dX11_makeFirst_302 : decode cX11_makeFirst 302 = .ok (.iload_n 2, 1) := by decide +kernel
theorem dX11_makeFirst_303 : decode cX11_makeFirst 303 = .ok (.invokevirtual 197, 3) := by decide +kernel
theorem dX11_makeFirst_306 : decode cX11_makeFirst 306 = .ok (.goto 20, 3) := by decide +kernel
theorem dX11_makeFirst_298 : decode cX11_makeFirst 298 = .ok (.iconst 0, 1) := by decide +kernel
theorem dX11_makeFirst_299 : decode cX11_makeFirst 299 = .ok (.goto 4, 3) := by decide +kernel
theorem dX11_makeFirst_309 : decode cX11_makeFirst 309 = .ok (.aload_n 0, 1) := by decide +kernel
theorem dX11_makeFirst_310 : decode cX11_makeFirst 310 = .ok (.bipush 16, 2) := by decide +kernel
theorem dX11_makeFirst_312 : decode cX11_makeFirst 312 = .ok (.invokevirtual 170, 3) := by decide +kernel
theorem dX11_makeFirst_315 : decode cX11_makeFirst 315 = .ok (.aload_n 0, 1) := by decide +kernel
theorem dX11_makeFirst_316 : decode cX11_makeFirst 316 = .ok (.bipush 8, 2) := by decide +kernel
theorem dX11_makeFirst_318 : decode cX11_makeFirst 318 = .ok (.iload_n 2, 1) := by decide +kernel
theorem dX11_makeFirst_319 : decode cX11_makeFirst 319 = .ok (.iadd, 1) := by decide +kernel
theorem dX11_makeFirst_320 : decode cX11_makeFirst 320 = .ok (.invokevirtual 197, 3) := by decide +kernel
theorem dX11_makeFirst_323 : decode cX11_makeFirst 323 = .ok (.goto 3, 3) := by decide +kernel
theorem hy_X11_makeFirst : yX11_makeFirst.cls ≠ "java/lang/invoke/MethodHandle" ∧ yX11_makeFirst.cls ≠ "java/lang/invoke/VarHandle" ∧ (parseMethodDescriptor yX11_makeFirst.desc).map (fun d => d.parameters.length) = some 4 := ⟨by decide, by decide, by decide +kernel⟩
def f_X11_makeFirst_b140 (l1 : Int32) (l2 : Int32) (t0 : Int64) (S : mS) : Option ((Int32) × mS) :=
  o_let (m_pL S 0 t0) fun S1 =>
  o_call (f_X11_gives l2 S1) fun _ S2 =>
  if l1 = 1 then (
  o_call (f_X11_takes l2 S2) fun _ S3 =>
  some (0, S3)) else (
  if l1 = 2 then (
  o_call (f_X11_takes ((8 : Int32) + l2) S2) fun _ S4 =>
  o_call (f_X11_takes 4 S4) fun _ S5 =>
  some (0, S5)) else (
  if l1 = 3 then (
  o_call (f_X11_takes ((8 : Int32) + l2) S2) fun _ S6 =>
  o_call (f_X11_takes 4 S6) fun _ S7 =>
  o_call (f_X11_takes l2 S7) fun _ S8 =>
  some (0, S8)) else (
  if l1 = 4 then (
  o_call (f_X11_takes ((8 : Int32) + l2) S2) fun _ S9 =>
  o_call (f_X11_gives 4 S9) fun _ S10 =>
  some (0, S10)) else (
  if l1 = 5 then (
  o_call (f_X11_takes 4 S2) fun _ S11 =>
  o_call (f_X11_gives ((8 : Int32) + l2) S11) fun _ S12 =>
  some (0, S12)) else (
  if l1 = 6 ∨ l1 = 7 ∨ l1 = 8 then (
  o_call (f_X11_takes l2 S2) fun _ S13 =>
  o_call (f_X11_takes l2 S13) fun _ S14 =>
  if l1 = 8 then (
  o_call (f_X11_gives 0 S14) fun _ S16 =>
  some (0, S16)) else (
  o_call (f_X11_gives l2 S14) fun _ S15 =>
  some (0, S15))) else (
  if l1 = 10 then (
  o_call (f_X11_takes 16 S2) fun _ S17 =>
  o_call (f_X11_gives ((8 : Int32) + l2) S17) fun _ S18 =>
  some (0, S18)) else (
  if l1 = 9 then (
  some (0, S2)) else (
  some (0, S2)))))))))
set_option maxHeartbeats 4000000 in
set_option maxRecDepth 100000 in
theorem w_X11_makeFirst_b140 {l : Launch} {D : va_G} {Y : Nat → ClassId} {aR : Nat → Nat} {A : Nat → Prop} {ad : Nat → Nat} {p : Program} {e : Env} {s : State} {m : MethodId} {args : Array Value} {below : List Frame} {meth : Method} {c : Code} : ∀ (l1 : Int32) (l2 : Int32) (t0 : Int64) (S S' : mS) (r : Int32) (H : Heap) (locs : List Loc) (ls : Array Slot), jq_X D Y aR A p s m args meth c cX11_makeFirst RX11 "makeFirst" 8 (some .int) → mJ D Y A s ad S H locs → f_X11_makeFirst_b140 l1 l2 t0 S = some (r, S') → lv_has ls 8 [(0, .ref (ad 0)), (1, .int l1), (2, .int l2)] → W p l e { frames := 3, cells := 0, slots := 0, locals := 70 } s m args below meth c H locs 0 0 (jq_Z below A (fun v k n H => v = (some (.int r)) ∧ k = 0 ∧ n = 0 ∧ mH D Y A ad S' H) s) (F0 m 140 ls [.long t0, .ref (ad 0)]) := by
  intro l1 l2 t0 S S' r H locs ls hX hJ hf hl
  unfold f_X11_makeFirst_b140 at hf
  have hx := hX.1
  have hb := hX.2.1
  have hm := hX.2.2.1
  have ho := hX.2.2.2.1
  have ht := hX.2.2.2.2.1
  have hn := hX.2.2.2.2.2.1.2.1
  replace hf := o_let_e hf
  obtain ⟨S1, hS1, hf⟩ := hf
  refine mp_madeV hX hJ hS1 qw709 dX11_makeFirst_140 (fun H locs hJ' => ?_)
  clear hJ
  have hJ := hJ'
  clear hJ'
  refine lv_aload_n hx hb dX11_makeFirst_143 rfl (lv_at hl 0 rfl) ?_
  refine lv_iload_n hx hb dX11_makeFirst_144 rfl (lv_at hl 2 rfl) ?_
  replace hf := o_call_e hf
  obtain ⟨_, S2, hq1, hf⟩ := hf
  refine jq_doM hX hJ (jq_okV (As := [.int l2]) (rest := []) hx hb hm ho ht (mJ.recv hX hJ) qw867 qw869 qs77 qw870 qw7 hy_X11_gives rfl hl.1 (Nat.le_of_ble_eq_true rfl) dX11_makeFirst_145) (c_X11_gives hq1) (Nat.le_of_ble_eq_true rfl) (Nat.le_of_ble_eq_true rfl) (Nat.le_refl _) (Nat.le_refl _) (fun H locs hJ' => ?_)
  clear hJ
  have hJ := hJ'
  clear hJ'
  refine lv_iload_n hx hb dX11_makeFirst_148 rfl (lv_at hl 1 rfl) ?_
  by_cases c1 : l1 = 1
  · replace hf := o_t hf c1
    refine lv_tableIn (off := 55) (tgt := 204) hx hb dX11_makeFirst_149 (by rcases c1 with rfl <;> decide) (by rcases c1 with rfl <;> decide) (by rcases c1 with rfl <;> rfl) (by decide) ?_
    refine lv_aload_n hx hb dX11_makeFirst_204 rfl (lv_at hl 0 rfl) ?_
    refine lv_iload_n hx hb dX11_makeFirst_205 rfl (lv_at hl 2 rfl) ?_
    replace hf := o_call_e hf
    obtain ⟨_, S3, hq2, hf⟩ := hf
    refine jq_doM hX hJ (jq_okV (As := [.int l2]) (rest := []) hx hb hm ho ht (mJ.recv hX hJ) qw871 qw873 qs78 qw874 qw7 hy_X11_takes rfl hl.1 (Nat.le_of_ble_eq_true rfl) dX11_makeFirst_206) (c_X11_takes hq2) (Nat.le_of_ble_eq_true rfl) (Nat.le_of_ble_eq_true rfl) (Nat.le_refl _) (Nat.le_refl _) (fun H locs hJ' => ?_)
    clear hJ
    have hJ := hJ'
    clear hJ'
    refine lv_goto (tgt := 326) hx hb dX11_makeFirst_209 (by decide) ?_
    refine lv_iconst (v := 0) hx hb dX11_makeFirst_326 (by decide) ?_
    obtain ⟨rfl, rfl⟩ := Prod.mk.inj (Option.some.inj hf)
    exact jq_iret hX hJ.2 dX11_makeFirst_327 ⟨rfl, rfl, rfl, hJ.1⟩
  replace hf := o_f hf c1
  by_cases c2 : l1 = 2
  · replace hf := o_t hf c2
    refine lv_tableIn (off := 63) (tgt := 212) hx hb dX11_makeFirst_149 (by rcases c2 with rfl <;> decide) (by rcases c2 with rfl <;> decide) (by rcases c2 with rfl <;> rfl) (by decide) ?_
    refine lv_aload_n hx hb dX11_makeFirst_212 rfl (lv_at hl 0 rfl) ?_
    refine lv_bipush (v := 8) hx hb dX11_makeFirst_213 (by decide) ?_
    refine lv_iload_n hx hb dX11_makeFirst_215 rfl (lv_at hl 2 rfl) ?_
    refine lv_iadd hx hb dX11_makeFirst_216 ?_
    replace hf := o_call_e hf
    obtain ⟨_, S4, hq3, hf⟩ := hf
    refine jq_doM hX hJ (jq_okV (As := [.int ((8 : Int32) + l2)]) (rest := []) hx hb hm ho ht (mJ.recv hX hJ) qw871 qw873 qs78 qw874 qw7 hy_X11_takes rfl hl.1 (Nat.le_of_ble_eq_true rfl) dX11_makeFirst_217) (c_X11_takes hq3) (Nat.le_of_ble_eq_true rfl) (Nat.le_of_ble_eq_true rfl) (Nat.le_refl _) (Nat.le_refl _) (fun H locs hJ' => ?_)
    clear hJ
    have hJ := hJ'
    clear hJ'
    refine lv_aload_n hx hb dX11_makeFirst_220 rfl (lv_at hl 0 rfl) ?_
    refine lv_iconst (v := 4) hx hb dX11_makeFirst_221 (by decide) ?_
    replace hf := o_call_e hf
    obtain ⟨_, S5, hq4, hf⟩ := hf
    refine jq_doM hX hJ (jq_okV (As := [.int 4]) (rest := []) hx hb hm ho ht (mJ.recv hX hJ) qw871 qw873 qs78 qw874 qw7 hy_X11_takes rfl hl.1 (Nat.le_of_ble_eq_true rfl) dX11_makeFirst_222) (c_X11_takes hq4) (Nat.le_of_ble_eq_true rfl) (Nat.le_of_ble_eq_true rfl) (Nat.le_refl _) (Nat.le_refl _) (fun H locs hJ' => ?_)
    clear hJ
    have hJ := hJ'
    clear hJ'
    refine lv_goto (tgt := 326) hx hb dX11_makeFirst_225 (by decide) ?_
    refine lv_iconst (v := 0) hx hb dX11_makeFirst_326 (by decide) ?_
    obtain ⟨rfl, rfl⟩ := Prod.mk.inj (Option.some.inj hf)
    exact jq_iret hX hJ.2 dX11_makeFirst_327 ⟨rfl, rfl, rfl, hJ.1⟩
  replace hf := o_f hf c2
  by_cases c3 : l1 = 3
  · replace hf := o_t hf c3
    refine lv_tableIn (off := 79) (tgt := 228) hx hb dX11_makeFirst_149 (by rcases c3 with rfl <;> decide) (by rcases c3 with rfl <;> decide) (by rcases c3 with rfl <;> rfl) (by decide) ?_
    refine lv_aload_n hx hb dX11_makeFirst_228 rfl (lv_at hl 0 rfl) ?_
    refine lv_bipush (v := 8) hx hb dX11_makeFirst_229 (by decide) ?_
    refine lv_iload_n hx hb dX11_makeFirst_231 rfl (lv_at hl 2 rfl) ?_
    refine lv_iadd hx hb dX11_makeFirst_232 ?_
    replace hf := o_call_e hf
    obtain ⟨_, S6, hq5, hf⟩ := hf
    refine jq_doM hX hJ (jq_okV (As := [.int ((8 : Int32) + l2)]) (rest := []) hx hb hm ho ht (mJ.recv hX hJ) qw871 qw873 qs78 qw874 qw7 hy_X11_takes rfl hl.1 (Nat.le_of_ble_eq_true rfl) dX11_makeFirst_233) (c_X11_takes hq5) (Nat.le_of_ble_eq_true rfl) (Nat.le_of_ble_eq_true rfl) (Nat.le_refl _) (Nat.le_refl _) (fun H locs hJ' => ?_)
    clear hJ
    have hJ := hJ'
    clear hJ'
    refine lv_aload_n hx hb dX11_makeFirst_236 rfl (lv_at hl 0 rfl) ?_
    refine lv_iconst (v := 4) hx hb dX11_makeFirst_237 (by decide) ?_
    replace hf := o_call_e hf
    obtain ⟨_, S7, hq6, hf⟩ := hf
    refine jq_doM hX hJ (jq_okV (As := [.int 4]) (rest := []) hx hb hm ho ht (mJ.recv hX hJ) qw871 qw873 qs78 qw874 qw7 hy_X11_takes rfl hl.1 (Nat.le_of_ble_eq_true rfl) dX11_makeFirst_238) (c_X11_takes hq6) (Nat.le_of_ble_eq_true rfl) (Nat.le_of_ble_eq_true rfl) (Nat.le_refl _) (Nat.le_refl _) (fun H locs hJ' => ?_)
    clear hJ
    have hJ := hJ'
    clear hJ'
    refine lv_aload_n hx hb dX11_makeFirst_241 rfl (lv_at hl 0 rfl) ?_
    refine lv_iload_n hx hb dX11_makeFirst_242 rfl (lv_at hl 2 rfl) ?_
    replace hf := o_call_e hf
    obtain ⟨_, S8, hq7, hf⟩ := hf
    refine jq_doM hX hJ (jq_okV (As := [.int l2]) (rest := []) hx hb hm ho ht (mJ.recv hX hJ) qw871 qw873 qs78 qw874 qw7 hy_X11_takes rfl hl.1 (Nat.le_of_ble_eq_true rfl) dX11_makeFirst_243) (c_X11_takes hq7) (Nat.le_of_ble_eq_true rfl) (Nat.le_of_ble_eq_true rfl) (Nat.le_refl _) (Nat.le_refl _) (fun H locs hJ' => ?_)
    clear hJ
    have hJ := hJ'
    clear hJ'
    refine lv_goto (tgt := 326) hx hb dX11_makeFirst_246 (by decide) ?_
    refine lv_iconst (v := 0) hx hb dX11_makeFirst_326 (by decide) ?_
    obtain ⟨rfl, rfl⟩ := Prod.mk.inj (Option.some.inj hf)
    exact jq_iret hX hJ.2 dX11_makeFirst_327 ⟨rfl, rfl, rfl, hJ.1⟩
  replace hf := o_f hf c3
  by_cases c4 : l1 = 4
  · replace hf := o_t hf c4
    refine lv_tableIn (off := 100) (tgt := 249) hx hb dX11_makeFirst_149 (by rcases c4 with rfl <;> decide) (by rcases c4 with rfl <;> decide) (by rcases c4 with rfl <;> rfl) (by decide) ?_
    refine lv_aload_n hx hb dX11_makeFirst_249 rfl (lv_at hl 0 rfl) ?_
    refine lv_bipush (v := 8) hx hb dX11_makeFirst_250 (by decide) ?_
    refine lv_iload_n hx hb dX11_makeFirst_252 rfl (lv_at hl 2 rfl) ?_
    refine lv_iadd hx hb dX11_makeFirst_253 ?_
    replace hf := o_call_e hf
    obtain ⟨_, S9, hq8, hf⟩ := hf
    refine jq_doM hX hJ (jq_okV (As := [.int ((8 : Int32) + l2)]) (rest := []) hx hb hm ho ht (mJ.recv hX hJ) qw871 qw873 qs78 qw874 qw7 hy_X11_takes rfl hl.1 (Nat.le_of_ble_eq_true rfl) dX11_makeFirst_254) (c_X11_takes hq8) (Nat.le_of_ble_eq_true rfl) (Nat.le_of_ble_eq_true rfl) (Nat.le_refl _) (Nat.le_refl _) (fun H locs hJ' => ?_)
    clear hJ
    have hJ := hJ'
    clear hJ'
    refine lv_aload_n hx hb dX11_makeFirst_257 rfl (lv_at hl 0 rfl) ?_
    refine lv_iconst (v := 4) hx hb dX11_makeFirst_258 (by decide) ?_
    replace hf := o_call_e hf
    obtain ⟨_, S10, hq9, hf⟩ := hf
    refine jq_doM hX hJ (jq_okV (As := [.int 4]) (rest := []) hx hb hm ho ht (mJ.recv hX hJ) qw867 qw869 qs77 qw870 qw7 hy_X11_gives rfl hl.1 (Nat.le_of_ble_eq_true rfl) dX11_makeFirst_259) (c_X11_gives hq9) (Nat.le_of_ble_eq_true rfl) (Nat.le_of_ble_eq_true rfl) (Nat.le_refl _) (Nat.le_refl _) (fun H locs hJ' => ?_)
    clear hJ
    have hJ := hJ'
    clear hJ'
    refine lv_goto (tgt := 326) hx hb dX11_makeFirst_262 (by decide) ?_
    refine lv_iconst (v := 0) hx hb dX11_makeFirst_326 (by decide) ?_
    obtain ⟨rfl, rfl⟩ := Prod.mk.inj (Option.some.inj hf)
    exact jq_iret hX hJ.2 dX11_makeFirst_327 ⟨rfl, rfl, rfl, hJ.1⟩
  replace hf := o_f hf c4
  by_cases c5 : l1 = 5
  · replace hf := o_t hf c5
    refine lv_tableIn (off := 116) (tgt := 265) hx hb dX11_makeFirst_149 (by rcases c5 with rfl <;> decide) (by rcases c5 with rfl <;> decide) (by rcases c5 with rfl <;> rfl) (by decide) ?_
    refine lv_aload_n hx hb dX11_makeFirst_265 rfl (lv_at hl 0 rfl) ?_
    refine lv_iconst (v := 4) hx hb dX11_makeFirst_266 (by decide) ?_
    replace hf := o_call_e hf
    obtain ⟨_, S11, hq10, hf⟩ := hf
    refine jq_doM hX hJ (jq_okV (As := [.int 4]) (rest := []) hx hb hm ho ht (mJ.recv hX hJ) qw871 qw873 qs78 qw874 qw7 hy_X11_takes rfl hl.1 (Nat.le_of_ble_eq_true rfl) dX11_makeFirst_267) (c_X11_takes hq10) (Nat.le_of_ble_eq_true rfl) (Nat.le_of_ble_eq_true rfl) (Nat.le_refl _) (Nat.le_refl _) (fun H locs hJ' => ?_)
    clear hJ
    have hJ := hJ'
    clear hJ'
    refine lv_aload_n hx hb dX11_makeFirst_270 rfl (lv_at hl 0 rfl) ?_
    refine lv_bipush (v := 8) hx hb dX11_makeFirst_271 (by decide) ?_
    refine lv_iload_n hx hb dX11_makeFirst_273 rfl (lv_at hl 2 rfl) ?_
    refine lv_iadd hx hb dX11_makeFirst_274 ?_
    replace hf := o_call_e hf
    obtain ⟨_, S12, hq11, hf⟩ := hf
    refine jq_doM hX hJ (jq_okV (As := [.int ((8 : Int32) + l2)]) (rest := []) hx hb hm ho ht (mJ.recv hX hJ) qw867 qw869 qs77 qw870 qw7 hy_X11_gives rfl hl.1 (Nat.le_of_ble_eq_true rfl) dX11_makeFirst_275) (c_X11_gives hq11) (Nat.le_of_ble_eq_true rfl) (Nat.le_of_ble_eq_true rfl) (Nat.le_refl _) (Nat.le_refl _) (fun H locs hJ' => ?_)
    clear hJ
    have hJ := hJ'
    clear hJ'
    refine lv_goto (tgt := 326) hx hb dX11_makeFirst_278 (by decide) ?_
    refine lv_iconst (v := 0) hx hb dX11_makeFirst_326 (by decide) ?_
    obtain ⟨rfl, rfl⟩ := Prod.mk.inj (Option.some.inj hf)
    exact jq_iret hX hJ.2 dX11_makeFirst_327 ⟨rfl, rfl, rfl, hJ.1⟩
  replace hf := o_f hf c5
  by_cases c6 : l1 = 6 ∨ l1 = 7 ∨ l1 = 8
  · replace hf := o_t hf c6
    refine lv_tableIn (off := 132) (tgt := 281) hx hb dX11_makeFirst_149 (by rcases c6 with rfl | rfl | rfl <;> decide) (by rcases c6 with rfl | rfl | rfl <;> decide) (by rcases c6 with rfl | rfl | rfl <;> rfl) (by decide) ?_
    refine lv_aload_n hx hb dX11_makeFirst_281 rfl (lv_at hl 0 rfl) ?_
    refine lv_iload_n hx hb dX11_makeFirst_282 rfl (lv_at hl 2 rfl) ?_
    replace hf := o_call_e hf
    obtain ⟨_, S13, hq12, hf⟩ := hf
    refine jq_doM hX hJ (jq_okV (As := [.int l2]) (rest := []) hx hb hm ho ht (mJ.recv hX hJ) qw871 qw873 qs78 qw874 qw7 hy_X11_takes rfl hl.1 (Nat.le_of_ble_eq_true rfl) dX11_makeFirst_283) (c_X11_takes hq12) (Nat.le_of_ble_eq_true rfl) (Nat.le_of_ble_eq_true rfl) (Nat.le_refl _) (Nat.le_refl _) (fun H locs hJ' => ?_)
    clear hJ
    have hJ := hJ'
    clear hJ'
    refine lv_aload_n hx hb dX11_makeFirst_286 rfl (lv_at hl 0 rfl) ?_
    refine lv_iload_n hx hb dX11_makeFirst_287 rfl (lv_at hl 2 rfl) ?_
    replace hf := o_call_e hf
    obtain ⟨_, S14, hq13, hf⟩ := hf
    refine jq_doM hX hJ (jq_okV (As := [.int l2]) (rest := []) hx hb hm ho ht (mJ.recv hX hJ) qw871 qw873 qs78 qw874 qw7 hy_X11_takes rfl hl.1 (Nat.le_of_ble_eq_true rfl) dX11_makeFirst_288) (c_X11_takes hq13) (Nat.le_of_ble_eq_true rfl) (Nat.le_of_ble_eq_true rfl) (Nat.le_refl _) (Nat.le_refl _) (fun H locs hJ' => ?_)
    clear hJ
    have hJ := hJ'
    clear hJ'
    refine lv_aload_n hx hb dX11_makeFirst_291 rfl (lv_at hl 0 rfl) ?_
    refine lv_iload_n hx hb dX11_makeFirst_292 rfl (lv_at hl 1 rfl) ?_
    refine lv_bipush (v := 8) hx hb dX11_makeFirst_293 (by decide) ?_
    refine lv_icmp_ne (tgt := 302) hx hb dX11_makeFirst_295 (by decide) (fun c7 => ?_) (fun c7 => ?_)
    · replace hf := o_f hf c7
      refine lv_iload_n hx hb dX11_makeFirst_302 rfl (lv_at hl 2 rfl) ?_
      replace hf := o_call_e hf
      obtain ⟨_, S15, hq14, hf⟩ := hf
      refine jq_doM hX hJ (jq_okV (As := [.int l2]) (rest := []) hx hb hm ho ht (mJ.recv hX hJ) qw867 qw869 qs77 qw870 qw7 hy_X11_gives rfl hl.1 (Nat.le_of_ble_eq_true rfl) dX11_makeFirst_303) (c_X11_gives hq14) (Nat.le_of_ble_eq_true rfl) (Nat.le_of_ble_eq_true rfl) (Nat.le_refl _) (Nat.le_refl _) (fun H locs hJ' => ?_)
      clear hJ
      have hJ := hJ'
      clear hJ'
      refine lv_goto (tgt := 326) hx hb dX11_makeFirst_306 (by decide) ?_
      refine lv_iconst (v := 0) hx hb dX11_makeFirst_326 (by decide) ?_
      obtain ⟨rfl, rfl⟩ := Prod.mk.inj (Option.some.inj hf)
      exact jq_iret hX hJ.2 dX11_makeFirst_327 ⟨rfl, rfl, rfl, hJ.1⟩
    · replace hf := o_t hf c7
      refine lv_iconst (v := 0) hx hb dX11_makeFirst_298 (by decide) ?_
      refine lv_goto (tgt := 303) hx hb dX11_makeFirst_299 (by decide) ?_
      replace hf := o_call_e hf
      obtain ⟨_, S16, hq15, hf⟩ := hf
      refine jq_doM hX hJ (jq_okV (As := [.int 0]) (rest := []) hx hb hm ho ht (mJ.recv hX hJ) qw867 qw869 qs77 qw870 qw7 hy_X11_gives rfl hl.1 (Nat.le_of_ble_eq_true rfl) dX11_makeFirst_303) (c_X11_gives hq15) (Nat.le_of_ble_eq_true rfl) (Nat.le_of_ble_eq_true rfl) (Nat.le_refl _) (Nat.le_refl _) (fun H locs hJ' => ?_)
      clear hJ
      have hJ := hJ'
      clear hJ'
      refine lv_goto (tgt := 326) hx hb dX11_makeFirst_306 (by decide) ?_
      refine lv_iconst (v := 0) hx hb dX11_makeFirst_326 (by decide) ?_
      obtain ⟨rfl, rfl⟩ := Prod.mk.inj (Option.some.inj hf)
      exact jq_iret hX hJ.2 dX11_makeFirst_327 ⟨rfl, rfl, rfl, hJ.1⟩
  replace hf := o_f hf c6
  by_cases c8 : l1 = 10
  · replace hf := o_t hf c8
    refine lv_tableIn (off := 160) (tgt := 309) hx hb dX11_makeFirst_149 (by rcases c8 with rfl <;> decide) (by rcases c8 with rfl <;> decide) (by rcases c8 with rfl <;> rfl) (by decide) ?_
    refine lv_aload_n hx hb dX11_makeFirst_309 rfl (lv_at hl 0 rfl) ?_
    refine lv_bipush (v := 16) hx hb dX11_makeFirst_310 (by decide) ?_
    replace hf := o_call_e hf
    obtain ⟨_, S17, hq16, hf⟩ := hf
    refine jq_doM hX hJ (jq_okV (As := [.int 16]) (rest := []) hx hb hm ho ht (mJ.recv hX hJ) qw871 qw873 qs78 qw874 qw7 hy_X11_takes rfl hl.1 (Nat.le_of_ble_eq_true rfl) dX11_makeFirst_312) (c_X11_takes hq16) (Nat.le_of_ble_eq_true rfl) (Nat.le_of_ble_eq_true rfl) (Nat.le_refl _) (Nat.le_refl _) (fun H locs hJ' => ?_)
    clear hJ
    have hJ := hJ'
    clear hJ'
    refine lv_aload_n hx hb dX11_makeFirst_315 rfl (lv_at hl 0 rfl) ?_
    refine lv_bipush (v := 8) hx hb dX11_makeFirst_316 (by decide) ?_
    refine lv_iload_n hx hb dX11_makeFirst_318 rfl (lv_at hl 2 rfl) ?_
    refine lv_iadd hx hb dX11_makeFirst_319 ?_
    replace hf := o_call_e hf
    obtain ⟨_, S18, hq17, hf⟩ := hf
    refine jq_doM hX hJ (jq_okV (As := [.int ((8 : Int32) + l2)]) (rest := []) hx hb hm ho ht (mJ.recv hX hJ) qw867 qw869 qs77 qw870 qw7 hy_X11_gives rfl hl.1 (Nat.le_of_ble_eq_true rfl) dX11_makeFirst_320) (c_X11_gives hq17) (Nat.le_of_ble_eq_true rfl) (Nat.le_of_ble_eq_true rfl) (Nat.le_refl _) (Nat.le_refl _) (fun H locs hJ' => ?_)
    clear hJ
    have hJ := hJ'
    clear hJ'
    refine lv_goto (tgt := 326) hx hb dX11_makeFirst_323 (by decide) ?_
    refine lv_iconst (v := 0) hx hb dX11_makeFirst_326 (by decide) ?_
    obtain ⟨rfl, rfl⟩ := Prod.mk.inj (Option.some.inj hf)
    exact jq_iret hX hJ.2 dX11_makeFirst_327 ⟨rfl, rfl, rfl, hJ.1⟩
  replace hf := o_f hf c8
  by_cases c9 : l1 = 9
  · replace hf := o_t hf c9
    refine lv_tableIn (off := 177) (tgt := 326) hx hb dX11_makeFirst_149 (by rcases c9 with rfl <;> decide) (by rcases c9 with rfl <;> decide) (by rcases c9 with rfl <;> rfl) (by decide) ?_
    refine lv_iconst (v := 0) hx hb dX11_makeFirst_326 (by decide) ?_
    obtain ⟨rfl, rfl⟩ := Prod.mk.inj (Option.some.inj hf)
    exact jq_iret hX hJ.2 dX11_makeFirst_327 ⟨rfl, rfl, rfl, hJ.1⟩
  replace hf := o_f hf c9
  refine lv_tableOut (tgt := 326) hx hb dX11_makeFirst_149 (by have e0 := sw_ne c1 (n := 1) (by decide); have e1 := sw_ne c2 (n := 2) (by decide); have e2 := sw_ne c3 (n := 3) (by decide); have e3 := sw_ne c4 (n := 4) (by decide); have e4 := sw_ne c5 (n := 5) (by decide); have e5 := sw_ne (fun z => c6 (Or.inl z)) (n := 6) (by decide); have e6 := sw_ne (fun z => c6 (Or.inr (Or.inl z))) (n := 7) (by decide); have e7 := sw_ne (fun z => c6 (Or.inr (Or.inr z))) (n := 8) (by decide); have e8 := sw_ne c8 (n := 10) (by decide); have e9 := sw_ne c9 (n := 9) (by decide); omega) (by decide) ?_
  refine lv_iconst (v := 0) hx hb dX11_makeFirst_326 (by decide) ?_
  obtain ⟨rfl, rfl⟩ := Prod.mk.inj (Option.some.inj hf)
  exact jq_iret hX hJ.2 dX11_makeFirst_327 ⟨rfl, rfl, rfl, hJ.1⟩
def f_X11_makeFirst_b105 (l1 : Int32) (l2 : Int32) (l3 : Int32) (l4 : Int64) (S : mS) : Option ((Int32) × mS) :=
  o_let (m_pI S 4 l2) fun S1 =>
  if l1 = 9 then (
  o_let (m_pI S1 5 l3) fun S3 =>
  if l1 = 0 then (
  o_cP (f_X11_cast l4 l2) fun x2 =>
  f_X11_makeFirst_b140 l1 l2 x2 S3) else (
  f_X11_makeFirst_b140 l1 l2 0 S3)) else (
  o_let (m_pI S1 5 0) fun S2 =>
  if l1 = 0 then (
  o_cP (f_X11_cast l4 l2) fun x1 =>
  f_X11_makeFirst_b140 l1 l2 x1 S2) else (
  f_X11_makeFirst_b140 l1 l2 0 S2))
set_option maxHeartbeats 4000000 in
set_option maxRecDepth 100000 in
theorem w_X11_makeFirst_b105 {l : Launch} {D : va_G} {Y : Nat → ClassId} {aR : Nat → Nat} {A : Nat → Prop} {ad : Nat → Nat} {p : Program} {e : Env} {s : State} {m : MethodId} {args : Array Value} {below : List Frame} {meth : Method} {c : Code} : ∀ (l1 : Int32) (l2 : Int32) (l3 : Int32) (l4 : Int64) (S S' : mS) (r : Int32) (H : Heap) (locs : List Loc) (ls : Array Slot), jq_X D Y aR A p s m args meth c cX11_makeFirst RX11 "makeFirst" 8 (some .int) → mJ D Y A s ad S H locs → f_X11_makeFirst_b105 l1 l2 l3 l4 S = some (r, S') → lv_has ls 8 [(0, .ref (ad 0)), (1, .int l1), (2, .int l2), (3, .int l3), (4, .long l4)] → W p l e { frames := 3, cells := 0, slots := 0, locals := 70 } s m args below meth c H locs 0 0 (jq_Z below A (fun v k n H => v = (some (.int r)) ∧ k = 0 ∧ n = 0 ∧ mH D Y A ad S' H) s) (F0 m 105 ls []) := by
  intro l1 l2 l3 l4 S S' r H locs ls hX hJ hf hl
  unfold f_X11_makeFirst_b105 at hf
  have hx := hX.1
  have hb := hX.2.1
  have hm := hX.2.2.1
  have ho := hX.2.2.2.1
  have ht := hX.2.2.2.2.1
  have hn := hX.2.2.2.2.2.1.2.1
  refine lv_aload_n hx hb dX11_makeFirst_105 rfl (lv_at hl 0 rfl) ?_
  refine lv_iload_n hx hb dX11_makeFirst_106 rfl (lv_at hl 2 rfl) ?_
  replace hf := o_let_e hf
  obtain ⟨S1, hS1, hf⟩ := hf
  refine mp_madeA hX hJ hS1 qw706 dX11_makeFirst_107 (fun H locs hJ' => ?_)
  clear hJ
  have hJ := hJ'
  clear hJ'
  refine lv_aload_n hx hb dX11_makeFirst_110 rfl (lv_at hl 0 rfl) ?_
  refine lv_iload_n hx hb dX11_makeFirst_111 rfl (lv_at hl 1 rfl) ?_
  refine lv_bipush (v := 9) hx hb dX11_makeFirst_112 (by decide) ?_
  refine lv_icmp_ne (tgt := 121) hx hb dX11_makeFirst_114 (by decide) (fun c1 => ?_) (fun c1 => ?_)
  · replace hf := o_f hf c1
    refine lv_iconst (v := 0) hx hb dX11_makeFirst_121 (by decide) ?_
    replace hf := o_let_e hf
    obtain ⟨S2, hS2, hf⟩ := hf
    refine mp_madeB hX hJ hS2 qw707 dX11_makeFirst_122 (fun H locs hJ' => ?_)
    clear hJ
    have hJ := hJ'
    clear hJ'
    refine lv_aload_n hx hb dX11_makeFirst_125 rfl (lv_at hl 0 rfl) ?_
    refine lv_iload_n hx hb dX11_makeFirst_126 rfl (lv_at hl 1 rfl) ?_
    refine lv_if_ne (tgt := 139) hx hb dX11_makeFirst_127 (by decide) (fun c2 => ?_) (fun c2 => ?_)
    · replace hf := o_f hf c2
      refine lv_lconst (v := 0) hx hb dX11_makeFirst_139 (by decide) ?_
      replace hl := lv_sub hl (l' := [(0, .ref (ad 0)), (1, .int l1), (2, .int l2)]) [0, 1, 2] rfl
      exact w_X11_makeFirst_b140 l1 l2 0 S2 S' r H locs ls hX hJ hf hl
    · replace hf := o_t hf c2
      refine lv_lload hx hb dX11_makeFirst_130 (lv_at hl 4 rfl) ?_
      refine lv_iload_n hx hb dX11_makeFirst_132 rfl (lv_at hl 2 rfl) ?_
      replace hf := o_cP_e hf
      obtain ⟨x1, hq1, hf⟩ := hf
      refine jq_doP hX hJ.2 (jq_okS (As := [.long l4, .int l2]) (rest := [.ref (ad 0)]) hx hb hm ho ht qw823 qw824 qw825 qw7 hy_X11_cast rfl hl.1 (Nat.le_of_ble_eq_true rfl) dX11_makeFirst_133) (c_X11_cast hq1) (Nat.le_of_ble_eq_true rfl) (Nat.le_of_ble_eq_true rfl) (Nat.le_refl _) (Nat.le_refl _) (fun locs hS9 => ?_)
      replace hJ := mJ.to hJ hS9
      refine lv_goto (tgt := 140) hx hb dX11_makeFirst_136 (by decide) ?_
      replace hl := lv_sub hl (l' := [(0, .ref (ad 0)), (1, .int l1), (2, .int l2)]) [0, 1, 2] rfl
      exact w_X11_makeFirst_b140 l1 l2 x1 S2 S' r H locs ls hX hJ hf hl
  · replace hf := o_t hf c1
    refine lv_iload_n hx hb dX11_makeFirst_117 rfl (lv_at hl 3 rfl) ?_
    refine lv_goto (tgt := 122) hx hb dX11_makeFirst_118 (by decide) ?_
    replace hf := o_let_e hf
    obtain ⟨S3, hS3, hf⟩ := hf
    refine mp_madeB hX hJ hS3 qw707 dX11_makeFirst_122 (fun H locs hJ' => ?_)
    clear hJ
    have hJ := hJ'
    clear hJ'
    refine lv_aload_n hx hb dX11_makeFirst_125 rfl (lv_at hl 0 rfl) ?_
    refine lv_iload_n hx hb dX11_makeFirst_126 rfl (lv_at hl 1 rfl) ?_
    refine lv_if_ne (tgt := 139) hx hb dX11_makeFirst_127 (by decide) (fun c3 => ?_) (fun c3 => ?_)
    · replace hf := o_f hf c3
      refine lv_lconst (v := 0) hx hb dX11_makeFirst_139 (by decide) ?_
      replace hl := lv_sub hl (l' := [(0, .ref (ad 0)), (1, .int l1), (2, .int l2)]) [0, 1, 2] rfl
      exact w_X11_makeFirst_b140 l1 l2 0 S3 S' r H locs ls hX hJ hf hl
    · replace hf := o_t hf c3
      refine lv_lload hx hb dX11_makeFirst_130 (lv_at hl 4 rfl) ?_
      refine lv_iload_n hx hb dX11_makeFirst_132 rfl (lv_at hl 2 rfl) ?_
      replace hf := o_cP_e hf
      obtain ⟨x2, hq2, hf⟩ := hf
      refine jq_doP hX hJ.2 (jq_okS (As := [.long l4, .int l2]) (rest := [.ref (ad 0)]) hx hb hm ho ht qw823 qw824 qw825 qw7 hy_X11_cast rfl hl.1 (Nat.le_of_ble_eq_true rfl) dX11_makeFirst_133) (c_X11_cast hq2) (Nat.le_of_ble_eq_true rfl) (Nat.le_of_ble_eq_true rfl) (Nat.le_refl _) (Nat.le_refl _) (fun locs hS9 => ?_)
      replace hJ := mJ.to hJ hS9
      refine lv_goto (tgt := 140) hx hb dX11_makeFirst_136 (by decide) ?_
      replace hl := lv_sub hl (l' := [(0, .ref (ad 0)), (1, .int l1), (2, .int l2)]) [0, 1, 2] rfl
      exact w_X11_makeFirst_b140 l1 l2 x2 S3 S' r H locs ls hX hJ hf hl
def f_X11_makeFirst_b64 (l1 : Int32) (l2 : Int32) (l3 : Int32) (l4 : Int64) (t0 : Int32) (S : mS) : Option ((Int32) × mS) :=
  if t0 = 0 then (
  some ((-1), S)) else (
  if l1 = 9 then (
  o_cP (f_X11_in ((l3).toInt64) 0 9) fun x2 =>
  if x2 = 0 then (
  some ((-1), S)) else (
  if l1 = 0 then (
  o_call (f_X11_isValue l2 l4 S) fun x3 S2 =>
  if x3 = 0 then (
  some ((-1), S2)) else (
  f_X11_makeFirst_b105 l1 l2 l3 l4 S2)) else (
  f_X11_makeFirst_b105 l1 l2 l3 l4 S))) else (
  if l1 = 0 then (
  o_call (f_X11_isValue l2 l4 S) fun x1 S1 =>
  if x1 = 0 then (
  some ((-1), S1)) else (
  f_X11_makeFirst_b105 l1 l2 l3 l4 S1)) else (
  f_X11_makeFirst_b105 l1 l2 l3 l4 S)))
set_option maxHeartbeats 4000000 in
set_option maxRecDepth 100000 in
theorem w_X11_makeFirst_b64 {l : Launch} {D : va_G} {Y : Nat → ClassId} {aR : Nat → Nat} {A : Nat → Prop} {ad : Nat → Nat} {p : Program} {e : Env} {s : State} {m : MethodId} {args : Array Value} {below : List Frame} {meth : Method} {c : Code} : ∀ (l1 : Int32) (l2 : Int32) (l3 : Int32) (l4 : Int64) (t0 : Int32) (S S' : mS) (r : Int32) (H : Heap) (locs : List Loc) (ls : Array Slot), jq_X D Y aR A p s m args meth c cX11_makeFirst RX11 "makeFirst" 8 (some .int) → mJ D Y A s ad S H locs → f_X11_makeFirst_b64 l1 l2 l3 l4 t0 S = some (r, S') → lv_has ls 8 [(0, .ref (ad 0)), (1, .int l1), (2, .int l2), (3, .int l3), (4, .long l4)] → W p l e { frames := 3, cells := 0, slots := 0, locals := 70 } s m args below meth c H locs 0 0 (jq_Z below A (fun v k n H => v = (some (.int r)) ∧ k = 0 ∧ n = 0 ∧ mH D Y A ad S' H) s) (F0 m 64 ls [.int t0]) := by
  intro l1 l2 l3 l4 t0 S S' r H locs ls hX hJ hf hl
  unfold f_X11_makeFirst_b64 at hf
  have hx := hX.1
  have hb := hX.2.1
  have hm := hX.2.2.1
  have ho := hX.2.2.2.1
  have ht := hX.2.2.2.2.1
  have hn := hX.2.2.2.2.2.1.2.1
  refine lv_istore (lv' := [(7, .int t0), (0, .ref (ad 0)), (1, .int l1), (2, .int l2), (3, .int l3), (4, .long l4)]) hx hb dX11_makeFirst_64 hl (by decide) rfl (fun ls hl' => ?_)
  clear hl
  have hl := hl'
  clear hl'
  refine lv_iload hx hb dX11_makeFirst_66 (lv_at hl 0 rfl) ?_
  refine lv_if_eq (tgt := 103) hx hb dX11_makeFirst_68 (by decide) (fun c1 => ?_) (fun c1 => ?_)
  · replace hf := o_t hf c1
    refine lv_iconst (v := (-1)) hx hb dX11_makeFirst_103 (by decide) ?_
    obtain ⟨rfl, rfl⟩ := Prod.mk.inj (Option.some.inj hf)
    exact jq_iret hX hJ.2 dX11_makeFirst_104 ⟨rfl, rfl, rfl, hJ.1⟩
  · replace hf := o_f hf c1
    refine lv_iload_n hx hb dX11_makeFirst_71 rfl (lv_at hl 2 rfl) ?_
    refine lv_bipush (v := 9) hx hb dX11_makeFirst_72 (by decide) ?_
    refine lv_icmp_ne (tgt := 89) hx hb dX11_makeFirst_74 (by decide) (fun c2 => ?_) (fun c2 => ?_)
    · replace hf := o_f hf c2
      refine lv_iload_n hx hb dX11_makeFirst_89 rfl (lv_at hl 2 rfl) ?_
      refine lv_if_ne (tgt := 105) hx hb dX11_makeFirst_90 (by decide) (fun c3 => ?_) (fun c3 => ?_)
      · replace hf := o_f hf c3
        replace hl := lv_sub hl (l' := [(0, .ref (ad 0)), (1, .int l1), (2, .int l2), (3, .int l3), (4, .long l4)]) [1, 2, 3, 4, 5] rfl
        exact w_X11_makeFirst_b105 l1 l2 l3 l4 S S' r H locs ls hX hJ hf hl
      · replace hf := o_t hf c3
        refine lv_aload_n hx hb dX11_makeFirst_93 rfl (lv_at hl 1 rfl) ?_
        refine lv_iload_n hx hb dX11_makeFirst_94 rfl (lv_at hl 3 rfl) ?_
        refine lv_lload hx hb dX11_makeFirst_95 (lv_at hl 5 rfl) ?_
        replace hf := o_call_e hf
        obtain ⟨x1, S1, hq1, hf⟩ := hf
        refine jq_doM hX hJ (jq_okV (As := [.int l2, .long l4]) (rest := []) hx hb hm ho ht (mJ.recv hX hJ) qw862 qw864 qs76 qw865 qw7 hy_X11_isValue rfl hl.1 (Nat.le_of_ble_eq_true rfl) dX11_makeFirst_97) (c_X11_isValue hq1) (Nat.le_of_ble_eq_true rfl) (Nat.le_of_ble_eq_true rfl) (Nat.le_refl _) (Nat.le_refl _) (fun H locs hJ' => ?_)
        clear hJ
        have hJ := hJ'
        clear hJ'
        refine lv_if_ne (tgt := 105) hx hb dX11_makeFirst_100 (by decide) (fun c4 => ?_) (fun c4 => ?_)
        · replace hf := o_f hf c4
          replace hl := lv_sub hl (l' := [(0, .ref (ad 0)), (1, .int l1), (2, .int l2), (3, .int l3), (4, .long l4)]) [1, 2, 3, 4, 5] rfl
          exact w_X11_makeFirst_b105 l1 l2 l3 l4 S1 S' r H locs ls hX hJ hf hl
        · replace hf := o_t hf c4
          refine lv_iconst (v := (-1)) hx hb dX11_makeFirst_103 (by decide) ?_
          obtain ⟨rfl, rfl⟩ := Prod.mk.inj (Option.some.inj hf)
          exact jq_iret hX hJ.2 dX11_makeFirst_104 ⟨rfl, rfl, rfl, hJ.1⟩
    · replace hf := o_t hf c2
      refine lv_iload_n hx hb dX11_makeFirst_77 rfl (lv_at hl 4 rfl) ?_
      refine lv_i2l hx hb dX11_makeFirst_78 rfl ?_
      refine lv_lconst (v := 0) hx hb dX11_makeFirst_79 (by decide) ?_
      refine lv_ldc2 (v := 9) hx hb ho (ht _ qw861) dX11_makeFirst_80 ?_
      replace hf := o_cP_e hf
      obtain ⟨x2, hq2, hf⟩ := hf
      refine jq_doP hX hJ.2 (jq_okS (As := [.long ((l3).toInt64), .long 0, .long 9]) (rest := []) hx hb hm ho ht qw803 qw804 qw805 qw7 hy_X11_in rfl hl.1 (Nat.le_of_ble_eq_true rfl) dX11_makeFirst_83) (c_X11_in hq2) (Nat.le_of_ble_eq_true rfl) (Nat.le_of_ble_eq_true rfl) (Nat.le_refl _) (Nat.le_refl _) (fun locs hS9 => ?_)
      replace hJ := mJ.to hJ hS9
      refine lv_if_eq (tgt := 103) hx hb dX11_makeFirst_86 (by decide) (fun c5 => ?_) (fun c5 => ?_)
      · replace hf := o_t hf c5
        refine lv_iconst (v := (-1)) hx hb dX11_makeFirst_103 (by decide) ?_
        obtain ⟨rfl, rfl⟩ := Prod.mk.inj (Option.some.inj hf)
        exact jq_iret hX hJ.2 dX11_makeFirst_104 ⟨rfl, rfl, rfl, hJ.1⟩
      · replace hf := o_f hf c5
        refine lv_iload_n hx hb dX11_makeFirst_89 rfl (lv_at hl 2 rfl) ?_
        refine lv_if_ne (tgt := 105) hx hb dX11_makeFirst_90 (by decide) (fun c6 => ?_) (fun c6 => ?_)
        · replace hf := o_f hf c6
          replace hl := lv_sub hl (l' := [(0, .ref (ad 0)), (1, .int l1), (2, .int l2), (3, .int l3), (4, .long l4)]) [1, 2, 3, 4, 5] rfl
          exact w_X11_makeFirst_b105 l1 l2 l3 l4 S S' r H locs ls hX hJ hf hl
        · replace hf := o_t hf c6
          refine lv_aload_n hx hb dX11_makeFirst_93 rfl (lv_at hl 1 rfl) ?_
          refine lv_iload_n hx hb dX11_makeFirst_94 rfl (lv_at hl 3 rfl) ?_
          refine lv_lload hx hb dX11_makeFirst_95 (lv_at hl 5 rfl) ?_
          replace hf := o_call_e hf
          obtain ⟨x3, S2, hq3, hf⟩ := hf
          refine jq_doM hX hJ (jq_okV (As := [.int l2, .long l4]) (rest := []) hx hb hm ho ht (mJ.recv hX hJ) qw862 qw864 qs76 qw865 qw7 hy_X11_isValue rfl hl.1 (Nat.le_of_ble_eq_true rfl) dX11_makeFirst_97) (c_X11_isValue hq3) (Nat.le_of_ble_eq_true rfl) (Nat.le_of_ble_eq_true rfl) (Nat.le_refl _) (Nat.le_refl _) (fun H locs hJ' => ?_)
          clear hJ
          have hJ := hJ'
          clear hJ'
          refine lv_if_ne (tgt := 105) hx hb dX11_makeFirst_100 (by decide) (fun c7 => ?_) (fun c7 => ?_)
          · replace hf := o_f hf c7
            replace hl := lv_sub hl (l' := [(0, .ref (ad 0)), (1, .int l1), (2, .int l2), (3, .int l3), (4, .long l4)]) [1, 2, 3, 4, 5] rfl
            exact w_X11_makeFirst_b105 l1 l2 l3 l4 S2 S' r H locs ls hX hJ hf hl
          · replace hf := o_t hf c7
            refine lv_iconst (v := (-1)) hx hb dX11_makeFirst_103 (by decide) ?_
            obtain ⟨rfl, rfl⟩ := Prod.mk.inj (Option.some.inj hf)
            exact jq_iret hX hJ.2 dX11_makeFirst_104 ⟨rfl, rfl, rfl, hJ.1⟩
def f_X11_makeFirst_b17 (l1 : Int32) (l2 : Int32) (l3 : Int32) (l4 : Int64) (t0 : Int32) (S : mS) : Option ((Int32) × mS) :=
  if t0 = 0 then (
  if l1 = 0 then (
  o_cP (f_X11_isKind l2) fun x1 =>
  f_X11_makeFirst_b64 l1 l2 l3 l4 x1 S) else (
  if l1 = 1 then (
  o_cP (f_X11_isKind l2) fun x2 =>
  f_X11_makeFirst_b64 l1 l2 l3 l4 x2 S) else (
  if l1 = 9 then (
  o_cP (f_X11_isKind l2) fun x4 =>
  f_X11_makeFirst_b64 l1 l2 l3 l4 x4 S) else (
  o_cP (f_X11_isLane l2) fun x3 =>
  f_X11_makeFirst_b64 l1 l2 l3 l4 x3 S)))) else (
  o_cP (f_X11_in ((l2).toInt64) 4 7) fun x5 =>
  f_X11_makeFirst_b64 l1 l2 l3 l4 x5 S)
set_option maxHeartbeats 4000000 in
set_option maxRecDepth 100000 in
theorem w_X11_makeFirst_b17 {l : Launch} {D : va_G} {Y : Nat → ClassId} {aR : Nat → Nat} {A : Nat → Prop} {ad : Nat → Nat} {p : Program} {e : Env} {s : State} {m : MethodId} {args : Array Value} {below : List Frame} {meth : Method} {c : Code} : ∀ (l1 : Int32) (l2 : Int32) (l3 : Int32) (l4 : Int64) (t0 : Int32) (S S' : mS) (r : Int32) (H : Heap) (locs : List Loc) (ls : Array Slot), jq_X D Y aR A p s m args meth c cX11_makeFirst RX11 "makeFirst" 8 (some .int) → mJ D Y A s ad S H locs → f_X11_makeFirst_b17 l1 l2 l3 l4 t0 S = some (r, S') → lv_has ls 8 [(0, .ref (ad 0)), (1, .int l1), (2, .int l2), (3, .int l3), (4, .long l4)] → W p l e { frames := 3, cells := 0, slots := 0, locals := 70 } s m args below meth c H locs 0 0 (jq_Z below A (fun v k n H => v = (some (.int r)) ∧ k = 0 ∧ n = 0 ∧ mH D Y A ad S' H) s) (F0 m 17 ls [.int t0]) := by
  intro l1 l2 l3 l4 t0 S S' r H locs ls hX hJ hf hl
  unfold f_X11_makeFirst_b17 at hf
  have hx := hX.1
  have hb := hX.2.1
  have hm := hX.2.2.1
  have ho := hX.2.2.2.1
  have ht := hX.2.2.2.2.1
  have hn := hX.2.2.2.2.2.1.2.1
  refine lv_istore (lv' := [(6, .int t0), (0, .ref (ad 0)), (1, .int l1), (2, .int l2), (3, .int l3), (4, .long l4)]) hx hb dX11_makeFirst_17 hl (by decide) rfl (fun ls hl' => ?_)
  clear hl
  have hl := hl'
  clear hl'
  refine lv_iload hx hb dX11_makeFirst_19 (lv_at hl 0 rfl) ?_
  refine lv_if_eq (tgt := 38) hx hb dX11_makeFirst_21 (by decide) (fun c1 => ?_) (fun c1 => ?_)
  · replace hf := o_t hf c1
    refine lv_iload_n hx hb dX11_makeFirst_38 rfl (lv_at hl 2 rfl) ?_
    refine lv_if_eq (tgt := 53) hx hb dX11_makeFirst_39 (by decide) (fun c2 => ?_) (fun c2 => ?_)
    · replace hf := o_t hf c2
      refine lv_iload_n hx hb dX11_makeFirst_53 rfl (lv_at hl 3 rfl) ?_
      replace hf := o_cP_e hf
      obtain ⟨x1, hq1, hf⟩ := hf
      refine jq_doP hX hJ.2 (jq_okS (As := [.int l2]) (rest := []) hx hb hm ho ht qw844 qw845 qw846 qw7 hy_X11_isKind rfl hl.1 (Nat.le_of_ble_eq_true rfl) dX11_makeFirst_54) (c_X11_isKind hq1) (Nat.le_of_ble_eq_true rfl) (Nat.le_of_ble_eq_true rfl) (Nat.le_refl _) (Nat.le_refl _) (fun locs hS9 => ?_)
      replace hJ := mJ.to hJ hS9
      refine lv_goto (tgt := 64) hx hb dX11_makeFirst_57 (by decide) ?_
      replace hl := lv_sub hl (l' := [(0, .ref (ad 0)), (1, .int l1), (2, .int l2), (3, .int l3), (4, .long l4)]) [1, 2, 3, 4, 5] rfl
      exact w_X11_makeFirst_b64 l1 l2 l3 l4 x1 S S' r H locs ls hX hJ hf hl
    · replace hf := o_f hf c2
      refine lv_iload_n hx hb dX11_makeFirst_42 rfl (lv_at hl 2 rfl) ?_
      refine lv_iconst (v := 1) hx hb dX11_makeFirst_43 (by decide) ?_
      refine lv_icmp_eq (tgt := 53) hx hb dX11_makeFirst_44 (by decide) (fun c3 => ?_) (fun c3 => ?_)
      · replace hf := o_t hf c3
        refine lv_iload_n hx hb dX11_makeFirst_53 rfl (lv_at hl 3 rfl) ?_
        replace hf := o_cP_e hf
        obtain ⟨x2, hq2, hf⟩ := hf
        refine jq_doP hX hJ.2 (jq_okS (As := [.int l2]) (rest := []) hx hb hm ho ht qw844 qw845 qw846 qw7 hy_X11_isKind rfl hl.1 (Nat.le_of_ble_eq_true rfl) dX11_makeFirst_54) (c_X11_isKind hq2) (Nat.le_of_ble_eq_true rfl) (Nat.le_of_ble_eq_true rfl) (Nat.le_refl _) (Nat.le_refl _) (fun locs hS9 => ?_)
        replace hJ := mJ.to hJ hS9
        refine lv_goto (tgt := 64) hx hb dX11_makeFirst_57 (by decide) ?_
        replace hl := lv_sub hl (l' := [(0, .ref (ad 0)), (1, .int l1), (2, .int l2), (3, .int l3), (4, .long l4)]) [1, 2, 3, 4, 5] rfl
        exact w_X11_makeFirst_b64 l1 l2 l3 l4 x2 S S' r H locs ls hX hJ hf hl
      · replace hf := o_f hf c3
        refine lv_iload_n hx hb dX11_makeFirst_47 rfl (lv_at hl 2 rfl) ?_
        refine lv_bipush (v := 9) hx hb dX11_makeFirst_48 (by decide) ?_
        refine lv_icmp_ne (tgt := 60) hx hb dX11_makeFirst_50 (by decide) (fun c4 => ?_) (fun c4 => ?_)
        · replace hf := o_f hf c4
          refine lv_iload_n hx hb dX11_makeFirst_60 rfl (lv_at hl 3 rfl) ?_
          replace hf := o_cP_e hf
          obtain ⟨x3, hq3, hf⟩ := hf
          refine jq_doP hX hJ.2 (jq_okS (As := [.int l2]) (rest := []) hx hb hm ho ht qw858 qw859 qw860 qw7 hy_X11_isLane rfl hl.1 (Nat.le_of_ble_eq_true rfl) dX11_makeFirst_61) (c_X11_isLane hq3) (Nat.le_of_ble_eq_true rfl) (Nat.le_of_ble_eq_true rfl) (Nat.le_refl _) (Nat.le_refl _) (fun locs hS9 => ?_)
          replace hJ := mJ.to hJ hS9
          replace hl := lv_sub hl (l' := [(0, .ref (ad 0)), (1, .int l1), (2, .int l2), (3, .int l3), (4, .long l4)]) [1, 2, 3, 4, 5] rfl
          exact w_X11_makeFirst_b64 l1 l2 l3 l4 x3 S S' r H locs ls hX hJ hf hl
        · replace hf := o_t hf c4
          refine lv_iload_n hx hb dX11_makeFirst_53 rfl (lv_at hl 3 rfl) ?_
          replace hf := o_cP_e hf
          obtain ⟨x4, hq4, hf⟩ := hf
          refine jq_doP hX hJ.2 (jq_okS (As := [.int l2]) (rest := []) hx hb hm ho ht qw844 qw845 qw846 qw7 hy_X11_isKind rfl hl.1 (Nat.le_of_ble_eq_true rfl) dX11_makeFirst_54) (c_X11_isKind hq4) (Nat.le_of_ble_eq_true rfl) (Nat.le_of_ble_eq_true rfl) (Nat.le_refl _) (Nat.le_refl _) (fun locs hS9 => ?_)
          replace hJ := mJ.to hJ hS9
          refine lv_goto (tgt := 64) hx hb dX11_makeFirst_57 (by decide) ?_
          replace hl := lv_sub hl (l' := [(0, .ref (ad 0)), (1, .int l1), (2, .int l2), (3, .int l3), (4, .long l4)]) [1, 2, 3, 4, 5] rfl
          exact w_X11_makeFirst_b64 l1 l2 l3 l4 x4 S S' r H locs ls hX hJ hf hl
  · replace hf := o_f hf c1
    refine lv_iload_n hx hb dX11_makeFirst_24 rfl (lv_at hl 3 rfl) ?_
    refine lv_i2l hx hb dX11_makeFirst_25 rfl ?_
    refine lv_ldc2 (v := 4) hx hb ho (ht _ qw848) dX11_makeFirst_26 ?_
    refine lv_ldc2 (v := 7) hx hb ho (ht _ qw802) dX11_makeFirst_29 ?_
    replace hf := o_cP_e hf
    obtain ⟨x5, hq5, hf⟩ := hf
    refine jq_doP hX hJ.2 (jq_okS (As := [.long ((l2).toInt64), .long 4, .long 7]) (rest := []) hx hb hm ho ht qw803 qw804 qw805 qw7 hy_X11_in rfl hl.1 (Nat.le_of_ble_eq_true rfl) dX11_makeFirst_32) (c_X11_in hq5) (Nat.le_of_ble_eq_true rfl) (Nat.le_of_ble_eq_true rfl) (Nat.le_refl _) (Nat.le_refl _) (fun locs hS9 => ?_)
    replace hJ := mJ.to hJ hS9
    refine lv_goto (tgt := 64) hx hb dX11_makeFirst_35 (by decide) ?_
    replace hl := lv_sub hl (l' := [(0, .ref (ad 0)), (1, .int l1), (2, .int l2), (3, .int l3), (4, .long l4)]) [1, 2, 3, 4, 5] rfl
    exact w_X11_makeFirst_b64 l1 l2 l3 l4 x5 S S' r H locs ls hX hJ hf hl
def f_X11_makeFirst (p1 : Int32) (p2 : Int32) (p3 : Int32) (p4 : Int64) (S : mS) : Option ((Int32) × mS) :=
  if p1 < 6 then (
  f_X11_makeFirst_b17 p1 p2 p3 p4 0 S) else (
  if 8 < p1 then (
  f_X11_makeFirst_b17 p1 p2 p3 p4 0 S) else (
  f_X11_makeFirst_b17 p1 p2 p3 p4 1 S))
set_option maxHeartbeats 4000000 in
set_option maxRecDepth 100000 in
theorem c_X11_makeFirst {l : Launch} {D : va_G} {Y : Nat → ClassId} {aR : Nat → Nat} {A : Nat → Prop} {ad : Nat → Nat} {p1 : Int32} {p2 : Int32} {p3 : Int32} {p4 : Int64} {S S' : mS} {r : Int32} (hf : f_X11_makeFirst p1 p2 p3 p4 S = some (r, S')) : jq_M l D Y aR A ad yX11_makeFirst cX11_makeFirst 8 (some .int) 3 70 [.ref (ad 0), .int p1, .int p2, .int p3, .long p4] S (some (.int r)) S' := by
  unfold f_X11_makeFirst at hf
  refine jq_enterM (by decide) (Nat.le_of_ble_eq_true rfl) fun p e s m args below meth c ls H locs hX hJ hl => ?_
  have hl : lv_has ls 8 [(0, .ref (ad 0)), (1, .int p1), (2, .int p2), (3, .int p3), (4, .long p4)] := hl
  have hx := hX.1
  have hb := hX.2.1
  have hm := hX.2.2.1
  have ho := hX.2.2.2.1
  have ht := hX.2.2.2.2.1
  have hn := hX.2.2.2.2.2.1.2.1
  refine lv_iload_n hx hb dX11_makeFirst_0 rfl (lv_at hl 1 rfl) ?_
  refine lv_bipush (v := 6) hx hb dX11_makeFirst_1 (by decide) ?_
  refine lv_icmp_lt (tgt := 16) hx hb dX11_makeFirst_3 (by decide) (fun c1 => ?_) (fun c1 => ?_)
  · replace hf := o_t hf c1
    refine lv_iconst (v := 0) hx hb dX11_makeFirst_16 (by decide) ?_
    replace hl := lv_sub hl (l' := [(0, .ref (ad 0)), (1, .int p1), (2, .int p2), (3, .int p3), (4, .long p4)]) [0, 1, 2, 3, 4] rfl
    exact w_X11_makeFirst_b17 p1 p2 p3 p4 0 S S' r H locs ls hX hJ hf hl
  · replace hf := o_f hf c1
    refine lv_iload_n hx hb dX11_makeFirst_6 rfl (lv_at hl 1 rfl) ?_
    refine lv_bipush (v := 8) hx hb dX11_makeFirst_7 (by decide) ?_
    refine lv_icmp_gt (tgt := 16) hx hb dX11_makeFirst_9 (by decide) (fun c2 => ?_) (fun c2 => ?_)
    · replace hf := o_t hf c2
      refine lv_iconst (v := 0) hx hb dX11_makeFirst_16 (by decide) ?_
      replace hl := lv_sub hl (l' := [(0, .ref (ad 0)), (1, .int p1), (2, .int p2), (3, .int p3), (4, .long p4)]) [0, 1, 2, 3, 4] rfl
      exact w_X11_makeFirst_b17 p1 p2 p3 p4 0 S S' r H locs ls hX hJ hf hl
    · replace hf := o_f hf c2
      refine lv_iconst (v := 1) hx hb dX11_makeFirst_12 (by decide) ?_
      refine lv_goto (tgt := 17) hx hb dX11_makeFirst_13 (by decide) ?_
      replace hl := lv_sub hl (l' := [(0, .ref (ad 0)), (1, .int p1), (2, .int p2), (3, .int p3), (4, .long p4)]) [0, 1, 2, 3, 4] rfl
      exact w_X11_makeFirst_b17 p1 p2 p3 p4 1 S S' r H locs ls hX hJ hf hl
theorem dX11_isHandle_0 : decode cX11_isHandle 0 = .ok (.iload_n 1, 1) := by decide +kernel
theorem dX11_isHandle_1 : decode cX11_isHandle 1 = .ok (.i2l, 1) := by decide +kernel
theorem dX11_isHandle_2 : decode cX11_isHandle 2 = .ok (.lconst 0, 1) := by decide +kernel
theorem dX11_isHandle_3 : decode cX11_isHandle 3 = .ok (.aload_n 0, 1) := by decide +kernel
theorem dX11_isHandle_4 : decode cX11_isHandle 4 = .ok (.getfield 164, 3) := by decide +kernel
theorem dX11_isHandle_7 : decode cX11_isHandle 7 = .ok (.iconst 1, 1) := by decide +kernel
theorem dX11_isHandle_8 : decode cX11_isHandle 8 = .ok (.isub, 1) := by decide +kernel
theorem dX11_isHandle_9 : decode cX11_isHandle 9 = .ok (.i2l, 1) := by decide +kernel
theorem dX11_isHandle_10 : decode cX11_isHandle 10 = .ok (.invokestatic 80, 3) := by decide +kernel
theorem dX11_isHandle_13 : decode cX11_isHandle 13 = .ok (.ireturn, 1) := by decide +kernel
theorem hy_X11_isHandle : yX11_isHandle.cls ≠ "java/lang/invoke/MethodHandle" ∧ yX11_isHandle.cls ≠ "java/lang/invoke/VarHandle" ∧ (parseMethodDescriptor yX11_isHandle.desc).map (fun d => d.parameters.length) = some 1 := ⟨by decide, by decide, by decide +kernel⟩
def f_X11_isHandle (p1 : Int32) (S : mS) : Option ((Int32) × mS) :=
  o_let (m_I S 3) fun x1 =>
  o_cP (f_X11_in ((p1).toInt64) 0 (((x1 - (1 : Int32))).toInt64)) fun x2 =>
  o_ck (x2 = 0 ∨ x2 = 1) (some (x2, S))
set_option maxHeartbeats 4000000 in
set_option maxRecDepth 100000 in
theorem c_X11_isHandle {l : Launch} {D : va_G} {Y : Nat → ClassId} {aR : Nat → Nat} {A : Nat → Prop} {ad : Nat → Nat} {p1 : Int32} {S S' : mS} {r : Int32} (hf : f_X11_isHandle p1 S = some (r, S')) : jq_M l D Y aR A ad yX11_isHandle cX11_isHandle 2 (some .boolean) 1 25 [.ref (ad 0), .int p1] S (some (.int r)) S' := by
  unfold f_X11_isHandle at hf
  refine jq_enterM (by decide) (Nat.le_of_ble_eq_true rfl) fun p e s m args below meth c ls H locs hX hJ hl => ?_
  have hl : lv_has ls 2 [(0, .ref (ad 0)), (1, .int p1)] := hl
  have hx := hX.1
  have hb := hX.2.1
  have hm := hX.2.2.1
  have ho := hX.2.2.2.1
  have ht := hX.2.2.2.2.1
  have hn := hX.2.2.2.2.2.1.2.1
  refine lv_iload_n hx hb dX11_isHandle_0 rfl (lv_at hl 1 rfl) ?_
  refine lv_i2l hx hb dX11_isHandle_1 rfl ?_
  refine lv_lconst (v := 0) hx hb dX11_isHandle_2 (by decide) ?_
  refine lv_aload_n hx hb dX11_isHandle_3 rfl (lv_at hl 0 rfl) ?_
  replace hf := o_let_e hf
  obtain ⟨x1, hx1, hf⟩ := hf
  refine mg_handles hX hJ hx1 qw697 dX11_isHandle_4 ?_
  refine lv_iconst (v := 1) hx hb dX11_isHandle_7 (by decide) ?_
  refine lv_isub hx hb dX11_isHandle_8 ?_
  refine lv_i2l hx hb dX11_isHandle_9 rfl ?_
  replace hf := o_cP_e hf
  obtain ⟨x2, hq1, hf⟩ := hf
  refine jq_doP hX hJ.2 (jq_okS (As := [.long ((p1).toInt64), .long 0, .long (((x1 - (1 : Int32))).toInt64)]) (rest := []) hx hb hm ho ht qw803 qw804 qw805 qw7 hy_X11_in rfl hl.1 (Nat.le_of_ble_eq_true rfl) dX11_isHandle_10) (c_X11_in hq1) (Nat.le_of_ble_eq_true rfl) (Nat.le_of_ble_eq_true rfl) (Nat.le_refl _) (Nat.le_refl _) (fun locs hS9 => ?_)
  replace hJ := mJ.to hJ hS9
  replace hf := o_ck_e hf
  obtain ⟨hc1, hf⟩ := hf
  obtain ⟨rfl, rfl⟩ := Prod.mk.inj (Option.some.inj hf)
  exact jq_zret hX hJ.2 (qz_b hc1) dX11_isHandle_13 ⟨rfl, rfl, rfl, hJ.1⟩
theorem dX11_kind_0 : decode cX11_kind 0 = .ok (.aload_n 0, 1) := by decide +kernel
theorem dX11_kind_1 : decode cX11_kind 1 = .ok (.getfield 48, 3) := by decide +kernel
theorem dX11_kind_4 : decode cX11_kind 4 = .ok (.iconst 4, 1) := by decide +kernel
theorem dX11_kind_5 : decode cX11_kind 5 = .ok (.iload_n 1, 1) := by decide +kernel
theorem dX11_kind_6 : decode cX11_kind 6 = .ok (.imul, 1) := by decide +kernel
theorem dX11_kind_7 : decode cX11_kind 7 = .ok (.iload_n 2, 1) := by decide +kernel
theorem dX11_kind_8 : decode cX11_kind 8 = .ok (.iadd, 1) := by decide +kernel
theorem dX11_kind_9 : decode cX11_kind 9 = .ok (.iaload, 1) := by decide +kernel
theorem dX11_kind_10 : decode cX11_kind 10 = .ok (.ireturn, 1) := by decide +kernel
theorem hy_X11_kind : yX11_kind.cls ≠ "java/lang/invoke/MethodHandle" ∧ yX11_kind.cls ≠ "java/lang/invoke/VarHandle" ∧ (parseMethodDescriptor yX11_kind.desc).map (fun d => d.parameters.length) = some 2 := ⟨by decide, by decide, by decide +kernel⟩
def f_X11_kind (p1 : Int32) (p2 : Int32) (S : mS) : Option ((Int32) × mS) :=
  o_ck (¬ ((((4 : Int32) * p1) + p2) < 0 ∨ 132 ≤ ((((4 : Int32) * p1) + p2)).toNatClampNeg)) (o_let (m_aI S 9 ((((4 : Int32) * p1) + p2)).toNatClampNeg) fun x1 =>
  some (x1, S))
set_option maxHeartbeats 4000000 in
set_option maxRecDepth 100000 in
theorem c_X11_kind {l : Launch} {D : va_G} {Y : Nat → ClassId} {aR : Nat → Nat} {A : Nat → Prop} {ad : Nat → Nat} {p1 : Int32} {p2 : Int32} {S S' : mS} {r : Int32} (hf : f_X11_kind p1 p2 S = some (r, S')) : jq_M l D Y aR A ad yX11_kind cX11_kind 3 (some .int) 0 0 [.ref (ad 0), .int p1, .int p2] S (some (.int r)) S' := by
  unfold f_X11_kind at hf
  refine jq_enterM (by decide) (Nat.le_of_ble_eq_true rfl) fun p e s m args below meth c ls H locs hX hJ hl => ?_
  have hl : lv_has ls 3 [(0, .ref (ad 0)), (1, .int p1), (2, .int p2)] := hl
  have hx := hX.1
  have hb := hX.2.1
  have hm := hX.2.2.1
  have ho := hX.2.2.2.1
  have ht := hX.2.2.2.2.1
  have hn := hX.2.2.2.2.2.1.2.1
  refine lv_aload_n hx hb dX11_kind_0 rfl (lv_at hl 0 rfl) ?_
  refine mg_kindOf hX hJ qw704 dX11_kind_1 ?_
  refine lv_iconst (v := 4) hx hb dX11_kind_4 (by decide) ?_
  refine lv_iload_n hx hb dX11_kind_5 rfl (lv_at hl 1 rfl) ?_
  refine lv_imul hx hb dX11_kind_6 ?_
  refine lv_iload_n hx hb dX11_kind_7 rfl (lv_at hl 2 rfl) ?_
  refine lv_iadd hx hb dX11_kind_8 ?_
  replace hf := o_ck_e hf
  obtain ⟨hk1, hf⟩ := hf
  replace hf := o_let_e hf
  obtain ⟨x1, hx1, hf⟩ := hf
  refine ma_I 9 hX hJ (by decide) hk1 hx1 dX11_kind_9 ?_
  obtain ⟨rfl, rfl⟩ := Prod.mk.inj (Option.some.inj hf)
  exact jq_iret hX hJ.2 dX11_kind_10 ⟨rfl, rfl, rfl, hJ.1⟩
theorem dX11_makeFilter_0 : decode cX11_makeFilter 0 = .ok (.aload_n 0, 1) := by decide +kernel
theorem dX11_makeFilter_1 : decode cX11_makeFilter 1 = .ok (.iload_n 1, 1) := by decide +kernel
theorem dX11_makeFilter_2 : decode cX11_makeFilter 2 = .ok (.invokevirtual 200, 3) := by decide +kernel
theorem dX11_makeFilter_5 : decode cX11_makeFilter 5 = .ok (.ifCond .eq 29, 3) := by decide +kernel
theorem dX11_makeFilter_34 : decode cX11_makeFilter 34 = .ok (.iconst (-1), 1) := by decide +kernel
theorem dX11_makeFilter_35 : decode cX11_makeFilter 35 = .ok (.ireturn, 1) := by decide +kernel
theorem dX11_makeFilter_8 : decode cX11_makeFilter 8 = .ok (.aload_n 0, 1) := by decide +kernel
theorem dX11_makeFilter_9 : decode cX11_makeFilter 9 = .ok (.iload_n 3, 1) := by decide +kernel
theorem dX11_makeFilter_10 : decode cX11_makeFilter 10 = .ok (.invokevirtual 200, 3) := by decide +kernel
theorem dX11_makeFilter_13 : decode cX11_makeFilter 13 = .ok (.ifCond .eq 21, 3) := by decide +kernel
theorem dX11_makeFilter_16 : decode cX11_makeFilter 16 = .ok (.iload_n 2, 1) := by decide +kernel
theorem dX11_makeFilter_17 : decode cX11_makeFilter 17 = .ok (.i2l, 1) := by decide +kernel
theorem dX11_makeFilter_18 : decode cX11_makeFilter 18 = .ok (.lconst 0, 1) := by decide +kernel
theorem dX11_makeFilter_19 : decode cX11_makeFilter 19 = .ok (.aload_n 0, 1) := by decide +kernel
theorem dX11_makeFilter_20 : decode cX11_makeFilter 20 = .ok (.getfield 45, 3) := by decide +kernel
theorem dX11_makeFilter_23 : decode cX11_makeFilter 23 = .ok (.iload_n 1, 1) := by decide +kernel
theorem dX11_makeFilter_24 : decode cX11_makeFilter 24 = .ok (.iaload, 1) := by decide +kernel
theorem dX11_makeFilter_25 : decode cX11_makeFilter 25 = .ok (.iconst 1, 1) := by decide +kernel
theorem dX11_makeFilter_26 : decode cX11_makeFilter 26 = .ok (.isub, 1) := by decide +kernel
theorem dX11_makeFilter_27 : decode cX11_makeFilter 27 = .ok (.i2l, 1) := by decide +kernel
theorem dX11_makeFilter_28 : decode cX11_makeFilter 28 = .ok (.invokestatic 80, 3) := by decide +kernel
theorem dX11_makeFilter_31 : decode cX11_makeFilter 31 = .ok (.ifCond .ne 5, 3) := by decide +kernel
theorem dX11_makeFilter_36 : decode cX11_makeFilter 36 = .ok (.aload_n 0, 1) := by decide +kernel
theorem dX11_makeFilter_37 : decode cX11_makeFilter 37 = .ok (.iload_n 1, 1) := by decide +kernel
theorem dX11_makeFilter_38 : decode cX11_makeFilter 38 = .ok (.putfield 187, 3) := by decide +kernel
theorem dX11_makeFilter_41 : decode cX11_makeFilter 41 = .ok (.aload_n 0, 1) := by decide +kernel
theorem dX11_makeFilter_42 : decode cX11_makeFilter 42 = .ok (.iload_n 2, 1) := by decide +kernel
theorem dX11_makeFilter_43 : decode cX11_makeFilter 43 = .ok (.putfield 190, 3) := by decide +kernel
theorem dX11_makeFilter_46 : decode cX11_makeFilter 46 = .ok (.aload_n 0, 1) := by decide +kernel
theorem dX11_makeFilter_47 : decode cX11_makeFilter 47 = .ok (.iload_n 3, 1) := by decide +kernel
theorem dX11_makeFilter_48 : decode cX11_makeFilter 48 = .ok (.putfield 203, 3) := by decide +kernel
theorem dX11_makeFilter_51 : decode cX11_makeFilter 51 = .ok (.aload_n 0, 1) := by decide +kernel
theorem dX11_makeFilter_52 : decode cX11_makeFilter 52 = .ok (.aload_n 0, 1) := by decide +kernel
theorem dX11_makeFilter_53 : decode cX11_makeFilter 53 = .ok (.getfield 51, 3) := by decide +kernel
theorem dX11_makeFilter_56 : decode cX11_makeFilter 56 = .ok (.iload_n 1, 1) := by decide +kernel
theorem dX11_makeFilter_57 : decode cX11_makeFilter 57 = .ok (.iaload, 1) := by decide +kernel
theorem dX11_makeFilter_58 : decode cX11_makeFilter 58 = .ok (.invokevirtual 197, 3) := by decide +kernel
theorem dX11_makeFilter_61 : decode cX11_makeFilter 61 = .ok (.aload_n 0, 1) := by decide +kernel
theorem dX11_makeFilter_62 : decode cX11_makeFilter 62 = .ok (.getfield 45, 3) := by decide +kernel
theorem dX11_makeFilter_65 : decode cX11_makeFilter 65 = .ok (.iload_n 3, 1) := by decide +kernel
theorem dX11_makeFilter_66 : decode cX11_makeFilter 66 = .ok (.iaload, 1) := by decide +kernel
theorem dX11_makeFilter_67 : decode cX11_makeFilter 67 = .ok (.iconst 1, 1) := by decide +kernel
theorem dX11_makeFilter_68 : decode cX11_makeFilter 68 = .ok (.if_icmp .ne 18, 3) := by decide +kernel
theorem dX11_makeFilter_86 : decode cX11_makeFilter 86 = .ok (.bipush (-3), 2) := by decide +kernel
theorem dX11_makeFilter_88 : decode cX11_makeFilter 88 = .ok (.ireturn, 1) := by decide +kernel
theorem dX11_makeFilter_71 : decode cX11_makeFilter 71 = .ok (.aload_n 0, 1) := by decide +kernel
theorem dX11_makeFilter_72 : decode cX11_makeFilter 72 = .ok (.getfield 51, 3) := by decide +kernel
theorem dX11_makeFilter_75 : decode cX11_makeFilter 75 = .ok (.iload_n 3, 1) := by decide +kernel
theorem dX11_makeFilter_76 : decode cX11_makeFilter 76 = .ok (.iaload, 1) := by decide +kernel
theorem dX11_makeFilter_77 : decode cX11_makeFilter 77 = .ok (.aload_n 0, 1) := by decide +kernel
theorem dX11_makeFilter_78 : decode cX11_makeFilter 78 = .ok (.iload_n 1, 1) := by decide +kernel
theorem dX11_makeFilter_79 : decode cX11_makeFilter 79 = .ok (.iload_n 2, 1) := by decide +kernel
theorem dX11_makeFilter_80 : decode cX11_makeFilter 80 = .ok (.invokevirtual 167, 3) := by decide +kernel
theorem dX11_makeFilter_83 : decode cX11_makeFilter 83 = .ok (.if_icmp .eq 6, 3) := by decide +kernel
theorem dX11_makeFilter_89 : decode cX11_makeFilter 89 = .ok (.iconst 0, 1) := by decide +kernel
theorem dX11_makeFilter_90 : decode cX11_makeFilter 90 = .ok (.istore 4, 2) := by decide +kernel
theorem dX11_makeFilter_92 : decode cX11_makeFilter 92 = .ok (.iload 4, 2) := by decide +kernel
theorem dX11_makeFilter_94 : decode cX11_makeFilter 94 = .ok (.aload_n 0, 1) := by decide +kernel
theorem dX11_makeFilter_95 : decode cX11_makeFilter 95 = .ok (.getfield 45, 3) := by decide +kernel
theorem dX11_makeFilter_98 : decode cX11_makeFilter 98 = .ok (.iload_n 1, 1) := by decide +kernel
theorem dX11_makeFilter_99 : decode cX11_makeFilter 99 = .ok (.iaload, 1) := by decide +kernel
theorem dX11_makeFilter_100 : decode cX11_makeFilter 100 = .ok (.if_icmp .ge 35, 3) := by decide +kernel
theorem dX11_makeFilter_135 : decode cX11_makeFilter 135 = .ok (.iconst 0, 1) := by decide +kernel
theorem dX11_makeFilter_136 : decode cX11_makeFilter 136 = .ok (.ireturn, 1) := by decide +kernel
theorem dX11_makeFilter_103 : decode cX11_makeFilter 103 = .ok (.aload_n 0, 1) := by decide +kernel
theorem dX11_makeFilter_104 : decode cX11_makeFilter 104 = .ok (.iload 4, 2) := by decide +kernel
theorem dX11_makeFilter_106 : decode cX11_makeFilter 106 = .ok (.iload_n 2, 1) := by decide +kernel
theorem dX11_makeFilter_107 : decode cX11_makeFilter 107 = .ok (.if_icmp .ne 12, 3) := by decide +kernel
theorem dX11_makeFilter_119 : decode cX11_makeFilter 119 = .ok (.aload_n 0, 1) := by decide +kernel
theorem dX11_makeFilter_120 : decode cX11_makeFilter 120 = .ok (.iload_n 1, 1) := by decide +kernel
theorem dX11_makeFilter_121 : decode cX11_makeFilter 121 = .ok (.iload 4, 2) := by decide +kernel
theorem dX11_makeFilter_123 : decode cX11_makeFilter 123 = .ok (.invokevirtual 167, 3) := by decide +kernel
theorem dX11_makeFilter_126 : decode cX11_makeFilter 126 = .ok (.invokevirtual 170, 3) := by decide +kernel
theorem dX11_makeFilter_129 : decode cX11_makeFilter 129 = .ok (.iinc 4 1, 3) := by decide +kernel
theorem dX11_makeFilter_132 : decode cX11_makeFilter 132 = .ok (.goto (-40), 3) := by decide +kernel
theorem dX11_makeFilter_110 : decode cX11_makeFilter 110 = .ok (.aload_n 0, 1) := by decide +kernel
theorem dX11_makeFilter_111 : decode cX11_makeFilter 111 = .ok (.iload_n 3, 1) := by decide +kernel
theorem dX11_makeFilter_112 : decode cX11_makeFilter 112 = .ok (.iconst 0, 1) := by decide +kernel
theorem dX11_makeFilter_113 : decode cX11_makeFilter 113 = .ok (.invokevirtual 167, 3) := by decide +kernel
theorem dX11_makeFilter_116 : decode cX11_makeFilter 116 = .ok (.goto 10, 3) := by decide +kernel
theorem hy_X11_makeFilter : yX11_makeFilter.cls ≠ "java/lang/invoke/MethodHandle" ∧ yX11_makeFilter.cls ≠ "java/lang/invoke/VarHandle" ∧ (parseMethodDescriptor yX11_makeFilter.desc).map (fun d => d.parameters.length) = some 3 := ⟨by decide, by decide, by decide +kernel⟩
def f_X11_makeFilter_b92 : Nat → Int32 → Int32 → Int32 → Int32 → mS → Option ((Int32) × mS)
  | 0, _, _, _, _, _ => none
  | n + 1, l1, l2, l3, l4, S => 
  o_ck (¬ (l1 < 0 ∨ 33 ≤ (l1).toNatClampNeg)) (o_let (m_aI S 8 (l1).toNatClampNeg) fun x1 =>
  if x1 ≤ l4 then (
  some (0, S)) else (
  if l4 = l2 then (
  o_call (f_X11_kind l3 0 S) fun x4 S3 =>
  o_call (f_X11_takes x4 S3) fun _ S4 =>
  o_let (l4 + 1) fun x5 =>
  f_X11_makeFilter_b92 n l1 l2 l3 x5 S4) else (
  o_call (f_X11_kind l1 l4 S) fun x2 S1 =>
  o_call (f_X11_takes x2 S1) fun _ S2 =>
  o_let (l4 + 1) fun x3 =>
  f_X11_makeFilter_b92 n l1 l2 l3 x3 S2)))
set_option maxHeartbeats 4000000 in
set_option maxRecDepth 100000 in
theorem w_X11_makeFilter_b92 {l : Launch} {D : va_G} {Y : Nat → ClassId} {aR : Nat → Nat} {A : Nat → Prop} {ad : Nat → Nat} {p : Program} {e : Env} {s : State} {m : MethodId} {args : Array Value} {below : List Frame} {meth : Method} {c : Code} : ∀ (n : Nat) (l1 : Int32) (l2 : Int32) (l3 : Int32) (l4 : Int32) (S S' : mS) (r : Int32) (H : Heap) (locs : List Loc) (ls : Array Slot), jq_X D Y aR A p s m args meth c cX11_makeFilter RX11 "makeFilter" 5 (some .int) → mJ D Y A s ad S H locs → f_X11_makeFilter_b92 n l1 l2 l3 l4 S = some (r, S') → lv_has ls 5 [(0, .ref (ad 0)), (1, .int l1), (2, .int l2), (3, .int l3), (4, .int l4)] → W p l e { frames := 2, cells := 0, slots := 0, locals := 46 } s m args below meth c H locs 0 0 (jq_Z below A (fun v k n H => v = (some (.int r)) ∧ k = 0 ∧ n = 0 ∧ mH D Y A ad S' H) s) (F0 m 92 ls []) := by
  intro n
  induction n with
  | zero =>
    intro l1 l2 l3 l4 S S' r H locs ls hX hJ hf hl
    cases hf
  | succ n ih =>
    intro l1 l2 l3 l4 S S' r H locs ls hX hJ hf hl
    rw [f_X11_makeFilter_b92.eq_2] at hf
    have hx := hX.1
    have hb := hX.2.1
    have hm := hX.2.2.1
    have ho := hX.2.2.2.1
    have ht := hX.2.2.2.2.1
    have hn := hX.2.2.2.2.2.1.2.1
    refine lv_iload hx hb dX11_makeFilter_92 (lv_at hl 4 rfl) ?_
    refine lv_aload_n hx hb dX11_makeFilter_94 rfl (lv_at hl 0 rfl) ?_
    refine mg_manyOf hX hJ qw703 dX11_makeFilter_95 ?_
    refine lv_iload_n hx hb dX11_makeFilter_98 rfl (lv_at hl 1 rfl) ?_
    replace hf := o_ck_e hf
    obtain ⟨hk1, hf⟩ := hf
    replace hf := o_let_e hf
    obtain ⟨x1, hx1, hf⟩ := hf
    refine ma_I 8 hX hJ (by decide) hk1 hx1 dX11_makeFilter_99 ?_
    refine lv_icmp_ge (tgt := 135) hx hb dX11_makeFilter_100 (by decide) (fun c1 => ?_) (fun c1 => ?_)
    · replace hf := o_t hf c1
      refine lv_iconst (v := 0) hx hb dX11_makeFilter_135 (by decide) ?_
      obtain ⟨rfl, rfl⟩ := Prod.mk.inj (Option.some.inj hf)
      exact jq_iret hX hJ.2 dX11_makeFilter_136 ⟨rfl, rfl, rfl, hJ.1⟩
    · replace hf := o_f hf c1
      refine lv_aload_n hx hb dX11_makeFilter_103 rfl (lv_at hl 0 rfl) ?_
      refine lv_iload hx hb dX11_makeFilter_104 (lv_at hl 4 rfl) ?_
      refine lv_iload_n hx hb dX11_makeFilter_106 rfl (lv_at hl 2 rfl) ?_
      refine lv_icmp_ne (tgt := 119) hx hb dX11_makeFilter_107 (by decide) (fun c2 => ?_) (fun c2 => ?_)
      · replace hf := o_f hf c2
        refine lv_aload_n hx hb dX11_makeFilter_119 rfl (lv_at hl 0 rfl) ?_
        refine lv_iload_n hx hb dX11_makeFilter_120 rfl (lv_at hl 1 rfl) ?_
        refine lv_iload hx hb dX11_makeFilter_121 (lv_at hl 4 rfl) ?_
        replace hf := o_call_e hf
        obtain ⟨x2, S1, hq1, hf⟩ := hf
        refine jq_doM hX hJ (jq_okV (As := [.int l1, .int l4]) (rest := [.ref (ad 0)]) hx hb hm ho ht (mJ.recv hX hJ) qw883 qw885 qs81 qw886 qw7 hy_X11_kind rfl hl.1 (Nat.le_of_ble_eq_true rfl) dX11_makeFilter_123) (c_X11_kind hq1) (Nat.le_of_ble_eq_true rfl) (Nat.le_of_ble_eq_true rfl) (Nat.le_refl _) (Nat.le_refl _) (fun H locs hJ' => ?_)
        clear hJ
        have hJ := hJ'
        clear hJ'
        replace hf := o_call_e hf
        obtain ⟨_, S2, hq2, hf⟩ := hf
        refine jq_doM hX hJ (jq_okV (As := [.int x2]) (rest := []) hx hb hm ho ht (mJ.recv hX hJ) qw871 qw873 qs78 qw874 qw7 hy_X11_takes rfl hl.1 (Nat.le_of_ble_eq_true rfl) dX11_makeFilter_126) (c_X11_takes hq2) (Nat.le_of_ble_eq_true rfl) (Nat.le_of_ble_eq_true rfl) (Nat.le_refl _) (Nat.le_refl _) (fun H locs hJ' => ?_)
        clear hJ
        have hJ := hJ'
        clear hJ'
        replace hf := o_let_e hf
        obtain ⟨x3, hx3, hf⟩ := hf
        refine lv_iinc (v := x3) (lv' := [(4, .int x3), (0, .ref (ad 0)), (1, .int l1), (2, .int l2), (3, .int l3)]) hx hb dX11_makeFilter_129 hl (k := 4) rfl (by rw [← hx3]; rfl) (by decide) rfl (fun ls hl' => ?_)
        clear hl
        have hl := hl'
        clear hl'
        refine lv_goto (tgt := 92) hx hb dX11_makeFilter_132 (by decide) ?_
        replace hl := lv_sub hl (l' := [(0, .ref (ad 0)), (1, .int l1), (2, .int l2), (3, .int l3), (4, .int x3)]) [1, 2, 3, 4, 0] rfl
        exact ih l1 l2 l3 x3 S2 S' r H locs ls hX hJ hf hl
      · replace hf := o_t hf c2
        refine lv_aload_n hx hb dX11_makeFilter_110 rfl (lv_at hl 0 rfl) ?_
        refine lv_iload_n hx hb dX11_makeFilter_111 rfl (lv_at hl 3 rfl) ?_
        refine lv_iconst (v := 0) hx hb dX11_makeFilter_112 (by decide) ?_
        replace hf := o_call_e hf
        obtain ⟨x4, S3, hq3, hf⟩ := hf
        refine jq_doM hX hJ (jq_okV (As := [.int l3, .int 0]) (rest := [.ref (ad 0)]) hx hb hm ho ht (mJ.recv hX hJ) qw883 qw885 qs81 qw886 qw7 hy_X11_kind rfl hl.1 (Nat.le_of_ble_eq_true rfl) dX11_makeFilter_113) (c_X11_kind hq3) (Nat.le_of_ble_eq_true rfl) (Nat.le_of_ble_eq_true rfl) (Nat.le_refl _) (Nat.le_refl _) (fun H locs hJ' => ?_)
        clear hJ
        have hJ := hJ'
        clear hJ'
        refine lv_goto (tgt := 126) hx hb dX11_makeFilter_116 (by decide) ?_
        replace hf := o_call_e hf
        obtain ⟨_, S4, hq4, hf⟩ := hf
        refine jq_doM hX hJ (jq_okV (As := [.int x4]) (rest := []) hx hb hm ho ht (mJ.recv hX hJ) qw871 qw873 qs78 qw874 qw7 hy_X11_takes rfl hl.1 (Nat.le_of_ble_eq_true rfl) dX11_makeFilter_126) (c_X11_takes hq4) (Nat.le_of_ble_eq_true rfl) (Nat.le_of_ble_eq_true rfl) (Nat.le_refl _) (Nat.le_refl _) (fun H locs hJ' => ?_)
        clear hJ
        have hJ := hJ'
        clear hJ'
        replace hf := o_let_e hf
        obtain ⟨x5, hx5, hf⟩ := hf
        refine lv_iinc (v := x5) (lv' := [(4, .int x5), (0, .ref (ad 0)), (1, .int l1), (2, .int l2), (3, .int l3)]) hx hb dX11_makeFilter_129 hl (k := 4) rfl (by rw [← hx5]; rfl) (by decide) rfl (fun ls hl' => ?_)
        clear hl
        have hl := hl'
        clear hl'
        refine lv_goto (tgt := 92) hx hb dX11_makeFilter_132 (by decide) ?_
        replace hl := lv_sub hl (l' := [(0, .ref (ad 0)), (1, .int l1), (2, .int l2), (3, .int l3), (4, .int x5)]) [1, 2, 3, 4, 0] rfl
        exact ih l1 l2 l3 x5 S4 S' r H locs ls hX hJ hf hl
def f_X11_makeFilter (p1 : Int32) (p2 : Int32) (p3 : Int32) (S : mS) : Option ((Int32) × mS) :=
  o_call (f_X11_isHandle p1 S) fun x1 S1 =>
  if x1 = 0 then (
  some ((-1), S1)) else (
  o_call (f_X11_isHandle p3 S1) fun x2 S2 =>
  if x2 = 0 then (
  some ((-1), S2)) else (
  o_ck (¬ (p1 < 0 ∨ 33 ≤ (p1).toNatClampNeg)) (o_let (m_aI S2 8 (p1).toNatClampNeg) fun x3 =>
  o_cP (f_X11_in ((p2).toInt64) 0 (((x3 - (1 : Int32))).toInt64)) fun x4 =>
  if x4 = 0 then (
  some ((-1), S2)) else (
  o_let (m_pI S2 4 p1) fun S3 =>
  o_let (m_pI S3 5 p2) fun S4 =>
  o_let (m_pI S4 6 p3) fun S5 =>
  o_ck (¬ (p1 < 0 ∨ 33 ≤ (p1).toNatClampNeg)) (o_let (m_aI S5 10 (p1).toNatClampNeg) fun x5 =>
  o_call (f_X11_gives x5 S5) fun _ S6 =>
  o_ck (¬ (p3 < 0 ∨ 33 ≤ (p3).toNatClampNeg)) (o_let (m_aI S6 8 (p3).toNatClampNeg) fun x6 =>
  if x6 = 1 then (
  o_ck (¬ (p3 < 0 ∨ 33 ≤ (p3).toNatClampNeg)) (o_let (m_aI S6 10 (p3).toNatClampNeg) fun x7 =>
  o_call (f_X11_kind p1 p2 S6) fun x8 S7 =>
  if x7 = x8 then (
  f_X11_makeFilter_b92 12 p1 p2 p3 0 S7) else (
  some ((-3), S7)))) else (
  some ((-3), S6))))))))
set_option maxHeartbeats 4000000 in
set_option maxRecDepth 100000 in
theorem c_X11_makeFilter {l : Launch} {D : va_G} {Y : Nat → ClassId} {aR : Nat → Nat} {A : Nat → Prop} {ad : Nat → Nat} {p1 : Int32} {p2 : Int32} {p3 : Int32} {S S' : mS} {r : Int32} (hf : f_X11_makeFilter p1 p2 p3 S = some (r, S')) : jq_M l D Y aR A ad yX11_makeFilter cX11_makeFilter 5 (some .int) 2 46 [.ref (ad 0), .int p1, .int p2, .int p3] S (some (.int r)) S' := by
  unfold f_X11_makeFilter at hf
  refine jq_enterM (by decide) (Nat.le_of_ble_eq_true rfl) fun p e s m args below meth c ls H locs hX hJ hl => ?_
  have hl : lv_has ls 5 [(0, .ref (ad 0)), (1, .int p1), (2, .int p2), (3, .int p3)] := hl
  have hx := hX.1
  have hb := hX.2.1
  have hm := hX.2.2.1
  have ho := hX.2.2.2.1
  have ht := hX.2.2.2.2.1
  have hn := hX.2.2.2.2.2.1.2.1
  refine lv_aload_n hx hb dX11_makeFilter_0 rfl (lv_at hl 0 rfl) ?_
  refine lv_iload_n hx hb dX11_makeFilter_1 rfl (lv_at hl 1 rfl) ?_
  replace hf := o_call_e hf
  obtain ⟨x1, S1, hq1, hf⟩ := hf
  refine jq_doM hX hJ (jq_okV (As := [.int p1]) (rest := []) hx hb hm ho ht (mJ.recv hX hJ) qw879 qw881 qs80 qw882 qw7 hy_X11_isHandle rfl hl.1 (Nat.le_of_ble_eq_true rfl) dX11_makeFilter_2) (c_X11_isHandle hq1) (Nat.le_of_ble_eq_true rfl) (Nat.le_of_ble_eq_true rfl) (Nat.le_refl _) (Nat.le_refl _) (fun H locs hJ' => ?_)
  clear hJ
  have hJ := hJ'
  clear hJ'
  refine lv_if_eq (tgt := 34) hx hb dX11_makeFilter_5 (by decide) (fun c1 => ?_) (fun c1 => ?_)
  · replace hf := o_t hf c1
    refine lv_iconst (v := (-1)) hx hb dX11_makeFilter_34 (by decide) ?_
    obtain ⟨rfl, rfl⟩ := Prod.mk.inj (Option.some.inj hf)
    exact jq_iret hX hJ.2 dX11_makeFilter_35 ⟨rfl, rfl, rfl, hJ.1⟩
  · replace hf := o_f hf c1
    refine lv_aload_n hx hb dX11_makeFilter_8 rfl (lv_at hl 0 rfl) ?_
    refine lv_iload_n hx hb dX11_makeFilter_9 rfl (lv_at hl 3 rfl) ?_
    replace hf := o_call_e hf
    obtain ⟨x2, S2, hq2, hf⟩ := hf
    refine jq_doM hX hJ (jq_okV (As := [.int p3]) (rest := []) hx hb hm ho ht (mJ.recv hX hJ) qw879 qw881 qs80 qw882 qw7 hy_X11_isHandle rfl hl.1 (Nat.le_of_ble_eq_true rfl) dX11_makeFilter_10) (c_X11_isHandle hq2) (Nat.le_of_ble_eq_true rfl) (Nat.le_of_ble_eq_true rfl) (Nat.le_refl _) (Nat.le_refl _) (fun H locs hJ' => ?_)
    clear hJ
    have hJ := hJ'
    clear hJ'
    refine lv_if_eq (tgt := 34) hx hb dX11_makeFilter_13 (by decide) (fun c2 => ?_) (fun c2 => ?_)
    · replace hf := o_t hf c2
      refine lv_iconst (v := (-1)) hx hb dX11_makeFilter_34 (by decide) ?_
      obtain ⟨rfl, rfl⟩ := Prod.mk.inj (Option.some.inj hf)
      exact jq_iret hX hJ.2 dX11_makeFilter_35 ⟨rfl, rfl, rfl, hJ.1⟩
    · replace hf := o_f hf c2
      refine lv_iload_n hx hb dX11_makeFilter_16 rfl (lv_at hl 2 rfl) ?_
      refine lv_i2l hx hb dX11_makeFilter_17 rfl ?_
      refine lv_lconst (v := 0) hx hb dX11_makeFilter_18 (by decide) ?_
      refine lv_aload_n hx hb dX11_makeFilter_19 rfl (lv_at hl 0 rfl) ?_
      refine mg_manyOf hX hJ qw703 dX11_makeFilter_20 ?_
      refine lv_iload_n hx hb dX11_makeFilter_23 rfl (lv_at hl 1 rfl) ?_
      replace hf := o_ck_e hf
      obtain ⟨hk1, hf⟩ := hf
      replace hf := o_let_e hf
      obtain ⟨x3, hx3, hf⟩ := hf
      refine ma_I 8 hX hJ (by decide) hk1 hx3 dX11_makeFilter_24 ?_
      refine lv_iconst (v := 1) hx hb dX11_makeFilter_25 (by decide) ?_
      refine lv_isub hx hb dX11_makeFilter_26 ?_
      refine lv_i2l hx hb dX11_makeFilter_27 rfl ?_
      replace hf := o_cP_e hf
      obtain ⟨x4, hq3, hf⟩ := hf
      refine jq_doP hX hJ.2 (jq_okS (As := [.long ((p2).toInt64), .long 0, .long (((x3 - (1 : Int32))).toInt64)]) (rest := []) hx hb hm ho ht qw803 qw804 qw805 qw7 hy_X11_in rfl hl.1 (Nat.le_of_ble_eq_true rfl) dX11_makeFilter_28) (c_X11_in hq3) (Nat.le_of_ble_eq_true rfl) (Nat.le_of_ble_eq_true rfl) (Nat.le_refl _) (Nat.le_refl _) (fun locs hS9 => ?_)
      replace hJ := mJ.to hJ hS9
      refine lv_if_ne (tgt := 36) hx hb dX11_makeFilter_31 (by decide) (fun c3 => ?_) (fun c3 => ?_)
      · replace hf := o_f hf c3
        refine lv_aload_n hx hb dX11_makeFilter_36 rfl (lv_at hl 0 rfl) ?_
        refine lv_iload_n hx hb dX11_makeFilter_37 rfl (lv_at hl 1 rfl) ?_
        replace hf := o_let_e hf
        obtain ⟨S3, hS3, hf⟩ := hf
        refine mp_madeA hX hJ hS3 qw706 dX11_makeFilter_38 (fun H locs hJ' => ?_)
        clear hJ
        have hJ := hJ'
        clear hJ'
        refine lv_aload_n hx hb dX11_makeFilter_41 rfl (lv_at hl 0 rfl) ?_
        refine lv_iload_n hx hb dX11_makeFilter_42 rfl (lv_at hl 2 rfl) ?_
        replace hf := o_let_e hf
        obtain ⟨S4, hS4, hf⟩ := hf
        refine mp_madeB hX hJ hS4 qw707 dX11_makeFilter_43 (fun H locs hJ' => ?_)
        clear hJ
        have hJ := hJ'
        clear hJ'
        refine lv_aload_n hx hb dX11_makeFilter_46 rfl (lv_at hl 0 rfl) ?_
        refine lv_iload_n hx hb dX11_makeFilter_47 rfl (lv_at hl 3 rfl) ?_
        replace hf := o_let_e hf
        obtain ⟨S5, hS5, hf⟩ := hf
        refine mp_madeC hX hJ hS5 qw708 dX11_makeFilter_48 (fun H locs hJ' => ?_)
        clear hJ
        have hJ := hJ'
        clear hJ'
        refine lv_aload_n hx hb dX11_makeFilter_51 rfl (lv_at hl 0 rfl) ?_
        refine lv_aload_n hx hb dX11_makeFilter_52 rfl (lv_at hl 0 rfl) ?_
        refine mg_resultOf hX hJ qw705 dX11_makeFilter_53 ?_
        refine lv_iload_n hx hb dX11_makeFilter_56 rfl (lv_at hl 1 rfl) ?_
        replace hf := o_ck_e hf
        obtain ⟨hk2, hf⟩ := hf
        replace hf := o_let_e hf
        obtain ⟨x5, hx5, hf⟩ := hf
        refine ma_I 10 hX hJ (by decide) hk2 hx5 dX11_makeFilter_57 ?_
        replace hf := o_call_e hf
        obtain ⟨_, S6, hq4, hf⟩ := hf
        refine jq_doM hX hJ (jq_okV (As := [.int x5]) (rest := []) hx hb hm ho ht (mJ.recv hX hJ) qw867 qw869 qs77 qw870 qw7 hy_X11_gives rfl hl.1 (Nat.le_of_ble_eq_true rfl) dX11_makeFilter_58) (c_X11_gives hq4) (Nat.le_of_ble_eq_true rfl) (Nat.le_of_ble_eq_true rfl) (Nat.le_refl _) (Nat.le_refl _) (fun H locs hJ' => ?_)
        clear hJ
        have hJ := hJ'
        clear hJ'
        refine lv_aload_n hx hb dX11_makeFilter_61 rfl (lv_at hl 0 rfl) ?_
        refine mg_manyOf hX hJ qw703 dX11_makeFilter_62 ?_
        refine lv_iload_n hx hb dX11_makeFilter_65 rfl (lv_at hl 3 rfl) ?_
        replace hf := o_ck_e hf
        obtain ⟨hk3, hf⟩ := hf
        replace hf := o_let_e hf
        obtain ⟨x6, hx6, hf⟩ := hf
        refine ma_I 8 hX hJ (by decide) hk3 hx6 dX11_makeFilter_66 ?_
        refine lv_iconst (v := 1) hx hb dX11_makeFilter_67 (by decide) ?_
        refine lv_icmp_ne (tgt := 86) hx hb dX11_makeFilter_68 (by decide) (fun c4 => ?_) (fun c4 => ?_)
        · replace hf := o_f hf c4
          refine lv_bipush (v := (-3)) hx hb dX11_makeFilter_86 (by decide) ?_
          obtain ⟨rfl, rfl⟩ := Prod.mk.inj (Option.some.inj hf)
          exact jq_iret hX hJ.2 dX11_makeFilter_88 ⟨rfl, rfl, rfl, hJ.1⟩
        · replace hf := o_t hf c4
          refine lv_aload_n hx hb dX11_makeFilter_71 rfl (lv_at hl 0 rfl) ?_
          refine mg_resultOf hX hJ qw705 dX11_makeFilter_72 ?_
          refine lv_iload_n hx hb dX11_makeFilter_75 rfl (lv_at hl 3 rfl) ?_
          replace hf := o_ck_e hf
          obtain ⟨hk4, hf⟩ := hf
          replace hf := o_let_e hf
          obtain ⟨x7, hx7, hf⟩ := hf
          refine ma_I 10 hX hJ (by decide) hk4 hx7 dX11_makeFilter_76 ?_
          refine lv_aload_n hx hb dX11_makeFilter_77 rfl (lv_at hl 0 rfl) ?_
          refine lv_iload_n hx hb dX11_makeFilter_78 rfl (lv_at hl 1 rfl) ?_
          refine lv_iload_n hx hb dX11_makeFilter_79 rfl (lv_at hl 2 rfl) ?_
          replace hf := o_call_e hf
          obtain ⟨x8, S7, hq5, hf⟩ := hf
          refine jq_doM hX hJ (jq_okV (As := [.int p1, .int p2]) (rest := [.int x7]) hx hb hm ho ht (mJ.recv hX hJ) qw883 qw885 qs81 qw886 qw7 hy_X11_kind rfl hl.1 (Nat.le_of_ble_eq_true rfl) dX11_makeFilter_80) (c_X11_kind hq5) (Nat.le_of_ble_eq_true rfl) (Nat.le_of_ble_eq_true rfl) (Nat.le_refl _) (Nat.le_refl _) (fun H locs hJ' => ?_)
          clear hJ
          have hJ := hJ'
          clear hJ'
          refine lv_icmp_eq (tgt := 89) hx hb dX11_makeFilter_83 (by decide) (fun c5 => ?_) (fun c5 => ?_)
          · replace hf := o_t hf c5
            refine lv_iconst (v := 0) hx hb dX11_makeFilter_89 (by decide) ?_
            refine lv_istore (lv' := [(4, .int 0), (0, .ref (ad 0)), (1, .int p1), (2, .int p2), (3, .int p3)]) hx hb dX11_makeFilter_90 hl (by decide) rfl (fun ls hl' => ?_)
            clear hl
            have hl := hl'
            clear hl'
            replace hl := lv_sub hl (l' := [(0, .ref (ad 0)), (1, .int p1), (2, .int p2), (3, .int p3), (4, .int 0)]) [1, 2, 3, 4, 0] rfl
            exact w_X11_makeFilter_b92 12 p1 p2 p3 0 S7 S' r H locs ls hX hJ hf hl
          · replace hf := o_f hf c5
            refine lv_bipush (v := (-3)) hx hb dX11_makeFilter_86 (by decide) ?_
            obtain ⟨rfl, rfl⟩ := Prod.mk.inj (Option.some.inj hf)
            exact jq_iret hX hJ.2 dX11_makeFilter_88 ⟨rfl, rfl, rfl, hJ.1⟩
      · replace hf := o_t hf c3
        refine lv_iconst (v := (-1)) hx hb dX11_makeFilter_34 (by decide) ?_
        obtain ⟨rfl, rfl⟩ := Prod.mk.inj (Option.some.inj hf)
        exact jq_iret hX hJ.2 dX11_makeFilter_35 ⟨rfl, rfl, rfl, hJ.1⟩
theorem dX11_takesOf_0 : decode cX11_takesOf 0 = .ok (.iload_n 2, 1) := by decide +kernel
theorem dX11_takesOf_1 : decode cX11_takesOf 1 = .ok (.istore_n 3, 1) := by decide +kernel
theorem dX11_takesOf_2 : decode cX11_takesOf 2 = .ok (.iload_n 3, 1) := by decide +kernel
theorem dX11_takesOf_3 : decode cX11_takesOf 3 = .ok (.aload_n 0, 1) := by decide +kernel
theorem dX11_takesOf_4 : decode cX11_takesOf 4 = .ok (.getfield 45, 3) := by decide +kernel
theorem dX11_takesOf_7 : decode cX11_takesOf 7 = .ok (.iload_n 1, 1) := by decide +kernel
theorem dX11_takesOf_8 : decode cX11_takesOf 8 = .ok (.iaload, 1) := by decide +kernel
theorem dX11_takesOf_9 : decode cX11_takesOf 9 = .ok (.if_icmp .ge 19, 3) := by decide +kernel
theorem dX11_takesOf_28 : decode cX11_takesOf 28 = .ok (.return_, 1) := by decide +kernel
theorem dX11_takesOf_12 : decode cX11_takesOf 12 = .ok (.aload_n 0, 1) := by decide +kernel
theorem dX11_takesOf_13 : decode cX11_takesOf 13 = .ok (.aload_n 0, 1) := by decide +kernel
theorem dX11_takesOf_14 : decode cX11_takesOf 14 = .ok (.iload_n 1, 1) := by decide +kernel
theorem dX11_takesOf_15 : decode cX11_takesOf 15 = .ok (.iload_n 3, 1) := by decide +kernel
theorem dX11_takesOf_16 : decode cX11_takesOf 16 = .ok (.invokevirtual 167, 3) := by decide +kernel
theorem dX11_takesOf_19 : decode cX11_takesOf 19 = .ok (.invokevirtual 170, 3) := by decide +kernel
theorem dX11_takesOf_22 : decode cX11_takesOf 22 = .ok (.iinc 3 1, 3) := by decide +kernel
theorem dX11_takesOf_25 : decode cX11_takesOf 25 = .ok (.goto (-23), 3) := by decide +kernel
theorem hy_X11_takesOf : yX11_takesOf.cls ≠ "java/lang/invoke/MethodHandle" ∧ yX11_takesOf.cls ≠ "java/lang/invoke/VarHandle" ∧ (parseMethodDescriptor yX11_takesOf.desc).map (fun d => d.parameters.length) = some 2 := ⟨by decide, by decide, by decide +kernel⟩
def f_X11_takesOf_b2 : Nat → Int32 → Int32 → mS → Option ((Unit) × mS)
  | 0, _, _, _ => none
  | n + 1, l1, l3, S => 
  o_ck (¬ (l1 < 0 ∨ 33 ≤ (l1).toNatClampNeg)) (o_let (m_aI S 8 (l1).toNatClampNeg) fun x1 =>
  if x1 ≤ l3 then (
  some ((), S)) else (
  o_call (f_X11_kind l1 l3 S) fun x2 S1 =>
  o_call (f_X11_takes x2 S1) fun _ S2 =>
  o_let (l3 + 1) fun x3 =>
  f_X11_takesOf_b2 n l1 x3 S2))
set_option maxHeartbeats 4000000 in
set_option maxRecDepth 100000 in
theorem w_X11_takesOf_b2 {l : Launch} {D : va_G} {Y : Nat → ClassId} {aR : Nat → Nat} {A : Nat → Prop} {ad : Nat → Nat} {p : Program} {e : Env} {s : State} {m : MethodId} {args : Array Value} {below : List Frame} {meth : Method} {c : Code} : ∀ (n : Nat) (l1 : Int32) (l3 : Int32) (S S' : mS) (r : Unit) (H : Heap) (locs : List Loc) (ls : Array Slot), jq_X D Y aR A p s m args meth c cX11_takesOf RX11 "takesOf" 4 none → mJ D Y A s ad S H locs → f_X11_takesOf_b2 n l1 l3 S = some (r, S') → lv_has ls 4 [(0, .ref (ad 0)), (1, .int l1), (3, .int l3)] → W p l e { frames := 1, cells := 0, slots := 0, locals := 22 } s m args below meth c H locs 0 0 (jq_Z below A (fun v k n H => v = none ∧ k = 0 ∧ n = 0 ∧ mH D Y A ad S' H) s) (F0 m 2 ls []) := by
  intro n
  induction n with
  | zero =>
    intro l1 l3 S S' r H locs ls hX hJ hf hl
    cases hf
  | succ n ih =>
    intro l1 l3 S S' r H locs ls hX hJ hf hl
    rw [f_X11_takesOf_b2.eq_2] at hf
    have hx := hX.1
    have hb := hX.2.1
    have hm := hX.2.2.1
    have ho := hX.2.2.2.1
    have ht := hX.2.2.2.2.1
    have hn := hX.2.2.2.2.2.1.2.1
    refine lv_iload_n hx hb dX11_takesOf_2 rfl (lv_at hl 2 rfl) ?_
    refine lv_aload_n hx hb dX11_takesOf_3 rfl (lv_at hl 0 rfl) ?_
    refine mg_manyOf hX hJ qw703 dX11_takesOf_4 ?_
    refine lv_iload_n hx hb dX11_takesOf_7 rfl (lv_at hl 1 rfl) ?_
    replace hf := o_ck_e hf
    obtain ⟨hk1, hf⟩ := hf
    replace hf := o_let_e hf
    obtain ⟨x1, hx1, hf⟩ := hf
    refine ma_I 8 hX hJ (by decide) hk1 hx1 dX11_takesOf_8 ?_
    refine lv_icmp_ge (tgt := 28) hx hb dX11_takesOf_9 (by decide) (fun c1 => ?_) (fun c1 => ?_)
    · replace hf := o_t hf c1
      obtain ⟨rfl, rfl⟩ := Prod.mk.inj (Option.some.inj hf)
      exact jq_vret hX hJ.2 dX11_takesOf_28 ⟨rfl, rfl, rfl, hJ.1⟩
    · replace hf := o_f hf c1
      refine lv_aload_n hx hb dX11_takesOf_12 rfl (lv_at hl 0 rfl) ?_
      refine lv_aload_n hx hb dX11_takesOf_13 rfl (lv_at hl 0 rfl) ?_
      refine lv_iload_n hx hb dX11_takesOf_14 rfl (lv_at hl 1 rfl) ?_
      refine lv_iload_n hx hb dX11_takesOf_15 rfl (lv_at hl 2 rfl) ?_
      replace hf := o_call_e hf
      obtain ⟨x2, S1, hq1, hf⟩ := hf
      refine jq_doM hX hJ (jq_okV (As := [.int l1, .int l3]) (rest := [.ref (ad 0)]) hx hb hm ho ht (mJ.recv hX hJ) qw883 qw885 qs81 qw886 qw7 hy_X11_kind rfl hl.1 (Nat.le_of_ble_eq_true rfl) dX11_takesOf_16) (c_X11_kind hq1) (Nat.le_of_ble_eq_true rfl) (Nat.le_of_ble_eq_true rfl) (Nat.le_refl _) (Nat.le_refl _) (fun H locs hJ' => ?_)
      clear hJ
      have hJ := hJ'
      clear hJ'
      replace hf := o_call_e hf
      obtain ⟨_, S2, hq2, hf⟩ := hf
      refine jq_doM hX hJ (jq_okV (As := [.int x2]) (rest := []) hx hb hm ho ht (mJ.recv hX hJ) qw871 qw873 qs78 qw874 qw7 hy_X11_takes rfl hl.1 (Nat.le_of_ble_eq_true rfl) dX11_takesOf_19) (c_X11_takes hq2) (Nat.le_of_ble_eq_true rfl) (Nat.le_of_ble_eq_true rfl) (Nat.le_refl _) (Nat.le_refl _) (fun H locs hJ' => ?_)
      clear hJ
      have hJ := hJ'
      clear hJ'
      replace hf := o_let_e hf
      obtain ⟨x3, hx3, hf⟩ := hf
      refine lv_iinc (v := x3) (lv' := [(3, .int x3), (0, .ref (ad 0)), (1, .int l1)]) hx hb dX11_takesOf_22 hl (k := 2) rfl (by rw [← hx3]; rfl) (by decide) rfl (fun ls hl' => ?_)
      clear hl
      have hl := hl'
      clear hl'
      refine lv_goto (tgt := 2) hx hb dX11_takesOf_25 (by decide) ?_
      replace hl := lv_sub hl (l' := [(0, .ref (ad 0)), (1, .int l1), (3, .int x3)]) [1, 2, 0] rfl
      exact ih l1 x3 S2 S' r H locs ls hX hJ hf hl
def f_X11_takesOf (p1 : Int32) (p2 : Int32) (S : mS) : Option ((Unit) × mS) :=
  f_X11_takesOf_b2 12 p1 p2 S
set_option maxHeartbeats 4000000 in
set_option maxRecDepth 100000 in
theorem c_X11_takesOf {l : Launch} {D : va_G} {Y : Nat → ClassId} {aR : Nat → Nat} {A : Nat → Prop} {ad : Nat → Nat} {p1 : Int32} {p2 : Int32} {S S' : mS} {r : Unit} (hf : f_X11_takesOf p1 p2 S = some (r, S')) : jq_M l D Y aR A ad yX11_takesOf cX11_takesOf 4 none 1 22 [.ref (ad 0), .int p1, .int p2] S none S' := by
  unfold f_X11_takesOf at hf
  refine jq_enterM (by decide) (Nat.le_of_ble_eq_true rfl) fun p e s m args below meth c ls H locs hX hJ hl => ?_
  have hl : lv_has ls 4 [(0, .ref (ad 0)), (1, .int p1), (2, .int p2)] := hl
  have hx := hX.1
  have hb := hX.2.1
  have hm := hX.2.2.1
  have ho := hX.2.2.2.1
  have ht := hX.2.2.2.2.1
  have hn := hX.2.2.2.2.2.1.2.1
  refine lv_iload_n hx hb dX11_takesOf_0 rfl (lv_at hl 2 rfl) ?_
  refine lv_istore_n (lv' := [(3, .int p2), (0, .ref (ad 0)), (1, .int p1), (2, .int p2)]) hx hb dX11_takesOf_1 rfl hl (by decide) rfl (fun ls hl' => ?_)
  clear hl
  have hl := hl'
  clear hl'
  replace hl := lv_sub hl (l' := [(0, .ref (ad 0)), (1, .int p1), (3, .int p2)]) [1, 2, 0] rfl
  exact w_X11_takesOf_b2 12 p1 p2 S S' r H locs ls hX hJ hf hl
theorem dX11_isFirst_0 : decode cX11_isFirst 0 = .ok (.aload_n 0, 1) := by decide +kernel
theorem dX11_isFirst_1 : decode cX11_isFirst 1 = .ok (.getfield 45, 3) := by decide +kernel
theorem dX11_isFirst_4 : decode cX11_isFirst 4 = .ok (.iload_n 1, 1) := by decide +kernel
theorem dX11_isFirst_5 : decode cX11_isFirst 5 = .ok (.iaload, 1) := by decide +kernel
theorem dX11_isFirst_6 : decode cX11_isFirst 6 = .ok (.iload_n 2, 1) := by decide +kernel
theorem dX11_isFirst_7 : decode cX11_isFirst 7 = .ok (.if_icmp .lt 27, 3) := by decide +kernel
theorem dX11_isFirst_34 : decode cX11_isFirst 34 = .ok (.iconst 0, 1) := by decide +kernel
theorem dX11_isFirst_35 : decode cX11_isFirst 35 = .ok (.istore 5, 2) := by decide +kernel
theorem dX11_isFirst_37 : decode cX11_isFirst 37 = .ok (.iload_n 2, 1) := by decide +kernel
theorem dX11_isFirst_38 : decode cX11_isFirst 38 = .ok (.istore 6, 2) := by decide +kernel
theorem dX11_isFirst_10 : decode cX11_isFirst 10 = .ok (.aload_n 0, 1) := by decide +kernel
theorem dX11_isFirst_11 : decode cX11_isFirst 11 = .ok (.getfield 45, 3) := by decide +kernel
theorem dX11_isFirst_14 : decode cX11_isFirst 14 = .ok (.iload_n 1, 1) := by decide +kernel
theorem dX11_isFirst_15 : decode cX11_isFirst 15 = .ok (.iaload, 1) := by decide +kernel
theorem dX11_isFirst_16 : decode cX11_isFirst 16 = .ok (.iload_n 2, 1) := by decide +kernel
theorem dX11_isFirst_17 : decode cX11_isFirst 17 = .ok (.isub, 1) := by decide +kernel
theorem dX11_isFirst_18 : decode cX11_isFirst 18 = .ok (.aload_n 0, 1) := by decide +kernel
theorem dX11_isFirst_19 : decode cX11_isFirst 19 = .ok (.getfield 45, 3) := by decide +kernel
theorem dX11_isFirst_22 : decode cX11_isFirst 22 = .ok (.iload_n 3, 1) := by decide +kernel
theorem dX11_isFirst_23 : decode cX11_isFirst 23 = .ok (.iaload, 1) := by decide +kernel
theorem dX11_isFirst_24 : decode cX11_isFirst 24 = .ok (.iload 4, 2) := by decide +kernel
theorem dX11_isFirst_26 : decode cX11_isFirst 26 = .ok (.isub, 1) := by decide +kernel
theorem dX11_isFirst_27 : decode cX11_isFirst 27 = .ok (.if_icmp .gt 7, 3) := by decide +kernel
theorem dX11_isFirst_30 : decode cX11_isFirst 30 = .ok (.iconst 1, 1) := by decide +kernel
theorem dX11_isFirst_31 : decode cX11_isFirst 31 = .ok (.goto 4, 3) := by decide +kernel
theorem dX11_isFirst_40 : decode cX11_isFirst 40 = .ok (.iload 6, 2) := by decide +kernel
theorem dX11_isFirst_42 : decode cX11_isFirst 42 = .ok (.aload_n 0, 1) := by decide +kernel
theorem dX11_isFirst_43 : decode cX11_isFirst 43 = .ok (.getfield 45, 3) := by decide +kernel
theorem dX11_isFirst_46 : decode cX11_isFirst 46 = .ok (.iload_n 1, 1) := by decide +kernel
theorem dX11_isFirst_47 : decode cX11_isFirst 47 = .ok (.iaload, 1) := by decide +kernel
theorem dX11_isFirst_48 : decode cX11_isFirst 48 = .ok (.if_icmp .ge 43, 3) := by decide +kernel
theorem dX11_isFirst_91 : decode cX11_isFirst 91 = .ok (.iload 5, 2) := by decide +kernel
theorem dX11_isFirst_93 : decode cX11_isFirst 93 = .ok (.ireturn, 1) := by decide +kernel
theorem dX11_isFirst_51 : decode cX11_isFirst 51 = .ok (.iload 5, 2) := by decide +kernel
theorem dX11_isFirst_53 : decode cX11_isFirst 53 = .ok (.ifCond .eq 38, 3) := by decide +kernel
theorem dX11_isFirst_56 : decode cX11_isFirst 56 = .ok (.aload_n 0, 1) := by decide +kernel
theorem dX11_isFirst_57 : decode cX11_isFirst 57 = .ok (.iload_n 1, 1) := by decide +kernel
theorem dX11_isFirst_58 : decode cX11_isFirst 58 = .ok (.iload 6, 2) := by decide +kernel
theorem dX11_isFirst_60 : decode cX11_isFirst 60 = .ok (.invokevirtual 167, 3) := by decide +kernel
theorem dX11_isFirst_63 : decode cX11_isFirst 63 = .ok (.aload_n 0, 1) := by decide +kernel
theorem dX11_isFirst_64 : decode cX11_isFirst 64 = .ok (.iload_n 3, 1) := by decide +kernel
theorem dX11_isFirst_65 : decode cX11_isFirst 65 = .ok (.iload 4, 2) := by decide +kernel
theorem dX11_isFirst_67 : decode cX11_isFirst 67 = .ok (.iload 6, 2) := by decide +kernel
theorem dX11_isFirst_69 : decode cX11_isFirst 69 = .ok (.iadd, 1) := by decide +kernel
theorem dX11_isFirst_70 : decode cX11_isFirst 70 = .ok (.iload_n 2, 1) := by decide +kernel
theorem dX11_isFirst_71 : decode cX11_isFirst 71 = .ok (.isub, 1) := by decide +kernel
theorem dX11_isFirst_72 : decode cX11_isFirst 72 = .ok (.invokevirtual 167, 3) := by decide +kernel
theorem dX11_isFirst_75 : decode cX11_isFirst 75 = .ok (.if_icmp .ne 7, 3) := by decide +kernel
theorem dX11_isFirst_82 : decode cX11_isFirst 82 = .ok (.iconst 0, 1) := by decide +kernel
theorem dX11_isFirst_83 : decode cX11_isFirst 83 = .ok (.istore 5, 2) := by decide +kernel
theorem dX11_isFirst_85 : decode cX11_isFirst 85 = .ok (.iinc 6 1, 3) := by decide +kernel
theorem dX11_isFirst_88 : decode cX11_isFirst 88 = .ok (.goto (-48), 3) := by decide +kernel
theorem dX11_isFirst_78 : decode cX11_isFirst 78 = .ok (.iconst 1, 1) := by decide +kernel
theorem dX11_isFirst_79 : decode cX11_isFirst 79 = .ok (.goto 4, 3) := by decide +kernel
theorem hy_X11_isFirst : yX11_isFirst.cls ≠ "java/lang/invoke/MethodHandle" ∧ yX11_isFirst.cls ≠ "java/lang/invoke/VarHandle" ∧ (parseMethodDescriptor yX11_isFirst.desc).map (fun d => d.parameters.length) = some 4 := ⟨by decide, by decide, by decide +kernel⟩
def f_X11_isFirst_b40 : Nat → Int32 → Int32 → Int32 → Int32 → Int32 → Int32 → mS → Option ((Int32) × mS)
  | 0, _, _, _, _, _, _, _ => none
  | n + 1, l1, l2, l3, l4, l5, l6, S => 
  o_ck (¬ (l1 < 0 ∨ 33 ≤ (l1).toNatClampNeg)) (o_let (m_aI S 8 (l1).toNatClampNeg) fun x1 =>
  if x1 ≤ l6 then (
  o_ck (l5 = 0 ∨ l5 = 1) (some (l5, S))) else (
  if l5 = 0 then (
  o_ck (l5 = 0 ∨ l5 = 1) (some (l5, S))) else (
  o_call (f_X11_kind l1 l6 S) fun x2 S1 =>
  o_call (f_X11_kind l3 ((l4 + l6) - l2) S1) fun x3 S2 =>
  if x2 = x3 then (
  o_let (l6 + 1) fun x5 =>
  f_X11_isFirst_b40 n l1 l2 l3 l4 1 x5 S2) else (
  o_let (l6 + 1) fun x4 =>
  f_X11_isFirst_b40 n l1 l2 l3 l4 0 x4 S2))))
set_option maxHeartbeats 4000000 in
set_option maxRecDepth 100000 in
theorem w_X11_isFirst_b40 {l : Launch} {D : va_G} {Y : Nat → ClassId} {aR : Nat → Nat} {A : Nat → Prop} {ad : Nat → Nat} {p : Program} {e : Env} {s : State} {m : MethodId} {args : Array Value} {below : List Frame} {meth : Method} {c : Code} : ∀ (n : Nat) (l1 : Int32) (l2 : Int32) (l3 : Int32) (l4 : Int32) (l5 : Int32) (l6 : Int32) (S S' : mS) (r : Int32) (H : Heap) (locs : List Loc) (ls : Array Slot), jq_X D Y aR A p s m args meth c cX11_isFirst RX11 "isFirst" 7 (some .boolean) → mJ D Y A s ad S H locs → f_X11_isFirst_b40 n l1 l2 l3 l4 l5 l6 S = some (r, S') → lv_has ls 7 [(0, .ref (ad 0)), (1, .int l1), (2, .int l2), (3, .int l3), (4, .int l4), (5, .int l5), (6, .int l6)] → W p l e { frames := 1, cells := 0, slots := 0, locals := 22 } s m args below meth c H locs 0 0 (jq_Z below A (fun v k n H => v = (some (.int r)) ∧ k = 0 ∧ n = 0 ∧ mH D Y A ad S' H) s) (F0 m 40 ls []) := by
  intro n
  induction n with
  | zero =>
    intro l1 l2 l3 l4 l5 l6 S S' r H locs ls hX hJ hf hl
    cases hf
  | succ n ih =>
    intro l1 l2 l3 l4 l5 l6 S S' r H locs ls hX hJ hf hl
    rw [f_X11_isFirst_b40.eq_2] at hf
    have hx := hX.1
    have hb := hX.2.1
    have hm := hX.2.2.1
    have ho := hX.2.2.2.1
    have ht := hX.2.2.2.2.1
    have hn := hX.2.2.2.2.2.1.2.1
    refine lv_iload hx hb dX11_isFirst_40 (lv_at hl 6 rfl) ?_
    refine lv_aload_n hx hb dX11_isFirst_42 rfl (lv_at hl 0 rfl) ?_
    refine mg_manyOf hX hJ qw703 dX11_isFirst_43 ?_
    refine lv_iload_n hx hb dX11_isFirst_46 rfl (lv_at hl 1 rfl) ?_
    replace hf := o_ck_e hf
    obtain ⟨hk1, hf⟩ := hf
    replace hf := o_let_e hf
    obtain ⟨x1, hx1, hf⟩ := hf
    refine ma_I 8 hX hJ (by decide) hk1 hx1 dX11_isFirst_47 ?_
    refine lv_icmp_ge (tgt := 91) hx hb dX11_isFirst_48 (by decide) (fun c1 => ?_) (fun c1 => ?_)
    · replace hf := o_t hf c1
      refine lv_iload hx hb dX11_isFirst_91 (lv_at hl 5 rfl) ?_
      replace hf := o_ck_e hf
      obtain ⟨hc1, hf⟩ := hf
      obtain ⟨rfl, rfl⟩ := Prod.mk.inj (Option.some.inj hf)
      exact jq_zret hX hJ.2 (qz_b hc1) dX11_isFirst_93 ⟨rfl, rfl, rfl, hJ.1⟩
    · replace hf := o_f hf c1
      refine lv_iload hx hb dX11_isFirst_51 (lv_at hl 5 rfl) ?_
      refine lv_if_eq (tgt := 91) hx hb dX11_isFirst_53 (by decide) (fun c2 => ?_) (fun c2 => ?_)
      · replace hf := o_t hf c2
        refine lv_iload hx hb dX11_isFirst_91 (lv_at hl 5 rfl) ?_
        replace hf := o_ck_e hf
        obtain ⟨hc2, hf⟩ := hf
        obtain ⟨rfl, rfl⟩ := Prod.mk.inj (Option.some.inj hf)
        exact jq_zret hX hJ.2 (qz_b hc2) dX11_isFirst_93 ⟨rfl, rfl, rfl, hJ.1⟩
      · replace hf := o_f hf c2
        refine lv_aload_n hx hb dX11_isFirst_56 rfl (lv_at hl 0 rfl) ?_
        refine lv_iload_n hx hb dX11_isFirst_57 rfl (lv_at hl 1 rfl) ?_
        refine lv_iload hx hb dX11_isFirst_58 (lv_at hl 6 rfl) ?_
        replace hf := o_call_e hf
        obtain ⟨x2, S1, hq1, hf⟩ := hf
        refine jq_doM hX hJ (jq_okV (As := [.int l1, .int l6]) (rest := []) hx hb hm ho ht (mJ.recv hX hJ) qw883 qw885 qs81 qw886 qw7 hy_X11_kind rfl hl.1 (Nat.le_of_ble_eq_true rfl) dX11_isFirst_60) (c_X11_kind hq1) (Nat.le_of_ble_eq_true rfl) (Nat.le_of_ble_eq_true rfl) (Nat.le_refl _) (Nat.le_refl _) (fun H locs hJ' => ?_)
        clear hJ
        have hJ := hJ'
        clear hJ'
        refine lv_aload_n hx hb dX11_isFirst_63 rfl (lv_at hl 0 rfl) ?_
        refine lv_iload_n hx hb dX11_isFirst_64 rfl (lv_at hl 3 rfl) ?_
        refine lv_iload hx hb dX11_isFirst_65 (lv_at hl 4 rfl) ?_
        refine lv_iload hx hb dX11_isFirst_67 (lv_at hl 6 rfl) ?_
        refine lv_iadd hx hb dX11_isFirst_69 ?_
        refine lv_iload_n hx hb dX11_isFirst_70 rfl (lv_at hl 2 rfl) ?_
        refine lv_isub hx hb dX11_isFirst_71 ?_
        replace hf := o_call_e hf
        obtain ⟨x3, S2, hq2, hf⟩ := hf
        refine jq_doM hX hJ (jq_okV (As := [.int l3, .int ((l4 + l6) - l2)]) (rest := [.int x2]) hx hb hm ho ht (mJ.recv hX hJ) qw883 qw885 qs81 qw886 qw7 hy_X11_kind rfl hl.1 (Nat.le_of_ble_eq_true rfl) dX11_isFirst_72) (c_X11_kind hq2) (Nat.le_of_ble_eq_true rfl) (Nat.le_of_ble_eq_true rfl) (Nat.le_refl _) (Nat.le_refl _) (fun H locs hJ' => ?_)
        clear hJ
        have hJ := hJ'
        clear hJ'
        refine lv_icmp_ne (tgt := 82) hx hb dX11_isFirst_75 (by decide) (fun c3 => ?_) (fun c3 => ?_)
        · replace hf := o_f hf c3
          refine lv_iconst (v := 0) hx hb dX11_isFirst_82 (by decide) ?_
          refine lv_istore (lv' := [(5, .int 0), (0, .ref (ad 0)), (1, .int l1), (2, .int l2), (3, .int l3), (4, .int l4), (6, .int l6)]) hx hb dX11_isFirst_83 hl (by decide) rfl (fun ls hl' => ?_)
          clear hl
          have hl := hl'
          clear hl'
          replace hf := o_let_e hf
          obtain ⟨x4, hx4, hf⟩ := hf
          refine lv_iinc (v := x4) (lv' := [(6, .int x4), (5, .int 0), (0, .ref (ad 0)), (1, .int l1), (2, .int l2), (3, .int l3), (4, .int l4)]) hx hb dX11_isFirst_85 hl (k := 6) rfl (by rw [← hx4]; rfl) (by decide) rfl (fun ls hl' => ?_)
          clear hl
          have hl := hl'
          clear hl'
          refine lv_goto (tgt := 40) hx hb dX11_isFirst_88 (by decide) ?_
          replace hl := lv_sub hl (l' := [(0, .ref (ad 0)), (1, .int l1), (2, .int l2), (3, .int l3), (4, .int l4), (5, .int 0), (6, .int x4)]) [2, 3, 4, 5, 6, 1, 0] rfl
          exact ih l1 l2 l3 l4 0 x4 S2 S' r H locs ls hX hJ hf hl
        · replace hf := o_t hf c3
          refine lv_iconst (v := 1) hx hb dX11_isFirst_78 (by decide) ?_
          refine lv_goto (tgt := 83) hx hb dX11_isFirst_79 (by decide) ?_
          refine lv_istore (lv' := [(5, .int 1), (0, .ref (ad 0)), (1, .int l1), (2, .int l2), (3, .int l3), (4, .int l4), (6, .int l6)]) hx hb dX11_isFirst_83 hl (by decide) rfl (fun ls hl' => ?_)
          clear hl
          have hl := hl'
          clear hl'
          replace hf := o_let_e hf
          obtain ⟨x5, hx5, hf⟩ := hf
          refine lv_iinc (v := x5) (lv' := [(6, .int x5), (5, .int 1), (0, .ref (ad 0)), (1, .int l1), (2, .int l2), (3, .int l3), (4, .int l4)]) hx hb dX11_isFirst_85 hl (k := 6) rfl (by rw [← hx5]; rfl) (by decide) rfl (fun ls hl' => ?_)
          clear hl
          have hl := hl'
          clear hl'
          refine lv_goto (tgt := 40) hx hb dX11_isFirst_88 (by decide) ?_
          replace hl := lv_sub hl (l' := [(0, .ref (ad 0)), (1, .int l1), (2, .int l2), (3, .int l3), (4, .int l4), (5, .int 1), (6, .int x5)]) [2, 3, 4, 5, 6, 1, 0] rfl
          exact ih l1 l2 l3 l4 1 x5 S2 S' r H locs ls hX hJ hf hl
def f_X11_isFirst (p1 : Int32) (p2 : Int32) (p3 : Int32) (p4 : Int32) (S : mS) : Option ((Int32) × mS) :=
  o_ck (¬ (p1 < 0 ∨ 33 ≤ (p1).toNatClampNeg)) (o_let (m_aI S 8 (p1).toNatClampNeg) fun x1 =>
  if x1 < p2 then (
  f_X11_isFirst_b40 12 p1 p2 p3 p4 0 p2 S) else (
  o_ck (¬ (p1 < 0 ∨ 33 ≤ (p1).toNatClampNeg)) (o_let (m_aI S 8 (p1).toNatClampNeg) fun x2 =>
  o_ck (¬ (p3 < 0 ∨ 33 ≤ (p3).toNatClampNeg)) (o_let (m_aI S 8 (p3).toNatClampNeg) fun x3 =>
  if (x3 - p4) < (x2 - p2) then (
  f_X11_isFirst_b40 12 p1 p2 p3 p4 0 p2 S) else (
  f_X11_isFirst_b40 12 p1 p2 p3 p4 1 p2 S)))))
set_option maxHeartbeats 4000000 in
set_option maxRecDepth 100000 in
theorem c_X11_isFirst {l : Launch} {D : va_G} {Y : Nat → ClassId} {aR : Nat → Nat} {A : Nat → Prop} {ad : Nat → Nat} {p1 : Int32} {p2 : Int32} {p3 : Int32} {p4 : Int32} {S S' : mS} {r : Int32} (hf : f_X11_isFirst p1 p2 p3 p4 S = some (r, S')) : jq_M l D Y aR A ad yX11_isFirst cX11_isFirst 7 (some .boolean) 1 22 [.ref (ad 0), .int p1, .int p2, .int p3, .int p4] S (some (.int r)) S' := by
  unfold f_X11_isFirst at hf
  refine jq_enterM (by decide) (Nat.le_of_ble_eq_true rfl) fun p e s m args below meth c ls H locs hX hJ hl => ?_
  have hl : lv_has ls 7 [(0, .ref (ad 0)), (1, .int p1), (2, .int p2), (3, .int p3), (4, .int p4)] := hl
  have hx := hX.1
  have hb := hX.2.1
  have hm := hX.2.2.1
  have ho := hX.2.2.2.1
  have ht := hX.2.2.2.2.1
  have hn := hX.2.2.2.2.2.1.2.1
  refine lv_aload_n hx hb dX11_isFirst_0 rfl (lv_at hl 0 rfl) ?_
  refine mg_manyOf hX hJ qw703 dX11_isFirst_1 ?_
  refine lv_iload_n hx hb dX11_isFirst_4 rfl (lv_at hl 1 rfl) ?_
  replace hf := o_ck_e hf
  obtain ⟨hk1, hf⟩ := hf
  replace hf := o_let_e hf
  obtain ⟨x1, hx1, hf⟩ := hf
  refine ma_I 8 hX hJ (by decide) hk1 hx1 dX11_isFirst_5 ?_
  refine lv_iload_n hx hb dX11_isFirst_6 rfl (lv_at hl 2 rfl) ?_
  refine lv_icmp_lt (tgt := 34) hx hb dX11_isFirst_7 (by decide) (fun c1 => ?_) (fun c1 => ?_)
  · replace hf := o_t hf c1
    refine lv_iconst (v := 0) hx hb dX11_isFirst_34 (by decide) ?_
    refine lv_istore (lv' := [(5, .int 0), (0, .ref (ad 0)), (1, .int p1), (2, .int p2), (3, .int p3), (4, .int p4)]) hx hb dX11_isFirst_35 hl (by decide) rfl (fun ls hl' => ?_)
    clear hl
    have hl := hl'
    clear hl'
    refine lv_iload_n hx hb dX11_isFirst_37 rfl (lv_at hl 3 rfl) ?_
    refine lv_istore (lv' := [(6, .int p2), (5, .int 0), (0, .ref (ad 0)), (1, .int p1), (2, .int p2), (3, .int p3), (4, .int p4)]) hx hb dX11_isFirst_38 hl (by decide) rfl (fun ls hl' => ?_)
    clear hl
    have hl := hl'
    clear hl'
    replace hl := lv_sub hl (l' := [(0, .ref (ad 0)), (1, .int p1), (2, .int p2), (3, .int p3), (4, .int p4), (5, .int 0), (6, .int p2)]) [2, 3, 4, 5, 6, 1, 0] rfl
    exact w_X11_isFirst_b40 12 p1 p2 p3 p4 0 p2 S S' r H locs ls hX hJ hf hl
  · replace hf := o_f hf c1
    refine lv_aload_n hx hb dX11_isFirst_10 rfl (lv_at hl 0 rfl) ?_
    refine mg_manyOf hX hJ qw703 dX11_isFirst_11 ?_
    refine lv_iload_n hx hb dX11_isFirst_14 rfl (lv_at hl 1 rfl) ?_
    replace hf := o_ck_e hf
    obtain ⟨hk2, hf⟩ := hf
    replace hf := o_let_e hf
    obtain ⟨x2, hx2, hf⟩ := hf
    refine ma_I 8 hX hJ (by decide) hk2 hx2 dX11_isFirst_15 ?_
    refine lv_iload_n hx hb dX11_isFirst_16 rfl (lv_at hl 2 rfl) ?_
    refine lv_isub hx hb dX11_isFirst_17 ?_
    refine lv_aload_n hx hb dX11_isFirst_18 rfl (lv_at hl 0 rfl) ?_
    refine mg_manyOf hX hJ qw703 dX11_isFirst_19 ?_
    refine lv_iload_n hx hb dX11_isFirst_22 rfl (lv_at hl 3 rfl) ?_
    replace hf := o_ck_e hf
    obtain ⟨hk3, hf⟩ := hf
    replace hf := o_let_e hf
    obtain ⟨x3, hx3, hf⟩ := hf
    refine ma_I 8 hX hJ (by decide) hk3 hx3 dX11_isFirst_23 ?_
    refine lv_iload hx hb dX11_isFirst_24 (lv_at hl 4 rfl) ?_
    refine lv_isub hx hb dX11_isFirst_26 ?_
    refine lv_icmp_gt (tgt := 34) hx hb dX11_isFirst_27 (by decide) (fun c2 => ?_) (fun c2 => ?_)
    · replace hf := o_t hf c2
      refine lv_iconst (v := 0) hx hb dX11_isFirst_34 (by decide) ?_
      refine lv_istore (lv' := [(5, .int 0), (0, .ref (ad 0)), (1, .int p1), (2, .int p2), (3, .int p3), (4, .int p4)]) hx hb dX11_isFirst_35 hl (by decide) rfl (fun ls hl' => ?_)
      clear hl
      have hl := hl'
      clear hl'
      refine lv_iload_n hx hb dX11_isFirst_37 rfl (lv_at hl 3 rfl) ?_
      refine lv_istore (lv' := [(6, .int p2), (5, .int 0), (0, .ref (ad 0)), (1, .int p1), (2, .int p2), (3, .int p3), (4, .int p4)]) hx hb dX11_isFirst_38 hl (by decide) rfl (fun ls hl' => ?_)
      clear hl
      have hl := hl'
      clear hl'
      replace hl := lv_sub hl (l' := [(0, .ref (ad 0)), (1, .int p1), (2, .int p2), (3, .int p3), (4, .int p4), (5, .int 0), (6, .int p2)]) [2, 3, 4, 5, 6, 1, 0] rfl
      exact w_X11_isFirst_b40 12 p1 p2 p3 p4 0 p2 S S' r H locs ls hX hJ hf hl
    · replace hf := o_f hf c2
      refine lv_iconst (v := 1) hx hb dX11_isFirst_30 (by decide) ?_
      refine lv_goto (tgt := 35) hx hb dX11_isFirst_31 (by decide) ?_
      refine lv_istore (lv' := [(5, .int 1), (0, .ref (ad 0)), (1, .int p1), (2, .int p2), (3, .int p3), (4, .int p4)]) hx hb dX11_isFirst_35 hl (by decide) rfl (fun ls hl' => ?_)
      clear hl
      have hl := hl'
      clear hl'
      refine lv_iload_n hx hb dX11_isFirst_37 rfl (lv_at hl 3 rfl) ?_
      refine lv_istore (lv' := [(6, .int p2), (5, .int 1), (0, .ref (ad 0)), (1, .int p1), (2, .int p2), (3, .int p3), (4, .int p4)]) hx hb dX11_isFirst_38 hl (by decide) rfl (fun ls hl' => ?_)
      clear hl
      have hl := hl'
      clear hl'
      replace hl := lv_sub hl (l' := [(0, .ref (ad 0)), (1, .int p1), (2, .int p2), (3, .int p3), (4, .int p4), (5, .int 1), (6, .int p2)]) [2, 3, 4, 5, 6, 1, 0] rfl
      exact w_X11_isFirst_b40 12 p1 p2 p3 p4 1 p2 S S' r H locs ls hX hJ hf hl
theorem dX11_isAlike_0 : decode cX11_isAlike 0 = .ok (.aload_n 0, 1) := by decide +kernel
theorem dX11_isAlike_1 : decode cX11_isAlike 1 = .ok (.getfield 45, 3) := by decide +kernel
theorem dX11_isAlike_4 : decode cX11_isAlike 4 = .ok (.iload_n 1, 1) := by decide +kernel
theorem dX11_isAlike_5 : decode cX11_isAlike 5 = .ok (.iaload, 1) := by decide +kernel
theorem dX11_isAlike_6 : decode cX11_isAlike 6 = .ok (.aload_n 0, 1) := by decide +kernel
theorem dX11_isAlike_7 : decode cX11_isAlike 7 = .ok (.getfield 45, 3) := by decide +kernel
theorem dX11_isAlike_10 : decode cX11_isAlike 10 = .ok (.iload_n 2, 1) := by decide +kernel
theorem dX11_isAlike_11 : decode cX11_isAlike 11 = .ok (.iaload, 1) := by decide +kernel
theorem dX11_isAlike_12 : decode cX11_isAlike 12 = .ok (.if_icmp .ne 33, 3) := by decide +kernel
theorem dX11_isAlike_45 : decode cX11_isAlike 45 = .ok (.iconst 0, 1) := by decide +kernel
theorem dX11_isAlike_46 : decode cX11_isAlike 46 = .ok (.ireturn, 1) := by decide +kernel
theorem dX11_isAlike_15 : decode cX11_isAlike 15 = .ok (.aload_n 0, 1) := by decide +kernel
theorem dX11_isAlike_16 : decode cX11_isAlike 16 = .ok (.getfield 51, 3) := by decide +kernel
theorem dX11_isAlike_19 : decode cX11_isAlike 19 = .ok (.iload_n 1, 1) := by decide +kernel
theorem dX11_isAlike_20 : decode cX11_isAlike 20 = .ok (.iaload, 1) := by decide +kernel
theorem dX11_isAlike_21 : decode cX11_isAlike 21 = .ok (.aload_n 0, 1) := by decide +kernel
theorem dX11_isAlike_22 : decode cX11_isAlike 22 = .ok (.getfield 51, 3) := by decide +kernel
theorem dX11_isAlike_25 : decode cX11_isAlike 25 = .ok (.iload_n 2, 1) := by decide +kernel
theorem dX11_isAlike_26 : decode cX11_isAlike 26 = .ok (.iaload, 1) := by decide +kernel
theorem dX11_isAlike_27 : decode cX11_isAlike 27 = .ok (.if_icmp .ne 18, 3) := by decide +kernel
theorem dX11_isAlike_30 : decode cX11_isAlike 30 = .ok (.aload_n 0, 1) := by decide +kernel
theorem dX11_isAlike_31 : decode cX11_isAlike 31 = .ok (.iload_n 2, 1) := by decide +kernel
theorem dX11_isAlike_32 : decode cX11_isAlike 32 = .ok (.iconst 0, 1) := by decide +kernel
theorem dX11_isAlike_33 : decode cX11_isAlike 33 = .ok (.iload_n 1, 1) := by decide +kernel
theorem dX11_isAlike_34 : decode cX11_isAlike 34 = .ok (.iconst 0, 1) := by decide +kernel
theorem dX11_isAlike_35 : decode cX11_isAlike 35 = .ok (.invokevirtual 174, 3) := by decide +kernel
theorem dX11_isAlike_38 : decode cX11_isAlike 38 = .ok (.ifCond .eq 7, 3) := by decide +kernel
theorem dX11_isAlike_41 : decode cX11_isAlike 41 = .ok (.iconst 1, 1) := by decide +kernel
theorem dX11_isAlike_42 : decode cX11_isAlike 42 = .ok (.goto 4, 3) := by decide +kernel
theorem hy_X11_isAlike : yX11_isAlike.cls ≠ "java/lang/invoke/MethodHandle" ∧ yX11_isAlike.cls ≠ "java/lang/invoke/VarHandle" ∧ (parseMethodDescriptor yX11_isAlike.desc).map (fun d => d.parameters.length) = some 2 := ⟨by decide, by decide, by decide +kernel⟩
def f_X11_isAlike (p1 : Int32) (p2 : Int32) (S : mS) : Option ((Int32) × mS) :=
  o_ck (¬ (p1 < 0 ∨ 33 ≤ (p1).toNatClampNeg)) (o_let (m_aI S 8 (p1).toNatClampNeg) fun x1 =>
  o_ck (¬ (p2 < 0 ∨ 33 ≤ (p2).toNatClampNeg)) (o_let (m_aI S 8 (p2).toNatClampNeg) fun x2 =>
  if x1 = x2 then (
  o_ck (¬ (p1 < 0 ∨ 33 ≤ (p1).toNatClampNeg)) (o_let (m_aI S 10 (p1).toNatClampNeg) fun x3 =>
  o_ck (¬ (p2 < 0 ∨ 33 ≤ (p2).toNatClampNeg)) (o_let (m_aI S 10 (p2).toNatClampNeg) fun x4 =>
  if x3 = x4 then (
  o_call (f_X11_isFirst p2 0 p1 0 S) fun x5 S1 =>
  if x5 = 0 then (
  some (0, S1)) else (
  some (1, S1))) else (
  some (0, S))))) else (
  some (0, S))))
set_option maxHeartbeats 4000000 in
set_option maxRecDepth 100000 in
theorem c_X11_isAlike {l : Launch} {D : va_G} {Y : Nat → ClassId} {aR : Nat → Nat} {A : Nat → Prop} {ad : Nat → Nat} {p1 : Int32} {p2 : Int32} {S S' : mS} {r : Int32} (hf : f_X11_isAlike p1 p2 S = some (r, S')) : jq_M l D Y aR A ad yX11_isAlike cX11_isAlike 3 (some .boolean) 2 48 [.ref (ad 0), .int p1, .int p2] S (some (.int r)) S' := by
  unfold f_X11_isAlike at hf
  refine jq_enterM (by decide) (Nat.le_of_ble_eq_true rfl) fun p e s m args below meth c ls H locs hX hJ hl => ?_
  have hl : lv_has ls 3 [(0, .ref (ad 0)), (1, .int p1), (2, .int p2)] := hl
  have hx := hX.1
  have hb := hX.2.1
  have hm := hX.2.2.1
  have ho := hX.2.2.2.1
  have ht := hX.2.2.2.2.1
  have hn := hX.2.2.2.2.2.1.2.1
  refine lv_aload_n hx hb dX11_isAlike_0 rfl (lv_at hl 0 rfl) ?_
  refine mg_manyOf hX hJ qw703 dX11_isAlike_1 ?_
  refine lv_iload_n hx hb dX11_isAlike_4 rfl (lv_at hl 1 rfl) ?_
  replace hf := o_ck_e hf
  obtain ⟨hk1, hf⟩ := hf
  replace hf := o_let_e hf
  obtain ⟨x1, hx1, hf⟩ := hf
  refine ma_I 8 hX hJ (by decide) hk1 hx1 dX11_isAlike_5 ?_
  refine lv_aload_n hx hb dX11_isAlike_6 rfl (lv_at hl 0 rfl) ?_
  refine mg_manyOf hX hJ qw703 dX11_isAlike_7 ?_
  refine lv_iload_n hx hb dX11_isAlike_10 rfl (lv_at hl 2 rfl) ?_
  replace hf := o_ck_e hf
  obtain ⟨hk2, hf⟩ := hf
  replace hf := o_let_e hf
  obtain ⟨x2, hx2, hf⟩ := hf
  refine ma_I 8 hX hJ (by decide) hk2 hx2 dX11_isAlike_11 ?_
  refine lv_icmp_ne (tgt := 45) hx hb dX11_isAlike_12 (by decide) (fun c1 => ?_) (fun c1 => ?_)
  · replace hf := o_f hf c1
    refine lv_iconst (v := 0) hx hb dX11_isAlike_45 (by decide) ?_
    obtain ⟨rfl, rfl⟩ := Prod.mk.inj (Option.some.inj hf)
    exact jq_zret hX hJ.2 (by decide) dX11_isAlike_46 ⟨rfl, rfl, rfl, hJ.1⟩
  · replace hf := o_t hf c1
    refine lv_aload_n hx hb dX11_isAlike_15 rfl (lv_at hl 0 rfl) ?_
    refine mg_resultOf hX hJ qw705 dX11_isAlike_16 ?_
    refine lv_iload_n hx hb dX11_isAlike_19 rfl (lv_at hl 1 rfl) ?_
    replace hf := o_ck_e hf
    obtain ⟨hk3, hf⟩ := hf
    replace hf := o_let_e hf
    obtain ⟨x3, hx3, hf⟩ := hf
    refine ma_I 10 hX hJ (by decide) hk3 hx3 dX11_isAlike_20 ?_
    refine lv_aload_n hx hb dX11_isAlike_21 rfl (lv_at hl 0 rfl) ?_
    refine mg_resultOf hX hJ qw705 dX11_isAlike_22 ?_
    refine lv_iload_n hx hb dX11_isAlike_25 rfl (lv_at hl 2 rfl) ?_
    replace hf := o_ck_e hf
    obtain ⟨hk4, hf⟩ := hf
    replace hf := o_let_e hf
    obtain ⟨x4, hx4, hf⟩ := hf
    refine ma_I 10 hX hJ (by decide) hk4 hx4 dX11_isAlike_26 ?_
    refine lv_icmp_ne (tgt := 45) hx hb dX11_isAlike_27 (by decide) (fun c2 => ?_) (fun c2 => ?_)
    · replace hf := o_f hf c2
      refine lv_iconst (v := 0) hx hb dX11_isAlike_45 (by decide) ?_
      obtain ⟨rfl, rfl⟩ := Prod.mk.inj (Option.some.inj hf)
      exact jq_zret hX hJ.2 (by decide) dX11_isAlike_46 ⟨rfl, rfl, rfl, hJ.1⟩
    · replace hf := o_t hf c2
      refine lv_aload_n hx hb dX11_isAlike_30 rfl (lv_at hl 0 rfl) ?_
      refine lv_iload_n hx hb dX11_isAlike_31 rfl (lv_at hl 2 rfl) ?_
      refine lv_iconst (v := 0) hx hb dX11_isAlike_32 (by decide) ?_
      refine lv_iload_n hx hb dX11_isAlike_33 rfl (lv_at hl 1 rfl) ?_
      refine lv_iconst (v := 0) hx hb dX11_isAlike_34 (by decide) ?_
      replace hf := o_call_e hf
      obtain ⟨x5, S1, hq1, hf⟩ := hf
      refine jq_doM hX hJ (jq_okV (As := [.int p2, .int 0, .int p1, .int 0]) (rest := []) hx hb hm ho ht (mJ.recv hX hJ) qw899 qw901 qs85 qw902 qw7 hy_X11_isFirst rfl hl.1 (Nat.le_of_ble_eq_true rfl) dX11_isAlike_35) (c_X11_isFirst hq1) (Nat.le_of_ble_eq_true rfl) (Nat.le_of_ble_eq_true rfl) (Nat.le_refl _) (Nat.le_refl _) (fun H locs hJ' => ?_)
      clear hJ
      have hJ := hJ'
      clear hJ'
      refine lv_if_eq (tgt := 45) hx hb dX11_isAlike_38 (by decide) (fun c3 => ?_) (fun c3 => ?_)
      · replace hf := o_t hf c3
        refine lv_iconst (v := 0) hx hb dX11_isAlike_45 (by decide) ?_
        obtain ⟨rfl, rfl⟩ := Prod.mk.inj (Option.some.inj hf)
        exact jq_zret hX hJ.2 (by decide) dX11_isAlike_46 ⟨rfl, rfl, rfl, hJ.1⟩
      · replace hf := o_f hf c3
        refine lv_iconst (v := 1) hx hb dX11_isAlike_41 (by decide) ?_
        refine lv_goto (tgt := 46) hx hb dX11_isAlike_42 (by decide) ?_
        obtain ⟨rfl, rfl⟩ := Prod.mk.inj (Option.some.inj hf)
        exact jq_zret hX hJ.2 (by decide) dX11_isAlike_46 ⟨rfl, rfl, rfl, hJ.1⟩
theorem dX11_makeGuard_0 : decode cX11_makeGuard 0 = .ok (.aload_n 0, 1) := by decide +kernel
theorem dX11_makeGuard_1 : decode cX11_makeGuard 1 = .ok (.iload_n 1, 1) := by decide +kernel
theorem dX11_makeGuard_2 : decode cX11_makeGuard 2 = .ok (.invokevirtual 200, 3) := by decide +kernel
theorem dX11_makeGuard_5 : decode cX11_makeGuard 5 = .ok (.ifCond .eq 19, 3) := by decide +kernel
theorem dX11_makeGuard_24 : decode cX11_makeGuard 24 = .ok (.iconst (-1), 1) := by decide +kernel
theorem dX11_makeGuard_25 : decode cX11_makeGuard 25 = .ok (.ireturn, 1) := by decide +kernel
theorem dX11_makeGuard_8 : decode cX11_makeGuard 8 = .ok (.aload_n 0, 1) := by decide +kernel
theorem dX11_makeGuard_9 : decode cX11_makeGuard 9 = .ok (.iload_n 2, 1) := by decide +kernel
theorem dX11_makeGuard_10 : decode cX11_makeGuard 10 = .ok (.invokevirtual 200, 3) := by decide +kernel
theorem dX11_makeGuard_13 : decode cX11_makeGuard 13 = .ok (.ifCond .eq 11, 3) := by decide +kernel
theorem dX11_makeGuard_16 : decode cX11_makeGuard 16 = .ok (.aload_n 0, 1) := by decide +kernel
theorem dX11_makeGuard_17 : decode cX11_makeGuard 17 = .ok (.iload_n 3, 1) := by decide +kernel
theorem dX11_makeGuard_18 : decode cX11_makeGuard 18 = .ok (.invokevirtual 200, 3) := by decide +kernel
theorem dX11_makeGuard_21 : decode cX11_makeGuard 21 = .ok (.ifCond .ne 5, 3) := by decide +kernel
theorem dX11_makeGuard_26 : decode cX11_makeGuard 26 = .ok (.aload_n 0, 1) := by decide +kernel
theorem dX11_makeGuard_27 : decode cX11_makeGuard 27 = .ok (.iload_n 1, 1) := by decide +kernel
theorem dX11_makeGuard_28 : decode cX11_makeGuard 28 = .ok (.putfield 187, 3) := by decide +kernel
theorem dX11_makeGuard_31 : decode cX11_makeGuard 31 = .ok (.aload_n 0, 1) := by decide +kernel
theorem dX11_makeGuard_32 : decode cX11_makeGuard 32 = .ok (.iload_n 2, 1) := by decide +kernel
theorem dX11_makeGuard_33 : decode cX11_makeGuard 33 = .ok (.putfield 190, 3) := by decide +kernel
theorem dX11_makeGuard_36 : decode cX11_makeGuard 36 = .ok (.aload_n 0, 1) := by decide +kernel
theorem dX11_makeGuard_37 : decode cX11_makeGuard 37 = .ok (.iload_n 3, 1) := by decide +kernel
theorem dX11_makeGuard_38 : decode cX11_makeGuard 38 = .ok (.putfield 203, 3) := by decide +kernel
theorem dX11_makeGuard_41 : decode cX11_makeGuard 41 = .ok (.aload_n 0, 1) := by decide +kernel
theorem dX11_makeGuard_42 : decode cX11_makeGuard 42 = .ok (.aload_n 0, 1) := by decide +kernel
theorem dX11_makeGuard_43 : decode cX11_makeGuard 43 = .ok (.getfield 51, 3) := by decide +kernel
theorem dX11_makeGuard_46 : decode cX11_makeGuard 46 = .ok (.iload_n 2, 1) := by decide +kernel
theorem dX11_makeGuard_47 : decode cX11_makeGuard 47 = .ok (.iaload, 1) := by decide +kernel
theorem dX11_makeGuard_48 : decode cX11_makeGuard 48 = .ok (.invokevirtual 197, 3) := by decide +kernel
theorem dX11_makeGuard_51 : decode cX11_makeGuard 51 = .ok (.aload_n 0, 1) := by decide +kernel
theorem dX11_makeGuard_52 : decode cX11_makeGuard 52 = .ok (.iload_n 2, 1) := by decide +kernel
theorem dX11_makeGuard_53 : decode cX11_makeGuard 53 = .ok (.iconst 0, 1) := by decide +kernel
theorem dX11_makeGuard_54 : decode cX11_makeGuard 54 = .ok (.invokevirtual 206, 3) := by decide +kernel
theorem dX11_makeGuard_57 : decode cX11_makeGuard 57 = .ok (.aload_n 0, 1) := by decide +kernel
theorem dX11_makeGuard_58 : decode cX11_makeGuard 58 = .ok (.getfield 51, 3) := by decide +kernel
theorem dX11_makeGuard_61 : decode cX11_makeGuard 61 = .ok (.iload_n 1, 1) := by decide +kernel
theorem dX11_makeGuard_62 : decode cX11_makeGuard 62 = .ok (.iaload, 1) := by decide +kernel
theorem dX11_makeGuard_63 : decode cX11_makeGuard 63 = .ok (.ifCond .ne 27, 3) := by decide +kernel
theorem dX11_makeGuard_90 : decode cX11_makeGuard 90 = .ok (.bipush (-3), 2) := by decide +kernel
theorem dX11_makeGuard_92 : decode cX11_makeGuard 92 = .ok (.ireturn, 1) := by decide +kernel
theorem dX11_makeGuard_66 : decode cX11_makeGuard 66 = .ok (.aload_n 0, 1) := by decide +kernel
theorem dX11_makeGuard_67 : decode cX11_makeGuard 67 = .ok (.iload_n 2, 1) := by decide +kernel
theorem dX11_makeGuard_68 : decode cX11_makeGuard 68 = .ok (.iload_n 3, 1) := by decide +kernel
theorem dX11_makeGuard_69 : decode cX11_makeGuard 69 = .ok (.invokevirtual 213, 3) := by decide +kernel
theorem dX11_makeGuard_72 : decode cX11_makeGuard 72 = .ok (.ifCond .eq 18, 3) := by decide +kernel
theorem dX11_makeGuard_75 : decode cX11_makeGuard 75 = .ok (.aload_n 0, 1) := by decide +kernel
theorem dX11_makeGuard_76 : decode cX11_makeGuard 76 = .ok (.iload_n 1, 1) := by decide +kernel
theorem dX11_makeGuard_77 : decode cX11_makeGuard 77 = .ok (.iconst 0, 1) := by decide +kernel
theorem dX11_makeGuard_78 : decode cX11_makeGuard 78 = .ok (.iload_n 2, 1) := by decide +kernel
theorem dX11_makeGuard_79 : decode cX11_makeGuard 79 = .ok (.iconst 0, 1) := by decide +kernel
theorem dX11_makeGuard_80 : decode cX11_makeGuard 80 = .ok (.invokevirtual 174, 3) := by decide +kernel
theorem dX11_makeGuard_83 : decode cX11_makeGuard 83 = .ok (.ifCond .eq 7, 3) := by decide +kernel
theorem dX11_makeGuard_86 : decode cX11_makeGuard 86 = .ok (.iconst 0, 1) := by decide +kernel
theorem dX11_makeGuard_87 : decode cX11_makeGuard 87 = .ok (.goto 5, 3) := by decide +kernel
theorem hy_X11_makeGuard : yX11_makeGuard.cls ≠ "java/lang/invoke/MethodHandle" ∧ yX11_makeGuard.cls ≠ "java/lang/invoke/VarHandle" ∧ (parseMethodDescriptor yX11_makeGuard.desc).map (fun d => d.parameters.length) = some 3 := ⟨by decide, by decide, by decide +kernel⟩
def f_X11_makeGuard (p1 : Int32) (p2 : Int32) (p3 : Int32) (S : mS) : Option ((Int32) × mS) :=
  o_call (f_X11_isHandle p1 S) fun x1 S1 =>
  if x1 = 0 then (
  some ((-1), S1)) else (
  o_call (f_X11_isHandle p2 S1) fun x2 S2 =>
  if x2 = 0 then (
  some ((-1), S2)) else (
  o_call (f_X11_isHandle p3 S2) fun x3 S3 =>
  if x3 = 0 then (
  some ((-1), S3)) else (
  o_let (m_pI S3 4 p1) fun S4 =>
  o_let (m_pI S4 5 p2) fun S5 =>
  o_let (m_pI S5 6 p3) fun S6 =>
  o_ck (¬ (p2 < 0 ∨ 33 ≤ (p2).toNatClampNeg)) (o_let (m_aI S6 10 (p2).toNatClampNeg) fun x4 =>
  o_call (f_X11_gives x4 S6) fun _ S7 =>
  o_call (f_X11_takesOf p2 0 S7) fun _ S8 =>
  o_ck (¬ (p1 < 0 ∨ 33 ≤ (p1).toNatClampNeg)) (o_let (m_aI S8 10 (p1).toNatClampNeg) fun x5 =>
  if x5 = 0 then (
  o_call (f_X11_isAlike p2 p3 S8) fun x6 S9 =>
  if x6 = 0 then (
  some ((-3), S9)) else (
  o_call (f_X11_isFirst p1 0 p2 0 S9) fun x7 S10 =>
  if x7 = 0 then (
  some ((-3), S10)) else (
  some (0, S10)))) else (
  some ((-3), S8)))))))
set_option maxHeartbeats 4000000 in
set_option maxRecDepth 100000 in
theorem c_X11_makeGuard {l : Launch} {D : va_G} {Y : Nat → ClassId} {aR : Nat → Nat} {A : Nat → Prop} {ad : Nat → Nat} {p1 : Int32} {p2 : Int32} {p3 : Int32} {S S' : mS} {r : Int32} (hf : f_X11_makeGuard p1 p2 p3 S = some (r, S')) : jq_M l D Y aR A ad yX11_makeGuard cX11_makeGuard 4 (some .int) 3 70 [.ref (ad 0), .int p1, .int p2, .int p3] S (some (.int r)) S' := by
  unfold f_X11_makeGuard at hf
  refine jq_enterM (by decide) (Nat.le_of_ble_eq_true rfl) fun p e s m args below meth c ls H locs hX hJ hl => ?_
  have hl : lv_has ls 4 [(0, .ref (ad 0)), (1, .int p1), (2, .int p2), (3, .int p3)] := hl
  have hx := hX.1
  have hb := hX.2.1
  have hm := hX.2.2.1
  have ho := hX.2.2.2.1
  have ht := hX.2.2.2.2.1
  have hn := hX.2.2.2.2.2.1.2.1
  refine lv_aload_n hx hb dX11_makeGuard_0 rfl (lv_at hl 0 rfl) ?_
  refine lv_iload_n hx hb dX11_makeGuard_1 rfl (lv_at hl 1 rfl) ?_
  replace hf := o_call_e hf
  obtain ⟨x1, S1, hq1, hf⟩ := hf
  refine jq_doM hX hJ (jq_okV (As := [.int p1]) (rest := []) hx hb hm ho ht (mJ.recv hX hJ) qw879 qw881 qs80 qw882 qw7 hy_X11_isHandle rfl hl.1 (Nat.le_of_ble_eq_true rfl) dX11_makeGuard_2) (c_X11_isHandle hq1) (Nat.le_of_ble_eq_true rfl) (Nat.le_of_ble_eq_true rfl) (Nat.le_refl _) (Nat.le_refl _) (fun H locs hJ' => ?_)
  clear hJ
  have hJ := hJ'
  clear hJ'
  refine lv_if_eq (tgt := 24) hx hb dX11_makeGuard_5 (by decide) (fun c1 => ?_) (fun c1 => ?_)
  · replace hf := o_t hf c1
    refine lv_iconst (v := (-1)) hx hb dX11_makeGuard_24 (by decide) ?_
    obtain ⟨rfl, rfl⟩ := Prod.mk.inj (Option.some.inj hf)
    exact jq_iret hX hJ.2 dX11_makeGuard_25 ⟨rfl, rfl, rfl, hJ.1⟩
  · replace hf := o_f hf c1
    refine lv_aload_n hx hb dX11_makeGuard_8 rfl (lv_at hl 0 rfl) ?_
    refine lv_iload_n hx hb dX11_makeGuard_9 rfl (lv_at hl 2 rfl) ?_
    replace hf := o_call_e hf
    obtain ⟨x2, S2, hq2, hf⟩ := hf
    refine jq_doM hX hJ (jq_okV (As := [.int p2]) (rest := []) hx hb hm ho ht (mJ.recv hX hJ) qw879 qw881 qs80 qw882 qw7 hy_X11_isHandle rfl hl.1 (Nat.le_of_ble_eq_true rfl) dX11_makeGuard_10) (c_X11_isHandle hq2) (Nat.le_of_ble_eq_true rfl) (Nat.le_of_ble_eq_true rfl) (Nat.le_refl _) (Nat.le_refl _) (fun H locs hJ' => ?_)
    clear hJ
    have hJ := hJ'
    clear hJ'
    refine lv_if_eq (tgt := 24) hx hb dX11_makeGuard_13 (by decide) (fun c2 => ?_) (fun c2 => ?_)
    · replace hf := o_t hf c2
      refine lv_iconst (v := (-1)) hx hb dX11_makeGuard_24 (by decide) ?_
      obtain ⟨rfl, rfl⟩ := Prod.mk.inj (Option.some.inj hf)
      exact jq_iret hX hJ.2 dX11_makeGuard_25 ⟨rfl, rfl, rfl, hJ.1⟩
    · replace hf := o_f hf c2
      refine lv_aload_n hx hb dX11_makeGuard_16 rfl (lv_at hl 0 rfl) ?_
      refine lv_iload_n hx hb dX11_makeGuard_17 rfl (lv_at hl 3 rfl) ?_
      replace hf := o_call_e hf
      obtain ⟨x3, S3, hq3, hf⟩ := hf
      refine jq_doM hX hJ (jq_okV (As := [.int p3]) (rest := []) hx hb hm ho ht (mJ.recv hX hJ) qw879 qw881 qs80 qw882 qw7 hy_X11_isHandle rfl hl.1 (Nat.le_of_ble_eq_true rfl) dX11_makeGuard_18) (c_X11_isHandle hq3) (Nat.le_of_ble_eq_true rfl) (Nat.le_of_ble_eq_true rfl) (Nat.le_refl _) (Nat.le_refl _) (fun H locs hJ' => ?_)
      clear hJ
      have hJ := hJ'
      clear hJ'
      refine lv_if_ne (tgt := 26) hx hb dX11_makeGuard_21 (by decide) (fun c3 => ?_) (fun c3 => ?_)
      · replace hf := o_f hf c3
        refine lv_aload_n hx hb dX11_makeGuard_26 rfl (lv_at hl 0 rfl) ?_
        refine lv_iload_n hx hb dX11_makeGuard_27 rfl (lv_at hl 1 rfl) ?_
        replace hf := o_let_e hf
        obtain ⟨S4, hS4, hf⟩ := hf
        refine mp_madeA hX hJ hS4 qw706 dX11_makeGuard_28 (fun H locs hJ' => ?_)
        clear hJ
        have hJ := hJ'
        clear hJ'
        refine lv_aload_n hx hb dX11_makeGuard_31 rfl (lv_at hl 0 rfl) ?_
        refine lv_iload_n hx hb dX11_makeGuard_32 rfl (lv_at hl 2 rfl) ?_
        replace hf := o_let_e hf
        obtain ⟨S5, hS5, hf⟩ := hf
        refine mp_madeB hX hJ hS5 qw707 dX11_makeGuard_33 (fun H locs hJ' => ?_)
        clear hJ
        have hJ := hJ'
        clear hJ'
        refine lv_aload_n hx hb dX11_makeGuard_36 rfl (lv_at hl 0 rfl) ?_
        refine lv_iload_n hx hb dX11_makeGuard_37 rfl (lv_at hl 3 rfl) ?_
        replace hf := o_let_e hf
        obtain ⟨S6, hS6, hf⟩ := hf
        refine mp_madeC hX hJ hS6 qw708 dX11_makeGuard_38 (fun H locs hJ' => ?_)
        clear hJ
        have hJ := hJ'
        clear hJ'
        refine lv_aload_n hx hb dX11_makeGuard_41 rfl (lv_at hl 0 rfl) ?_
        refine lv_aload_n hx hb dX11_makeGuard_42 rfl (lv_at hl 0 rfl) ?_
        refine mg_resultOf hX hJ qw705 dX11_makeGuard_43 ?_
        refine lv_iload_n hx hb dX11_makeGuard_46 rfl (lv_at hl 2 rfl) ?_
        replace hf := o_ck_e hf
        obtain ⟨hk1, hf⟩ := hf
        replace hf := o_let_e hf
        obtain ⟨x4, hx4, hf⟩ := hf
        refine ma_I 10 hX hJ (by decide) hk1 hx4 dX11_makeGuard_47 ?_
        replace hf := o_call_e hf
        obtain ⟨_, S7, hq4, hf⟩ := hf
        refine jq_doM hX hJ (jq_okV (As := [.int x4]) (rest := []) hx hb hm ho ht (mJ.recv hX hJ) qw867 qw869 qs77 qw870 qw7 hy_X11_gives rfl hl.1 (Nat.le_of_ble_eq_true rfl) dX11_makeGuard_48) (c_X11_gives hq4) (Nat.le_of_ble_eq_true rfl) (Nat.le_of_ble_eq_true rfl) (Nat.le_refl _) (Nat.le_refl _) (fun H locs hJ' => ?_)
        clear hJ
        have hJ := hJ'
        clear hJ'
        refine lv_aload_n hx hb dX11_makeGuard_51 rfl (lv_at hl 0 rfl) ?_
        refine lv_iload_n hx hb dX11_makeGuard_52 rfl (lv_at hl 2 rfl) ?_
        refine lv_iconst (v := 0) hx hb dX11_makeGuard_53 (by decide) ?_
        replace hf := o_call_e hf
        obtain ⟨_, S8, hq5, hf⟩ := hf
        refine jq_doM hX hJ (jq_okV (As := [.int p2, .int 0]) (rest := []) hx hb hm ho ht (mJ.recv hX hJ) qw891 qw893 qs83 qw894 qw7 hy_X11_takesOf rfl hl.1 (Nat.le_of_ble_eq_true rfl) dX11_makeGuard_54) (c_X11_takesOf hq5) (Nat.le_of_ble_eq_true rfl) (Nat.le_of_ble_eq_true rfl) (Nat.le_refl _) (Nat.le_refl _) (fun H locs hJ' => ?_)
        clear hJ
        have hJ := hJ'
        clear hJ'
        refine lv_aload_n hx hb dX11_makeGuard_57 rfl (lv_at hl 0 rfl) ?_
        refine mg_resultOf hX hJ qw705 dX11_makeGuard_58 ?_
        refine lv_iload_n hx hb dX11_makeGuard_61 rfl (lv_at hl 1 rfl) ?_
        replace hf := o_ck_e hf
        obtain ⟨hk2, hf⟩ := hf
        replace hf := o_let_e hf
        obtain ⟨x5, hx5, hf⟩ := hf
        refine ma_I 10 hX hJ (by decide) hk2 hx5 dX11_makeGuard_62 ?_
        refine lv_if_ne (tgt := 90) hx hb dX11_makeGuard_63 (by decide) (fun c4 => ?_) (fun c4 => ?_)
        · replace hf := o_f hf c4
          refine lv_bipush (v := (-3)) hx hb dX11_makeGuard_90 (by decide) ?_
          obtain ⟨rfl, rfl⟩ := Prod.mk.inj (Option.some.inj hf)
          exact jq_iret hX hJ.2 dX11_makeGuard_92 ⟨rfl, rfl, rfl, hJ.1⟩
        · replace hf := o_t hf c4
          refine lv_aload_n hx hb dX11_makeGuard_66 rfl (lv_at hl 0 rfl) ?_
          refine lv_iload_n hx hb dX11_makeGuard_67 rfl (lv_at hl 2 rfl) ?_
          refine lv_iload_n hx hb dX11_makeGuard_68 rfl (lv_at hl 3 rfl) ?_
          replace hf := o_call_e hf
          obtain ⟨x6, S9, hq6, hf⟩ := hf
          refine jq_doM hX hJ (jq_okV (As := [.int p2, .int p3]) (rest := []) hx hb hm ho ht (mJ.recv hX hJ) qw895 qw897 qs84 qw898 qw7 hy_X11_isAlike rfl hl.1 (Nat.le_of_ble_eq_true rfl) dX11_makeGuard_69) (c_X11_isAlike hq6) (Nat.le_of_ble_eq_true rfl) (Nat.le_of_ble_eq_true rfl) (Nat.le_refl _) (Nat.le_refl _) (fun H locs hJ' => ?_)
          clear hJ
          have hJ := hJ'
          clear hJ'
          refine lv_if_eq (tgt := 90) hx hb dX11_makeGuard_72 (by decide) (fun c5 => ?_) (fun c5 => ?_)
          · replace hf := o_t hf c5
            refine lv_bipush (v := (-3)) hx hb dX11_makeGuard_90 (by decide) ?_
            obtain ⟨rfl, rfl⟩ := Prod.mk.inj (Option.some.inj hf)
            exact jq_iret hX hJ.2 dX11_makeGuard_92 ⟨rfl, rfl, rfl, hJ.1⟩
          · replace hf := o_f hf c5
            refine lv_aload_n hx hb dX11_makeGuard_75 rfl (lv_at hl 0 rfl) ?_
            refine lv_iload_n hx hb dX11_makeGuard_76 rfl (lv_at hl 1 rfl) ?_
            refine lv_iconst (v := 0) hx hb dX11_makeGuard_77 (by decide) ?_
            refine lv_iload_n hx hb dX11_makeGuard_78 rfl (lv_at hl 2 rfl) ?_
            refine lv_iconst (v := 0) hx hb dX11_makeGuard_79 (by decide) ?_
            replace hf := o_call_e hf
            obtain ⟨x7, S10, hq7, hf⟩ := hf
            refine jq_doM hX hJ (jq_okV (As := [.int p1, .int 0, .int p2, .int 0]) (rest := []) hx hb hm ho ht (mJ.recv hX hJ) qw899 qw901 qs85 qw902 qw7 hy_X11_isFirst rfl hl.1 (Nat.le_of_ble_eq_true rfl) dX11_makeGuard_80) (c_X11_isFirst hq7) (Nat.le_of_ble_eq_true rfl) (Nat.le_of_ble_eq_true rfl) (Nat.le_refl _) (Nat.le_refl _) (fun H locs hJ' => ?_)
            clear hJ
            have hJ := hJ'
            clear hJ'
            refine lv_if_eq (tgt := 90) hx hb dX11_makeGuard_83 (by decide) (fun c6 => ?_) (fun c6 => ?_)
            · replace hf := o_t hf c6
              refine lv_bipush (v := (-3)) hx hb dX11_makeGuard_90 (by decide) ?_
              obtain ⟨rfl, rfl⟩ := Prod.mk.inj (Option.some.inj hf)
              exact jq_iret hX hJ.2 dX11_makeGuard_92 ⟨rfl, rfl, rfl, hJ.1⟩
            · replace hf := o_f hf c6
              refine lv_iconst (v := 0) hx hb dX11_makeGuard_86 (by decide) ?_
              refine lv_goto (tgt := 92) hx hb dX11_makeGuard_87 (by decide) ?_
              obtain ⟨rfl, rfl⟩ := Prod.mk.inj (Option.some.inj hf)
              exact jq_iret hX hJ.2 dX11_makeGuard_92 ⟨rfl, rfl, rfl, hJ.1⟩
      · replace hf := o_t hf c3
        refine lv_iconst (v := (-1)) hx hb dX11_makeGuard_24 (by decide) ?_
        obtain ⟨rfl, rfl⟩ := Prod.mk.inj (Option.some.inj hf)
        exact jq_iret hX hJ.2 dX11_makeGuard_25 ⟨rfl, rfl, rfl, hJ.1⟩
theorem dX11_makeCatch_0 : decode cX11_makeCatch 0 = .ok (.aload_n 0, 1) := by decide +kernel
theorem dX11_makeCatch_1 : decode cX11_makeCatch 1 = .ok (.iload_n 1, 1) := by decide +kernel
theorem dX11_makeCatch_2 : decode cX11_makeCatch 2 = .ok (.invokevirtual 200, 3) := by decide +kernel
theorem dX11_makeCatch_5 : decode cX11_makeCatch 5 = .ok (.ifCond .eq 42, 3) := by decide +kernel
theorem dX11_makeCatch_47 : decode cX11_makeCatch 47 = .ok (.iconst (-1), 1) := by decide +kernel
theorem dX11_makeCatch_48 : decode cX11_makeCatch 48 = .ok (.ireturn, 1) := by decide +kernel
theorem dX11_makeCatch_8 : decode cX11_makeCatch 8 = .ok (.aload_n 0, 1) := by decide +kernel
theorem dX11_makeCatch_9 : decode cX11_makeCatch 9 = .ok (.iload_n 3, 1) := by decide +kernel
theorem dX11_makeCatch_10 : decode cX11_makeCatch 10 = .ok (.invokevirtual 200, 3) := by decide +kernel
theorem dX11_makeCatch_13 : decode cX11_makeCatch 13 = .ok (.ifCond .eq 34, 3) := by decide +kernel
theorem dX11_makeCatch_16 : decode cX11_makeCatch 16 = .ok (.iload_n 2, 1) := by decide +kernel
theorem dX11_makeCatch_17 : decode cX11_makeCatch 17 = .ok (.iconst (-1), 1) := by decide +kernel
theorem dX11_makeCatch_18 : decode cX11_makeCatch 18 = .ok (.if_icmp .eq 31, 3) := by decide +kernel
theorem dX11_makeCatch_21 : decode cX11_makeCatch 21 = .ok (.iload_n 2, 1) := by decide +kernel
theorem dX11_makeCatch_22 : decode cX11_makeCatch 22 = .ok (.i2l, 1) := by decide +kernel
theorem dX11_makeCatch_23 : decode cX11_makeCatch 23 = .ok (.lconst 1, 1) := by decide +kernel
theorem dX11_makeCatch_24 : decode cX11_makeCatch 24 = .ok (.ldc2_w 217, 3) := by decide +kernel
theorem dX11_makeCatch_27 : decode cX11_makeCatch 27 = .ok (.invokestatic 80, 3) := by decide +kernel
theorem dX11_makeCatch_30 : decode cX11_makeCatch 30 = .ok (.ifCond .ne 19, 3) := by decide +kernel
theorem dX11_makeCatch_33 : decode cX11_makeCatch 33 = .ok (.iload_n 2, 1) := by decide +kernel
theorem dX11_makeCatch_34 : decode cX11_makeCatch 34 = .ok (.i2l, 1) := by decide +kernel
theorem dX11_makeCatch_35 : decode cX11_makeCatch 35 = .ok (.ldc2_w 219, 3) := by decide +kernel
theorem dX11_makeCatch_38 : decode cX11_makeCatch 38 = .ok (.ldc2_w 221, 3) := by decide +kernel
theorem dX11_makeCatch_41 : decode cX11_makeCatch 41 = .ok (.invokestatic 80, 3) := by decide +kernel
theorem dX11_makeCatch_44 : decode cX11_makeCatch 44 = .ok (.ifCond .ne 5, 3) := by decide +kernel
theorem dX11_makeCatch_49 : decode cX11_makeCatch 49 = .ok (.aload_n 0, 1) := by decide +kernel
theorem dX11_makeCatch_50 : decode cX11_makeCatch 50 = .ok (.iload_n 1, 1) := by decide +kernel
theorem dX11_makeCatch_51 : decode cX11_makeCatch 51 = .ok (.putfield 187, 3) := by decide +kernel
theorem dX11_makeCatch_54 : decode cX11_makeCatch 54 = .ok (.aload_n 0, 1) := by decide +kernel
theorem dX11_makeCatch_55 : decode cX11_makeCatch 55 = .ok (.iload_n 2, 1) := by decide +kernel
theorem dX11_makeCatch_56 : decode cX11_makeCatch 56 = .ok (.putfield 190, 3) := by decide +kernel
theorem dX11_makeCatch_59 : decode cX11_makeCatch 59 = .ok (.aload_n 0, 1) := by decide +kernel
theorem dX11_makeCatch_60 : decode cX11_makeCatch 60 = .ok (.iload_n 3, 1) := by decide +kernel
theorem dX11_makeCatch_61 : decode cX11_makeCatch 61 = .ok (.putfield 203, 3) := by decide +kernel
theorem dX11_makeCatch_64 : decode cX11_makeCatch 64 = .ok (.aload_n 0, 1) := by decide +kernel
theorem dX11_makeCatch_65 : decode cX11_makeCatch 65 = .ok (.aload_n 0, 1) := by decide +kernel
theorem dX11_makeCatch_66 : decode cX11_makeCatch 66 = .ok (.getfield 51, 3) := by decide +kernel
theorem dX11_makeCatch_69 : decode cX11_makeCatch 69 = .ok (.iload_n 1, 1) := by decide +kernel
theorem dX11_makeCatch_70 : decode cX11_makeCatch 70 = .ok (.iaload, 1) := by decide +kernel
theorem dX11_makeCatch_71 : decode cX11_makeCatch 71 = .ok (.invokevirtual 197, 3) := by decide +kernel
theorem dX11_makeCatch_74 : decode cX11_makeCatch 74 = .ok (.aload_n 0, 1) := by decide +kernel
theorem dX11_makeCatch_75 : decode cX11_makeCatch 75 = .ok (.iload_n 1, 1) := by decide +kernel
theorem dX11_makeCatch_76 : decode cX11_makeCatch 76 = .ok (.iconst 0, 1) := by decide +kernel
theorem dX11_makeCatch_77 : decode cX11_makeCatch 77 = .ok (.invokevirtual 206, 3) := by decide +kernel
theorem dX11_makeCatch_80 : decode cX11_makeCatch 80 = .ok (.aload_n 0, 1) := by decide +kernel
theorem dX11_makeCatch_81 : decode cX11_makeCatch 81 = .ok (.getfield 45, 3) := by decide +kernel
theorem dX11_makeCatch_84 : decode cX11_makeCatch 84 = .ok (.iload_n 3, 1) := by decide +kernel
theorem dX11_makeCatch_85 : decode cX11_makeCatch 85 = .ok (.iaload, 1) := by decide +kernel
theorem dX11_makeCatch_86 : decode cX11_makeCatch 86 = .ok (.iconst 1, 1) := by decide +kernel
theorem dX11_makeCatch_87 : decode cX11_makeCatch 87 = .ok (.if_icmp .lt 43, 3) := by decide +kernel
theorem dX11_makeCatch_130 : decode cX11_makeCatch 130 = .ok (.bipush (-3), 2) := by decide +kernel
theorem dX11_makeCatch_132 : decode cX11_makeCatch 132 = .ok (.ireturn, 1) := by decide +kernel
theorem dX11_makeCatch_90 : decode cX11_makeCatch 90 = .ok (.aload_n 0, 1) := by decide +kernel
theorem dX11_makeCatch_91 : decode cX11_makeCatch 91 = .ok (.iload_n 3, 1) := by decide +kernel
theorem dX11_makeCatch_92 : decode cX11_makeCatch 92 = .ok (.iconst 0, 1) := by decide +kernel
theorem dX11_makeCatch_93 : decode cX11_makeCatch 93 = .ok (.invokevirtual 167, 3) := by decide +kernel
theorem dX11_makeCatch_96 : decode cX11_makeCatch 96 = .ok (.iconst 4, 1) := by decide +kernel
theorem dX11_makeCatch_97 : decode cX11_makeCatch 97 = .ok (.if_icmp .ne 33, 3) := by decide +kernel
theorem dX11_makeCatch_100 : decode cX11_makeCatch 100 = .ok (.aload_n 0, 1) := by decide +kernel
theorem dX11_makeCatch_101 : decode cX11_makeCatch 101 = .ok (.getfield 51, 3) := by decide +kernel
theorem dX11_makeCatch_104 : decode cX11_makeCatch 104 = .ok (.iload_n 3, 1) := by decide +kernel
theorem dX11_makeCatch_105 : decode cX11_makeCatch 105 = .ok (.iaload, 1) := by decide +kernel
theorem dX11_makeCatch_106 : decode cX11_makeCatch 106 = .ok (.aload_n 0, 1) := by decide +kernel
theorem dX11_makeCatch_107 : decode cX11_makeCatch 107 = .ok (.getfield 51, 3) := by decide +kernel
theorem dX11_makeCatch_110 : decode cX11_makeCatch 110 = .ok (.iload_n 1, 1) := by decide +kernel
theorem dX11_makeCatch_111 : decode cX11_makeCatch 111 = .ok (.iaload, 1) := by decide +kernel
theorem dX11_makeCatch_112 : decode cX11_makeCatch 112 = .ok (.if_icmp .ne 18, 3) := by decide +kernel
theorem dX11_makeCatch_115 : decode cX11_makeCatch 115 = .ok (.aload_n 0, 1) := by decide +kernel
theorem dX11_makeCatch_116 : decode cX11_makeCatch 116 = .ok (.iload_n 3, 1) := by decide +kernel
theorem dX11_makeCatch_117 : decode cX11_makeCatch 117 = .ok (.iconst 1, 1) := by decide +kernel
theorem dX11_makeCatch_118 : decode cX11_makeCatch 118 = .ok (.iload_n 1, 1) := by decide +kernel
theorem dX11_makeCatch_119 : decode cX11_makeCatch 119 = .ok (.iconst 0, 1) := by decide +kernel
theorem dX11_makeCatch_120 : decode cX11_makeCatch 120 = .ok (.invokevirtual 174, 3) := by decide +kernel
theorem dX11_makeCatch_123 : decode cX11_makeCatch 123 = .ok (.ifCond .eq 7, 3) := by decide +kernel
theorem dX11_makeCatch_126 : decode cX11_makeCatch 126 = .ok (.iconst 0, 1) := by decide +kernel
theorem dX11_makeCatch_127 : decode cX11_makeCatch 127 = .ok (.goto 5, 3) := by decide +kernel
theorem hy_X11_makeCatch : yX11_makeCatch.cls ≠ "java/lang/invoke/MethodHandle" ∧ yX11_makeCatch.cls ≠ "java/lang/invoke/VarHandle" ∧ (parseMethodDescriptor yX11_makeCatch.desc).map (fun d => d.parameters.length) = some 3 := ⟨by decide, by decide, by decide +kernel⟩
def f_X11_makeCatch_b49 (l1 : Int32) (l2 : Int32) (l3 : Int32) (S : mS) : Option ((Int32) × mS) :=
  o_let (m_pI S 4 l1) fun S1 =>
  o_let (m_pI S1 5 l2) fun S2 =>
  o_let (m_pI S2 6 l3) fun S3 =>
  o_ck (¬ (l1 < 0 ∨ 33 ≤ (l1).toNatClampNeg)) (o_let (m_aI S3 10 (l1).toNatClampNeg) fun x1 =>
  o_call (f_X11_gives x1 S3) fun _ S4 =>
  o_call (f_X11_takesOf l1 0 S4) fun _ S5 =>
  o_ck (¬ (l3 < 0 ∨ 33 ≤ (l3).toNatClampNeg)) (o_let (m_aI S5 8 (l3).toNatClampNeg) fun x2 =>
  if x2 < 1 then (
  some ((-3), S5)) else (
  o_call (f_X11_kind l3 0 S5) fun x3 S6 =>
  if x3 = 4 then (
  o_ck (¬ (l3 < 0 ∨ 33 ≤ (l3).toNatClampNeg)) (o_let (m_aI S6 10 (l3).toNatClampNeg) fun x4 =>
  o_ck (¬ (l1 < 0 ∨ 33 ≤ (l1).toNatClampNeg)) (o_let (m_aI S6 10 (l1).toNatClampNeg) fun x5 =>
  if x4 = x5 then (
  o_call (f_X11_isFirst l3 1 l1 0 S6) fun x6 S7 =>
  if x6 = 0 then (
  some ((-3), S7)) else (
  some (0, S7))) else (
  some ((-3), S6))))) else (
  some ((-3), S6)))))
set_option maxHeartbeats 4000000 in
set_option maxRecDepth 100000 in
theorem w_X11_makeCatch_b49 {l : Launch} {D : va_G} {Y : Nat → ClassId} {aR : Nat → Nat} {A : Nat → Prop} {ad : Nat → Nat} {p : Program} {e : Env} {s : State} {m : MethodId} {args : Array Value} {below : List Frame} {meth : Method} {c : Code} : ∀ (l1 : Int32) (l2 : Int32) (l3 : Int32) (S S' : mS) (r : Int32) (H : Heap) (locs : List Loc) (ls : Array Slot), jq_X D Y aR A p s m args meth c cX11_makeCatch RX11 "makeCatch" 4 (some .int) → mJ D Y A s ad S H locs → f_X11_makeCatch_b49 l1 l2 l3 S = some (r, S') → lv_has ls 4 [(0, .ref (ad 0)), (1, .int l1), (2, .int l2), (3, .int l3)] → W p l e { frames := 2, cells := 0, slots := 0, locals := 48 } s m args below meth c H locs 0 0 (jq_Z below A (fun v k n H => v = (some (.int r)) ∧ k = 0 ∧ n = 0 ∧ mH D Y A ad S' H) s) (F0 m 49 ls []) := by
  intro l1 l2 l3 S S' r H locs ls hX hJ hf hl
  unfold f_X11_makeCatch_b49 at hf
  have hx := hX.1
  have hb := hX.2.1
  have hm := hX.2.2.1
  have ho := hX.2.2.2.1
  have ht := hX.2.2.2.2.1
  have hn := hX.2.2.2.2.2.1.2.1
  refine lv_aload_n hx hb dX11_makeCatch_49 rfl (lv_at hl 0 rfl) ?_
  refine lv_iload_n hx hb dX11_makeCatch_50 rfl (lv_at hl 1 rfl) ?_
  replace hf := o_let_e hf
  obtain ⟨S1, hS1, hf⟩ := hf
  refine mp_madeA hX hJ hS1 qw706 dX11_makeCatch_51 (fun H locs hJ' => ?_)
  clear hJ
  have hJ := hJ'
  clear hJ'
  refine lv_aload_n hx hb dX11_makeCatch_54 rfl (lv_at hl 0 rfl) ?_
  refine lv_iload_n hx hb dX11_makeCatch_55 rfl (lv_at hl 2 rfl) ?_
  replace hf := o_let_e hf
  obtain ⟨S2, hS2, hf⟩ := hf
  refine mp_madeB hX hJ hS2 qw707 dX11_makeCatch_56 (fun H locs hJ' => ?_)
  clear hJ
  have hJ := hJ'
  clear hJ'
  refine lv_aload_n hx hb dX11_makeCatch_59 rfl (lv_at hl 0 rfl) ?_
  refine lv_iload_n hx hb dX11_makeCatch_60 rfl (lv_at hl 3 rfl) ?_
  replace hf := o_let_e hf
  obtain ⟨S3, hS3, hf⟩ := hf
  refine mp_madeC hX hJ hS3 qw708 dX11_makeCatch_61 (fun H locs hJ' => ?_)
  clear hJ
  have hJ := hJ'
  clear hJ'
  refine lv_aload_n hx hb dX11_makeCatch_64 rfl (lv_at hl 0 rfl) ?_
  refine lv_aload_n hx hb dX11_makeCatch_65 rfl (lv_at hl 0 rfl) ?_
  refine mg_resultOf hX hJ qw705 dX11_makeCatch_66 ?_
  refine lv_iload_n hx hb dX11_makeCatch_69 rfl (lv_at hl 1 rfl) ?_
  replace hf := o_ck_e hf
  obtain ⟨hk1, hf⟩ := hf
  replace hf := o_let_e hf
  obtain ⟨x1, hx1, hf⟩ := hf
  refine ma_I 10 hX hJ (by decide) hk1 hx1 dX11_makeCatch_70 ?_
  replace hf := o_call_e hf
  obtain ⟨_, S4, hq1, hf⟩ := hf
  refine jq_doM hX hJ (jq_okV (As := [.int x1]) (rest := []) hx hb hm ho ht (mJ.recv hX hJ) qw867 qw869 qs77 qw870 qw7 hy_X11_gives rfl hl.1 (Nat.le_of_ble_eq_true rfl) dX11_makeCatch_71) (c_X11_gives hq1) (Nat.le_of_ble_eq_true rfl) (Nat.le_of_ble_eq_true rfl) (Nat.le_refl _) (Nat.le_refl _) (fun H locs hJ' => ?_)
  clear hJ
  have hJ := hJ'
  clear hJ'
  refine lv_aload_n hx hb dX11_makeCatch_74 rfl (lv_at hl 0 rfl) ?_
  refine lv_iload_n hx hb dX11_makeCatch_75 rfl (lv_at hl 1 rfl) ?_
  refine lv_iconst (v := 0) hx hb dX11_makeCatch_76 (by decide) ?_
  replace hf := o_call_e hf
  obtain ⟨_, S5, hq2, hf⟩ := hf
  refine jq_doM hX hJ (jq_okV (As := [.int l1, .int 0]) (rest := []) hx hb hm ho ht (mJ.recv hX hJ) qw891 qw893 qs83 qw894 qw7 hy_X11_takesOf rfl hl.1 (Nat.le_of_ble_eq_true rfl) dX11_makeCatch_77) (c_X11_takesOf hq2) (Nat.le_of_ble_eq_true rfl) (Nat.le_of_ble_eq_true rfl) (Nat.le_refl _) (Nat.le_refl _) (fun H locs hJ' => ?_)
  clear hJ
  have hJ := hJ'
  clear hJ'
  refine lv_aload_n hx hb dX11_makeCatch_80 rfl (lv_at hl 0 rfl) ?_
  refine mg_manyOf hX hJ qw703 dX11_makeCatch_81 ?_
  refine lv_iload_n hx hb dX11_makeCatch_84 rfl (lv_at hl 3 rfl) ?_
  replace hf := o_ck_e hf
  obtain ⟨hk2, hf⟩ := hf
  replace hf := o_let_e hf
  obtain ⟨x2, hx2, hf⟩ := hf
  refine ma_I 8 hX hJ (by decide) hk2 hx2 dX11_makeCatch_85 ?_
  refine lv_iconst (v := 1) hx hb dX11_makeCatch_86 (by decide) ?_
  refine lv_icmp_lt (tgt := 130) hx hb dX11_makeCatch_87 (by decide) (fun c1 => ?_) (fun c1 => ?_)
  · replace hf := o_t hf c1
    refine lv_bipush (v := (-3)) hx hb dX11_makeCatch_130 (by decide) ?_
    obtain ⟨rfl, rfl⟩ := Prod.mk.inj (Option.some.inj hf)
    exact jq_iret hX hJ.2 dX11_makeCatch_132 ⟨rfl, rfl, rfl, hJ.1⟩
  · replace hf := o_f hf c1
    refine lv_aload_n hx hb dX11_makeCatch_90 rfl (lv_at hl 0 rfl) ?_
    refine lv_iload_n hx hb dX11_makeCatch_91 rfl (lv_at hl 3 rfl) ?_
    refine lv_iconst (v := 0) hx hb dX11_makeCatch_92 (by decide) ?_
    replace hf := o_call_e hf
    obtain ⟨x3, S6, hq3, hf⟩ := hf
    refine jq_doM hX hJ (jq_okV (As := [.int l3, .int 0]) (rest := []) hx hb hm ho ht (mJ.recv hX hJ) qw883 qw885 qs81 qw886 qw7 hy_X11_kind rfl hl.1 (Nat.le_of_ble_eq_true rfl) dX11_makeCatch_93) (c_X11_kind hq3) (Nat.le_of_ble_eq_true rfl) (Nat.le_of_ble_eq_true rfl) (Nat.le_refl _) (Nat.le_refl _) (fun H locs hJ' => ?_)
    clear hJ
    have hJ := hJ'
    clear hJ'
    refine lv_iconst (v := 4) hx hb dX11_makeCatch_96 (by decide) ?_
    refine lv_icmp_ne (tgt := 130) hx hb dX11_makeCatch_97 (by decide) (fun c2 => ?_) (fun c2 => ?_)
    · replace hf := o_f hf c2
      refine lv_bipush (v := (-3)) hx hb dX11_makeCatch_130 (by decide) ?_
      obtain ⟨rfl, rfl⟩ := Prod.mk.inj (Option.some.inj hf)
      exact jq_iret hX hJ.2 dX11_makeCatch_132 ⟨rfl, rfl, rfl, hJ.1⟩
    · replace hf := o_t hf c2
      refine lv_aload_n hx hb dX11_makeCatch_100 rfl (lv_at hl 0 rfl) ?_
      refine mg_resultOf hX hJ qw705 dX11_makeCatch_101 ?_
      refine lv_iload_n hx hb dX11_makeCatch_104 rfl (lv_at hl 3 rfl) ?_
      replace hf := o_ck_e hf
      obtain ⟨hk3, hf⟩ := hf
      replace hf := o_let_e hf
      obtain ⟨x4, hx4, hf⟩ := hf
      refine ma_I 10 hX hJ (by decide) hk3 hx4 dX11_makeCatch_105 ?_
      refine lv_aload_n hx hb dX11_makeCatch_106 rfl (lv_at hl 0 rfl) ?_
      refine mg_resultOf hX hJ qw705 dX11_makeCatch_107 ?_
      refine lv_iload_n hx hb dX11_makeCatch_110 rfl (lv_at hl 1 rfl) ?_
      replace hf := o_ck_e hf
      obtain ⟨hk4, hf⟩ := hf
      replace hf := o_let_e hf
      obtain ⟨x5, hx5, hf⟩ := hf
      refine ma_I 10 hX hJ (by decide) hk4 hx5 dX11_makeCatch_111 ?_
      refine lv_icmp_ne (tgt := 130) hx hb dX11_makeCatch_112 (by decide) (fun c3 => ?_) (fun c3 => ?_)
      · replace hf := o_f hf c3
        refine lv_bipush (v := (-3)) hx hb dX11_makeCatch_130 (by decide) ?_
        obtain ⟨rfl, rfl⟩ := Prod.mk.inj (Option.some.inj hf)
        exact jq_iret hX hJ.2 dX11_makeCatch_132 ⟨rfl, rfl, rfl, hJ.1⟩
      · replace hf := o_t hf c3
        refine lv_aload_n hx hb dX11_makeCatch_115 rfl (lv_at hl 0 rfl) ?_
        refine lv_iload_n hx hb dX11_makeCatch_116 rfl (lv_at hl 3 rfl) ?_
        refine lv_iconst (v := 1) hx hb dX11_makeCatch_117 (by decide) ?_
        refine lv_iload_n hx hb dX11_makeCatch_118 rfl (lv_at hl 1 rfl) ?_
        refine lv_iconst (v := 0) hx hb dX11_makeCatch_119 (by decide) ?_
        replace hf := o_call_e hf
        obtain ⟨x6, S7, hq4, hf⟩ := hf
        refine jq_doM hX hJ (jq_okV (As := [.int l3, .int 1, .int l1, .int 0]) (rest := []) hx hb hm ho ht (mJ.recv hX hJ) qw899 qw901 qs85 qw902 qw7 hy_X11_isFirst rfl hl.1 (Nat.le_of_ble_eq_true rfl) dX11_makeCatch_120) (c_X11_isFirst hq4) (Nat.le_of_ble_eq_true rfl) (Nat.le_of_ble_eq_true rfl) (Nat.le_refl _) (Nat.le_refl _) (fun H locs hJ' => ?_)
        clear hJ
        have hJ := hJ'
        clear hJ'
        refine lv_if_eq (tgt := 130) hx hb dX11_makeCatch_123 (by decide) (fun c4 => ?_) (fun c4 => ?_)
        · replace hf := o_t hf c4
          refine lv_bipush (v := (-3)) hx hb dX11_makeCatch_130 (by decide) ?_
          obtain ⟨rfl, rfl⟩ := Prod.mk.inj (Option.some.inj hf)
          exact jq_iret hX hJ.2 dX11_makeCatch_132 ⟨rfl, rfl, rfl, hJ.1⟩
        · replace hf := o_f hf c4
          refine lv_iconst (v := 0) hx hb dX11_makeCatch_126 (by decide) ?_
          refine lv_goto (tgt := 132) hx hb dX11_makeCatch_127 (by decide) ?_
          obtain ⟨rfl, rfl⟩ := Prod.mk.inj (Option.some.inj hf)
          exact jq_iret hX hJ.2 dX11_makeCatch_132 ⟨rfl, rfl, rfl, hJ.1⟩
def f_X11_makeCatch (p1 : Int32) (p2 : Int32) (p3 : Int32) (S : mS) : Option ((Int32) × mS) :=
  o_call (f_X11_isHandle p1 S) fun x1 S1 =>
  if x1 = 0 then (
  some ((-1), S1)) else (
  o_call (f_X11_isHandle p3 S1) fun x2 S2 =>
  if x2 = 0 then (
  some ((-1), S2)) else (
  if p2 = (-1) then (
  f_X11_makeCatch_b49 p1 p2 p3 S2) else (
  o_cP (f_X11_in ((p2).toInt64) 1 6) fun x3 =>
  if x3 = 0 then (
  o_cP (f_X11_in ((p2).toInt64) 20 29) fun x4 =>
  if x4 = 0 then (
  some ((-1), S2)) else (
  f_X11_makeCatch_b49 p1 p2 p3 S2)) else (
  f_X11_makeCatch_b49 p1 p2 p3 S2))))
set_option maxHeartbeats 4000000 in
set_option maxRecDepth 100000 in
theorem c_X11_makeCatch {l : Launch} {D : va_G} {Y : Nat → ClassId} {aR : Nat → Nat} {A : Nat → Prop} {ad : Nat → Nat} {p1 : Int32} {p2 : Int32} {p3 : Int32} {S S' : mS} {r : Int32} (hf : f_X11_makeCatch p1 p2 p3 S = some (r, S')) : jq_M l D Y aR A ad yX11_makeCatch cX11_makeCatch 4 (some .int) 2 48 [.ref (ad 0), .int p1, .int p2, .int p3] S (some (.int r)) S' := by
  unfold f_X11_makeCatch at hf
  refine jq_enterM (by decide) (Nat.le_of_ble_eq_true rfl) fun p e s m args below meth c ls H locs hX hJ hl => ?_
  have hl : lv_has ls 4 [(0, .ref (ad 0)), (1, .int p1), (2, .int p2), (3, .int p3)] := hl
  have hx := hX.1
  have hb := hX.2.1
  have hm := hX.2.2.1
  have ho := hX.2.2.2.1
  have ht := hX.2.2.2.2.1
  have hn := hX.2.2.2.2.2.1.2.1
  refine lv_aload_n hx hb dX11_makeCatch_0 rfl (lv_at hl 0 rfl) ?_
  refine lv_iload_n hx hb dX11_makeCatch_1 rfl (lv_at hl 1 rfl) ?_
  replace hf := o_call_e hf
  obtain ⟨x1, S1, hq1, hf⟩ := hf
  refine jq_doM hX hJ (jq_okV (As := [.int p1]) (rest := []) hx hb hm ho ht (mJ.recv hX hJ) qw879 qw881 qs80 qw882 qw7 hy_X11_isHandle rfl hl.1 (Nat.le_of_ble_eq_true rfl) dX11_makeCatch_2) (c_X11_isHandle hq1) (Nat.le_of_ble_eq_true rfl) (Nat.le_of_ble_eq_true rfl) (Nat.le_refl _) (Nat.le_refl _) (fun H locs hJ' => ?_)
  clear hJ
  have hJ := hJ'
  clear hJ'
  refine lv_if_eq (tgt := 47) hx hb dX11_makeCatch_5 (by decide) (fun c1 => ?_) (fun c1 => ?_)
  · replace hf := o_t hf c1
    refine lv_iconst (v := (-1)) hx hb dX11_makeCatch_47 (by decide) ?_
    obtain ⟨rfl, rfl⟩ := Prod.mk.inj (Option.some.inj hf)
    exact jq_iret hX hJ.2 dX11_makeCatch_48 ⟨rfl, rfl, rfl, hJ.1⟩
  · replace hf := o_f hf c1
    refine lv_aload_n hx hb dX11_makeCatch_8 rfl (lv_at hl 0 rfl) ?_
    refine lv_iload_n hx hb dX11_makeCatch_9 rfl (lv_at hl 3 rfl) ?_
    replace hf := o_call_e hf
    obtain ⟨x2, S2, hq2, hf⟩ := hf
    refine jq_doM hX hJ (jq_okV (As := [.int p3]) (rest := []) hx hb hm ho ht (mJ.recv hX hJ) qw879 qw881 qs80 qw882 qw7 hy_X11_isHandle rfl hl.1 (Nat.le_of_ble_eq_true rfl) dX11_makeCatch_10) (c_X11_isHandle hq2) (Nat.le_of_ble_eq_true rfl) (Nat.le_of_ble_eq_true rfl) (Nat.le_refl _) (Nat.le_refl _) (fun H locs hJ' => ?_)
    clear hJ
    have hJ := hJ'
    clear hJ'
    refine lv_if_eq (tgt := 47) hx hb dX11_makeCatch_13 (by decide) (fun c2 => ?_) (fun c2 => ?_)
    · replace hf := o_t hf c2
      refine lv_iconst (v := (-1)) hx hb dX11_makeCatch_47 (by decide) ?_
      obtain ⟨rfl, rfl⟩ := Prod.mk.inj (Option.some.inj hf)
      exact jq_iret hX hJ.2 dX11_makeCatch_48 ⟨rfl, rfl, rfl, hJ.1⟩
    · replace hf := o_f hf c2
      refine lv_iload_n hx hb dX11_makeCatch_16 rfl (lv_at hl 2 rfl) ?_
      refine lv_iconst (v := (-1)) hx hb dX11_makeCatch_17 (by decide) ?_
      refine lv_icmp_eq (tgt := 49) hx hb dX11_makeCatch_18 (by decide) (fun c3 => ?_) (fun c3 => ?_)
      · replace hf := o_t hf c3
        replace hl := lv_sub hl (l' := [(0, .ref (ad 0)), (1, .int p1), (2, .int p2), (3, .int p3)]) [0, 1, 2, 3] rfl
        exact w_X11_makeCatch_b49 p1 p2 p3 S2 S' r H locs ls hX hJ hf hl
      · replace hf := o_f hf c3
        refine lv_iload_n hx hb dX11_makeCatch_21 rfl (lv_at hl 2 rfl) ?_
        refine lv_i2l hx hb dX11_makeCatch_22 rfl ?_
        refine lv_lconst (v := 1) hx hb dX11_makeCatch_23 (by decide) ?_
        refine lv_ldc2 (v := 6) hx hb ho (ht _ qw907) dX11_makeCatch_24 ?_
        replace hf := o_cP_e hf
        obtain ⟨x3, hq3, hf⟩ := hf
        refine jq_doP hX hJ.2 (jq_okS (As := [.long ((p2).toInt64), .long 1, .long 6]) (rest := []) hx hb hm ho ht qw803 qw804 qw805 qw7 hy_X11_in rfl hl.1 (Nat.le_of_ble_eq_true rfl) dX11_makeCatch_27) (c_X11_in hq3) (Nat.le_of_ble_eq_true rfl) (Nat.le_of_ble_eq_true rfl) (Nat.le_refl _) (Nat.le_refl _) (fun locs hS9 => ?_)
        replace hJ := mJ.to hJ hS9
        refine lv_if_ne (tgt := 49) hx hb dX11_makeCatch_30 (by decide) (fun c4 => ?_) (fun c4 => ?_)
        · replace hf := o_f hf c4
          replace hl := lv_sub hl (l' := [(0, .ref (ad 0)), (1, .int p1), (2, .int p2), (3, .int p3)]) [0, 1, 2, 3] rfl
          exact w_X11_makeCatch_b49 p1 p2 p3 S2 S' r H locs ls hX hJ hf hl
        · replace hf := o_t hf c4
          refine lv_iload_n hx hb dX11_makeCatch_33 rfl (lv_at hl 2 rfl) ?_
          refine lv_i2l hx hb dX11_makeCatch_34 rfl ?_
          refine lv_ldc2 (v := 20) hx hb ho (ht _ qw908) dX11_makeCatch_35 ?_
          refine lv_ldc2 (v := 29) hx hb ho (ht _ qw909) dX11_makeCatch_38 ?_
          replace hf := o_cP_e hf
          obtain ⟨x4, hq4, hf⟩ := hf
          refine jq_doP hX hJ.2 (jq_okS (As := [.long ((p2).toInt64), .long 20, .long 29]) (rest := []) hx hb hm ho ht qw803 qw804 qw805 qw7 hy_X11_in rfl hl.1 (Nat.le_of_ble_eq_true rfl) dX11_makeCatch_41) (c_X11_in hq4) (Nat.le_of_ble_eq_true rfl) (Nat.le_of_ble_eq_true rfl) (Nat.le_refl _) (Nat.le_refl _) (fun locs hS9 => ?_)
          replace hJ := mJ.to hJ hS9
          refine lv_if_ne (tgt := 49) hx hb dX11_makeCatch_44 (by decide) (fun c5 => ?_) (fun c5 => ?_)
          · replace hf := o_f hf c5
            replace hl := lv_sub hl (l' := [(0, .ref (ad 0)), (1, .int p1), (2, .int p2), (3, .int p3)]) [0, 1, 2, 3] rfl
            exact w_X11_makeCatch_b49 p1 p2 p3 S2 S' r H locs ls hX hJ hf hl
          · replace hf := o_t hf c5
            refine lv_iconst (v := (-1)) hx hb dX11_makeCatch_47 (by decide) ?_
            obtain ⟨rfl, rfl⟩ := Prod.mk.inj (Option.some.inj hf)
            exact jq_iret hX hJ.2 dX11_makeCatch_48 ⟨rfl, rfl, rfl, hJ.1⟩
theorem dX11_makeTwo_0 : decode cX11_makeTwo 0 = .ok (.aload_n 0, 1) := by decide +kernel
theorem dX11_makeTwo_1 : decode cX11_makeTwo 1 = .ok (.iload_n 2, 1) := by decide +kernel
theorem dX11_makeTwo_2 : decode cX11_makeTwo 2 = .ok (.invokevirtual 200, 3) := by decide +kernel
theorem dX11_makeTwo_5 : decode cX11_makeTwo 5 = .ok (.ifCond .eq 11, 3) := by decide +kernel
theorem dX11_makeTwo_16 : decode cX11_makeTwo 16 = .ok (.iconst (-1), 1) := by decide +kernel
theorem dX11_makeTwo_17 : decode cX11_makeTwo 17 = .ok (.ireturn, 1) := by decide +kernel
theorem dX11_makeTwo_8 : decode cX11_makeTwo 8 = .ok (.aload_n 0, 1) := by decide +kernel
theorem dX11_makeTwo_9 : decode cX11_makeTwo 9 = .ok (.iload_n 3, 1) := by decide +kernel
theorem dX11_makeTwo_10 : decode cX11_makeTwo 10 = .ok (.invokevirtual 200, 3) := by decide +kernel
theorem dX11_makeTwo_13 : decode cX11_makeTwo 13 = .ok (.ifCond .ne 5, 3) := by decide +kernel
theorem dX11_makeTwo_18 : decode cX11_makeTwo 18 = .ok (.aload_n 0, 1) := by decide +kernel
theorem dX11_makeTwo_19 : decode cX11_makeTwo 19 = .ok (.iload_n 2, 1) := by decide +kernel
theorem dX11_makeTwo_20 : decode cX11_makeTwo 20 = .ok (.putfield 187, 3) := by decide +kernel
theorem dX11_makeTwo_23 : decode cX11_makeTwo 23 = .ok (.aload_n 0, 1) := by decide +kernel
theorem dX11_makeTwo_24 : decode cX11_makeTwo 24 = .ok (.iload_n 3, 1) := by decide +kernel
theorem dX11_makeTwo_25 : decode cX11_makeTwo 25 = .ok (.putfield 190, 3) := by decide +kernel
theorem dX11_makeTwo_28 : decode cX11_makeTwo 28 = .ok (.aload_n 0, 1) := by decide +kernel
theorem dX11_makeTwo_29 : decode cX11_makeTwo 29 = .ok (.aload_n 0, 1) := by decide +kernel
theorem dX11_makeTwo_30 : decode cX11_makeTwo 30 = .ok (.getfield 51, 3) := by decide +kernel
theorem dX11_makeTwo_33 : decode cX11_makeTwo 33 = .ok (.iload_n 2, 1) := by decide +kernel
theorem dX11_makeTwo_34 : decode cX11_makeTwo 34 = .ok (.iaload, 1) := by decide +kernel
theorem dX11_makeTwo_35 : decode cX11_makeTwo 35 = .ok (.invokevirtual 197, 3) := by decide +kernel
theorem dX11_makeTwo_38 : decode cX11_makeTwo 38 = .ok (.iload_n 1, 1) := by decide +kernel
theorem dX11_makeTwo_39 : decode cX11_makeTwo 39 = .ok (.bipush 16, 2) := by decide +kernel
theorem dX11_makeTwo_41 : decode cX11_makeTwo 41 = .ok (.if_icmp .ne 50, 3) := by decide +kernel
theorem dX11_makeTwo_91 : decode cX11_makeTwo 91 = .ok (.aload_n 0, 1) := by decide +kernel
theorem dX11_makeTwo_92 : decode cX11_makeTwo 92 = .ok (.iload_n 2, 1) := by decide +kernel
theorem dX11_makeTwo_93 : decode cX11_makeTwo 93 = .ok (.iconst 0, 1) := by decide +kernel
theorem dX11_makeTwo_94 : decode cX11_makeTwo 94 = .ok (.invokevirtual 206, 3) := by decide +kernel
theorem dX11_makeTwo_97 : decode cX11_makeTwo 97 = .ok (.iload_n 1, 1) := by decide +kernel
theorem dX11_makeTwo_98 : decode cX11_makeTwo 98 = .ok (.bipush 17, 2) := by decide +kernel
theorem dX11_makeTwo_100 : decode cX11_makeTwo 100 = .ok (.if_icmp .ne 45, 3) := by decide +kernel
theorem dX11_makeTwo_145 : decode cX11_makeTwo 145 = .ok (.aload_n 0, 1) := by decide +kernel
theorem dX11_makeTwo_146 : decode cX11_makeTwo 146 = .ok (.getfield 45, 3) := by decide +kernel
theorem dX11_makeTwo_149 : decode cX11_makeTwo 149 = .ok (.iload_n 3, 1) := by decide +kernel
theorem dX11_makeTwo_150 : decode cX11_makeTwo 150 = .ok (.iaload, 1) := by decide +kernel
theorem dX11_makeTwo_151 : decode cX11_makeTwo 151 = .ok (.iconst 2, 1) := by decide +kernel
theorem dX11_makeTwo_152 : decode cX11_makeTwo 152 = .ok (.if_icmp .lt 58, 3) := by decide +kernel
theorem dX11_makeTwo_210 : decode cX11_makeTwo 210 = .ok (.iconst 0, 1) := by decide +kernel
theorem dX11_makeTwo_211 : decode cX11_makeTwo 211 = .ok (.istore 4, 2) := by decide +kernel
theorem dX11_makeTwo_213 : decode cX11_makeTwo 213 = .ok (.iload 4, 2) := by decide +kernel
theorem dX11_makeTwo_215 : decode cX11_makeTwo 215 = .ok (.ifCond .eq 7, 3) := by decide +kernel
theorem dX11_makeTwo_222 : decode cX11_makeTwo 222 = .ok (.bipush (-3), 2) := by decide +kernel
theorem dX11_makeTwo_224 : decode cX11_makeTwo 224 = .ok (.ireturn, 1) := by decide +kernel
theorem dX11_makeTwo_155 : decode cX11_makeTwo 155 = .ok (.aload_n 0, 1) := by decide +kernel
theorem dX11_makeTwo_156 : decode cX11_makeTwo 156 = .ok (.iload_n 3, 1) := by decide +kernel
theorem dX11_makeTwo_157 : decode cX11_makeTwo 157 = .ok (.iconst 0, 1) := by decide +kernel
theorem dX11_makeTwo_158 : decode cX11_makeTwo 158 = .ok (.invokevirtual 167, 3) := by decide +kernel
theorem dX11_makeTwo_161 : decode cX11_makeTwo 161 = .ok (.iconst 4, 1) := by decide +kernel
theorem dX11_makeTwo_162 : decode cX11_makeTwo 162 = .ok (.if_icmp .ne 48, 3) := by decide +kernel
theorem dX11_makeTwo_165 : decode cX11_makeTwo 165 = .ok (.aload_n 0, 1) := by decide +kernel
theorem dX11_makeTwo_166 : decode cX11_makeTwo 166 = .ok (.iload_n 3, 1) := by decide +kernel
theorem dX11_makeTwo_167 : decode cX11_makeTwo 167 = .ok (.iconst 1, 1) := by decide +kernel
theorem dX11_makeTwo_168 : decode cX11_makeTwo 168 = .ok (.invokevirtual 167, 3) := by decide +kernel
theorem dX11_makeTwo_171 : decode cX11_makeTwo 171 = .ok (.aload_n 0, 1) := by decide +kernel
theorem dX11_makeTwo_172 : decode cX11_makeTwo 172 = .ok (.getfield 51, 3) := by decide +kernel
theorem dX11_makeTwo_175 : decode cX11_makeTwo 175 = .ok (.iload_n 2, 1) := by decide +kernel
theorem dX11_makeTwo_176 : decode cX11_makeTwo 176 = .ok (.iaload, 1) := by decide +kernel
theorem dX11_makeTwo_177 : decode cX11_makeTwo 177 = .ok (.if_icmp .ne 33, 3) := by decide +kernel
theorem dX11_makeTwo_180 : decode cX11_makeTwo 180 = .ok (.aload_n 0, 1) := by decide +kernel
theorem dX11_makeTwo_181 : decode cX11_makeTwo 181 = .ok (.getfield 51, 3) := by decide +kernel
theorem dX11_makeTwo_184 : decode cX11_makeTwo 184 = .ok (.iload_n 3, 1) := by decide +kernel
theorem dX11_makeTwo_185 : decode cX11_makeTwo 185 = .ok (.iaload, 1) := by decide +kernel
theorem dX11_makeTwo_186 : decode cX11_makeTwo 186 = .ok (.aload_n 0, 1) := by decide +kernel
theorem dX11_makeTwo_187 : decode cX11_makeTwo 187 = .ok (.getfield 51, 3) := by decide +kernel
theorem dX11_makeTwo_190 : decode cX11_makeTwo 190 = .ok (.iload_n 2, 1) := by decide +kernel
theorem dX11_makeTwo_191 : decode cX11_makeTwo 191 = .ok (.iaload, 1) := by decide +kernel
theorem dX11_makeTwo_192 : decode cX11_makeTwo 192 = .ok (.if_icmp .ne 18, 3) := by decide +kernel
theorem dX11_makeTwo_195 : decode cX11_makeTwo 195 = .ok (.aload_n 0, 1) := by decide +kernel
theorem dX11_makeTwo_196 : decode cX11_makeTwo 196 = .ok (.iload_n 3, 1) := by decide +kernel
theorem dX11_makeTwo_197 : decode cX11_makeTwo 197 = .ok (.iconst 2, 1) := by decide +kernel
theorem dX11_makeTwo_198 : decode cX11_makeTwo 198 = .ok (.iload_n 2, 1) := by decide +kernel
theorem dX11_makeTwo_199 : decode cX11_makeTwo 199 = .ok (.iconst 0, 1) := by decide +kernel
theorem dX11_makeTwo_200 : decode cX11_makeTwo 200 = .ok (.invokevirtual 174, 3) := by decide +kernel
theorem dX11_makeTwo_203 : decode cX11_makeTwo 203 = .ok (.ifCond .eq 7, 3) := by decide +kernel
theorem dX11_makeTwo_206 : decode cX11_makeTwo 206 = .ok (.iconst 1, 1) := by decide +kernel
theorem dX11_makeTwo_207 : decode cX11_makeTwo 207 = .ok (.goto 4, 3) := by decide +kernel
theorem dX11_makeTwo_218 : decode cX11_makeTwo 218 = .ok (.iconst 0, 1) := by decide +kernel
theorem dX11_makeTwo_219 : decode cX11_makeTwo 219 = .ok (.goto 5, 3) := by decide +kernel
theorem dX11_makeTwo_103 : decode cX11_makeTwo 103 = .ok (.aload_n 0, 1) := by decide +kernel
theorem dX11_makeTwo_104 : decode cX11_makeTwo 104 = .ok (.aload_n 0, 1) := by decide +kernel
theorem dX11_makeTwo_105 : decode cX11_makeTwo 105 = .ok (.getfield 51, 3) := by decide +kernel
theorem dX11_makeTwo_108 : decode cX11_makeTwo 108 = .ok (.iload_n 3, 1) := by decide +kernel
theorem dX11_makeTwo_109 : decode cX11_makeTwo 109 = .ok (.iaload, 1) := by decide +kernel
theorem dX11_makeTwo_110 : decode cX11_makeTwo 110 = .ok (.invokevirtual 197, 3) := by decide +kernel
theorem dX11_makeTwo_113 : decode cX11_makeTwo 113 = .ok (.aload_n 0, 1) := by decide +kernel
theorem dX11_makeTwo_114 : decode cX11_makeTwo 114 = .ok (.getfield 45, 3) := by decide +kernel
theorem dX11_makeTwo_117 : decode cX11_makeTwo 117 = .ok (.iload_n 3, 1) := by decide +kernel
theorem dX11_makeTwo_118 : decode cX11_makeTwo 118 = .ok (.iaload, 1) := by decide +kernel
theorem dX11_makeTwo_119 : decode cX11_makeTwo 119 = .ok (.iconst 1, 1) := by decide +kernel
theorem dX11_makeTwo_120 : decode cX11_makeTwo 120 = .ok (.if_icmp .ne 18, 3) := by decide +kernel
theorem dX11_makeTwo_138 : decode cX11_makeTwo 138 = .ok (.bipush (-3), 2) := by decide +kernel
theorem dX11_makeTwo_140 : decode cX11_makeTwo 140 = .ok (.goto 4, 3) := by decide +kernel
theorem dX11_makeTwo_144 : decode cX11_makeTwo 144 = .ok (.ireturn, 1) := by decide +kernel
theorem dX11_makeTwo_123 : decode cX11_makeTwo 123 = .ok (.aload_n 0, 1) := by decide +kernel
theorem dX11_makeTwo_124 : decode cX11_makeTwo 124 = .ok (.iload_n 3, 1) := by decide +kernel
theorem dX11_makeTwo_125 : decode cX11_makeTwo 125 = .ok (.iconst 0, 1) := by decide +kernel
theorem dX11_makeTwo_126 : decode cX11_makeTwo 126 = .ok (.invokevirtual 167, 3) := by decide +kernel
theorem dX11_makeTwo_129 : decode cX11_makeTwo 129 = .ok (.aload_n 0, 1) := by decide +kernel
theorem dX11_makeTwo_130 : decode cX11_makeTwo 130 = .ok (.getfield 51, 3) := by decide +kernel
theorem dX11_makeTwo_133 : decode cX11_makeTwo 133 = .ok (.iload_n 2, 1) := by decide +kernel
theorem dX11_makeTwo_134 : decode cX11_makeTwo 134 = .ok (.iaload, 1) := by decide +kernel
theorem dX11_makeTwo_135 : decode cX11_makeTwo 135 = .ok (.if_icmp .eq 8, 3) := by decide +kernel
theorem dX11_makeTwo_143 : decode cX11_makeTwo 143 = .ok (.iconst 0, 1) := by decide +kernel
theorem dX11_makeTwo_44 : decode cX11_makeTwo 44 = .ok (.aload_n 0, 1) := by decide +kernel
theorem dX11_makeTwo_45 : decode cX11_makeTwo 45 = .ok (.getfield 45, 3) := by decide +kernel
theorem dX11_makeTwo_48 : decode cX11_makeTwo 48 = .ok (.iload_n 2, 1) := by decide +kernel
theorem dX11_makeTwo_49 : decode cX11_makeTwo 49 = .ok (.iaload, 1) := by decide +kernel
theorem dX11_makeTwo_50 : decode cX11_makeTwo 50 = .ok (.iconst 1, 1) := by decide +kernel
theorem dX11_makeTwo_51 : decode cX11_makeTwo 51 = .ok (.if_icmp .lt 29, 3) := by decide +kernel
theorem dX11_makeTwo_80 : decode cX11_makeTwo 80 = .ok (.bipush (-3), 2) := by decide +kernel
theorem dX11_makeTwo_82 : decode cX11_makeTwo 82 = .ok (.ireturn, 1) := by decide +kernel
theorem dX11_makeTwo_54 : decode cX11_makeTwo 54 = .ok (.aload_n 0, 1) := by decide +kernel
theorem dX11_makeTwo_55 : decode cX11_makeTwo 55 = .ok (.iload_n 2, 1) := by decide +kernel
theorem dX11_makeTwo_56 : decode cX11_makeTwo 56 = .ok (.iconst 0, 1) := by decide +kernel
theorem dX11_makeTwo_57 : decode cX11_makeTwo 57 = .ok (.invokevirtual 167, 3) := by decide +kernel
theorem dX11_makeTwo_60 : decode cX11_makeTwo 60 = .ok (.aload_n 0, 1) := by decide +kernel
theorem dX11_makeTwo_61 : decode cX11_makeTwo 61 = .ok (.getfield 51, 3) := by decide +kernel
theorem dX11_makeTwo_64 : decode cX11_makeTwo 64 = .ok (.iload_n 3, 1) := by decide +kernel
theorem dX11_makeTwo_65 : decode cX11_makeTwo 65 = .ok (.iaload, 1) := by decide +kernel
theorem dX11_makeTwo_66 : decode cX11_makeTwo 66 = .ok (.if_icmp .ne 14, 3) := by decide +kernel
theorem dX11_makeTwo_69 : decode cX11_makeTwo 69 = .ok (.aload_n 0, 1) := by decide +kernel
theorem dX11_makeTwo_70 : decode cX11_makeTwo 70 = .ok (.iload_n 3, 1) := by decide +kernel
theorem dX11_makeTwo_71 : decode cX11_makeTwo 71 = .ok (.iconst 0, 1) := by decide +kernel
theorem dX11_makeTwo_72 : decode cX11_makeTwo 72 = .ok (.iload_n 2, 1) := by decide +kernel
theorem dX11_makeTwo_73 : decode cX11_makeTwo 73 = .ok (.iconst 1, 1) := by decide +kernel
theorem dX11_makeTwo_74 : decode cX11_makeTwo 74 = .ok (.invokevirtual 174, 3) := by decide +kernel
theorem dX11_makeTwo_77 : decode cX11_makeTwo 77 = .ok (.ifCond .ne 6, 3) := by decide +kernel
theorem dX11_makeTwo_83 : decode cX11_makeTwo 83 = .ok (.aload_n 0, 1) := by decide +kernel
theorem dX11_makeTwo_84 : decode cX11_makeTwo 84 = .ok (.iload_n 2, 1) := by decide +kernel
theorem dX11_makeTwo_85 : decode cX11_makeTwo 85 = .ok (.iconst 1, 1) := by decide +kernel
theorem dX11_makeTwo_86 : decode cX11_makeTwo 86 = .ok (.invokevirtual 206, 3) := by decide +kernel
theorem dX11_makeTwo_89 : decode cX11_makeTwo 89 = .ok (.iconst 0, 1) := by decide +kernel
theorem dX11_makeTwo_90 : decode cX11_makeTwo 90 = .ok (.ireturn, 1) := by decide +kernel
theorem hy_X11_makeTwo : yX11_makeTwo.cls ≠ "java/lang/invoke/MethodHandle" ∧ yX11_makeTwo.cls ≠ "java/lang/invoke/VarHandle" ∧ (parseMethodDescriptor yX11_makeTwo.desc).map (fun d => d.parameters.length) = some 3 := ⟨by decide, by decide, by decide +kernel⟩
def f_X11_makeTwo (p1 : Int32) (p2 : Int32) (p3 : Int32) (S : mS) : Option ((Int32) × mS) :=
  o_call (f_X11_isHandle p2 S) fun x1 S1 =>
  if x1 = 0 then (
  some ((-1), S1)) else (
  o_call (f_X11_isHandle p3 S1) fun x2 S2 =>
  if x2 = 0 then (
  some ((-1), S2)) else (
  o_let (m_pI S2 4 p2) fun S3 =>
  o_let (m_pI S3 5 p3) fun S4 =>
  o_ck (¬ (p2 < 0 ∨ 33 ≤ (p2).toNatClampNeg)) (o_let (m_aI S4 10 (p2).toNatClampNeg) fun x3 =>
  o_call (f_X11_gives x3 S4) fun _ S5 =>
  if p1 = 16 then (
  o_ck (¬ (p2 < 0 ∨ 33 ≤ (p2).toNatClampNeg)) (o_let (m_aI S5 8 (p2).toNatClampNeg) fun x15 =>
  if x15 < 1 then (
  some ((-3), S5)) else (
  o_call (f_X11_kind p2 0 S5) fun x16 S12 =>
  o_ck (¬ (p3 < 0 ∨ 33 ≤ (p3).toNatClampNeg)) (o_let (m_aI S12 10 (p3).toNatClampNeg) fun x17 =>
  if x16 = x17 then (
  o_call (f_X11_isFirst p3 0 p2 1 S12) fun x18 S13 =>
  if x18 = 0 then (
  some ((-3), S13)) else (
  o_call (f_X11_takesOf p2 1 S13) fun _ S14 =>
  some (0, S14))) else (
  some ((-3), S12)))))) else (
  o_call (f_X11_takesOf p2 0 S5) fun _ S6 =>
  if p1 = 17 then (
  o_ck (¬ (p3 < 0 ∨ 33 ≤ (p3).toNatClampNeg)) (o_let (m_aI S6 10 (p3).toNatClampNeg) fun x11 =>
  o_call (f_X11_gives x11 S6) fun _ S10 =>
  o_ck (¬ (p3 < 0 ∨ 33 ≤ (p3).toNatClampNeg)) (o_let (m_aI S10 8 (p3).toNatClampNeg) fun x12 =>
  if x12 = 1 then (
  o_call (f_X11_kind p3 0 S10) fun x13 S11 =>
  o_ck (¬ (p2 < 0 ∨ 33 ≤ (p2).toNatClampNeg)) (o_let (m_aI S11 10 (p2).toNatClampNeg) fun x14 =>
  if x13 = x14 then (
  some (0, S11)) else (
  some ((-3), S11)))) else (
  some ((-3), S10))))) else (
  o_ck (¬ (p3 < 0 ∨ 33 ≤ (p3).toNatClampNeg)) (o_let (m_aI S6 8 (p3).toNatClampNeg) fun x4 =>
  if x4 < 2 then (
  some ((-3), S6)) else (
  o_call (f_X11_kind p3 0 S6) fun x5 S7 =>
  if x5 = 4 then (
  o_call (f_X11_kind p3 1 S7) fun x6 S8 =>
  o_ck (¬ (p2 < 0 ∨ 33 ≤ (p2).toNatClampNeg)) (o_let (m_aI S8 10 (p2).toNatClampNeg) fun x7 =>
  if x6 = x7 then (
  o_ck (¬ (p3 < 0 ∨ 33 ≤ (p3).toNatClampNeg)) (o_let (m_aI S8 10 (p3).toNatClampNeg) fun x8 =>
  o_ck (¬ (p2 < 0 ∨ 33 ≤ (p2).toNatClampNeg)) (o_let (m_aI S8 10 (p2).toNatClampNeg) fun x9 =>
  if x8 = x9 then (
  o_call (f_X11_isFirst p3 2 p2 0 S8) fun x10 S9 =>
  if x10 = 0 then (
  some ((-3), S9)) else (
  some (0, S9))) else (
  some ((-3), S8))))) else (
  some ((-3), S8)))) else (
  some ((-3), S7)))))))))
set_option maxHeartbeats 4000000 in
set_option maxRecDepth 100000 in
theorem c_X11_makeTwo {l : Launch} {D : va_G} {Y : Nat → ClassId} {aR : Nat → Nat} {A : Nat → Prop} {ad : Nat → Nat} {p1 : Int32} {p2 : Int32} {p3 : Int32} {S S' : mS} {r : Int32} (hf : f_X11_makeTwo p1 p2 p3 S = some (r, S')) : jq_M l D Y aR A ad yX11_makeTwo cX11_makeTwo 5 (some .int) 2 48 [.ref (ad 0), .int p1, .int p2, .int p3] S (some (.int r)) S' := by
  unfold f_X11_makeTwo at hf
  refine jq_enterM (by decide) (Nat.le_of_ble_eq_true rfl) fun p e s m args below meth c ls H locs hX hJ hl => ?_
  have hl : lv_has ls 5 [(0, .ref (ad 0)), (1, .int p1), (2, .int p2), (3, .int p3)] := hl
  have hx := hX.1
  have hb := hX.2.1
  have hm := hX.2.2.1
  have ho := hX.2.2.2.1
  have ht := hX.2.2.2.2.1
  have hn := hX.2.2.2.2.2.1.2.1
  refine lv_aload_n hx hb dX11_makeTwo_0 rfl (lv_at hl 0 rfl) ?_
  refine lv_iload_n hx hb dX11_makeTwo_1 rfl (lv_at hl 2 rfl) ?_
  replace hf := o_call_e hf
  obtain ⟨x1, S1, hq1, hf⟩ := hf
  refine jq_doM hX hJ (jq_okV (As := [.int p2]) (rest := []) hx hb hm ho ht (mJ.recv hX hJ) qw879 qw881 qs80 qw882 qw7 hy_X11_isHandle rfl hl.1 (Nat.le_of_ble_eq_true rfl) dX11_makeTwo_2) (c_X11_isHandle hq1) (Nat.le_of_ble_eq_true rfl) (Nat.le_of_ble_eq_true rfl) (Nat.le_refl _) (Nat.le_refl _) (fun H locs hJ' => ?_)
  clear hJ
  have hJ := hJ'
  clear hJ'
  refine lv_if_eq (tgt := 16) hx hb dX11_makeTwo_5 (by decide) (fun c1 => ?_) (fun c1 => ?_)
  · replace hf := o_t hf c1
    refine lv_iconst (v := (-1)) hx hb dX11_makeTwo_16 (by decide) ?_
    obtain ⟨rfl, rfl⟩ := Prod.mk.inj (Option.some.inj hf)
    exact jq_iret hX hJ.2 dX11_makeTwo_17 ⟨rfl, rfl, rfl, hJ.1⟩
  · replace hf := o_f hf c1
    refine lv_aload_n hx hb dX11_makeTwo_8 rfl (lv_at hl 0 rfl) ?_
    refine lv_iload_n hx hb dX11_makeTwo_9 rfl (lv_at hl 3 rfl) ?_
    replace hf := o_call_e hf
    obtain ⟨x2, S2, hq2, hf⟩ := hf
    refine jq_doM hX hJ (jq_okV (As := [.int p3]) (rest := []) hx hb hm ho ht (mJ.recv hX hJ) qw879 qw881 qs80 qw882 qw7 hy_X11_isHandle rfl hl.1 (Nat.le_of_ble_eq_true rfl) dX11_makeTwo_10) (c_X11_isHandle hq2) (Nat.le_of_ble_eq_true rfl) (Nat.le_of_ble_eq_true rfl) (Nat.le_refl _) (Nat.le_refl _) (fun H locs hJ' => ?_)
    clear hJ
    have hJ := hJ'
    clear hJ'
    refine lv_if_ne (tgt := 18) hx hb dX11_makeTwo_13 (by decide) (fun c2 => ?_) (fun c2 => ?_)
    · replace hf := o_f hf c2
      refine lv_aload_n hx hb dX11_makeTwo_18 rfl (lv_at hl 0 rfl) ?_
      refine lv_iload_n hx hb dX11_makeTwo_19 rfl (lv_at hl 2 rfl) ?_
      replace hf := o_let_e hf
      obtain ⟨S3, hS3, hf⟩ := hf
      refine mp_madeA hX hJ hS3 qw706 dX11_makeTwo_20 (fun H locs hJ' => ?_)
      clear hJ
      have hJ := hJ'
      clear hJ'
      refine lv_aload_n hx hb dX11_makeTwo_23 rfl (lv_at hl 0 rfl) ?_
      refine lv_iload_n hx hb dX11_makeTwo_24 rfl (lv_at hl 3 rfl) ?_
      replace hf := o_let_e hf
      obtain ⟨S4, hS4, hf⟩ := hf
      refine mp_madeB hX hJ hS4 qw707 dX11_makeTwo_25 (fun H locs hJ' => ?_)
      clear hJ
      have hJ := hJ'
      clear hJ'
      refine lv_aload_n hx hb dX11_makeTwo_28 rfl (lv_at hl 0 rfl) ?_
      refine lv_aload_n hx hb dX11_makeTwo_29 rfl (lv_at hl 0 rfl) ?_
      refine mg_resultOf hX hJ qw705 dX11_makeTwo_30 ?_
      refine lv_iload_n hx hb dX11_makeTwo_33 rfl (lv_at hl 2 rfl) ?_
      replace hf := o_ck_e hf
      obtain ⟨hk1, hf⟩ := hf
      replace hf := o_let_e hf
      obtain ⟨x3, hx3, hf⟩ := hf
      refine ma_I 10 hX hJ (by decide) hk1 hx3 dX11_makeTwo_34 ?_
      replace hf := o_call_e hf
      obtain ⟨_, S5, hq3, hf⟩ := hf
      refine jq_doM hX hJ (jq_okV (As := [.int x3]) (rest := []) hx hb hm ho ht (mJ.recv hX hJ) qw867 qw869 qs77 qw870 qw7 hy_X11_gives rfl hl.1 (Nat.le_of_ble_eq_true rfl) dX11_makeTwo_35) (c_X11_gives hq3) (Nat.le_of_ble_eq_true rfl) (Nat.le_of_ble_eq_true rfl) (Nat.le_refl _) (Nat.le_refl _) (fun H locs hJ' => ?_)
      clear hJ
      have hJ := hJ'
      clear hJ'
      refine lv_iload_n hx hb dX11_makeTwo_38 rfl (lv_at hl 1 rfl) ?_
      refine lv_bipush (v := 16) hx hb dX11_makeTwo_39 (by decide) ?_
      refine lv_icmp_ne (tgt := 91) hx hb dX11_makeTwo_41 (by decide) (fun c3 => ?_) (fun c3 => ?_)
      · replace hf := o_f hf c3
        refine lv_aload_n hx hb dX11_makeTwo_91 rfl (lv_at hl 0 rfl) ?_
        refine lv_iload_n hx hb dX11_makeTwo_92 rfl (lv_at hl 2 rfl) ?_
        refine lv_iconst (v := 0) hx hb dX11_makeTwo_93 (by decide) ?_
        replace hf := o_call_e hf
        obtain ⟨_, S6, hq4, hf⟩ := hf
        refine jq_doM hX hJ (jq_okV (As := [.int p2, .int 0]) (rest := []) hx hb hm ho ht (mJ.recv hX hJ) qw891 qw893 qs83 qw894 qw7 hy_X11_takesOf rfl hl.1 (Nat.le_of_ble_eq_true rfl) dX11_makeTwo_94) (c_X11_takesOf hq4) (Nat.le_of_ble_eq_true rfl) (Nat.le_of_ble_eq_true rfl) (Nat.le_refl _) (Nat.le_refl _) (fun H locs hJ' => ?_)
        clear hJ
        have hJ := hJ'
        clear hJ'
        refine lv_iload_n hx hb dX11_makeTwo_97 rfl (lv_at hl 1 rfl) ?_
        refine lv_bipush (v := 17) hx hb dX11_makeTwo_98 (by decide) ?_
        refine lv_icmp_ne (tgt := 145) hx hb dX11_makeTwo_100 (by decide) (fun c4 => ?_) (fun c4 => ?_)
        · replace hf := o_f hf c4
          refine lv_aload_n hx hb dX11_makeTwo_145 rfl (lv_at hl 0 rfl) ?_
          refine mg_manyOf hX hJ qw703 dX11_makeTwo_146 ?_
          refine lv_iload_n hx hb dX11_makeTwo_149 rfl (lv_at hl 3 rfl) ?_
          replace hf := o_ck_e hf
          obtain ⟨hk2, hf⟩ := hf
          replace hf := o_let_e hf
          obtain ⟨x4, hx4, hf⟩ := hf
          refine ma_I 8 hX hJ (by decide) hk2 hx4 dX11_makeTwo_150 ?_
          refine lv_iconst (v := 2) hx hb dX11_makeTwo_151 (by decide) ?_
          refine lv_icmp_lt (tgt := 210) hx hb dX11_makeTwo_152 (by decide) (fun c5 => ?_) (fun c5 => ?_)
          · replace hf := o_t hf c5
            refine lv_iconst (v := 0) hx hb dX11_makeTwo_210 (by decide) ?_
            refine lv_istore (lv' := [(4, .int 0), (0, .ref (ad 0)), (1, .int p1), (2, .int p2), (3, .int p3)]) hx hb dX11_makeTwo_211 hl (by decide) rfl (fun ls hl' => ?_)
            clear hl
            have hl := hl'
            clear hl'
            refine lv_iload hx hb dX11_makeTwo_213 (lv_at hl 0 rfl) ?_
            refine lv_if_eq (tgt := 222) hx hb dX11_makeTwo_215 (by decide) (fun _ => ?_) (fun z => absurd (by decide) z)
            refine lv_bipush (v := (-3)) hx hb dX11_makeTwo_222 (by decide) ?_
            obtain ⟨rfl, rfl⟩ := Prod.mk.inj (Option.some.inj hf)
            exact jq_iret hX hJ.2 dX11_makeTwo_224 ⟨rfl, rfl, rfl, hJ.1⟩
          · replace hf := o_f hf c5
            refine lv_aload_n hx hb dX11_makeTwo_155 rfl (lv_at hl 0 rfl) ?_
            refine lv_iload_n hx hb dX11_makeTwo_156 rfl (lv_at hl 3 rfl) ?_
            refine lv_iconst (v := 0) hx hb dX11_makeTwo_157 (by decide) ?_
            replace hf := o_call_e hf
            obtain ⟨x5, S7, hq5, hf⟩ := hf
            refine jq_doM hX hJ (jq_okV (As := [.int p3, .int 0]) (rest := []) hx hb hm ho ht (mJ.recv hX hJ) qw883 qw885 qs81 qw886 qw7 hy_X11_kind rfl hl.1 (Nat.le_of_ble_eq_true rfl) dX11_makeTwo_158) (c_X11_kind hq5) (Nat.le_of_ble_eq_true rfl) (Nat.le_of_ble_eq_true rfl) (Nat.le_refl _) (Nat.le_refl _) (fun H locs hJ' => ?_)
            clear hJ
            have hJ := hJ'
            clear hJ'
            refine lv_iconst (v := 4) hx hb dX11_makeTwo_161 (by decide) ?_
            refine lv_icmp_ne (tgt := 210) hx hb dX11_makeTwo_162 (by decide) (fun c6 => ?_) (fun c6 => ?_)
            · replace hf := o_f hf c6
              refine lv_iconst (v := 0) hx hb dX11_makeTwo_210 (by decide) ?_
              refine lv_istore (lv' := [(4, .int 0), (0, .ref (ad 0)), (1, .int p1), (2, .int p2), (3, .int p3)]) hx hb dX11_makeTwo_211 hl (by decide) rfl (fun ls hl' => ?_)
              clear hl
              have hl := hl'
              clear hl'
              refine lv_iload hx hb dX11_makeTwo_213 (lv_at hl 0 rfl) ?_
              refine lv_if_eq (tgt := 222) hx hb dX11_makeTwo_215 (by decide) (fun _ => ?_) (fun z => absurd (by decide) z)
              refine lv_bipush (v := (-3)) hx hb dX11_makeTwo_222 (by decide) ?_
              obtain ⟨rfl, rfl⟩ := Prod.mk.inj (Option.some.inj hf)
              exact jq_iret hX hJ.2 dX11_makeTwo_224 ⟨rfl, rfl, rfl, hJ.1⟩
            · replace hf := o_t hf c6
              refine lv_aload_n hx hb dX11_makeTwo_165 rfl (lv_at hl 0 rfl) ?_
              refine lv_iload_n hx hb dX11_makeTwo_166 rfl (lv_at hl 3 rfl) ?_
              refine lv_iconst (v := 1) hx hb dX11_makeTwo_167 (by decide) ?_
              replace hf := o_call_e hf
              obtain ⟨x6, S8, hq6, hf⟩ := hf
              refine jq_doM hX hJ (jq_okV (As := [.int p3, .int 1]) (rest := []) hx hb hm ho ht (mJ.recv hX hJ) qw883 qw885 qs81 qw886 qw7 hy_X11_kind rfl hl.1 (Nat.le_of_ble_eq_true rfl) dX11_makeTwo_168) (c_X11_kind hq6) (Nat.le_of_ble_eq_true rfl) (Nat.le_of_ble_eq_true rfl) (Nat.le_refl _) (Nat.le_refl _) (fun H locs hJ' => ?_)
              clear hJ
              have hJ := hJ'
              clear hJ'
              refine lv_aload_n hx hb dX11_makeTwo_171 rfl (lv_at hl 0 rfl) ?_
              refine mg_resultOf hX hJ qw705 dX11_makeTwo_172 ?_
              refine lv_iload_n hx hb dX11_makeTwo_175 rfl (lv_at hl 2 rfl) ?_
              replace hf := o_ck_e hf
              obtain ⟨hk3, hf⟩ := hf
              replace hf := o_let_e hf
              obtain ⟨x7, hx7, hf⟩ := hf
              refine ma_I 10 hX hJ (by decide) hk3 hx7 dX11_makeTwo_176 ?_
              refine lv_icmp_ne (tgt := 210) hx hb dX11_makeTwo_177 (by decide) (fun c7 => ?_) (fun c7 => ?_)
              · replace hf := o_f hf c7
                refine lv_iconst (v := 0) hx hb dX11_makeTwo_210 (by decide) ?_
                refine lv_istore (lv' := [(4, .int 0), (0, .ref (ad 0)), (1, .int p1), (2, .int p2), (3, .int p3)]) hx hb dX11_makeTwo_211 hl (by decide) rfl (fun ls hl' => ?_)
                clear hl
                have hl := hl'
                clear hl'
                refine lv_iload hx hb dX11_makeTwo_213 (lv_at hl 0 rfl) ?_
                refine lv_if_eq (tgt := 222) hx hb dX11_makeTwo_215 (by decide) (fun _ => ?_) (fun z => absurd (by decide) z)
                refine lv_bipush (v := (-3)) hx hb dX11_makeTwo_222 (by decide) ?_
                obtain ⟨rfl, rfl⟩ := Prod.mk.inj (Option.some.inj hf)
                exact jq_iret hX hJ.2 dX11_makeTwo_224 ⟨rfl, rfl, rfl, hJ.1⟩
              · replace hf := o_t hf c7
                refine lv_aload_n hx hb dX11_makeTwo_180 rfl (lv_at hl 0 rfl) ?_
                refine mg_resultOf hX hJ qw705 dX11_makeTwo_181 ?_
                refine lv_iload_n hx hb dX11_makeTwo_184 rfl (lv_at hl 3 rfl) ?_
                replace hf := o_ck_e hf
                obtain ⟨hk4, hf⟩ := hf
                replace hf := o_let_e hf
                obtain ⟨x8, hx8, hf⟩ := hf
                refine ma_I 10 hX hJ (by decide) hk4 hx8 dX11_makeTwo_185 ?_
                refine lv_aload_n hx hb dX11_makeTwo_186 rfl (lv_at hl 0 rfl) ?_
                refine mg_resultOf hX hJ qw705 dX11_makeTwo_187 ?_
                refine lv_iload_n hx hb dX11_makeTwo_190 rfl (lv_at hl 2 rfl) ?_
                replace hf := o_ck_e hf
                obtain ⟨hk5, hf⟩ := hf
                replace hf := o_let_e hf
                obtain ⟨x9, hx9, hf⟩ := hf
                refine ma_I 10 hX hJ (by decide) hk5 hx9 dX11_makeTwo_191 ?_
                refine lv_icmp_ne (tgt := 210) hx hb dX11_makeTwo_192 (by decide) (fun c8 => ?_) (fun c8 => ?_)
                · replace hf := o_f hf c8
                  refine lv_iconst (v := 0) hx hb dX11_makeTwo_210 (by decide) ?_
                  refine lv_istore (lv' := [(4, .int 0), (0, .ref (ad 0)), (1, .int p1), (2, .int p2), (3, .int p3)]) hx hb dX11_makeTwo_211 hl (by decide) rfl (fun ls hl' => ?_)
                  clear hl
                  have hl := hl'
                  clear hl'
                  refine lv_iload hx hb dX11_makeTwo_213 (lv_at hl 0 rfl) ?_
                  refine lv_if_eq (tgt := 222) hx hb dX11_makeTwo_215 (by decide) (fun _ => ?_) (fun z => absurd (by decide) z)
                  refine lv_bipush (v := (-3)) hx hb dX11_makeTwo_222 (by decide) ?_
                  obtain ⟨rfl, rfl⟩ := Prod.mk.inj (Option.some.inj hf)
                  exact jq_iret hX hJ.2 dX11_makeTwo_224 ⟨rfl, rfl, rfl, hJ.1⟩
                · replace hf := o_t hf c8
                  refine lv_aload_n hx hb dX11_makeTwo_195 rfl (lv_at hl 0 rfl) ?_
                  refine lv_iload_n hx hb dX11_makeTwo_196 rfl (lv_at hl 3 rfl) ?_
                  refine lv_iconst (v := 2) hx hb dX11_makeTwo_197 (by decide) ?_
                  refine lv_iload_n hx hb dX11_makeTwo_198 rfl (lv_at hl 2 rfl) ?_
                  refine lv_iconst (v := 0) hx hb dX11_makeTwo_199 (by decide) ?_
                  replace hf := o_call_e hf
                  obtain ⟨x10, S9, hq7, hf⟩ := hf
                  refine jq_doM hX hJ (jq_okV (As := [.int p3, .int 2, .int p2, .int 0]) (rest := []) hx hb hm ho ht (mJ.recv hX hJ) qw899 qw901 qs85 qw902 qw7 hy_X11_isFirst rfl hl.1 (Nat.le_of_ble_eq_true rfl) dX11_makeTwo_200) (c_X11_isFirst hq7) (Nat.le_of_ble_eq_true rfl) (Nat.le_of_ble_eq_true rfl) (Nat.le_refl _) (Nat.le_refl _) (fun H locs hJ' => ?_)
                  clear hJ
                  have hJ := hJ'
                  clear hJ'
                  refine lv_if_eq (tgt := 210) hx hb dX11_makeTwo_203 (by decide) (fun c9 => ?_) (fun c9 => ?_)
                  · replace hf := o_t hf c9
                    refine lv_iconst (v := 0) hx hb dX11_makeTwo_210 (by decide) ?_
                    refine lv_istore (lv' := [(4, .int 0), (0, .ref (ad 0)), (1, .int p1), (2, .int p2), (3, .int p3)]) hx hb dX11_makeTwo_211 hl (by decide) rfl (fun ls hl' => ?_)
                    clear hl
                    have hl := hl'
                    clear hl'
                    refine lv_iload hx hb dX11_makeTwo_213 (lv_at hl 0 rfl) ?_
                    refine lv_if_eq (tgt := 222) hx hb dX11_makeTwo_215 (by decide) (fun _ => ?_) (fun z => absurd (by decide) z)
                    refine lv_bipush (v := (-3)) hx hb dX11_makeTwo_222 (by decide) ?_
                    obtain ⟨rfl, rfl⟩ := Prod.mk.inj (Option.some.inj hf)
                    exact jq_iret hX hJ.2 dX11_makeTwo_224 ⟨rfl, rfl, rfl, hJ.1⟩
                  · replace hf := o_f hf c9
                    refine lv_iconst (v := 1) hx hb dX11_makeTwo_206 (by decide) ?_
                    refine lv_goto (tgt := 211) hx hb dX11_makeTwo_207 (by decide) ?_
                    refine lv_istore (lv' := [(4, .int 1), (0, .ref (ad 0)), (1, .int p1), (2, .int p2), (3, .int p3)]) hx hb dX11_makeTwo_211 hl (by decide) rfl (fun ls hl' => ?_)
                    clear hl
                    have hl := hl'
                    clear hl'
                    refine lv_iload hx hb dX11_makeTwo_213 (lv_at hl 0 rfl) ?_
                    refine lv_if_eq (tgt := 222) hx hb dX11_makeTwo_215 (by decide) (fun z => absurd z (by decide)) (fun _ => ?_)
                    refine lv_iconst (v := 0) hx hb dX11_makeTwo_218 (by decide) ?_
                    refine lv_goto (tgt := 224) hx hb dX11_makeTwo_219 (by decide) ?_
                    obtain ⟨rfl, rfl⟩ := Prod.mk.inj (Option.some.inj hf)
                    exact jq_iret hX hJ.2 dX11_makeTwo_224 ⟨rfl, rfl, rfl, hJ.1⟩
        · replace hf := o_t hf c4
          refine lv_aload_n hx hb dX11_makeTwo_103 rfl (lv_at hl 0 rfl) ?_
          refine lv_aload_n hx hb dX11_makeTwo_104 rfl (lv_at hl 0 rfl) ?_
          refine mg_resultOf hX hJ qw705 dX11_makeTwo_105 ?_
          refine lv_iload_n hx hb dX11_makeTwo_108 rfl (lv_at hl 3 rfl) ?_
          replace hf := o_ck_e hf
          obtain ⟨hk6, hf⟩ := hf
          replace hf := o_let_e hf
          obtain ⟨x11, hx11, hf⟩ := hf
          refine ma_I 10 hX hJ (by decide) hk6 hx11 dX11_makeTwo_109 ?_
          replace hf := o_call_e hf
          obtain ⟨_, S10, hq8, hf⟩ := hf
          refine jq_doM hX hJ (jq_okV (As := [.int x11]) (rest := []) hx hb hm ho ht (mJ.recv hX hJ) qw867 qw869 qs77 qw870 qw7 hy_X11_gives rfl hl.1 (Nat.le_of_ble_eq_true rfl) dX11_makeTwo_110) (c_X11_gives hq8) (Nat.le_of_ble_eq_true rfl) (Nat.le_of_ble_eq_true rfl) (Nat.le_refl _) (Nat.le_refl _) (fun H locs hJ' => ?_)
          clear hJ
          have hJ := hJ'
          clear hJ'
          refine lv_aload_n hx hb dX11_makeTwo_113 rfl (lv_at hl 0 rfl) ?_
          refine mg_manyOf hX hJ qw703 dX11_makeTwo_114 ?_
          refine lv_iload_n hx hb dX11_makeTwo_117 rfl (lv_at hl 3 rfl) ?_
          replace hf := o_ck_e hf
          obtain ⟨hk7, hf⟩ := hf
          replace hf := o_let_e hf
          obtain ⟨x12, hx12, hf⟩ := hf
          refine ma_I 8 hX hJ (by decide) hk7 hx12 dX11_makeTwo_118 ?_
          refine lv_iconst (v := 1) hx hb dX11_makeTwo_119 (by decide) ?_
          refine lv_icmp_ne (tgt := 138) hx hb dX11_makeTwo_120 (by decide) (fun c10 => ?_) (fun c10 => ?_)
          · replace hf := o_f hf c10
            refine lv_bipush (v := (-3)) hx hb dX11_makeTwo_138 (by decide) ?_
            refine lv_goto (tgt := 144) hx hb dX11_makeTwo_140 (by decide) ?_
            obtain ⟨rfl, rfl⟩ := Prod.mk.inj (Option.some.inj hf)
            exact jq_iret hX hJ.2 dX11_makeTwo_144 ⟨rfl, rfl, rfl, hJ.1⟩
          · replace hf := o_t hf c10
            refine lv_aload_n hx hb dX11_makeTwo_123 rfl (lv_at hl 0 rfl) ?_
            refine lv_iload_n hx hb dX11_makeTwo_124 rfl (lv_at hl 3 rfl) ?_
            refine lv_iconst (v := 0) hx hb dX11_makeTwo_125 (by decide) ?_
            replace hf := o_call_e hf
            obtain ⟨x13, S11, hq9, hf⟩ := hf
            refine jq_doM hX hJ (jq_okV (As := [.int p3, .int 0]) (rest := []) hx hb hm ho ht (mJ.recv hX hJ) qw883 qw885 qs81 qw886 qw7 hy_X11_kind rfl hl.1 (Nat.le_of_ble_eq_true rfl) dX11_makeTwo_126) (c_X11_kind hq9) (Nat.le_of_ble_eq_true rfl) (Nat.le_of_ble_eq_true rfl) (Nat.le_refl _) (Nat.le_refl _) (fun H locs hJ' => ?_)
            clear hJ
            have hJ := hJ'
            clear hJ'
            refine lv_aload_n hx hb dX11_makeTwo_129 rfl (lv_at hl 0 rfl) ?_
            refine mg_resultOf hX hJ qw705 dX11_makeTwo_130 ?_
            refine lv_iload_n hx hb dX11_makeTwo_133 rfl (lv_at hl 2 rfl) ?_
            replace hf := o_ck_e hf
            obtain ⟨hk8, hf⟩ := hf
            replace hf := o_let_e hf
            obtain ⟨x14, hx14, hf⟩ := hf
            refine ma_I 10 hX hJ (by decide) hk8 hx14 dX11_makeTwo_134 ?_
            refine lv_icmp_eq (tgt := 143) hx hb dX11_makeTwo_135 (by decide) (fun c11 => ?_) (fun c11 => ?_)
            · replace hf := o_t hf c11
              refine lv_iconst (v := 0) hx hb dX11_makeTwo_143 (by decide) ?_
              obtain ⟨rfl, rfl⟩ := Prod.mk.inj (Option.some.inj hf)
              exact jq_iret hX hJ.2 dX11_makeTwo_144 ⟨rfl, rfl, rfl, hJ.1⟩
            · replace hf := o_f hf c11
              refine lv_bipush (v := (-3)) hx hb dX11_makeTwo_138 (by decide) ?_
              refine lv_goto (tgt := 144) hx hb dX11_makeTwo_140 (by decide) ?_
              obtain ⟨rfl, rfl⟩ := Prod.mk.inj (Option.some.inj hf)
              exact jq_iret hX hJ.2 dX11_makeTwo_144 ⟨rfl, rfl, rfl, hJ.1⟩
      · replace hf := o_t hf c3
        refine lv_aload_n hx hb dX11_makeTwo_44 rfl (lv_at hl 0 rfl) ?_
        refine mg_manyOf hX hJ qw703 dX11_makeTwo_45 ?_
        refine lv_iload_n hx hb dX11_makeTwo_48 rfl (lv_at hl 2 rfl) ?_
        replace hf := o_ck_e hf
        obtain ⟨hk9, hf⟩ := hf
        replace hf := o_let_e hf
        obtain ⟨x15, hx15, hf⟩ := hf
        refine ma_I 8 hX hJ (by decide) hk9 hx15 dX11_makeTwo_49 ?_
        refine lv_iconst (v := 1) hx hb dX11_makeTwo_50 (by decide) ?_
        refine lv_icmp_lt (tgt := 80) hx hb dX11_makeTwo_51 (by decide) (fun c12 => ?_) (fun c12 => ?_)
        · replace hf := o_t hf c12
          refine lv_bipush (v := (-3)) hx hb dX11_makeTwo_80 (by decide) ?_
          obtain ⟨rfl, rfl⟩ := Prod.mk.inj (Option.some.inj hf)
          exact jq_iret hX hJ.2 dX11_makeTwo_82 ⟨rfl, rfl, rfl, hJ.1⟩
        · replace hf := o_f hf c12
          refine lv_aload_n hx hb dX11_makeTwo_54 rfl (lv_at hl 0 rfl) ?_
          refine lv_iload_n hx hb dX11_makeTwo_55 rfl (lv_at hl 2 rfl) ?_
          refine lv_iconst (v := 0) hx hb dX11_makeTwo_56 (by decide) ?_
          replace hf := o_call_e hf
          obtain ⟨x16, S12, hq10, hf⟩ := hf
          refine jq_doM hX hJ (jq_okV (As := [.int p2, .int 0]) (rest := []) hx hb hm ho ht (mJ.recv hX hJ) qw883 qw885 qs81 qw886 qw7 hy_X11_kind rfl hl.1 (Nat.le_of_ble_eq_true rfl) dX11_makeTwo_57) (c_X11_kind hq10) (Nat.le_of_ble_eq_true rfl) (Nat.le_of_ble_eq_true rfl) (Nat.le_refl _) (Nat.le_refl _) (fun H locs hJ' => ?_)
          clear hJ
          have hJ := hJ'
          clear hJ'
          refine lv_aload_n hx hb dX11_makeTwo_60 rfl (lv_at hl 0 rfl) ?_
          refine mg_resultOf hX hJ qw705 dX11_makeTwo_61 ?_
          refine lv_iload_n hx hb dX11_makeTwo_64 rfl (lv_at hl 3 rfl) ?_
          replace hf := o_ck_e hf
          obtain ⟨hk10, hf⟩ := hf
          replace hf := o_let_e hf
          obtain ⟨x17, hx17, hf⟩ := hf
          refine ma_I 10 hX hJ (by decide) hk10 hx17 dX11_makeTwo_65 ?_
          refine lv_icmp_ne (tgt := 80) hx hb dX11_makeTwo_66 (by decide) (fun c13 => ?_) (fun c13 => ?_)
          · replace hf := o_f hf c13
            refine lv_bipush (v := (-3)) hx hb dX11_makeTwo_80 (by decide) ?_
            obtain ⟨rfl, rfl⟩ := Prod.mk.inj (Option.some.inj hf)
            exact jq_iret hX hJ.2 dX11_makeTwo_82 ⟨rfl, rfl, rfl, hJ.1⟩
          · replace hf := o_t hf c13
            refine lv_aload_n hx hb dX11_makeTwo_69 rfl (lv_at hl 0 rfl) ?_
            refine lv_iload_n hx hb dX11_makeTwo_70 rfl (lv_at hl 3 rfl) ?_
            refine lv_iconst (v := 0) hx hb dX11_makeTwo_71 (by decide) ?_
            refine lv_iload_n hx hb dX11_makeTwo_72 rfl (lv_at hl 2 rfl) ?_
            refine lv_iconst (v := 1) hx hb dX11_makeTwo_73 (by decide) ?_
            replace hf := o_call_e hf
            obtain ⟨x18, S13, hq11, hf⟩ := hf
            refine jq_doM hX hJ (jq_okV (As := [.int p3, .int 0, .int p2, .int 1]) (rest := []) hx hb hm ho ht (mJ.recv hX hJ) qw899 qw901 qs85 qw902 qw7 hy_X11_isFirst rfl hl.1 (Nat.le_of_ble_eq_true rfl) dX11_makeTwo_74) (c_X11_isFirst hq11) (Nat.le_of_ble_eq_true rfl) (Nat.le_of_ble_eq_true rfl) (Nat.le_refl _) (Nat.le_refl _) (fun H locs hJ' => ?_)
            clear hJ
            have hJ := hJ'
            clear hJ'
            refine lv_if_ne (tgt := 83) hx hb dX11_makeTwo_77 (by decide) (fun c14 => ?_) (fun c14 => ?_)
            · replace hf := o_f hf c14
              refine lv_aload_n hx hb dX11_makeTwo_83 rfl (lv_at hl 0 rfl) ?_
              refine lv_iload_n hx hb dX11_makeTwo_84 rfl (lv_at hl 2 rfl) ?_
              refine lv_iconst (v := 1) hx hb dX11_makeTwo_85 (by decide) ?_
              replace hf := o_call_e hf
              obtain ⟨_, S14, hq12, hf⟩ := hf
              refine jq_doM hX hJ (jq_okV (As := [.int p2, .int 1]) (rest := []) hx hb hm ho ht (mJ.recv hX hJ) qw891 qw893 qs83 qw894 qw7 hy_X11_takesOf rfl hl.1 (Nat.le_of_ble_eq_true rfl) dX11_makeTwo_86) (c_X11_takesOf hq12) (Nat.le_of_ble_eq_true rfl) (Nat.le_of_ble_eq_true rfl) (Nat.le_refl _) (Nat.le_refl _) (fun H locs hJ' => ?_)
              clear hJ
              have hJ := hJ'
              clear hJ'
              refine lv_iconst (v := 0) hx hb dX11_makeTwo_89 (by decide) ?_
              obtain ⟨rfl, rfl⟩ := Prod.mk.inj (Option.some.inj hf)
              exact jq_iret hX hJ.2 dX11_makeTwo_90 ⟨rfl, rfl, rfl, hJ.1⟩
            · replace hf := o_t hf c14
              refine lv_bipush (v := (-3)) hx hb dX11_makeTwo_80 (by decide) ?_
              obtain ⟨rfl, rfl⟩ := Prod.mk.inj (Option.some.inj hf)
              exact jq_iret hX hJ.2 dX11_makeTwo_82 ⟨rfl, rfl, rfl, hJ.1⟩
    · replace hf := o_t hf c2
      refine lv_iconst (v := (-1)) hx hb dX11_makeTwo_16 (by decide) ?_
      obtain ⟨rfl, rfl⟩ := Prod.mk.inj (Option.some.inj hf)
      exact jq_iret hX hJ.2 dX11_makeTwo_17 ⟨rfl, rfl, rfl, hJ.1⟩
theorem dX11_handGoes_0 : decode cX11_handGoes 0 = .ok (.aload_n 0, 1) := by decide +kernel
theorem dX11_handGoes_1 : decode cX11_handGoes 1 = .ok (.getfield 159, 3) := by decide +kernel
theorem dX11_handGoes_4 : decode cX11_handGoes 4 = .ok (.aload_n 0, 1) := by decide +kernel
theorem dX11_handGoes_5 : decode cX11_handGoes 5 = .ok (.getfield 45, 3) := by decide +kernel
theorem dX11_handGoes_8 : decode cX11_handGoes 8 = .ok (.iload_n 1, 1) := by decide +kernel
theorem dX11_handGoes_9 : decode cX11_handGoes 9 = .ok (.iaload, 1) := by decide +kernel
theorem dX11_handGoes_10 : decode cX11_handGoes 10 = .ok (.if_icmp .ne 23, 3) := by decide +kernel
theorem dX11_handGoes_33 : decode cX11_handGoes 33 = .ok (.iconst 0, 1) := by decide +kernel
theorem dX11_handGoes_34 : decode cX11_handGoes 34 = .ok (.istore_n 2, 1) := by decide +kernel
theorem dX11_handGoes_35 : decode cX11_handGoes 35 = .ok (.iconst 0, 1) := by decide +kernel
theorem dX11_handGoes_36 : decode cX11_handGoes 36 = .ok (.istore_n 3, 1) := by decide +kernel
theorem dX11_handGoes_13 : decode cX11_handGoes 13 = .ok (.aload_n 0, 1) := by decide +kernel
theorem dX11_handGoes_14 : decode cX11_handGoes 14 = .ok (.getfield 51, 3) := by decide +kernel
theorem dX11_handGoes_17 : decode cX11_handGoes 17 = .ok (.iload_n 1, 1) := by decide +kernel
theorem dX11_handGoes_18 : decode cX11_handGoes 18 = .ok (.iaload, 1) := by decide +kernel
theorem dX11_handGoes_19 : decode cX11_handGoes 19 = .ok (.aload_n 0, 1) := by decide +kernel
theorem dX11_handGoes_20 : decode cX11_handGoes 20 = .ok (.getfield 20, 3) := by decide +kernel
theorem dX11_handGoes_23 : decode cX11_handGoes 23 = .ok (.invokestatic 249, 3) := by decide +kernel
theorem dX11_handGoes_26 : decode cX11_handGoes 26 = .ok (.ifCond .eq 7, 3) := by decide +kernel
theorem dX11_handGoes_29 : decode cX11_handGoes 29 = .ok (.iconst 1, 1) := by decide +kernel
theorem dX11_handGoes_30 : decode cX11_handGoes 30 = .ok (.goto 4, 3) := by decide +kernel
theorem dX11_handGoes_37 : decode cX11_handGoes 37 = .ok (.iload_n 3, 1) := by decide +kernel
theorem dX11_handGoes_38 : decode cX11_handGoes 38 = .ok (.aload_n 0, 1) := by decide +kernel
theorem dX11_handGoes_39 : decode cX11_handGoes 39 = .ok (.getfield 159, 3) := by decide +kernel
theorem dX11_handGoes_42 : decode cX11_handGoes 42 = .ok (.if_icmp .ge 29, 3) := by decide +kernel
theorem dX11_handGoes_71 : decode cX11_handGoes 71 = .ok (.iload_n 2, 1) := by decide +kernel
theorem dX11_handGoes_72 : decode cX11_handGoes 72 = .ok (.ireturn, 1) := by decide +kernel
theorem dX11_handGoes_45 : decode cX11_handGoes 45 = .ok (.iload_n 2, 1) := by decide +kernel
theorem dX11_handGoes_46 : decode cX11_handGoes 46 = .ok (.ifCond .eq 25, 3) := by decide +kernel
theorem dX11_handGoes_49 : decode cX11_handGoes 49 = .ok (.aload_n 0, 1) := by decide +kernel
theorem dX11_handGoes_50 : decode cX11_handGoes 50 = .ok (.getfield 24, 3) := by decide +kernel
theorem dX11_handGoes_53 : decode cX11_handGoes 53 = .ok (.iload_n 3, 1) := by decide +kernel
theorem dX11_handGoes_54 : decode cX11_handGoes 54 = .ok (.iaload, 1) := by decide +kernel
theorem dX11_handGoes_55 : decode cX11_handGoes 55 = .ok (.aload_n 0, 1) := by decide +kernel
theorem dX11_handGoes_56 : decode cX11_handGoes 56 = .ok (.iload_n 1, 1) := by decide +kernel
theorem dX11_handGoes_57 : decode cX11_handGoes 57 = .ok (.iload_n 3, 1) := by decide +kernel
theorem dX11_handGoes_58 : decode cX11_handGoes 58 = .ok (.invokevirtual 167, 3) := by decide +kernel
theorem dX11_handGoes_61 : decode cX11_handGoes 61 = .ok (.invokestatic 249, 3) := by decide +kernel
theorem dX11_handGoes_64 : decode cX11_handGoes 64 = .ok (.istore_n 2, 1) := by decide +kernel
theorem dX11_handGoes_65 : decode cX11_handGoes 65 = .ok (.iinc 3 1, 3) := by decide +kernel
theorem dX11_handGoes_68 : decode cX11_handGoes 68 = .ok (.goto (-31), 3) := by decide +kernel
theorem hy_X11_handGoes : yX11_handGoes.cls ≠ "java/lang/invoke/MethodHandle" ∧ yX11_handGoes.cls ≠ "java/lang/invoke/VarHandle" ∧ (parseMethodDescriptor yX11_handGoes.desc).map (fun d => d.parameters.length) = some 1 := ⟨by decide, by decide, by decide +kernel⟩
def f_X11_handGoes_b37 : Nat → Int32 → Int32 → Int32 → mS → Option ((Int32) × mS)
  | 0, _, _, _, _ => none
  | n + 1, l1, l2, l3, S => 
  o_let (m_I S 2) fun x1 =>
  if x1 ≤ l3 then (
  o_ck (l2 = 0 ∨ l2 = 1) (some (l2, S))) else (
  if l2 = 0 then (
  o_ck (l2 = 0 ∨ l2 = 1) (some (l2, S))) else (
  o_ck (¬ (l3 < 0 ∨ 4 ≤ (l3).toNatClampNeg)) (o_let (m_aI S 3 (l3).toNatClampNeg) fun x2 =>
  o_call (f_X11_kind l1 l3 S) fun x3 S1 =>
  o_cP (f_X11_goes x2 x3) fun x4 =>
  o_let (l3 + 1) fun x5 =>
  f_X11_handGoes_b37 n l1 x4 x5 S1)))
set_option maxHeartbeats 4000000 in
set_option maxRecDepth 100000 in
theorem w_X11_handGoes_b37 {l : Launch} {D : va_G} {Y : Nat → ClassId} {aR : Nat → Nat} {A : Nat → Prop} {ad : Nat → Nat} {p : Program} {e : Env} {s : State} {m : MethodId} {args : Array Value} {below : List Frame} {meth : Method} {c : Code} : ∀ (n : Nat) (l1 : Int32) (l2 : Int32) (l3 : Int32) (S S' : mS) (r : Int32) (H : Heap) (locs : List Loc) (ls : Array Slot), jq_X D Y aR A p s m args meth c cX11_handGoes RX11 "handGoes" 4 (some .boolean) → mJ D Y A s ad S H locs → f_X11_handGoes_b37 n l1 l2 l3 S = some (r, S') → lv_has ls 4 [(0, .ref (ad 0)), (1, .int l1), (2, .int l2), (3, .int l3)] → W p l e { frames := 2, cells := 0, slots := 0, locals := 46 } s m args below meth c H locs 0 0 (jq_Z below A (fun v k n H => v = (some (.int r)) ∧ k = 0 ∧ n = 0 ∧ mH D Y A ad S' H) s) (F0 m 37 ls []) := by
  intro n
  induction n with
  | zero =>
    intro l1 l2 l3 S S' r H locs ls hX hJ hf hl
    cases hf
  | succ n ih =>
    intro l1 l2 l3 S S' r H locs ls hX hJ hf hl
    rw [f_X11_handGoes_b37.eq_2] at hf
    have hx := hX.1
    have hb := hX.2.1
    have hm := hX.2.2.1
    have ho := hX.2.2.2.1
    have ht := hX.2.2.2.2.1
    have hn := hX.2.2.2.2.2.1.2.1
    refine lv_iload_n hx hb dX11_handGoes_37 rfl (lv_at hl 3 rfl) ?_
    refine lv_aload_n hx hb dX11_handGoes_38 rfl (lv_at hl 0 rfl) ?_
    replace hf := o_let_e hf
    obtain ⟨x1, hx1, hf⟩ := hf
    refine mg_handMany hX hJ hx1 qw694 dX11_handGoes_39 ?_
    refine lv_icmp_ge (tgt := 71) hx hb dX11_handGoes_42 (by decide) (fun c1 => ?_) (fun c1 => ?_)
    · replace hf := o_t hf c1
      refine lv_iload_n hx hb dX11_handGoes_71 rfl (lv_at hl 2 rfl) ?_
      replace hf := o_ck_e hf
      obtain ⟨hc1, hf⟩ := hf
      obtain ⟨rfl, rfl⟩ := Prod.mk.inj (Option.some.inj hf)
      exact jq_zret hX hJ.2 (qz_b hc1) dX11_handGoes_72 ⟨rfl, rfl, rfl, hJ.1⟩
    · replace hf := o_f hf c1
      refine lv_iload_n hx hb dX11_handGoes_45 rfl (lv_at hl 2 rfl) ?_
      refine lv_if_eq (tgt := 71) hx hb dX11_handGoes_46 (by decide) (fun c2 => ?_) (fun c2 => ?_)
      · replace hf := o_t hf c2
        refine lv_iload_n hx hb dX11_handGoes_71 rfl (lv_at hl 2 rfl) ?_
        replace hf := o_ck_e hf
        obtain ⟨hc2, hf⟩ := hf
        obtain ⟨rfl, rfl⟩ := Prod.mk.inj (Option.some.inj hf)
        exact jq_zret hX hJ.2 (qz_b hc2) dX11_handGoes_72 ⟨rfl, rfl, rfl, hJ.1⟩
      · replace hf := o_f hf c2
        refine lv_aload_n hx hb dX11_handGoes_49 rfl (lv_at hl 0 rfl) ?_
        refine mg_handKind hX hJ qw695 dX11_handGoes_50 ?_
        refine lv_iload_n hx hb dX11_handGoes_53 rfl (lv_at hl 3 rfl) ?_
        replace hf := o_ck_e hf
        obtain ⟨hk1, hf⟩ := hf
        replace hf := o_let_e hf
        obtain ⟨x2, hx2, hf⟩ := hf
        refine ma_I 3 hX hJ (by decide) hk1 hx2 dX11_handGoes_54 ?_
        refine lv_aload_n hx hb dX11_handGoes_55 rfl (lv_at hl 0 rfl) ?_
        refine lv_iload_n hx hb dX11_handGoes_56 rfl (lv_at hl 1 rfl) ?_
        refine lv_iload_n hx hb dX11_handGoes_57 rfl (lv_at hl 3 rfl) ?_
        replace hf := o_call_e hf
        obtain ⟨x3, S1, hq1, hf⟩ := hf
        refine jq_doM hX hJ (jq_okV (As := [.int l1, .int l3]) (rest := [.int x2]) hx hb hm ho ht (mJ.recv hX hJ) qw883 qw885 qs81 qw886 qw7 hy_X11_kind rfl hl.1 (Nat.le_of_ble_eq_true rfl) dX11_handGoes_58) (c_X11_kind hq1) (Nat.le_of_ble_eq_true rfl) (Nat.le_of_ble_eq_true rfl) (Nat.le_refl _) (Nat.le_refl _) (fun H locs hJ' => ?_)
        clear hJ
        have hJ := hJ'
        clear hJ'
        replace hf := o_cP_e hf
        obtain ⟨x4, hq2, hf⟩ := hf
        refine jq_doP hX hJ.2 (jq_okS (As := [.int x2, .int x3]) (rest := []) hx hb hm ho ht qw922 qw923 qw924 qw7 hy_X11_goes rfl hl.1 (Nat.le_of_ble_eq_true rfl) dX11_handGoes_61) (c_X11_goes hq2) (Nat.le_of_ble_eq_true rfl) (Nat.le_of_ble_eq_true rfl) (Nat.le_refl _) (Nat.le_refl _) (fun locs hS9 => ?_)
        replace hJ := mJ.to hJ hS9
        refine lv_istore_n (lv' := [(2, .int x4), (0, .ref (ad 0)), (1, .int l1), (3, .int l3)]) hx hb dX11_handGoes_64 rfl hl (by decide) rfl (fun ls hl' => ?_)
        clear hl
        have hl := hl'
        clear hl'
        replace hf := o_let_e hf
        obtain ⟨x5, hx5, hf⟩ := hf
        refine lv_iinc (v := x5) (lv' := [(3, .int x5), (2, .int x4), (0, .ref (ad 0)), (1, .int l1)]) hx hb dX11_handGoes_65 hl (k := 3) rfl (by rw [← hx5]; rfl) (by decide) rfl (fun ls hl' => ?_)
        clear hl
        have hl := hl'
        clear hl'
        refine lv_goto (tgt := 37) hx hb dX11_handGoes_68 (by decide) ?_
        replace hl := lv_sub hl (l' := [(0, .ref (ad 0)), (1, .int l1), (2, .int x4), (3, .int x5)]) [2, 3, 1, 0] rfl
        exact ih l1 x4 x5 S1 S' r H locs ls hX hJ hf hl
def f_X11_handGoes (p1 : Int32) (S : mS) : Option ((Int32) × mS) :=
  o_let (m_I S 2) fun x1 =>
  o_ck (¬ (p1 < 0 ∨ 33 ≤ (p1).toNatClampNeg)) (o_let (m_aI S 8 (p1).toNatClampNeg) fun x2 =>
  if x1 = x2 then (
  o_ck (¬ (p1 < 0 ∨ 33 ≤ (p1).toNatClampNeg)) (o_let (m_aI S 10 (p1).toNatClampNeg) fun x3 =>
  o_let (m_I S 1) fun x4 =>
  o_cP (f_X11_goes x3 x4) fun x5 =>
  if x5 = 0 then (
  f_X11_handGoes_b37 12 p1 0 0 S) else (
  f_X11_handGoes_b37 12 p1 1 0 S))) else (
  f_X11_handGoes_b37 12 p1 0 0 S))
set_option maxHeartbeats 4000000 in
set_option maxRecDepth 100000 in
theorem c_X11_handGoes {l : Launch} {D : va_G} {Y : Nat → ClassId} {aR : Nat → Nat} {A : Nat → Prop} {ad : Nat → Nat} {p1 : Int32} {S S' : mS} {r : Int32} (hf : f_X11_handGoes p1 S = some (r, S')) : jq_M l D Y aR A ad yX11_handGoes cX11_handGoes 4 (some .boolean) 2 46 [.ref (ad 0), .int p1] S (some (.int r)) S' := by
  unfold f_X11_handGoes at hf
  refine jq_enterM (by decide) (Nat.le_of_ble_eq_true rfl) fun p e s m args below meth c ls H locs hX hJ hl => ?_
  have hl : lv_has ls 4 [(0, .ref (ad 0)), (1, .int p1)] := hl
  have hx := hX.1
  have hb := hX.2.1
  have hm := hX.2.2.1
  have ho := hX.2.2.2.1
  have ht := hX.2.2.2.2.1
  have hn := hX.2.2.2.2.2.1.2.1
  refine lv_aload_n hx hb dX11_handGoes_0 rfl (lv_at hl 0 rfl) ?_
  replace hf := o_let_e hf
  obtain ⟨x1, hx1, hf⟩ := hf
  refine mg_handMany hX hJ hx1 qw694 dX11_handGoes_1 ?_
  refine lv_aload_n hx hb dX11_handGoes_4 rfl (lv_at hl 0 rfl) ?_
  refine mg_manyOf hX hJ qw703 dX11_handGoes_5 ?_
  refine lv_iload_n hx hb dX11_handGoes_8 rfl (lv_at hl 1 rfl) ?_
  replace hf := o_ck_e hf
  obtain ⟨hk1, hf⟩ := hf
  replace hf := o_let_e hf
  obtain ⟨x2, hx2, hf⟩ := hf
  refine ma_I 8 hX hJ (by decide) hk1 hx2 dX11_handGoes_9 ?_
  refine lv_icmp_ne (tgt := 33) hx hb dX11_handGoes_10 (by decide) (fun c1 => ?_) (fun c1 => ?_)
  · replace hf := o_f hf c1
    refine lv_iconst (v := 0) hx hb dX11_handGoes_33 (by decide) ?_
    refine lv_istore_n (lv' := [(2, .int 0), (0, .ref (ad 0)), (1, .int p1)]) hx hb dX11_handGoes_34 rfl hl (by decide) rfl (fun ls hl' => ?_)
    clear hl
    have hl := hl'
    clear hl'
    refine lv_iconst (v := 0) hx hb dX11_handGoes_35 (by decide) ?_
    refine lv_istore_n (lv' := [(3, .int 0), (2, .int 0), (0, .ref (ad 0)), (1, .int p1)]) hx hb dX11_handGoes_36 rfl hl (by decide) rfl (fun ls hl' => ?_)
    clear hl
    have hl := hl'
    clear hl'
    replace hl := lv_sub hl (l' := [(0, .ref (ad 0)), (1, .int p1), (2, .int 0), (3, .int 0)]) [2, 3, 1, 0] rfl
    exact w_X11_handGoes_b37 12 p1 0 0 S S' r H locs ls hX hJ hf hl
  · replace hf := o_t hf c1
    refine lv_aload_n hx hb dX11_handGoes_13 rfl (lv_at hl 0 rfl) ?_
    refine mg_resultOf hX hJ qw705 dX11_handGoes_14 ?_
    refine lv_iload_n hx hb dX11_handGoes_17 rfl (lv_at hl 1 rfl) ?_
    replace hf := o_ck_e hf
    obtain ⟨hk2, hf⟩ := hf
    replace hf := o_let_e hf
    obtain ⟨x3, hx3, hf⟩ := hf
    refine ma_I 10 hX hJ (by decide) hk2 hx3 dX11_handGoes_18 ?_
    refine lv_aload_n hx hb dX11_handGoes_19 rfl (lv_at hl 0 rfl) ?_
    replace hf := o_let_e hf
    obtain ⟨x4, hx4, hf⟩ := hf
    refine mg_handResult hX hJ hx4 qw693 dX11_handGoes_20 ?_
    replace hf := o_cP_e hf
    obtain ⟨x5, hq1, hf⟩ := hf
    refine jq_doP hX hJ.2 (jq_okS (As := [.int x3, .int x4]) (rest := []) hx hb hm ho ht qw922 qw923 qw924 qw7 hy_X11_goes rfl hl.1 (Nat.le_of_ble_eq_true rfl) dX11_handGoes_23) (c_X11_goes hq1) (Nat.le_of_ble_eq_true rfl) (Nat.le_of_ble_eq_true rfl) (Nat.le_refl _) (Nat.le_refl _) (fun locs hS9 => ?_)
    replace hJ := mJ.to hJ hS9
    refine lv_if_eq (tgt := 33) hx hb dX11_handGoes_26 (by decide) (fun c2 => ?_) (fun c2 => ?_)
    · replace hf := o_t hf c2
      refine lv_iconst (v := 0) hx hb dX11_handGoes_33 (by decide) ?_
      refine lv_istore_n (lv' := [(2, .int 0), (0, .ref (ad 0)), (1, .int p1)]) hx hb dX11_handGoes_34 rfl hl (by decide) rfl (fun ls hl' => ?_)
      clear hl
      have hl := hl'
      clear hl'
      refine lv_iconst (v := 0) hx hb dX11_handGoes_35 (by decide) ?_
      refine lv_istore_n (lv' := [(3, .int 0), (2, .int 0), (0, .ref (ad 0)), (1, .int p1)]) hx hb dX11_handGoes_36 rfl hl (by decide) rfl (fun ls hl' => ?_)
      clear hl
      have hl := hl'
      clear hl'
      replace hl := lv_sub hl (l' := [(0, .ref (ad 0)), (1, .int p1), (2, .int 0), (3, .int 0)]) [2, 3, 1, 0] rfl
      exact w_X11_handGoes_b37 12 p1 0 0 S S' r H locs ls hX hJ hf hl
    · replace hf := o_f hf c2
      refine lv_iconst (v := 1) hx hb dX11_handGoes_29 (by decide) ?_
      refine lv_goto (tgt := 34) hx hb dX11_handGoes_30 (by decide) ?_
      refine lv_istore_n (lv' := [(2, .int 1), (0, .ref (ad 0)), (1, .int p1)]) hx hb dX11_handGoes_34 rfl hl (by decide) rfl (fun ls hl' => ?_)
      clear hl
      have hl := hl'
      clear hl'
      refine lv_iconst (v := 0) hx hb dX11_handGoes_35 (by decide) ?_
      refine lv_istore_n (lv' := [(3, .int 0), (2, .int 1), (0, .ref (ad 0)), (1, .int p1)]) hx hb dX11_handGoes_36 rfl hl (by decide) rfl (fun ls hl' => ?_)
      clear hl
      have hl := hl'
      clear hl'
      replace hl := lv_sub hl (l' := [(0, .ref (ad 0)), (1, .int p1), (2, .int 1), (3, .int 0)]) [2, 3, 1, 0] rfl
      exact w_X11_handGoes_b37 12 p1 1 0 S S' r H locs ls hX hJ hf hl
theorem dX11_makeOne_0 : decode cX11_makeOne 0 = .ok (.aload_n 0, 1) := by decide +kernel
theorem dX11_makeOne_1 : decode cX11_makeOne 1 = .ok (.iload_n 2, 1) := by decide +kernel
theorem dX11_makeOne_2 : decode cX11_makeOne 2 = .ok (.invokevirtual 200, 3) := by decide +kernel
theorem dX11_makeOne_5 : decode cX11_makeOne 5 = .ok (.ifCond .ne 5, 3) := by decide +kernel
theorem dX11_makeOne_10 : decode cX11_makeOne 10 = .ok (.aload_n 0, 1) := by decide +kernel
theorem dX11_makeOne_11 : decode cX11_makeOne 11 = .ok (.iload_n 2, 1) := by decide +kernel
theorem dX11_makeOne_12 : decode cX11_makeOne 12 = .ok (.putfield 187, 3) := by decide +kernel
theorem dX11_makeOne_15 : decode cX11_makeOne 15 = .ok (.aload_n 0, 1) := by decide +kernel
theorem dX11_makeOne_16 : decode cX11_makeOne 16 = .ok (.aload_n 0, 1) := by decide +kernel
theorem dX11_makeOne_17 : decode cX11_makeOne 17 = .ok (.getfield 51, 3) := by decide +kernel
theorem dX11_makeOne_20 : decode cX11_makeOne 20 = .ok (.iload_n 2, 1) := by decide +kernel
theorem dX11_makeOne_21 : decode cX11_makeOne 21 = .ok (.iaload, 1) := by decide +kernel
theorem dX11_makeOne_22 : decode cX11_makeOne 22 = .ok (.invokevirtual 197, 3) := by decide +kernel
theorem dX11_makeOne_25 : decode cX11_makeOne 25 = .ok (.aload_n 0, 1) := by decide +kernel
theorem dX11_makeOne_26 : decode cX11_makeOne 26 = .ok (.getfield 45, 3) := by decide +kernel
theorem dX11_makeOne_29 : decode cX11_makeOne 29 = .ok (.iload_n 2, 1) := by decide +kernel
theorem dX11_makeOne_30 : decode cX11_makeOne 30 = .ok (.iaload, 1) := by decide +kernel
theorem dX11_makeOne_31 : decode cX11_makeOne 31 = .ok (.istore 7, 2) := by decide +kernel
theorem dX11_makeOne_33 : decode cX11_makeOne 33 = .ok (.iload_n 1, 1) := by decide +kernel
theorem dX11_makeOne_34 : decode cX11_makeOne 34 = .ok (.tableswitch 362 11 21 #[58, 150, 224, 256, 362, 362, 362, 362, 362, 362, 305], 58) := by decide +kernel
theorem dX11_makeOne_92 : decode cX11_makeOne 92 = .ok (.iload_n 3, 1) := by decide +kernel
theorem dX11_makeOne_93 : decode cX11_makeOne 93 = .ok (.i2l, 1) := by decide +kernel
theorem dX11_makeOne_94 : decode cX11_makeOne 94 = .ok (.lconst 0, 1) := by decide +kernel
theorem dX11_makeOne_95 : decode cX11_makeOne 95 = .ok (.iload 7, 2) := by decide +kernel
theorem dX11_makeOne_97 : decode cX11_makeOne 97 = .ok (.i2l, 1) := by decide +kernel
theorem dX11_makeOne_98 : decode cX11_makeOne 98 = .ok (.invokestatic 80, 3) := by decide +kernel
theorem dX11_makeOne_101 : decode cX11_makeOne 101 = .ok (.ifCond .eq 11, 3) := by decide +kernel
theorem dX11_makeOne_112 : decode cX11_makeOne 112 = .ok (.iconst (-1), 1) := by decide +kernel
theorem dX11_makeOne_113 : decode cX11_makeOne 113 = .ok (.ireturn, 1) := by decide +kernel
theorem dX11_makeOne_104 : decode cX11_makeOne 104 = .ok (.iload 4, 2) := by decide +kernel
theorem dX11_makeOne_106 : decode cX11_makeOne 106 = .ok (.invokestatic 155, 3) := by decide +kernel
theorem dX11_makeOne_109 : decode cX11_makeOne 109 = .ok (.ifCond .ne 5, 3) := by decide +kernel
theorem dX11_makeOne_114 : decode cX11_makeOne 114 = .ok (.aload_n 0, 1) := by decide +kernel
theorem dX11_makeOne_115 : decode cX11_makeOne 115 = .ok (.iload_n 3, 1) := by decide +kernel
theorem dX11_makeOne_116 : decode cX11_makeOne 116 = .ok (.putfield 190, 3) := by decide +kernel
theorem dX11_makeOne_119 : decode cX11_makeOne 119 = .ok (.aload_n 0, 1) := by decide +kernel
theorem dX11_makeOne_120 : decode cX11_makeOne 120 = .ok (.iload 4, 2) := by decide +kernel
theorem dX11_makeOne_122 : decode cX11_makeOne 122 = .ok (.putfield 203, 3) := by decide +kernel
theorem dX11_makeOne_125 : decode cX11_makeOne 125 = .ok (.iconst 0, 1) := by decide +kernel
theorem dX11_makeOne_126 : decode cX11_makeOne 126 = .ok (.istore 8, 2) := by decide +kernel
theorem dX11_makeOne_184 : decode cX11_makeOne 184 = .ok (.iload_n 3, 1) := by decide +kernel
theorem dX11_makeOne_185 : decode cX11_makeOne 185 = .ok (.i2l, 1) := by decide +kernel
theorem dX11_makeOne_186 : decode cX11_makeOne 186 = .ok (.lconst 0, 1) := by decide +kernel
theorem dX11_makeOne_187 : decode cX11_makeOne 187 = .ok (.iload 7, 2) := by decide +kernel
theorem dX11_makeOne_189 : decode cX11_makeOne 189 = .ok (.iconst 2, 1) := by decide +kernel
theorem dX11_makeOne_190 : decode cX11_makeOne 190 = .ok (.isub, 1) := by decide +kernel
theorem dX11_makeOne_191 : decode cX11_makeOne 191 = .ok (.i2l, 1) := by decide +kernel
theorem dX11_makeOne_192 : decode cX11_makeOne 192 = .ok (.invokestatic 80, 3) := by decide +kernel
theorem dX11_makeOne_195 : decode cX11_makeOne 195 = .ok (.ifCond .ne 5, 3) := by decide +kernel
theorem dX11_makeOne_200 : decode cX11_makeOne 200 = .ok (.aload_n 0, 1) := by decide +kernel
theorem dX11_makeOne_201 : decode cX11_makeOne 201 = .ok (.iload_n 3, 1) := by decide +kernel
theorem dX11_makeOne_202 : decode cX11_makeOne 202 = .ok (.putfield 190, 3) := by decide +kernel
theorem dX11_makeOne_205 : decode cX11_makeOne 205 = .ok (.iconst 0, 1) := by decide +kernel
theorem dX11_makeOne_206 : decode cX11_makeOne 206 = .ok (.istore 8, 2) := by decide +kernel
theorem dX11_makeOne_198 : decode cX11_makeOne 198 = .ok (.iconst (-1), 1) := by decide +kernel
theorem dX11_makeOne_199 : decode cX11_makeOne 199 = .ok (.ireturn, 1) := by decide +kernel
theorem dX11_makeOne_258 : decode cX11_makeOne 258 = .ok (.iload 7, 2) := by decide +kernel
theorem dX11_makeOne_260 : decode cX11_makeOne 260 = .ok (.iconst 2, 1) := by decide +kernel
theorem dX11_makeOne_261 : decode cX11_makeOne 261 = .ok (.if_icmp .lt 18, 3) := by decide +kernel
theorem dX11_makeOne_279 : decode cX11_makeOne 279 = .ok (.bipush (-3), 2) := by decide +kernel
theorem dX11_makeOne_281 : decode cX11_makeOne 281 = .ok (.ireturn, 1) := by decide +kernel
theorem dX11_makeOne_264 : decode cX11_makeOne 264 = .ok (.aload_n 0, 1) := by decide +kernel
theorem dX11_makeOne_265 : decode cX11_makeOne 265 = .ok (.iload_n 2, 1) := by decide +kernel
theorem dX11_makeOne_266 : decode cX11_makeOne 266 = .ok (.iconst 0, 1) := by decide +kernel
theorem dX11_makeOne_267 : decode cX11_makeOne 267 = .ok (.invokevirtual 167, 3) := by decide +kernel
theorem dX11_makeOne_270 : decode cX11_makeOne 270 = .ok (.aload_n 0, 1) := by decide +kernel
theorem dX11_makeOne_271 : decode cX11_makeOne 271 = .ok (.iload_n 2, 1) := by decide +kernel
theorem dX11_makeOne_272 : decode cX11_makeOne 272 = .ok (.iconst 1, 1) := by decide +kernel
theorem dX11_makeOne_273 : decode cX11_makeOne 273 = .ok (.invokevirtual 167, 3) := by decide +kernel
theorem dX11_makeOne_276 : decode cX11_makeOne 276 = .ok (.if_icmp .eq 6, 3) := by decide +kernel
theorem dX11_makeOne_282 : decode cX11_makeOne 282 = .ok (.aload_n 0, 1) := by decide +kernel
theorem dX11_makeOne_283 : decode cX11_makeOne 283 = .ok (.iload_n 2, 1) := by decide +kernel
theorem dX11_makeOne_284 : decode cX11_makeOne 284 = .ok (.iconst 1, 1) := by decide +kernel
theorem dX11_makeOne_285 : decode cX11_makeOne 285 = .ok (.invokevirtual 206, 3) := by decide +kernel
theorem dX11_makeOne_288 : decode cX11_makeOne 288 = .ok (.iconst 0, 1) := by decide +kernel
theorem dX11_makeOne_289 : decode cX11_makeOne 289 = .ok (.ireturn, 1) := by decide +kernel
theorem dX11_makeOne_290 : decode cX11_makeOne 290 = .ok (.iload 7, 2) := by decide +kernel
theorem dX11_makeOne_292 : decode cX11_makeOne 292 = .ok (.iconst 1, 1) := by decide +kernel
theorem dX11_makeOne_293 : decode cX11_makeOne 293 = .ok (.if_icmp .ge 6, 3) := by decide +kernel
theorem dX11_makeOne_299 : decode cX11_makeOne 299 = .ok (.aload_n 0, 1) := by decide +kernel
theorem dX11_makeOne_300 : decode cX11_makeOne 300 = .ok (.aload_n 0, 1) := by decide +kernel
theorem dX11_makeOne_301 : decode cX11_makeOne 301 = .ok (.iload_n 2, 1) := by decide +kernel
theorem dX11_makeOne_302 : decode cX11_makeOne 302 = .ok (.iconst 0, 1) := by decide +kernel
theorem dX11_makeOne_303 : decode cX11_makeOne 303 = .ok (.invokevirtual 167, 3) := by decide +kernel
theorem dX11_makeOne_306 : decode cX11_makeOne 306 = .ok (.lload 5, 2) := by decide +kernel
theorem dX11_makeOne_308 : decode cX11_makeOne 308 = .ok (.invokevirtual 183, 3) := by decide +kernel
theorem dX11_makeOne_311 : decode cX11_makeOne 311 = .ok (.ifCond .ne 5, 3) := by decide +kernel
theorem dX11_makeOne_316 : decode cX11_makeOne 316 = .ok (.aload_n 0, 1) := by decide +kernel
theorem dX11_makeOne_317 : decode cX11_makeOne 317 = .ok (.lload 5, 2) := by decide +kernel
theorem dX11_makeOne_319 : decode cX11_makeOne 319 = .ok (.aload_n 0, 1) := by decide +kernel
theorem dX11_makeOne_320 : decode cX11_makeOne 320 = .ok (.iload_n 2, 1) := by decide +kernel
theorem dX11_makeOne_321 : decode cX11_makeOne 321 = .ok (.iconst 0, 1) := by decide +kernel
theorem dX11_makeOne_322 : decode cX11_makeOne 322 = .ok (.invokevirtual 167, 3) := by decide +kernel
theorem dX11_makeOne_325 : decode cX11_makeOne 325 = .ok (.invokestatic 101, 3) := by decide +kernel
theorem dX11_makeOne_328 : decode cX11_makeOne 328 = .ok (.putfield 193, 3) := by decide +kernel
theorem dX11_makeOne_331 : decode cX11_makeOne 331 = .ok (.aload_n 0, 1) := by decide +kernel
theorem dX11_makeOne_332 : decode cX11_makeOne 332 = .ok (.iload_n 2, 1) := by decide +kernel
theorem dX11_makeOne_333 : decode cX11_makeOne 333 = .ok (.iconst 1, 1) := by decide +kernel
theorem dX11_makeOne_334 : decode cX11_makeOne 334 = .ok (.invokevirtual 206, 3) := by decide +kernel
theorem dX11_makeOne_337 : decode cX11_makeOne 337 = .ok (.iconst 0, 1) := by decide +kernel
theorem dX11_makeOne_338 : decode cX11_makeOne 338 = .ok (.ireturn, 1) := by decide +kernel
theorem dX11_makeOne_314 : decode cX11_makeOne 314 = .ok (.iconst (-1), 1) := by decide +kernel
theorem dX11_makeOne_315 : decode cX11_makeOne 315 = .ok (.ireturn, 1) := by decide +kernel
theorem dX11_makeOne_296 : decode cX11_makeOne 296 = .ok (.bipush (-3), 2) := by decide +kernel
theorem dX11_makeOne_298 : decode cX11_makeOne 298 = .ok (.ireturn, 1) := by decide +kernel
theorem dX11_makeOne_339 : decode cX11_makeOne 339 = .ok (.iload 7, 2) := by decide +kernel
theorem dX11_makeOne_341 : decode cX11_makeOne 341 = .ok (.iconst 2, 1) := by decide +kernel
theorem dX11_makeOne_342 : decode cX11_makeOne 342 = .ok (.if_icmp .lt 28, 3) := by decide +kernel
theorem dX11_makeOne_370 : decode cX11_makeOne 370 = .ok (.bipush (-3), 2) := by decide +kernel
theorem dX11_makeOne_372 : decode cX11_makeOne 372 = .ok (.ireturn, 1) := by decide +kernel
theorem dX11_makeOne_345 : decode cX11_makeOne 345 = .ok (.aload_n 0, 1) := by decide +kernel
theorem dX11_makeOne_346 : decode cX11_makeOne 346 = .ok (.iload_n 2, 1) := by decide +kernel
theorem dX11_makeOne_347 : decode cX11_makeOne 347 = .ok (.iconst 1, 1) := by decide +kernel
theorem dX11_makeOne_348 : decode cX11_makeOne 348 = .ok (.invokevirtual 167, 3) := by decide +kernel
theorem dX11_makeOne_351 : decode cX11_makeOne 351 = .ok (.iconst 4, 1) := by decide +kernel
theorem dX11_makeOne_352 : decode cX11_makeOne 352 = .ok (.if_icmp .ne 18, 3) := by decide +kernel
theorem dX11_makeOne_355 : decode cX11_makeOne 355 = .ok (.aload_n 0, 1) := by decide +kernel
theorem dX11_makeOne_356 : decode cX11_makeOne 356 = .ok (.iload_n 2, 1) := by decide +kernel
theorem dX11_makeOne_357 : decode cX11_makeOne 357 = .ok (.iconst 0, 1) := by decide +kernel
theorem dX11_makeOne_358 : decode cX11_makeOne 358 = .ok (.invokevirtual 167, 3) := by decide +kernel
theorem dX11_makeOne_361 : decode cX11_makeOne 361 = .ok (.aload_n 0, 1) := by decide +kernel
theorem dX11_makeOne_362 : decode cX11_makeOne 362 = .ok (.getfield 51, 3) := by decide +kernel
theorem dX11_makeOne_365 : decode cX11_makeOne 365 = .ok (.iload_n 2, 1) := by decide +kernel
theorem dX11_makeOne_366 : decode cX11_makeOne 366 = .ok (.iaload, 1) := by decide +kernel
theorem dX11_makeOne_367 : decode cX11_makeOne 367 = .ok (.if_icmp .eq 6, 3) := by decide +kernel
theorem dX11_makeOne_373 : decode cX11_makeOne 373 = .ok (.aload_n 0, 1) := by decide +kernel
theorem dX11_makeOne_374 : decode cX11_makeOne 374 = .ok (.iconst 4, 1) := by decide +kernel
theorem dX11_makeOne_375 : decode cX11_makeOne 375 = .ok (.invokevirtual 170, 3) := by decide +kernel
theorem dX11_makeOne_378 : decode cX11_makeOne 378 = .ok (.aload_n 0, 1) := by decide +kernel
theorem dX11_makeOne_379 : decode cX11_makeOne 379 = .ok (.aload_n 0, 1) := by decide +kernel
theorem dX11_makeOne_380 : decode cX11_makeOne 380 = .ok (.iload_n 2, 1) := by decide +kernel
theorem dX11_makeOne_381 : decode cX11_makeOne 381 = .ok (.iconst 0, 1) := by decide +kernel
theorem dX11_makeOne_382 : decode cX11_makeOne 382 = .ok (.invokevirtual 167, 3) := by decide +kernel
theorem dX11_makeOne_385 : decode cX11_makeOne 385 = .ok (.invokevirtual 170, 3) := by decide +kernel
theorem dX11_makeOne_388 : decode cX11_makeOne 388 = .ok (.aload_n 0, 1) := by decide +kernel
theorem dX11_makeOne_389 : decode cX11_makeOne 389 = .ok (.iload_n 2, 1) := by decide +kernel
theorem dX11_makeOne_390 : decode cX11_makeOne 390 = .ok (.iconst 2, 1) := by decide +kernel
theorem dX11_makeOne_391 : decode cX11_makeOne 391 = .ok (.invokevirtual 206, 3) := by decide +kernel
theorem dX11_makeOne_394 : decode cX11_makeOne 394 = .ok (.iconst 0, 1) := by decide +kernel
theorem dX11_makeOne_395 : decode cX11_makeOne 395 = .ok (.ireturn, 1) := by decide +kernel
theorem dX11_makeOne_396 : decode cX11_makeOne 396 = .ok (.aload_n 0, 1) := by decide +kernel
theorem dX11_makeOne_397 : decode cX11_makeOne 397 = .ok (.iload_n 2, 1) := by decide +kernel
theorem dX11_makeOne_398 : decode cX11_makeOne 398 = .ok (.invokevirtual 210, 3) := by decide +kernel
theorem dX11_makeOne_401 : decode cX11_makeOne 401 = .ok (.ifCond .ne 6, 3) := by decide +kernel
theorem dX11_makeOne_407 : decode cX11_makeOne 407 = .ok (.iconst 0, 1) := by decide +kernel
theorem dX11_makeOne_408 : decode cX11_makeOne 408 = .ok (.istore 8, 2) := by decide +kernel
theorem dX11_makeOne_404 : decode cX11_makeOne 404 = .ok (.bipush (-3), 2) := by decide +kernel
theorem dX11_makeOne_406 : decode cX11_makeOne 406 = .ok (.ireturn, 1) := by decide +kernel
theorem dX11_makeOne_8 : decode cX11_makeOne 8 = .ok (.iconst (-1), 1) := by decide +kernel
theorem dX11_makeOne_9 : decode cX11_makeOne 9 = .ok (.ireturn, 1) := by decide +kernel
theorem dX11_makeOne_128 : decode cX11_makeOne 128 = .ok (.iload 8, 2) := by decide +kernel
theorem dX11_makeOne_130 : decode cX11_makeOne 130 = .ok (.iload 7, 2) := by decide +kernel
theorem dX11_makeOne_132 : decode cX11_makeOne 132 = .ok (.if_icmp .gt 39, 3) := by decide +kernel
theorem dX11_makeOne_171 : decode cX11_makeOne 171 = .ok (.iload 7, 2) := by decide +kernel
theorem dX11_makeOne_173 : decode cX11_makeOne 173 = .ok (.iconst 4, 1) := by decide +kernel
theorem dX11_makeOne_174 : decode cX11_makeOne 174 = .ok (.if_icmp .ne 8, 3) := by decide +kernel
theorem dX11_makeOne_182 : decode cX11_makeOne 182 = .ok (.iconst 0, 1) := by decide +kernel
theorem dX11_makeOne_183 : decode cX11_makeOne 183 = .ok (.ireturn, 1) := by decide +kernel
theorem dX11_makeOne_177 : decode cX11_makeOne 177 = .ok (.bipush (-3), 2) := by decide +kernel
theorem dX11_makeOne_179 : decode cX11_makeOne 179 = .ok (.goto 4, 3) := by decide +kernel
theorem dX11_makeOne_135 : decode cX11_makeOne 135 = .ok (.iload 8, 2) := by decide +kernel
theorem dX11_makeOne_137 : decode cX11_makeOne 137 = .ok (.iload_n 3, 1) := by decide +kernel
theorem dX11_makeOne_138 : decode cX11_makeOne 138 = .ok (.if_icmp .ne 9, 3) := by decide +kernel
theorem dX11_makeOne_147 : decode cX11_makeOne 147 = .ok (.iload 8, 2) := by decide +kernel
theorem dX11_makeOne_149 : decode cX11_makeOne 149 = .ok (.iload 7, 2) := by decide +kernel
theorem dX11_makeOne_151 : decode cX11_makeOne 151 = .ok (.if_icmp .ge 14, 3) := by decide +kernel
theorem dX11_makeOne_165 : decode cX11_makeOne 165 = .ok (.iinc 8 1, 3) := by decide +kernel
theorem dX11_makeOne_168 : decode cX11_makeOne 168 = .ok (.goto (-40), 3) := by decide +kernel
theorem dX11_makeOne_154 : decode cX11_makeOne 154 = .ok (.aload_n 0, 1) := by decide +kernel
theorem dX11_makeOne_155 : decode cX11_makeOne 155 = .ok (.aload_n 0, 1) := by decide +kernel
theorem dX11_makeOne_156 : decode cX11_makeOne 156 = .ok (.iload_n 2, 1) := by decide +kernel
theorem dX11_makeOne_157 : decode cX11_makeOne 157 = .ok (.iload 8, 2) := by decide +kernel
theorem dX11_makeOne_159 : decode cX11_makeOne 159 = .ok (.invokevirtual 167, 3) := by decide +kernel
theorem dX11_makeOne_162 : decode cX11_makeOne 162 = .ok (.invokevirtual 170, 3) := by decide +kernel
theorem dX11_makeOne_141 : decode cX11_makeOne 141 = .ok (.aload_n 0, 1) := by decide +kernel
theorem dX11_makeOne_142 : decode cX11_makeOne 142 = .ok (.iload 4, 2) := by decide +kernel
theorem dX11_makeOne_144 : decode cX11_makeOne 144 = .ok (.invokevirtual 170, 3) := by decide +kernel
theorem dX11_makeOne_208 : decode cX11_makeOne 208 = .ok (.iload 8, 2) := by decide +kernel
theorem dX11_makeOne_210 : decode cX11_makeOne 210 = .ok (.iload 7, 2) := by decide +kernel
theorem dX11_makeOne_212 : decode cX11_makeOne 212 = .ok (.if_icmp .ge 44, 3) := by decide +kernel
theorem dX11_makeOne_256 : decode cX11_makeOne 256 = .ok (.iconst 0, 1) := by decide +kernel
theorem dX11_makeOne_257 : decode cX11_makeOne 257 = .ok (.ireturn, 1) := by decide +kernel
theorem dX11_makeOne_215 : decode cX11_makeOne 215 = .ok (.aload_n 0, 1) := by decide +kernel
theorem dX11_makeOne_216 : decode cX11_makeOne 216 = .ok (.aload_n 0, 1) := by decide +kernel
theorem dX11_makeOne_217 : decode cX11_makeOne 217 = .ok (.iload_n 2, 1) := by decide +kernel
theorem dX11_makeOne_218 : decode cX11_makeOne 218 = .ok (.iload 8, 2) := by decide +kernel
theorem dX11_makeOne_220 : decode cX11_makeOne 220 = .ok (.iload_n 3, 1) := by decide +kernel
theorem dX11_makeOne_221 : decode cX11_makeOne 221 = .ok (.if_icmp .ne 9, 3) := by decide +kernel
theorem dX11_makeOne_230 : decode cX11_makeOne 230 = .ok (.iload 8, 2) := by decide +kernel
theorem dX11_makeOne_232 : decode cX11_makeOne 232 = .ok (.iload_n 3, 1) := by decide +kernel
theorem dX11_makeOne_233 : decode cX11_makeOne 233 = .ok (.iconst 1, 1) := by decide +kernel
theorem dX11_makeOne_234 : decode cX11_makeOne 234 = .ok (.iadd, 1) := by decide +kernel
theorem dX11_makeOne_235 : decode cX11_makeOne 235 = .ok (.if_icmp .ne 7, 3) := by decide +kernel
theorem dX11_makeOne_242 : decode cX11_makeOne 242 = .ok (.iload 8, 2) := by decide +kernel
theorem dX11_makeOne_244 : decode cX11_makeOne 244 = .ok (.invokevirtual 167, 3) := by decide +kernel
theorem dX11_makeOne_247 : decode cX11_makeOne 247 = .ok (.invokevirtual 170, 3) := by decide +kernel
theorem dX11_makeOne_250 : decode cX11_makeOne 250 = .ok (.iinc 8 1, 3) := by decide +kernel
theorem dX11_makeOne_253 : decode cX11_makeOne 253 = .ok (.goto (-45), 3) := by decide +kernel
theorem dX11_makeOne_238 : decode cX11_makeOne 238 = .ok (.iload_n 3, 1) := by decide +kernel
theorem dX11_makeOne_239 : decode cX11_makeOne 239 = .ok (.goto 5, 3) := by decide +kernel
theorem dX11_makeOne_224 : decode cX11_makeOne 224 = .ok (.iload_n 3, 1) := by decide +kernel
theorem dX11_makeOne_225 : decode cX11_makeOne 225 = .ok (.iconst 1, 1) := by decide +kernel
theorem dX11_makeOne_226 : decode cX11_makeOne 226 = .ok (.iadd, 1) := by decide +kernel
theorem dX11_makeOne_227 : decode cX11_makeOne 227 = .ok (.goto 17, 3) := by decide +kernel
theorem dX11_makeOne_410 : decode cX11_makeOne 410 = .ok (.iload 8, 2) := by decide +kernel
theorem dX11_makeOne_412 : decode cX11_makeOne 412 = .ok (.aload_n 0, 1) := by decide +kernel
theorem dX11_makeOne_413 : decode cX11_makeOne 413 = .ok (.getfield 159, 3) := by decide +kernel
theorem dX11_makeOne_416 : decode cX11_makeOne 416 = .ok (.if_icmp .ge 20, 3) := by decide +kernel
theorem dX11_makeOne_436 : decode cX11_makeOne 436 = .ok (.aload_n 0, 1) := by decide +kernel
theorem dX11_makeOne_437 : decode cX11_makeOne 437 = .ok (.aload_n 0, 1) := by decide +kernel
theorem dX11_makeOne_438 : decode cX11_makeOne 438 = .ok (.getfield 20, 3) := by decide +kernel
theorem dX11_makeOne_441 : decode cX11_makeOne 441 = .ok (.invokevirtual 197, 3) := by decide +kernel
theorem dX11_makeOne_444 : decode cX11_makeOne 444 = .ok (.iconst 0, 1) := by decide +kernel
theorem dX11_makeOne_445 : decode cX11_makeOne 445 = .ok (.ireturn, 1) := by decide +kernel
theorem dX11_makeOne_419 : decode cX11_makeOne 419 = .ok (.aload_n 0, 1) := by decide +kernel
theorem dX11_makeOne_420 : decode cX11_makeOne 420 = .ok (.aload_n 0, 1) := by decide +kernel
theorem dX11_makeOne_421 : decode cX11_makeOne 421 = .ok (.getfield 24, 3) := by decide +kernel
theorem dX11_makeOne_424 : decode cX11_makeOne 424 = .ok (.iload 8, 2) := by decide +kernel
theorem dX11_makeOne_426 : decode cX11_makeOne 426 = .ok (.iaload, 1) := by decide +kernel
theorem dX11_makeOne_427 : decode cX11_makeOne 427 = .ok (.invokevirtual 170, 3) := by decide +kernel
theorem dX11_makeOne_430 : decode cX11_makeOne 430 = .ok (.iinc 8 1, 3) := by decide +kernel
theorem dX11_makeOne_433 : decode cX11_makeOne 433 = .ok (.goto (-23), 3) := by decide +kernel
theorem hy_X11_makeOne : yX11_makeOne.cls ≠ "java/lang/invoke/MethodHandle" ∧ yX11_makeOne.cls ≠ "java/lang/invoke/VarHandle" ∧ (parseMethodDescriptor yX11_makeOne.desc).map (fun d => d.parameters.length) = some 5 := ⟨by decide, by decide, by decide +kernel⟩
def f_X11_makeOne_b128 : Nat → Int32 → Int32 → Int32 → Int32 → Int32 → mS → Option ((Int32) × mS)
  | 0, _, _, _, _, _, _ => none
  | n + 1, l2, l3, l4, l7, l8, S => 
  if l7 < l8 then (
  if l7 = 4 then (
  some ((-3), S)) else (
  some (0, S))) else (
  if l8 = l3 then (
  o_call (f_X11_takes l4 S) fun _ S3 =>
  if l7 ≤ l8 then (
  o_let (l8 + 1) fun x4 =>
  f_X11_makeOne_b128 n l2 l3 l4 l7 x4 S3) else (
  o_call (f_X11_kind l2 l8 S3) fun x5 S4 =>
  o_call (f_X11_takes x5 S4) fun _ S5 =>
  o_let (l8 + 1) fun x6 =>
  f_X11_makeOne_b128 n l2 l3 l4 l7 x6 S5)) else (
  if l7 ≤ l8 then (
  o_let (l8 + 1) fun x1 =>
  f_X11_makeOne_b128 n l2 l3 l4 l7 x1 S) else (
  o_call (f_X11_kind l2 l8 S) fun x2 S1 =>
  o_call (f_X11_takes x2 S1) fun _ S2 =>
  o_let (l8 + 1) fun x3 =>
  f_X11_makeOne_b128 n l2 l3 l4 l7 x3 S2)))
set_option maxHeartbeats 4000000 in
set_option maxRecDepth 100000 in
theorem w_X11_makeOne_b128 {l : Launch} {D : va_G} {Y : Nat → ClassId} {aR : Nat → Nat} {A : Nat → Prop} {ad : Nat → Nat} {p : Program} {e : Env} {s : State} {m : MethodId} {args : Array Value} {below : List Frame} {meth : Method} {c : Code} : ∀ (n : Nat) (l2 : Int32) (l3 : Int32) (l4 : Int32) (l7 : Int32) (l8 : Int32) (S S' : mS) (r : Int32) (H : Heap) (locs : List Loc) (ls : Array Slot), jq_X D Y aR A p s m args meth c cX11_makeOne RX11 "makeOne" 9 (some .int) → mJ D Y A s ad S H locs → f_X11_makeOne_b128 n l2 l3 l4 l7 l8 S = some (r, S') → lv_has ls 9 [(0, .ref (ad 0)), (2, .int l2), (3, .int l3), (4, .int l4), (7, .int l7), (8, .int l8)] → W p l e { frames := 3, cells := 0, slots := 0, locals := 70 } s m args below meth c H locs 0 0 (jq_Z below A (fun v k n H => v = (some (.int r)) ∧ k = 0 ∧ n = 0 ∧ mH D Y A ad S' H) s) (F0 m 128 ls []) := by
  intro n
  induction n with
  | zero =>
    intro l2 l3 l4 l7 l8 S S' r H locs ls hX hJ hf hl
    cases hf
  | succ n ih =>
    intro l2 l3 l4 l7 l8 S S' r H locs ls hX hJ hf hl
    rw [f_X11_makeOne_b128.eq_2] at hf
    have hx := hX.1
    have hb := hX.2.1
    have hm := hX.2.2.1
    have ho := hX.2.2.2.1
    have ht := hX.2.2.2.2.1
    have hn := hX.2.2.2.2.2.1.2.1
    refine lv_iload hx hb dX11_makeOne_128 (lv_at hl 5 rfl) ?_
    refine lv_iload hx hb dX11_makeOne_130 (lv_at hl 4 rfl) ?_
    refine lv_icmp_gt (tgt := 171) hx hb dX11_makeOne_132 (by decide) (fun c1 => ?_) (fun c1 => ?_)
    · replace hf := o_t hf c1
      refine lv_iload hx hb dX11_makeOne_171 (lv_at hl 4 rfl) ?_
      refine lv_iconst (v := 4) hx hb dX11_makeOne_173 (by decide) ?_
      refine lv_icmp_ne (tgt := 182) hx hb dX11_makeOne_174 (by decide) (fun c2 => ?_) (fun c2 => ?_)
      · replace hf := o_f hf c2
        refine lv_iconst (v := 0) hx hb dX11_makeOne_182 (by decide) ?_
        obtain ⟨rfl, rfl⟩ := Prod.mk.inj (Option.some.inj hf)
        exact jq_iret hX hJ.2 dX11_makeOne_183 ⟨rfl, rfl, rfl, hJ.1⟩
      · replace hf := o_t hf c2
        refine lv_bipush (v := (-3)) hx hb dX11_makeOne_177 (by decide) ?_
        refine lv_goto (tgt := 183) hx hb dX11_makeOne_179 (by decide) ?_
        obtain ⟨rfl, rfl⟩ := Prod.mk.inj (Option.some.inj hf)
        exact jq_iret hX hJ.2 dX11_makeOne_183 ⟨rfl, rfl, rfl, hJ.1⟩
    · replace hf := o_f hf c1
      refine lv_iload hx hb dX11_makeOne_135 (lv_at hl 5 rfl) ?_
      refine lv_iload_n hx hb dX11_makeOne_137 rfl (lv_at hl 2 rfl) ?_
      refine lv_icmp_ne (tgt := 147) hx hb dX11_makeOne_138 (by decide) (fun c3 => ?_) (fun c3 => ?_)
      · replace hf := o_f hf c3
        refine lv_iload hx hb dX11_makeOne_147 (lv_at hl 5 rfl) ?_
        refine lv_iload hx hb dX11_makeOne_149 (lv_at hl 4 rfl) ?_
        refine lv_icmp_ge (tgt := 165) hx hb dX11_makeOne_151 (by decide) (fun c4 => ?_) (fun c4 => ?_)
        · replace hf := o_t hf c4
          replace hf := o_let_e hf
          obtain ⟨x1, hx1, hf⟩ := hf
          refine lv_iinc (v := x1) (lv' := [(8, .int x1), (0, .ref (ad 0)), (2, .int l2), (3, .int l3), (4, .int l4), (7, .int l7)]) hx hb dX11_makeOne_165 hl (k := 5) rfl (by rw [← hx1]; rfl) (by decide) rfl (fun ls hl' => ?_)
          clear hl
          have hl := hl'
          clear hl'
          refine lv_goto (tgt := 128) hx hb dX11_makeOne_168 (by decide) ?_
          replace hl := lv_sub hl (l' := [(0, .ref (ad 0)), (2, .int l2), (3, .int l3), (4, .int l4), (7, .int l7), (8, .int x1)]) [1, 2, 3, 4, 5, 0] rfl
          exact ih l2 l3 l4 l7 x1 S S' r H locs ls hX hJ hf hl
        · replace hf := o_f hf c4
          refine lv_aload_n hx hb dX11_makeOne_154 rfl (lv_at hl 0 rfl) ?_
          refine lv_aload_n hx hb dX11_makeOne_155 rfl (lv_at hl 0 rfl) ?_
          refine lv_iload_n hx hb dX11_makeOne_156 rfl (lv_at hl 1 rfl) ?_
          refine lv_iload hx hb dX11_makeOne_157 (lv_at hl 5 rfl) ?_
          replace hf := o_call_e hf
          obtain ⟨x2, S1, hq1, hf⟩ := hf
          refine jq_doM hX hJ (jq_okV (As := [.int l2, .int l8]) (rest := [.ref (ad 0)]) hx hb hm ho ht (mJ.recv hX hJ) qw883 qw885 qs81 qw886 qw7 hy_X11_kind rfl hl.1 (Nat.le_of_ble_eq_true rfl) dX11_makeOne_159) (c_X11_kind hq1) (Nat.le_of_ble_eq_true rfl) (Nat.le_of_ble_eq_true rfl) (Nat.le_refl _) (Nat.le_refl _) (fun H locs hJ' => ?_)
          clear hJ
          have hJ := hJ'
          clear hJ'
          replace hf := o_call_e hf
          obtain ⟨_, S2, hq2, hf⟩ := hf
          refine jq_doM hX hJ (jq_okV (As := [.int x2]) (rest := []) hx hb hm ho ht (mJ.recv hX hJ) qw871 qw873 qs78 qw874 qw7 hy_X11_takes rfl hl.1 (Nat.le_of_ble_eq_true rfl) dX11_makeOne_162) (c_X11_takes hq2) (Nat.le_of_ble_eq_true rfl) (Nat.le_of_ble_eq_true rfl) (Nat.le_refl _) (Nat.le_refl _) (fun H locs hJ' => ?_)
          clear hJ
          have hJ := hJ'
          clear hJ'
          replace hf := o_let_e hf
          obtain ⟨x3, hx3, hf⟩ := hf
          refine lv_iinc (v := x3) (lv' := [(8, .int x3), (0, .ref (ad 0)), (2, .int l2), (3, .int l3), (4, .int l4), (7, .int l7)]) hx hb dX11_makeOne_165 hl (k := 5) rfl (by rw [← hx3]; rfl) (by decide) rfl (fun ls hl' => ?_)
          clear hl
          have hl := hl'
          clear hl'
          refine lv_goto (tgt := 128) hx hb dX11_makeOne_168 (by decide) ?_
          replace hl := lv_sub hl (l' := [(0, .ref (ad 0)), (2, .int l2), (3, .int l3), (4, .int l4), (7, .int l7), (8, .int x3)]) [1, 2, 3, 4, 5, 0] rfl
          exact ih l2 l3 l4 l7 x3 S2 S' r H locs ls hX hJ hf hl
      · replace hf := o_t hf c3
        refine lv_aload_n hx hb dX11_makeOne_141 rfl (lv_at hl 0 rfl) ?_
        refine lv_iload hx hb dX11_makeOne_142 (lv_at hl 3 rfl) ?_
        replace hf := o_call_e hf
        obtain ⟨_, S3, hq3, hf⟩ := hf
        refine jq_doM hX hJ (jq_okV (As := [.int l4]) (rest := []) hx hb hm ho ht (mJ.recv hX hJ) qw871 qw873 qs78 qw874 qw7 hy_X11_takes rfl hl.1 (Nat.le_of_ble_eq_true rfl) dX11_makeOne_144) (c_X11_takes hq3) (Nat.le_of_ble_eq_true rfl) (Nat.le_of_ble_eq_true rfl) (Nat.le_refl _) (Nat.le_refl _) (fun H locs hJ' => ?_)
        clear hJ
        have hJ := hJ'
        clear hJ'
        refine lv_iload hx hb dX11_makeOne_147 (lv_at hl 5 rfl) ?_
        refine lv_iload hx hb dX11_makeOne_149 (lv_at hl 4 rfl) ?_
        refine lv_icmp_ge (tgt := 165) hx hb dX11_makeOne_151 (by decide) (fun c5 => ?_) (fun c5 => ?_)
        · replace hf := o_t hf c5
          replace hf := o_let_e hf
          obtain ⟨x4, hx4, hf⟩ := hf
          refine lv_iinc (v := x4) (lv' := [(8, .int x4), (0, .ref (ad 0)), (2, .int l2), (3, .int l3), (4, .int l4), (7, .int l7)]) hx hb dX11_makeOne_165 hl (k := 5) rfl (by rw [← hx4]; rfl) (by decide) rfl (fun ls hl' => ?_)
          clear hl
          have hl := hl'
          clear hl'
          refine lv_goto (tgt := 128) hx hb dX11_makeOne_168 (by decide) ?_
          replace hl := lv_sub hl (l' := [(0, .ref (ad 0)), (2, .int l2), (3, .int l3), (4, .int l4), (7, .int l7), (8, .int x4)]) [1, 2, 3, 4, 5, 0] rfl
          exact ih l2 l3 l4 l7 x4 S3 S' r H locs ls hX hJ hf hl
        · replace hf := o_f hf c5
          refine lv_aload_n hx hb dX11_makeOne_154 rfl (lv_at hl 0 rfl) ?_
          refine lv_aload_n hx hb dX11_makeOne_155 rfl (lv_at hl 0 rfl) ?_
          refine lv_iload_n hx hb dX11_makeOne_156 rfl (lv_at hl 1 rfl) ?_
          refine lv_iload hx hb dX11_makeOne_157 (lv_at hl 5 rfl) ?_
          replace hf := o_call_e hf
          obtain ⟨x5, S4, hq4, hf⟩ := hf
          refine jq_doM hX hJ (jq_okV (As := [.int l2, .int l8]) (rest := [.ref (ad 0)]) hx hb hm ho ht (mJ.recv hX hJ) qw883 qw885 qs81 qw886 qw7 hy_X11_kind rfl hl.1 (Nat.le_of_ble_eq_true rfl) dX11_makeOne_159) (c_X11_kind hq4) (Nat.le_of_ble_eq_true rfl) (Nat.le_of_ble_eq_true rfl) (Nat.le_refl _) (Nat.le_refl _) (fun H locs hJ' => ?_)
          clear hJ
          have hJ := hJ'
          clear hJ'
          replace hf := o_call_e hf
          obtain ⟨_, S5, hq5, hf⟩ := hf
          refine jq_doM hX hJ (jq_okV (As := [.int x5]) (rest := []) hx hb hm ho ht (mJ.recv hX hJ) qw871 qw873 qs78 qw874 qw7 hy_X11_takes rfl hl.1 (Nat.le_of_ble_eq_true rfl) dX11_makeOne_162) (c_X11_takes hq5) (Nat.le_of_ble_eq_true rfl) (Nat.le_of_ble_eq_true rfl) (Nat.le_refl _) (Nat.le_refl _) (fun H locs hJ' => ?_)
          clear hJ
          have hJ := hJ'
          clear hJ'
          replace hf := o_let_e hf
          obtain ⟨x6, hx6, hf⟩ := hf
          refine lv_iinc (v := x6) (lv' := [(8, .int x6), (0, .ref (ad 0)), (2, .int l2), (3, .int l3), (4, .int l4), (7, .int l7)]) hx hb dX11_makeOne_165 hl (k := 5) rfl (by rw [← hx6]; rfl) (by decide) rfl (fun ls hl' => ?_)
          clear hl
          have hl := hl'
          clear hl'
          refine lv_goto (tgt := 128) hx hb dX11_makeOne_168 (by decide) ?_
          replace hl := lv_sub hl (l' := [(0, .ref (ad 0)), (2, .int l2), (3, .int l3), (4, .int l4), (7, .int l7), (8, .int x6)]) [1, 2, 3, 4, 5, 0] rfl
          exact ih l2 l3 l4 l7 x6 S5 S' r H locs ls hX hJ hf hl
def f_X11_makeOne_b208 : Nat → Int32 → Int32 → Int32 → Int32 → mS → Option ((Int32) × mS)
  | 0, _, _, _, _, _ => none
  | n + 1, l2, l3, l7, l8, S => 
  if l7 ≤ l8 then (
  some (0, S)) else (
  if l8 = l3 then (
  o_call (f_X11_kind l2 (l3 + (1 : Int32)) S) fun x5 S5 =>
  o_call (f_X11_takes x5 S5) fun _ S6 =>
  o_let (l8 + 1) fun x6 =>
  f_X11_makeOne_b208 n l2 l3 l7 x6 S6) else (
  if l8 = (l3 + (1 : Int32)) then (
  o_call (f_X11_kind l2 l3 S) fun x3 S3 =>
  o_call (f_X11_takes x3 S3) fun _ S4 =>
  o_let (l8 + 1) fun x4 =>
  f_X11_makeOne_b208 n l2 l3 l7 x4 S4) else (
  o_call (f_X11_kind l2 l8 S) fun x1 S1 =>
  o_call (f_X11_takes x1 S1) fun _ S2 =>
  o_let (l8 + 1) fun x2 =>
  f_X11_makeOne_b208 n l2 l3 l7 x2 S2)))
set_option maxHeartbeats 4000000 in
set_option maxRecDepth 100000 in
theorem w_X11_makeOne_b208 {l : Launch} {D : va_G} {Y : Nat → ClassId} {aR : Nat → Nat} {A : Nat → Prop} {ad : Nat → Nat} {p : Program} {e : Env} {s : State} {m : MethodId} {args : Array Value} {below : List Frame} {meth : Method} {c : Code} : ∀ (n : Nat) (l2 : Int32) (l3 : Int32) (l7 : Int32) (l8 : Int32) (S S' : mS) (r : Int32) (H : Heap) (locs : List Loc) (ls : Array Slot), jq_X D Y aR A p s m args meth c cX11_makeOne RX11 "makeOne" 9 (some .int) → mJ D Y A s ad S H locs → f_X11_makeOne_b208 n l2 l3 l7 l8 S = some (r, S') → lv_has ls 9 [(0, .ref (ad 0)), (2, .int l2), (3, .int l3), (7, .int l7), (8, .int l8)] → W p l e { frames := 3, cells := 0, slots := 0, locals := 70 } s m args below meth c H locs 0 0 (jq_Z below A (fun v k n H => v = (some (.int r)) ∧ k = 0 ∧ n = 0 ∧ mH D Y A ad S' H) s) (F0 m 208 ls []) := by
  intro n
  induction n with
  | zero =>
    intro l2 l3 l7 l8 S S' r H locs ls hX hJ hf hl
    cases hf
  | succ n ih =>
    intro l2 l3 l7 l8 S S' r H locs ls hX hJ hf hl
    rw [f_X11_makeOne_b208.eq_2] at hf
    have hx := hX.1
    have hb := hX.2.1
    have hm := hX.2.2.1
    have ho := hX.2.2.2.1
    have ht := hX.2.2.2.2.1
    have hn := hX.2.2.2.2.2.1.2.1
    refine lv_iload hx hb dX11_makeOne_208 (lv_at hl 4 rfl) ?_
    refine lv_iload hx hb dX11_makeOne_210 (lv_at hl 3 rfl) ?_
    refine lv_icmp_ge (tgt := 256) hx hb dX11_makeOne_212 (by decide) (fun c1 => ?_) (fun c1 => ?_)
    · replace hf := o_t hf c1
      refine lv_iconst (v := 0) hx hb dX11_makeOne_256 (by decide) ?_
      obtain ⟨rfl, rfl⟩ := Prod.mk.inj (Option.some.inj hf)
      exact jq_iret hX hJ.2 dX11_makeOne_257 ⟨rfl, rfl, rfl, hJ.1⟩
    · replace hf := o_f hf c1
      refine lv_aload_n hx hb dX11_makeOne_215 rfl (lv_at hl 0 rfl) ?_
      refine lv_aload_n hx hb dX11_makeOne_216 rfl (lv_at hl 0 rfl) ?_
      refine lv_iload_n hx hb dX11_makeOne_217 rfl (lv_at hl 1 rfl) ?_
      refine lv_iload hx hb dX11_makeOne_218 (lv_at hl 4 rfl) ?_
      refine lv_iload_n hx hb dX11_makeOne_220 rfl (lv_at hl 2 rfl) ?_
      refine lv_icmp_ne (tgt := 230) hx hb dX11_makeOne_221 (by decide) (fun c2 => ?_) (fun c2 => ?_)
      · replace hf := o_f hf c2
        refine lv_iload hx hb dX11_makeOne_230 (lv_at hl 4 rfl) ?_
        refine lv_iload_n hx hb dX11_makeOne_232 rfl (lv_at hl 2 rfl) ?_
        refine lv_iconst (v := 1) hx hb dX11_makeOne_233 (by decide) ?_
        refine lv_iadd hx hb dX11_makeOne_234 ?_
        refine lv_icmp_ne (tgt := 242) hx hb dX11_makeOne_235 (by decide) (fun c3 => ?_) (fun c3 => ?_)
        · replace hf := o_f hf c3
          refine lv_iload hx hb dX11_makeOne_242 (lv_at hl 4 rfl) ?_
          replace hf := o_call_e hf
          obtain ⟨x1, S1, hq1, hf⟩ := hf
          refine jq_doM hX hJ (jq_okV (As := [.int l2, .int l8]) (rest := [.ref (ad 0)]) hx hb hm ho ht (mJ.recv hX hJ) qw883 qw885 qs81 qw886 qw7 hy_X11_kind rfl hl.1 (Nat.le_of_ble_eq_true rfl) dX11_makeOne_244) (c_X11_kind hq1) (Nat.le_of_ble_eq_true rfl) (Nat.le_of_ble_eq_true rfl) (Nat.le_refl _) (Nat.le_refl _) (fun H locs hJ' => ?_)
          clear hJ
          have hJ := hJ'
          clear hJ'
          replace hf := o_call_e hf
          obtain ⟨_, S2, hq2, hf⟩ := hf
          refine jq_doM hX hJ (jq_okV (As := [.int x1]) (rest := []) hx hb hm ho ht (mJ.recv hX hJ) qw871 qw873 qs78 qw874 qw7 hy_X11_takes rfl hl.1 (Nat.le_of_ble_eq_true rfl) dX11_makeOne_247) (c_X11_takes hq2) (Nat.le_of_ble_eq_true rfl) (Nat.le_of_ble_eq_true rfl) (Nat.le_refl _) (Nat.le_refl _) (fun H locs hJ' => ?_)
          clear hJ
          have hJ := hJ'
          clear hJ'
          replace hf := o_let_e hf
          obtain ⟨x2, hx2, hf⟩ := hf
          refine lv_iinc (v := x2) (lv' := [(8, .int x2), (0, .ref (ad 0)), (2, .int l2), (3, .int l3), (7, .int l7)]) hx hb dX11_makeOne_250 hl (k := 4) rfl (by rw [← hx2]; rfl) (by decide) rfl (fun ls hl' => ?_)
          clear hl
          have hl := hl'
          clear hl'
          refine lv_goto (tgt := 208) hx hb dX11_makeOne_253 (by decide) ?_
          replace hl := lv_sub hl (l' := [(0, .ref (ad 0)), (2, .int l2), (3, .int l3), (7, .int l7), (8, .int x2)]) [1, 2, 3, 4, 0] rfl
          exact ih l2 l3 l7 x2 S2 S' r H locs ls hX hJ hf hl
        · replace hf := o_t hf c3
          refine lv_iload_n hx hb dX11_makeOne_238 rfl (lv_at hl 2 rfl) ?_
          refine lv_goto (tgt := 244) hx hb dX11_makeOne_239 (by decide) ?_
          replace hf := o_call_e hf
          obtain ⟨x3, S3, hq3, hf⟩ := hf
          refine jq_doM hX hJ (jq_okV (As := [.int l2, .int l3]) (rest := [.ref (ad 0)]) hx hb hm ho ht (mJ.recv hX hJ) qw883 qw885 qs81 qw886 qw7 hy_X11_kind rfl hl.1 (Nat.le_of_ble_eq_true rfl) dX11_makeOne_244) (c_X11_kind hq3) (Nat.le_of_ble_eq_true rfl) (Nat.le_of_ble_eq_true rfl) (Nat.le_refl _) (Nat.le_refl _) (fun H locs hJ' => ?_)
          clear hJ
          have hJ := hJ'
          clear hJ'
          replace hf := o_call_e hf
          obtain ⟨_, S4, hq4, hf⟩ := hf
          refine jq_doM hX hJ (jq_okV (As := [.int x3]) (rest := []) hx hb hm ho ht (mJ.recv hX hJ) qw871 qw873 qs78 qw874 qw7 hy_X11_takes rfl hl.1 (Nat.le_of_ble_eq_true rfl) dX11_makeOne_247) (c_X11_takes hq4) (Nat.le_of_ble_eq_true rfl) (Nat.le_of_ble_eq_true rfl) (Nat.le_refl _) (Nat.le_refl _) (fun H locs hJ' => ?_)
          clear hJ
          have hJ := hJ'
          clear hJ'
          replace hf := o_let_e hf
          obtain ⟨x4, hx4, hf⟩ := hf
          refine lv_iinc (v := x4) (lv' := [(8, .int x4), (0, .ref (ad 0)), (2, .int l2), (3, .int l3), (7, .int l7)]) hx hb dX11_makeOne_250 hl (k := 4) rfl (by rw [← hx4]; rfl) (by decide) rfl (fun ls hl' => ?_)
          clear hl
          have hl := hl'
          clear hl'
          refine lv_goto (tgt := 208) hx hb dX11_makeOne_253 (by decide) ?_
          replace hl := lv_sub hl (l' := [(0, .ref (ad 0)), (2, .int l2), (3, .int l3), (7, .int l7), (8, .int x4)]) [1, 2, 3, 4, 0] rfl
          exact ih l2 l3 l7 x4 S4 S' r H locs ls hX hJ hf hl
      · replace hf := o_t hf c2
        refine lv_iload_n hx hb dX11_makeOne_224 rfl (lv_at hl 2 rfl) ?_
        refine lv_iconst (v := 1) hx hb dX11_makeOne_225 (by decide) ?_
        refine lv_iadd hx hb dX11_makeOne_226 ?_
        refine lv_goto (tgt := 244) hx hb dX11_makeOne_227 (by decide) ?_
        replace hf := o_call_e hf
        obtain ⟨x5, S5, hq5, hf⟩ := hf
        refine jq_doM hX hJ (jq_okV (As := [.int l2, .int (l3 + (1 : Int32))]) (rest := [.ref (ad 0)]) hx hb hm ho ht (mJ.recv hX hJ) qw883 qw885 qs81 qw886 qw7 hy_X11_kind rfl hl.1 (Nat.le_of_ble_eq_true rfl) dX11_makeOne_244) (c_X11_kind hq5) (Nat.le_of_ble_eq_true rfl) (Nat.le_of_ble_eq_true rfl) (Nat.le_refl _) (Nat.le_refl _) (fun H locs hJ' => ?_)
        clear hJ
        have hJ := hJ'
        clear hJ'
        replace hf := o_call_e hf
        obtain ⟨_, S6, hq6, hf⟩ := hf
        refine jq_doM hX hJ (jq_okV (As := [.int x5]) (rest := []) hx hb hm ho ht (mJ.recv hX hJ) qw871 qw873 qs78 qw874 qw7 hy_X11_takes rfl hl.1 (Nat.le_of_ble_eq_true rfl) dX11_makeOne_247) (c_X11_takes hq6) (Nat.le_of_ble_eq_true rfl) (Nat.le_of_ble_eq_true rfl) (Nat.le_refl _) (Nat.le_refl _) (fun H locs hJ' => ?_)
        clear hJ
        have hJ := hJ'
        clear hJ'
        replace hf := o_let_e hf
        obtain ⟨x6, hx6, hf⟩ := hf
        refine lv_iinc (v := x6) (lv' := [(8, .int x6), (0, .ref (ad 0)), (2, .int l2), (3, .int l3), (7, .int l7)]) hx hb dX11_makeOne_250 hl (k := 4) rfl (by rw [← hx6]; rfl) (by decide) rfl (fun ls hl' => ?_)
        clear hl
        have hl := hl'
        clear hl'
        refine lv_goto (tgt := 208) hx hb dX11_makeOne_253 (by decide) ?_
        replace hl := lv_sub hl (l' := [(0, .ref (ad 0)), (2, .int l2), (3, .int l3), (7, .int l7), (8, .int x6)]) [1, 2, 3, 4, 0] rfl
        exact ih l2 l3 l7 x6 S6 S' r H locs ls hX hJ hf hl
def f_X11_makeOne_b410 : Nat → Int32 → mS → Option ((Int32) × mS)
  | 0, _, _ => none
  | n + 1, l8, S => 
  o_let (m_I S 2) fun x1 =>
  if x1 ≤ l8 then (
  o_let (m_I S 1) fun x2 =>
  o_call (f_X11_gives x2 S) fun _ S1 =>
  some (0, S1)) else (
  o_ck (¬ (l8 < 0 ∨ 4 ≤ (l8).toNatClampNeg)) (o_let (m_aI S 3 (l8).toNatClampNeg) fun x3 =>
  o_call (f_X11_takes x3 S) fun _ S2 =>
  o_let (l8 + 1) fun x4 =>
  f_X11_makeOne_b410 n x4 S2))
set_option maxHeartbeats 4000000 in
set_option maxRecDepth 100000 in
theorem w_X11_makeOne_b410 {l : Launch} {D : va_G} {Y : Nat → ClassId} {aR : Nat → Nat} {A : Nat → Prop} {ad : Nat → Nat} {p : Program} {e : Env} {s : State} {m : MethodId} {args : Array Value} {below : List Frame} {meth : Method} {c : Code} : ∀ (n : Nat) (l8 : Int32) (S S' : mS) (r : Int32) (H : Heap) (locs : List Loc) (ls : Array Slot), jq_X D Y aR A p s m args meth c cX11_makeOne RX11 "makeOne" 9 (some .int) → mJ D Y A s ad S H locs → f_X11_makeOne_b410 n l8 S = some (r, S') → lv_has ls 9 [(0, .ref (ad 0)), (8, .int l8)] → W p l e { frames := 3, cells := 0, slots := 0, locals := 70 } s m args below meth c H locs 0 0 (jq_Z below A (fun v k n H => v = (some (.int r)) ∧ k = 0 ∧ n = 0 ∧ mH D Y A ad S' H) s) (F0 m 410 ls []) := by
  intro n
  induction n with
  | zero =>
    intro l8 S S' r H locs ls hX hJ hf hl
    cases hf
  | succ n ih =>
    intro l8 S S' r H locs ls hX hJ hf hl
    rw [f_X11_makeOne_b410.eq_2] at hf
    have hx := hX.1
    have hb := hX.2.1
    have hm := hX.2.2.1
    have ho := hX.2.2.2.1
    have ht := hX.2.2.2.2.1
    have hn := hX.2.2.2.2.2.1.2.1
    refine lv_iload hx hb dX11_makeOne_410 (lv_at hl 1 rfl) ?_
    refine lv_aload_n hx hb dX11_makeOne_412 rfl (lv_at hl 0 rfl) ?_
    replace hf := o_let_e hf
    obtain ⟨x1, hx1, hf⟩ := hf
    refine mg_handMany hX hJ hx1 qw694 dX11_makeOne_413 ?_
    refine lv_icmp_ge (tgt := 436) hx hb dX11_makeOne_416 (by decide) (fun c1 => ?_) (fun c1 => ?_)
    · replace hf := o_t hf c1
      refine lv_aload_n hx hb dX11_makeOne_436 rfl (lv_at hl 0 rfl) ?_
      refine lv_aload_n hx hb dX11_makeOne_437 rfl (lv_at hl 0 rfl) ?_
      replace hf := o_let_e hf
      obtain ⟨x2, hx2, hf⟩ := hf
      refine mg_handResult hX hJ hx2 qw693 dX11_makeOne_438 ?_
      replace hf := o_call_e hf
      obtain ⟨_, S1, hq1, hf⟩ := hf
      refine jq_doM hX hJ (jq_okV (As := [.int x2]) (rest := []) hx hb hm ho ht (mJ.recv hX hJ) qw867 qw869 qs77 qw870 qw7 hy_X11_gives rfl hl.1 (Nat.le_of_ble_eq_true rfl) dX11_makeOne_441) (c_X11_gives hq1) (Nat.le_of_ble_eq_true rfl) (Nat.le_of_ble_eq_true rfl) (Nat.le_refl _) (Nat.le_refl _) (fun H locs hJ' => ?_)
      clear hJ
      have hJ := hJ'
      clear hJ'
      refine lv_iconst (v := 0) hx hb dX11_makeOne_444 (by decide) ?_
      obtain ⟨rfl, rfl⟩ := Prod.mk.inj (Option.some.inj hf)
      exact jq_iret hX hJ.2 dX11_makeOne_445 ⟨rfl, rfl, rfl, hJ.1⟩
    · replace hf := o_f hf c1
      refine lv_aload_n hx hb dX11_makeOne_419 rfl (lv_at hl 0 rfl) ?_
      refine lv_aload_n hx hb dX11_makeOne_420 rfl (lv_at hl 0 rfl) ?_
      refine mg_handKind hX hJ qw695 dX11_makeOne_421 ?_
      refine lv_iload hx hb dX11_makeOne_424 (lv_at hl 1 rfl) ?_
      replace hf := o_ck_e hf
      obtain ⟨hk1, hf⟩ := hf
      replace hf := o_let_e hf
      obtain ⟨x3, hx3, hf⟩ := hf
      refine ma_I 3 hX hJ (by decide) hk1 hx3 dX11_makeOne_426 ?_
      replace hf := o_call_e hf
      obtain ⟨_, S2, hq2, hf⟩ := hf
      refine jq_doM hX hJ (jq_okV (As := [.int x3]) (rest := []) hx hb hm ho ht (mJ.recv hX hJ) qw871 qw873 qs78 qw874 qw7 hy_X11_takes rfl hl.1 (Nat.le_of_ble_eq_true rfl) dX11_makeOne_427) (c_X11_takes hq2) (Nat.le_of_ble_eq_true rfl) (Nat.le_of_ble_eq_true rfl) (Nat.le_refl _) (Nat.le_refl _) (fun H locs hJ' => ?_)
      clear hJ
      have hJ := hJ'
      clear hJ'
      replace hf := o_let_e hf
      obtain ⟨x4, hx4, hf⟩ := hf
      refine lv_iinc (v := x4) (lv' := [(8, .int x4), (0, .ref (ad 0))]) hx hb dX11_makeOne_430 hl (k := 1) rfl (by rw [← hx4]; rfl) (by decide) rfl (fun ls hl' => ?_)
      clear hl
      have hl := hl'
      clear hl'
      refine lv_goto (tgt := 410) hx hb dX11_makeOne_433 (by decide) ?_
      replace hl := lv_sub hl (l' := [(0, .ref (ad 0)), (8, .int x4)]) [1, 0] rfl
      exact ih x4 S2 S' r H locs ls hX hJ hf hl
def f_X11_makeOne (p1 : Int32) (p2 : Int32) (p3 : Int32) (p4 : Int32) (p5 : Int64) (S : mS) : Option ((Int32) × mS) :=
  o_call (f_X11_isHandle p2 S) fun x1 S1 =>
  if x1 = 0 then (
  some ((-1), S1)) else (
  o_let (m_pI S1 4 p2) fun S2 =>
  o_ck (¬ (p2 < 0 ∨ 33 ≤ (p2).toNatClampNeg)) (o_let (m_aI S2 10 (p2).toNatClampNeg) fun x2 =>
  o_call (f_X11_gives x2 S2) fun _ S3 =>
  o_ck (¬ (p2 < 0 ∨ 33 ≤ (p2).toNatClampNeg)) (o_let (m_aI S3 8 (p2).toNatClampNeg) fun x3 =>
  if p1 = 11 then (
  o_cP (f_X11_in ((p3).toInt64) 0 ((x3).toInt64)) fun x4 =>
  if x4 = 0 then (
  some ((-1), S3)) else (
  o_cP (f_X11_isKind p4) fun x5 =>
  if x5 = 0 then (
  some ((-1), S3)) else (
  o_let (m_pI S3 5 p3) fun S4 =>
  o_let (m_pI S4 6 p4) fun S5 =>
  f_X11_makeOne_b128 12 p2 p3 p4 x3 0 S5))) else (
  if p1 = 12 then (
  o_cP (f_X11_in ((p3).toInt64) 0 (((x3 - (2 : Int32))).toInt64)) fun x6 =>
  if x6 = 0 then (
  some ((-1), S3)) else (
  o_let (m_pI S3 5 p3) fun S6 =>
  f_X11_makeOne_b208 12 p2 p3 x3 0 S6)) else (
  if p1 = 13 then (
  if x3 < 2 then (
  some ((-3), S3)) else (
  o_call (f_X11_kind p2 0 S3) fun x7 S7 =>
  o_call (f_X11_kind p2 1 S7) fun x8 S8 =>
  if x7 = x8 then (
  o_call (f_X11_takesOf p2 1 S8) fun _ S9 =>
  some (0, S9)) else (
  some ((-3), S8)))) else (
  if p1 = 14 then (
  if 1 ≤ x3 then (
  o_call (f_X11_kind p2 0 S3) fun x9 S10 =>
  o_call (f_X11_isValue x9 p5 S10) fun x10 S11 =>
  if x10 = 0 then (
  some ((-1), S11)) else (
  o_call (f_X11_kind p2 0 S11) fun x11 S12 =>
  o_cP (f_X11_cast p5 x11) fun x12 =>
  o_let (m_pL S12 0 x12) fun S13 =>
  o_call (f_X11_takesOf p2 1 S13) fun _ S14 =>
  some (0, S14))) else (
  some ((-3), S3))) else (
  if p1 = 21 then (
  if x3 < 2 then (
  some ((-3), S3)) else (
  o_call (f_X11_kind p2 1 S3) fun x13 S15 =>
  if x13 = 4 then (
  o_call (f_X11_kind p2 0 S15) fun x14 S16 =>
  o_ck (¬ (p2 < 0 ∨ 33 ≤ (p2).toNatClampNeg)) (o_let (m_aI S16 10 (p2).toNatClampNeg) fun x15 =>
  if x14 = x15 then (
  o_call (f_X11_takes 4 S16) fun _ S17 =>
  o_call (f_X11_kind p2 0 S17) fun x16 S18 =>
  o_call (f_X11_takes x16 S18) fun _ S19 =>
  o_call (f_X11_takesOf p2 2 S19) fun _ S20 =>
  some (0, S20)) else (
  some ((-3), S16)))) else (
  some ((-3), S15)))) else (
  if p1 = 15 ∨ p1 = 16 ∨ p1 = 17 ∨ p1 = 18 ∨ p1 = 19 ∨ p1 = 20 then (
  o_call (f_X11_handGoes p2 S3) fun x17 S21 =>
  if x17 = 0 then (
  some ((-3), S21)) else (
  f_X11_makeOne_b410 12 0 S21)) else (
  o_call (f_X11_handGoes p2 S3) fun x18 S22 =>
  if x18 = 0 then (
  some ((-3), S22)) else (
  f_X11_makeOne_b410 12 0 S22))))))))))
set_option maxHeartbeats 4000000 in
set_option maxRecDepth 100000 in
theorem c_X11_makeOne {l : Launch} {D : va_G} {Y : Nat → ClassId} {aR : Nat → Nat} {A : Nat → Prop} {ad : Nat → Nat} {p1 : Int32} {p2 : Int32} {p3 : Int32} {p4 : Int32} {p5 : Int64} {S S' : mS} {r : Int32} (hf : f_X11_makeOne p1 p2 p3 p4 p5 S = some (r, S')) : jq_M l D Y aR A ad yX11_makeOne cX11_makeOne 9 (some .int) 3 70 [.ref (ad 0), .int p1, .int p2, .int p3, .int p4, .long p5] S (some (.int r)) S' := by
  unfold f_X11_makeOne at hf
  refine jq_enterM (by decide) (Nat.le_of_ble_eq_true rfl) fun p e s m args below meth c ls H locs hX hJ hl => ?_
  have hl : lv_has ls 9 [(0, .ref (ad 0)), (1, .int p1), (2, .int p2), (3, .int p3), (4, .int p4), (5, .long p5)] := hl
  have hx := hX.1
  have hb := hX.2.1
  have hm := hX.2.2.1
  have ho := hX.2.2.2.1
  have ht := hX.2.2.2.2.1
  have hn := hX.2.2.2.2.2.1.2.1
  refine lv_aload_n hx hb dX11_makeOne_0 rfl (lv_at hl 0 rfl) ?_
  refine lv_iload_n hx hb dX11_makeOne_1 rfl (lv_at hl 2 rfl) ?_
  replace hf := o_call_e hf
  obtain ⟨x1, S1, hq1, hf⟩ := hf
  refine jq_doM hX hJ (jq_okV (As := [.int p2]) (rest := []) hx hb hm ho ht (mJ.recv hX hJ) qw879 qw881 qs80 qw882 qw7 hy_X11_isHandle rfl hl.1 (Nat.le_of_ble_eq_true rfl) dX11_makeOne_2) (c_X11_isHandle hq1) (Nat.le_of_ble_eq_true rfl) (Nat.le_of_ble_eq_true rfl) (Nat.le_refl _) (Nat.le_refl _) (fun H locs hJ' => ?_)
  clear hJ
  have hJ := hJ'
  clear hJ'
  refine lv_if_ne (tgt := 10) hx hb dX11_makeOne_5 (by decide) (fun c1 => ?_) (fun c1 => ?_)
  · replace hf := o_f hf c1
    refine lv_aload_n hx hb dX11_makeOne_10 rfl (lv_at hl 0 rfl) ?_
    refine lv_iload_n hx hb dX11_makeOne_11 rfl (lv_at hl 2 rfl) ?_
    replace hf := o_let_e hf
    obtain ⟨S2, hS2, hf⟩ := hf
    refine mp_madeA hX hJ hS2 qw706 dX11_makeOne_12 (fun H locs hJ' => ?_)
    clear hJ
    have hJ := hJ'
    clear hJ'
    refine lv_aload_n hx hb dX11_makeOne_15 rfl (lv_at hl 0 rfl) ?_
    refine lv_aload_n hx hb dX11_makeOne_16 rfl (lv_at hl 0 rfl) ?_
    refine mg_resultOf hX hJ qw705 dX11_makeOne_17 ?_
    refine lv_iload_n hx hb dX11_makeOne_20 rfl (lv_at hl 2 rfl) ?_
    replace hf := o_ck_e hf
    obtain ⟨hk1, hf⟩ := hf
    replace hf := o_let_e hf
    obtain ⟨x2, hx2, hf⟩ := hf
    refine ma_I 10 hX hJ (by decide) hk1 hx2 dX11_makeOne_21 ?_
    replace hf := o_call_e hf
    obtain ⟨_, S3, hq2, hf⟩ := hf
    refine jq_doM hX hJ (jq_okV (As := [.int x2]) (rest := []) hx hb hm ho ht (mJ.recv hX hJ) qw867 qw869 qs77 qw870 qw7 hy_X11_gives rfl hl.1 (Nat.le_of_ble_eq_true rfl) dX11_makeOne_22) (c_X11_gives hq2) (Nat.le_of_ble_eq_true rfl) (Nat.le_of_ble_eq_true rfl) (Nat.le_refl _) (Nat.le_refl _) (fun H locs hJ' => ?_)
    clear hJ
    have hJ := hJ'
    clear hJ'
    refine lv_aload_n hx hb dX11_makeOne_25 rfl (lv_at hl 0 rfl) ?_
    refine mg_manyOf hX hJ qw703 dX11_makeOne_26 ?_
    refine lv_iload_n hx hb dX11_makeOne_29 rfl (lv_at hl 2 rfl) ?_
    replace hf := o_ck_e hf
    obtain ⟨hk2, hf⟩ := hf
    replace hf := o_let_e hf
    obtain ⟨x3, hx3, hf⟩ := hf
    refine ma_I 8 hX hJ (by decide) hk2 hx3 dX11_makeOne_30 ?_
    refine lv_istore (lv' := [(7, .int x3), (0, .ref (ad 0)), (1, .int p1), (2, .int p2), (3, .int p3), (4, .int p4), (5, .long p5)]) hx hb dX11_makeOne_31 hl (by decide) rfl (fun ls hl' => ?_)
    clear hl
    have hl := hl'
    clear hl'
    refine lv_iload_n hx hb dX11_makeOne_33 rfl (lv_at hl 2 rfl) ?_
    by_cases c2 : p1 = 11
    · replace hf := o_t hf c2
      refine lv_tableIn (off := 58) (tgt := 92) hx hb dX11_makeOne_34 (by rcases c2 with rfl <;> decide) (by rcases c2 with rfl <;> decide) (by rcases c2 with rfl <;> rfl) (by decide) ?_
      refine lv_iload_n hx hb dX11_makeOne_92 rfl (lv_at hl 4 rfl) ?_
      refine lv_i2l hx hb dX11_makeOne_93 rfl ?_
      refine lv_lconst (v := 0) hx hb dX11_makeOne_94 (by decide) ?_
      refine lv_iload hx hb dX11_makeOne_95 (lv_at hl 0 rfl) ?_
      refine lv_i2l hx hb dX11_makeOne_97 rfl ?_
      replace hf := o_cP_e hf
      obtain ⟨x4, hq3, hf⟩ := hf
      refine jq_doP hX hJ.2 (jq_okS (As := [.long ((p3).toInt64), .long 0, .long ((x3).toInt64)]) (rest := []) hx hb hm ho ht qw803 qw804 qw805 qw7 hy_X11_in rfl hl.1 (Nat.le_of_ble_eq_true rfl) dX11_makeOne_98) (c_X11_in hq3) (Nat.le_of_ble_eq_true rfl) (Nat.le_of_ble_eq_true rfl) (Nat.le_refl _) (Nat.le_refl _) (fun locs hS9 => ?_)
      replace hJ := mJ.to hJ hS9
      refine lv_if_eq (tgt := 112) hx hb dX11_makeOne_101 (by decide) (fun c3 => ?_) (fun c3 => ?_)
      · replace hf := o_t hf c3
        refine lv_iconst (v := (-1)) hx hb dX11_makeOne_112 (by decide) ?_
        obtain ⟨rfl, rfl⟩ := Prod.mk.inj (Option.some.inj hf)
        exact jq_iret hX hJ.2 dX11_makeOne_113 ⟨rfl, rfl, rfl, hJ.1⟩
      · replace hf := o_f hf c3
        refine lv_iload hx hb dX11_makeOne_104 (lv_at hl 5 rfl) ?_
        replace hf := o_cP_e hf
        obtain ⟨x5, hq4, hf⟩ := hf
        refine jq_doP hX hJ.2 (jq_okS (As := [.int p4]) (rest := []) hx hb hm ho ht qw844 qw845 qw846 qw7 hy_X11_isKind rfl hl.1 (Nat.le_of_ble_eq_true rfl) dX11_makeOne_106) (c_X11_isKind hq4) (Nat.le_of_ble_eq_true rfl) (Nat.le_of_ble_eq_true rfl) (Nat.le_refl _) (Nat.le_refl _) (fun locs hS9 => ?_)
        replace hJ := mJ.to hJ hS9
        refine lv_if_ne (tgt := 114) hx hb dX11_makeOne_109 (by decide) (fun c4 => ?_) (fun c4 => ?_)
        · replace hf := o_f hf c4
          refine lv_aload_n hx hb dX11_makeOne_114 rfl (lv_at hl 1 rfl) ?_
          refine lv_iload_n hx hb dX11_makeOne_115 rfl (lv_at hl 4 rfl) ?_
          replace hf := o_let_e hf
          obtain ⟨S4, hS4, hf⟩ := hf
          refine mp_madeB hX hJ hS4 qw707 dX11_makeOne_116 (fun H locs hJ' => ?_)
          clear hJ
          have hJ := hJ'
          clear hJ'
          refine lv_aload_n hx hb dX11_makeOne_119 rfl (lv_at hl 1 rfl) ?_
          refine lv_iload hx hb dX11_makeOne_120 (lv_at hl 5 rfl) ?_
          replace hf := o_let_e hf
          obtain ⟨S5, hS5, hf⟩ := hf
          refine mp_madeC hX hJ hS5 qw708 dX11_makeOne_122 (fun H locs hJ' => ?_)
          clear hJ
          have hJ := hJ'
          clear hJ'
          refine lv_iconst (v := 0) hx hb dX11_makeOne_125 (by decide) ?_
          refine lv_istore (lv' := [(8, .int 0), (7, .int x3), (0, .ref (ad 0)), (1, .int p1), (2, .int p2), (3, .int p3), (4, .int p4), (5, .long p5)]) hx hb dX11_makeOne_126 hl (by decide) rfl (fun ls hl' => ?_)
          clear hl
          have hl := hl'
          clear hl'
          replace hl := lv_sub hl (l' := [(0, .ref (ad 0)), (2, .int p2), (3, .int p3), (4, .int p4), (7, .int x3), (8, .int 0)]) [2, 4, 5, 6, 1, 0] rfl
          exact w_X11_makeOne_b128 12 p2 p3 p4 x3 0 S5 S' r H locs ls hX hJ hf hl
        · replace hf := o_t hf c4
          refine lv_iconst (v := (-1)) hx hb dX11_makeOne_112 (by decide) ?_
          obtain ⟨rfl, rfl⟩ := Prod.mk.inj (Option.some.inj hf)
          exact jq_iret hX hJ.2 dX11_makeOne_113 ⟨rfl, rfl, rfl, hJ.1⟩
    replace hf := o_f hf c2
    by_cases c5 : p1 = 12
    · replace hf := o_t hf c5
      refine lv_tableIn (off := 150) (tgt := 184) hx hb dX11_makeOne_34 (by rcases c5 with rfl <;> decide) (by rcases c5 with rfl <;> decide) (by rcases c5 with rfl <;> rfl) (by decide) ?_
      refine lv_iload_n hx hb dX11_makeOne_184 rfl (lv_at hl 4 rfl) ?_
      refine lv_i2l hx hb dX11_makeOne_185 rfl ?_
      refine lv_lconst (v := 0) hx hb dX11_makeOne_186 (by decide) ?_
      refine lv_iload hx hb dX11_makeOne_187 (lv_at hl 0 rfl) ?_
      refine lv_iconst (v := 2) hx hb dX11_makeOne_189 (by decide) ?_
      refine lv_isub hx hb dX11_makeOne_190 ?_
      refine lv_i2l hx hb dX11_makeOne_191 rfl ?_
      replace hf := o_cP_e hf
      obtain ⟨x6, hq5, hf⟩ := hf
      refine jq_doP hX hJ.2 (jq_okS (As := [.long ((p3).toInt64), .long 0, .long (((x3 - (2 : Int32))).toInt64)]) (rest := []) hx hb hm ho ht qw803 qw804 qw805 qw7 hy_X11_in rfl hl.1 (Nat.le_of_ble_eq_true rfl) dX11_makeOne_192) (c_X11_in hq5) (Nat.le_of_ble_eq_true rfl) (Nat.le_of_ble_eq_true rfl) (Nat.le_refl _) (Nat.le_refl _) (fun locs hS9 => ?_)
      replace hJ := mJ.to hJ hS9
      refine lv_if_ne (tgt := 200) hx hb dX11_makeOne_195 (by decide) (fun c6 => ?_) (fun c6 => ?_)
      · replace hf := o_f hf c6
        refine lv_aload_n hx hb dX11_makeOne_200 rfl (lv_at hl 1 rfl) ?_
        refine lv_iload_n hx hb dX11_makeOne_201 rfl (lv_at hl 4 rfl) ?_
        replace hf := o_let_e hf
        obtain ⟨S6, hS6, hf⟩ := hf
        refine mp_madeB hX hJ hS6 qw707 dX11_makeOne_202 (fun H locs hJ' => ?_)
        clear hJ
        have hJ := hJ'
        clear hJ'
        refine lv_iconst (v := 0) hx hb dX11_makeOne_205 (by decide) ?_
        refine lv_istore (lv' := [(8, .int 0), (7, .int x3), (0, .ref (ad 0)), (1, .int p1), (2, .int p2), (3, .int p3), (4, .int p4), (5, .long p5)]) hx hb dX11_makeOne_206 hl (by decide) rfl (fun ls hl' => ?_)
        clear hl
        have hl := hl'
        clear hl'
        replace hl := lv_sub hl (l' := [(0, .ref (ad 0)), (2, .int p2), (3, .int p3), (7, .int x3), (8, .int 0)]) [2, 4, 5, 1, 0] rfl
        exact w_X11_makeOne_b208 12 p2 p3 x3 0 S6 S' r H locs ls hX hJ hf hl
      · replace hf := o_t hf c6
        refine lv_iconst (v := (-1)) hx hb dX11_makeOne_198 (by decide) ?_
        obtain ⟨rfl, rfl⟩ := Prod.mk.inj (Option.some.inj hf)
        exact jq_iret hX hJ.2 dX11_makeOne_199 ⟨rfl, rfl, rfl, hJ.1⟩
    replace hf := o_f hf c5
    by_cases c7 : p1 = 13
    · replace hf := o_t hf c7
      refine lv_tableIn (off := 224) (tgt := 258) hx hb dX11_makeOne_34 (by rcases c7 with rfl <;> decide) (by rcases c7 with rfl <;> decide) (by rcases c7 with rfl <;> rfl) (by decide) ?_
      refine lv_iload hx hb dX11_makeOne_258 (lv_at hl 0 rfl) ?_
      refine lv_iconst (v := 2) hx hb dX11_makeOne_260 (by decide) ?_
      refine lv_icmp_lt (tgt := 279) hx hb dX11_makeOne_261 (by decide) (fun c8 => ?_) (fun c8 => ?_)
      · replace hf := o_t hf c8
        refine lv_bipush (v := (-3)) hx hb dX11_makeOne_279 (by decide) ?_
        obtain ⟨rfl, rfl⟩ := Prod.mk.inj (Option.some.inj hf)
        exact jq_iret hX hJ.2 dX11_makeOne_281 ⟨rfl, rfl, rfl, hJ.1⟩
      · replace hf := o_f hf c8
        refine lv_aload_n hx hb dX11_makeOne_264 rfl (lv_at hl 1 rfl) ?_
        refine lv_iload_n hx hb dX11_makeOne_265 rfl (lv_at hl 3 rfl) ?_
        refine lv_iconst (v := 0) hx hb dX11_makeOne_266 (by decide) ?_
        replace hf := o_call_e hf
        obtain ⟨x7, S7, hq6, hf⟩ := hf
        refine jq_doM hX hJ (jq_okV (As := [.int p2, .int 0]) (rest := []) hx hb hm ho ht (mJ.recv hX hJ) qw883 qw885 qs81 qw886 qw7 hy_X11_kind rfl hl.1 (Nat.le_of_ble_eq_true rfl) dX11_makeOne_267) (c_X11_kind hq6) (Nat.le_of_ble_eq_true rfl) (Nat.le_of_ble_eq_true rfl) (Nat.le_refl _) (Nat.le_refl _) (fun H locs hJ' => ?_)
        clear hJ
        have hJ := hJ'
        clear hJ'
        refine lv_aload_n hx hb dX11_makeOne_270 rfl (lv_at hl 1 rfl) ?_
        refine lv_iload_n hx hb dX11_makeOne_271 rfl (lv_at hl 3 rfl) ?_
        refine lv_iconst (v := 1) hx hb dX11_makeOne_272 (by decide) ?_
        replace hf := o_call_e hf
        obtain ⟨x8, S8, hq7, hf⟩ := hf
        refine jq_doM hX hJ (jq_okV (As := [.int p2, .int 1]) (rest := [.int x7]) hx hb hm ho ht (mJ.recv hX hJ) qw883 qw885 qs81 qw886 qw7 hy_X11_kind rfl hl.1 (Nat.le_of_ble_eq_true rfl) dX11_makeOne_273) (c_X11_kind hq7) (Nat.le_of_ble_eq_true rfl) (Nat.le_of_ble_eq_true rfl) (Nat.le_refl _) (Nat.le_refl _) (fun H locs hJ' => ?_)
        clear hJ
        have hJ := hJ'
        clear hJ'
        refine lv_icmp_eq (tgt := 282) hx hb dX11_makeOne_276 (by decide) (fun c9 => ?_) (fun c9 => ?_)
        · replace hf := o_t hf c9
          refine lv_aload_n hx hb dX11_makeOne_282 rfl (lv_at hl 1 rfl) ?_
          refine lv_iload_n hx hb dX11_makeOne_283 rfl (lv_at hl 3 rfl) ?_
          refine lv_iconst (v := 1) hx hb dX11_makeOne_284 (by decide) ?_
          replace hf := o_call_e hf
          obtain ⟨_, S9, hq8, hf⟩ := hf
          refine jq_doM hX hJ (jq_okV (As := [.int p2, .int 1]) (rest := []) hx hb hm ho ht (mJ.recv hX hJ) qw891 qw893 qs83 qw894 qw7 hy_X11_takesOf rfl hl.1 (Nat.le_of_ble_eq_true rfl) dX11_makeOne_285) (c_X11_takesOf hq8) (Nat.le_of_ble_eq_true rfl) (Nat.le_of_ble_eq_true rfl) (Nat.le_refl _) (Nat.le_refl _) (fun H locs hJ' => ?_)
          clear hJ
          have hJ := hJ'
          clear hJ'
          refine lv_iconst (v := 0) hx hb dX11_makeOne_288 (by decide) ?_
          obtain ⟨rfl, rfl⟩ := Prod.mk.inj (Option.some.inj hf)
          exact jq_iret hX hJ.2 dX11_makeOne_289 ⟨rfl, rfl, rfl, hJ.1⟩
        · replace hf := o_f hf c9
          refine lv_bipush (v := (-3)) hx hb dX11_makeOne_279 (by decide) ?_
          obtain ⟨rfl, rfl⟩ := Prod.mk.inj (Option.some.inj hf)
          exact jq_iret hX hJ.2 dX11_makeOne_281 ⟨rfl, rfl, rfl, hJ.1⟩
    replace hf := o_f hf c7
    by_cases c10 : p1 = 14
    · replace hf := o_t hf c10
      refine lv_tableIn (off := 256) (tgt := 290) hx hb dX11_makeOne_34 (by rcases c10 with rfl <;> decide) (by rcases c10 with rfl <;> decide) (by rcases c10 with rfl <;> rfl) (by decide) ?_
      refine lv_iload hx hb dX11_makeOne_290 (lv_at hl 0 rfl) ?_
      refine lv_iconst (v := 1) hx hb dX11_makeOne_292 (by decide) ?_
      refine lv_icmp_ge (tgt := 299) hx hb dX11_makeOne_293 (by decide) (fun c11 => ?_) (fun c11 => ?_)
      · replace hf := o_t hf c11
        refine lv_aload_n hx hb dX11_makeOne_299 rfl (lv_at hl 1 rfl) ?_
        refine lv_aload_n hx hb dX11_makeOne_300 rfl (lv_at hl 1 rfl) ?_
        refine lv_iload_n hx hb dX11_makeOne_301 rfl (lv_at hl 3 rfl) ?_
        refine lv_iconst (v := 0) hx hb dX11_makeOne_302 (by decide) ?_
        replace hf := o_call_e hf
        obtain ⟨x9, S10, hq9, hf⟩ := hf
        refine jq_doM hX hJ (jq_okV (As := [.int p2, .int 0]) (rest := [.ref (ad 0)]) hx hb hm ho ht (mJ.recv hX hJ) qw883 qw885 qs81 qw886 qw7 hy_X11_kind rfl hl.1 (Nat.le_of_ble_eq_true rfl) dX11_makeOne_303) (c_X11_kind hq9) (Nat.le_of_ble_eq_true rfl) (Nat.le_of_ble_eq_true rfl) (Nat.le_refl _) (Nat.le_refl _) (fun H locs hJ' => ?_)
        clear hJ
        have hJ := hJ'
        clear hJ'
        refine lv_lload hx hb dX11_makeOne_306 (lv_at hl 6 rfl) ?_
        replace hf := o_call_e hf
        obtain ⟨x10, S11, hq10, hf⟩ := hf
        refine jq_doM hX hJ (jq_okV (As := [.int x9, .long p5]) (rest := []) hx hb hm ho ht (mJ.recv hX hJ) qw862 qw864 qs76 qw865 qw7 hy_X11_isValue rfl hl.1 (Nat.le_of_ble_eq_true rfl) dX11_makeOne_308) (c_X11_isValue hq10) (Nat.le_of_ble_eq_true rfl) (Nat.le_of_ble_eq_true rfl) (Nat.le_refl _) (Nat.le_refl _) (fun H locs hJ' => ?_)
        clear hJ
        have hJ := hJ'
        clear hJ'
        refine lv_if_ne (tgt := 316) hx hb dX11_makeOne_311 (by decide) (fun c12 => ?_) (fun c12 => ?_)
        · replace hf := o_f hf c12
          refine lv_aload_n hx hb dX11_makeOne_316 rfl (lv_at hl 1 rfl) ?_
          refine lv_lload hx hb dX11_makeOne_317 (lv_at hl 6 rfl) ?_
          refine lv_aload_n hx hb dX11_makeOne_319 rfl (lv_at hl 1 rfl) ?_
          refine lv_iload_n hx hb dX11_makeOne_320 rfl (lv_at hl 3 rfl) ?_
          refine lv_iconst (v := 0) hx hb dX11_makeOne_321 (by decide) ?_
          replace hf := o_call_e hf
          obtain ⟨x11, S12, hq11, hf⟩ := hf
          refine jq_doM hX hJ (jq_okV (As := [.int p2, .int 0]) (rest := [.long p5, .ref (ad 0)]) hx hb hm ho ht (mJ.recv hX hJ) qw883 qw885 qs81 qw886 qw7 hy_X11_kind rfl hl.1 (Nat.le_of_ble_eq_true rfl) dX11_makeOne_322) (c_X11_kind hq11) (Nat.le_of_ble_eq_true rfl) (Nat.le_of_ble_eq_true rfl) (Nat.le_refl _) (Nat.le_refl _) (fun H locs hJ' => ?_)
          clear hJ
          have hJ := hJ'
          clear hJ'
          replace hf := o_cP_e hf
          obtain ⟨x12, hq12, hf⟩ := hf
          refine jq_doP hX hJ.2 (jq_okS (As := [.long p5, .int x11]) (rest := [.ref (ad 0)]) hx hb hm ho ht qw823 qw824 qw825 qw7 hy_X11_cast rfl hl.1 (Nat.le_of_ble_eq_true rfl) dX11_makeOne_325) (c_X11_cast hq12) (Nat.le_of_ble_eq_true rfl) (Nat.le_of_ble_eq_true rfl) (Nat.le_refl _) (Nat.le_refl _) (fun locs hS9 => ?_)
          replace hJ := mJ.to hJ hS9
          replace hf := o_let_e hf
          obtain ⟨S13, hS13, hf⟩ := hf
          refine mp_madeV hX hJ hS13 qw709 dX11_makeOne_328 (fun H locs hJ' => ?_)
          clear hJ
          have hJ := hJ'
          clear hJ'
          refine lv_aload_n hx hb dX11_makeOne_331 rfl (lv_at hl 1 rfl) ?_
          refine lv_iload_n hx hb dX11_makeOne_332 rfl (lv_at hl 3 rfl) ?_
          refine lv_iconst (v := 1) hx hb dX11_makeOne_333 (by decide) ?_
          replace hf := o_call_e hf
          obtain ⟨_, S14, hq13, hf⟩ := hf
          refine jq_doM hX hJ (jq_okV (As := [.int p2, .int 1]) (rest := []) hx hb hm ho ht (mJ.recv hX hJ) qw891 qw893 qs83 qw894 qw7 hy_X11_takesOf rfl hl.1 (Nat.le_of_ble_eq_true rfl) dX11_makeOne_334) (c_X11_takesOf hq13) (Nat.le_of_ble_eq_true rfl) (Nat.le_of_ble_eq_true rfl) (Nat.le_refl _) (Nat.le_refl _) (fun H locs hJ' => ?_)
          clear hJ
          have hJ := hJ'
          clear hJ'
          refine lv_iconst (v := 0) hx hb dX11_makeOne_337 (by decide) ?_
          obtain ⟨rfl, rfl⟩ := Prod.mk.inj (Option.some.inj hf)
          exact jq_iret hX hJ.2 dX11_makeOne_338 ⟨rfl, rfl, rfl, hJ.1⟩
        · replace hf := o_t hf c12
          refine lv_iconst (v := (-1)) hx hb dX11_makeOne_314 (by decide) ?_
          obtain ⟨rfl, rfl⟩ := Prod.mk.inj (Option.some.inj hf)
          exact jq_iret hX hJ.2 dX11_makeOne_315 ⟨rfl, rfl, rfl, hJ.1⟩
      · replace hf := o_f hf c11
        refine lv_bipush (v := (-3)) hx hb dX11_makeOne_296 (by decide) ?_
        obtain ⟨rfl, rfl⟩ := Prod.mk.inj (Option.some.inj hf)
        exact jq_iret hX hJ.2 dX11_makeOne_298 ⟨rfl, rfl, rfl, hJ.1⟩
    replace hf := o_f hf c10
    by_cases c13 : p1 = 21
    · replace hf := o_t hf c13
      refine lv_tableIn (off := 305) (tgt := 339) hx hb dX11_makeOne_34 (by rcases c13 with rfl <;> decide) (by rcases c13 with rfl <;> decide) (by rcases c13 with rfl <;> rfl) (by decide) ?_
      refine lv_iload hx hb dX11_makeOne_339 (lv_at hl 0 rfl) ?_
      refine lv_iconst (v := 2) hx hb dX11_makeOne_341 (by decide) ?_
      refine lv_icmp_lt (tgt := 370) hx hb dX11_makeOne_342 (by decide) (fun c14 => ?_) (fun c14 => ?_)
      · replace hf := o_t hf c14
        refine lv_bipush (v := (-3)) hx hb dX11_makeOne_370 (by decide) ?_
        obtain ⟨rfl, rfl⟩ := Prod.mk.inj (Option.some.inj hf)
        exact jq_iret hX hJ.2 dX11_makeOne_372 ⟨rfl, rfl, rfl, hJ.1⟩
      · replace hf := o_f hf c14
        refine lv_aload_n hx hb dX11_makeOne_345 rfl (lv_at hl 1 rfl) ?_
        refine lv_iload_n hx hb dX11_makeOne_346 rfl (lv_at hl 3 rfl) ?_
        refine lv_iconst (v := 1) hx hb dX11_makeOne_347 (by decide) ?_
        replace hf := o_call_e hf
        obtain ⟨x13, S15, hq14, hf⟩ := hf
        refine jq_doM hX hJ (jq_okV (As := [.int p2, .int 1]) (rest := []) hx hb hm ho ht (mJ.recv hX hJ) qw883 qw885 qs81 qw886 qw7 hy_X11_kind rfl hl.1 (Nat.le_of_ble_eq_true rfl) dX11_makeOne_348) (c_X11_kind hq14) (Nat.le_of_ble_eq_true rfl) (Nat.le_of_ble_eq_true rfl) (Nat.le_refl _) (Nat.le_refl _) (fun H locs hJ' => ?_)
        clear hJ
        have hJ := hJ'
        clear hJ'
        refine lv_iconst (v := 4) hx hb dX11_makeOne_351 (by decide) ?_
        refine lv_icmp_ne (tgt := 370) hx hb dX11_makeOne_352 (by decide) (fun c15 => ?_) (fun c15 => ?_)
        · replace hf := o_f hf c15
          refine lv_bipush (v := (-3)) hx hb dX11_makeOne_370 (by decide) ?_
          obtain ⟨rfl, rfl⟩ := Prod.mk.inj (Option.some.inj hf)
          exact jq_iret hX hJ.2 dX11_makeOne_372 ⟨rfl, rfl, rfl, hJ.1⟩
        · replace hf := o_t hf c15
          refine lv_aload_n hx hb dX11_makeOne_355 rfl (lv_at hl 1 rfl) ?_
          refine lv_iload_n hx hb dX11_makeOne_356 rfl (lv_at hl 3 rfl) ?_
          refine lv_iconst (v := 0) hx hb dX11_makeOne_357 (by decide) ?_
          replace hf := o_call_e hf
          obtain ⟨x14, S16, hq15, hf⟩ := hf
          refine jq_doM hX hJ (jq_okV (As := [.int p2, .int 0]) (rest := []) hx hb hm ho ht (mJ.recv hX hJ) qw883 qw885 qs81 qw886 qw7 hy_X11_kind rfl hl.1 (Nat.le_of_ble_eq_true rfl) dX11_makeOne_358) (c_X11_kind hq15) (Nat.le_of_ble_eq_true rfl) (Nat.le_of_ble_eq_true rfl) (Nat.le_refl _) (Nat.le_refl _) (fun H locs hJ' => ?_)
          clear hJ
          have hJ := hJ'
          clear hJ'
          refine lv_aload_n hx hb dX11_makeOne_361 rfl (lv_at hl 1 rfl) ?_
          refine mg_resultOf hX hJ qw705 dX11_makeOne_362 ?_
          refine lv_iload_n hx hb dX11_makeOne_365 rfl (lv_at hl 3 rfl) ?_
          replace hf := o_ck_e hf
          obtain ⟨hk3, hf⟩ := hf
          replace hf := o_let_e hf
          obtain ⟨x15, hx15, hf⟩ := hf
          refine ma_I 10 hX hJ (by decide) hk3 hx15 dX11_makeOne_366 ?_
          refine lv_icmp_eq (tgt := 373) hx hb dX11_makeOne_367 (by decide) (fun c16 => ?_) (fun c16 => ?_)
          · replace hf := o_t hf c16
            refine lv_aload_n hx hb dX11_makeOne_373 rfl (lv_at hl 1 rfl) ?_
            refine lv_iconst (v := 4) hx hb dX11_makeOne_374 (by decide) ?_
            replace hf := o_call_e hf
            obtain ⟨_, S17, hq16, hf⟩ := hf
            refine jq_doM hX hJ (jq_okV (As := [.int 4]) (rest := []) hx hb hm ho ht (mJ.recv hX hJ) qw871 qw873 qs78 qw874 qw7 hy_X11_takes rfl hl.1 (Nat.le_of_ble_eq_true rfl) dX11_makeOne_375) (c_X11_takes hq16) (Nat.le_of_ble_eq_true rfl) (Nat.le_of_ble_eq_true rfl) (Nat.le_refl _) (Nat.le_refl _) (fun H locs hJ' => ?_)
            clear hJ
            have hJ := hJ'
            clear hJ'
            refine lv_aload_n hx hb dX11_makeOne_378 rfl (lv_at hl 1 rfl) ?_
            refine lv_aload_n hx hb dX11_makeOne_379 rfl (lv_at hl 1 rfl) ?_
            refine lv_iload_n hx hb dX11_makeOne_380 rfl (lv_at hl 3 rfl) ?_
            refine lv_iconst (v := 0) hx hb dX11_makeOne_381 (by decide) ?_
            replace hf := o_call_e hf
            obtain ⟨x16, S18, hq17, hf⟩ := hf
            refine jq_doM hX hJ (jq_okV (As := [.int p2, .int 0]) (rest := [.ref (ad 0)]) hx hb hm ho ht (mJ.recv hX hJ) qw883 qw885 qs81 qw886 qw7 hy_X11_kind rfl hl.1 (Nat.le_of_ble_eq_true rfl) dX11_makeOne_382) (c_X11_kind hq17) (Nat.le_of_ble_eq_true rfl) (Nat.le_of_ble_eq_true rfl) (Nat.le_refl _) (Nat.le_refl _) (fun H locs hJ' => ?_)
            clear hJ
            have hJ := hJ'
            clear hJ'
            replace hf := o_call_e hf
            obtain ⟨_, S19, hq18, hf⟩ := hf
            refine jq_doM hX hJ (jq_okV (As := [.int x16]) (rest := []) hx hb hm ho ht (mJ.recv hX hJ) qw871 qw873 qs78 qw874 qw7 hy_X11_takes rfl hl.1 (Nat.le_of_ble_eq_true rfl) dX11_makeOne_385) (c_X11_takes hq18) (Nat.le_of_ble_eq_true rfl) (Nat.le_of_ble_eq_true rfl) (Nat.le_refl _) (Nat.le_refl _) (fun H locs hJ' => ?_)
            clear hJ
            have hJ := hJ'
            clear hJ'
            refine lv_aload_n hx hb dX11_makeOne_388 rfl (lv_at hl 1 rfl) ?_
            refine lv_iload_n hx hb dX11_makeOne_389 rfl (lv_at hl 3 rfl) ?_
            refine lv_iconst (v := 2) hx hb dX11_makeOne_390 (by decide) ?_
            replace hf := o_call_e hf
            obtain ⟨_, S20, hq19, hf⟩ := hf
            refine jq_doM hX hJ (jq_okV (As := [.int p2, .int 2]) (rest := []) hx hb hm ho ht (mJ.recv hX hJ) qw891 qw893 qs83 qw894 qw7 hy_X11_takesOf rfl hl.1 (Nat.le_of_ble_eq_true rfl) dX11_makeOne_391) (c_X11_takesOf hq19) (Nat.le_of_ble_eq_true rfl) (Nat.le_of_ble_eq_true rfl) (Nat.le_refl _) (Nat.le_refl _) (fun H locs hJ' => ?_)
            clear hJ
            have hJ := hJ'
            clear hJ'
            refine lv_iconst (v := 0) hx hb dX11_makeOne_394 (by decide) ?_
            obtain ⟨rfl, rfl⟩ := Prod.mk.inj (Option.some.inj hf)
            exact jq_iret hX hJ.2 dX11_makeOne_395 ⟨rfl, rfl, rfl, hJ.1⟩
          · replace hf := o_f hf c16
            refine lv_bipush (v := (-3)) hx hb dX11_makeOne_370 (by decide) ?_
            obtain ⟨rfl, rfl⟩ := Prod.mk.inj (Option.some.inj hf)
            exact jq_iret hX hJ.2 dX11_makeOne_372 ⟨rfl, rfl, rfl, hJ.1⟩
    replace hf := o_f hf c13
    by_cases c17 : p1 = 15 ∨ p1 = 16 ∨ p1 = 17 ∨ p1 = 18 ∨ p1 = 19 ∨ p1 = 20
    · replace hf := o_t hf c17
      refine lv_tableIn (off := 362) (tgt := 396) hx hb dX11_makeOne_34 (by rcases c17 with rfl | rfl | rfl | rfl | rfl | rfl <;> decide) (by rcases c17 with rfl | rfl | rfl | rfl | rfl | rfl <;> decide) (by rcases c17 with rfl | rfl | rfl | rfl | rfl | rfl <;> rfl) (by decide) ?_
      refine lv_aload_n hx hb dX11_makeOne_396 rfl (lv_at hl 1 rfl) ?_
      refine lv_iload_n hx hb dX11_makeOne_397 rfl (lv_at hl 3 rfl) ?_
      replace hf := o_call_e hf
      obtain ⟨x17, S21, hq20, hf⟩ := hf
      refine jq_doM hX hJ (jq_okV (As := [.int p2]) (rest := []) hx hb hm ho ht (mJ.recv hX hJ) qw918 qw920 qs89 qw921 qw7 hy_X11_handGoes rfl hl.1 (Nat.le_of_ble_eq_true rfl) dX11_makeOne_398) (c_X11_handGoes hq20) (Nat.le_of_ble_eq_true rfl) (Nat.le_of_ble_eq_true rfl) (Nat.le_refl _) (Nat.le_refl _) (fun H locs hJ' => ?_)
      clear hJ
      have hJ := hJ'
      clear hJ'
      refine lv_if_ne (tgt := 407) hx hb dX11_makeOne_401 (by decide) (fun c18 => ?_) (fun c18 => ?_)
      · replace hf := o_f hf c18
        refine lv_iconst (v := 0) hx hb dX11_makeOne_407 (by decide) ?_
        refine lv_istore (lv' := [(8, .int 0), (7, .int x3), (0, .ref (ad 0)), (1, .int p1), (2, .int p2), (3, .int p3), (4, .int p4), (5, .long p5)]) hx hb dX11_makeOne_408 hl (by decide) rfl (fun ls hl' => ?_)
        clear hl
        have hl := hl'
        clear hl'
        replace hl := lv_sub hl (l' := [(0, .ref (ad 0)), (8, .int 0)]) [2, 0] rfl
        exact w_X11_makeOne_b410 12 0 S21 S' r H locs ls hX hJ hf hl
      · replace hf := o_t hf c18
        refine lv_bipush (v := (-3)) hx hb dX11_makeOne_404 (by decide) ?_
        obtain ⟨rfl, rfl⟩ := Prod.mk.inj (Option.some.inj hf)
        exact jq_iret hX hJ.2 dX11_makeOne_406 ⟨rfl, rfl, rfl, hJ.1⟩
    replace hf := o_f hf c17
    refine lv_tableOut (tgt := 396) hx hb dX11_makeOne_34 (by have e0 := sw_ne c2 (n := 11) (by decide); have e1 := sw_ne c5 (n := 12) (by decide); have e2 := sw_ne c7 (n := 13) (by decide); have e3 := sw_ne c10 (n := 14) (by decide); have e4 := sw_ne c13 (n := 21) (by decide); have e5 := sw_ne (fun z => c17 (Or.inl z)) (n := 15) (by decide); have e6 := sw_ne (fun z => c17 (Or.inr (Or.inl z))) (n := 16) (by decide); have e7 := sw_ne (fun z => c17 (Or.inr (Or.inr (Or.inl z)))) (n := 17) (by decide); have e8 := sw_ne (fun z => c17 (Or.inr (Or.inr (Or.inr (Or.inl z))))) (n := 18) (by decide); have e9 := sw_ne (fun z => c17 (Or.inr (Or.inr (Or.inr (Or.inr (Or.inl z)))))) (n := 19) (by decide); have e10 := sw_ne (fun z => c17 (Or.inr (Or.inr (Or.inr (Or.inr (Or.inr z)))))) (n := 20) (by decide); omega) (by decide) ?_
    refine lv_aload_n hx hb dX11_makeOne_396 rfl (lv_at hl 1 rfl) ?_
    refine lv_iload_n hx hb dX11_makeOne_397 rfl (lv_at hl 3 rfl) ?_
    replace hf := o_call_e hf
    obtain ⟨x18, S22, hq21, hf⟩ := hf
    refine jq_doM hX hJ (jq_okV (As := [.int p2]) (rest := []) hx hb hm ho ht (mJ.recv hX hJ) qw918 qw920 qs89 qw921 qw7 hy_X11_handGoes rfl hl.1 (Nat.le_of_ble_eq_true rfl) dX11_makeOne_398) (c_X11_handGoes hq21) (Nat.le_of_ble_eq_true rfl) (Nat.le_of_ble_eq_true rfl) (Nat.le_refl _) (Nat.le_refl _) (fun H locs hJ' => ?_)
    clear hJ
    have hJ := hJ'
    clear hJ'
    refine lv_if_ne (tgt := 407) hx hb dX11_makeOne_401 (by decide) (fun c19 => ?_) (fun c19 => ?_)
    · replace hf := o_f hf c19
      refine lv_iconst (v := 0) hx hb dX11_makeOne_407 (by decide) ?_
      refine lv_istore (lv' := [(8, .int 0), (7, .int x3), (0, .ref (ad 0)), (1, .int p1), (2, .int p2), (3, .int p3), (4, .int p4), (5, .long p5)]) hx hb dX11_makeOne_408 hl (by decide) rfl (fun ls hl' => ?_)
      clear hl
      have hl := hl'
      clear hl'
      replace hl := lv_sub hl (l' := [(0, .ref (ad 0)), (8, .int 0)]) [2, 0] rfl
      exact w_X11_makeOne_b410 12 0 S22 S' r H locs ls hX hJ hf hl
    · replace hf := o_t hf c19
      refine lv_bipush (v := (-3)) hx hb dX11_makeOne_404 (by decide) ?_
      obtain ⟨rfl, rfl⟩ := Prod.mk.inj (Option.some.inj hf)
      exact jq_iret hX hJ.2 dX11_makeOne_406 ⟨rfl, rfl, rfl, hJ.1⟩
  · replace hf := o_t hf c1
    refine lv_iconst (v := (-1)) hx hb dX11_makeOne_8 (by decide) ?_
    obtain ⟨rfl, rfl⟩ := Prod.mk.inj (Option.some.inj hf)
    exact jq_iret hX hJ.2 dX11_makeOne_9 ⟨rfl, rfl, rfl, hJ.1⟩
theorem dX11_isOne_0 : decode cX11_isOne 0 = .ok (.aload_n 0, 1) := by decide +kernel
theorem dX11_isOne_1 : decode cX11_isOne 1 = .ok (.getfield 30, 3) := by decide +kernel
theorem dX11_isOne_4 : decode cX11_isOne 4 = .ok (.iload_n 1, 1) := by decide +kernel
theorem dX11_isOne_5 : decode cX11_isOne 5 = .ok (.iaload, 1) := by decide +kernel
theorem dX11_isOne_6 : decode cX11_isOne 6 = .ok (.iload_n 2, 1) := by decide +kernel
theorem dX11_isOne_7 : decode cX11_isOne 7 = .ok (.if_icmp .ne 60, 3) := by decide +kernel
theorem dX11_isOne_67 : decode cX11_isOne 67 = .ok (.iconst 0, 1) := by decide +kernel
theorem dX11_isOne_10 : decode cX11_isOne 10 = .ok (.aload_n 0, 1) := by decide +kernel
theorem dX11_isOne_11 : decode cX11_isOne 11 = .ok (.getfield 33, 3) := by decide +kernel
theorem dX11_isOne_14 : decode cX11_isOne 14 = .ok (.iload_n 1, 1) := by decide +kernel
theorem dX11_isOne_15 : decode cX11_isOne 15 = .ok (.iaload, 1) := by decide +kernel
theorem dX11_isOne_16 : decode cX11_isOne 16 = .ok (.aload_n 0, 1) := by decide +kernel
theorem dX11_isOne_17 : decode cX11_isOne 17 = .ok (.getfield 187, 3) := by decide +kernel
theorem dX11_isOne_20 : decode cX11_isOne 20 = .ok (.if_icmp .ne 47, 3) := by decide +kernel
theorem dX11_isOne_23 : decode cX11_isOne 23 = .ok (.aload_n 0, 1) := by decide +kernel
theorem dX11_isOne_24 : decode cX11_isOne 24 = .ok (.getfield 36, 3) := by decide +kernel
theorem dX11_isOne_27 : decode cX11_isOne 27 = .ok (.iload_n 1, 1) := by decide +kernel
theorem dX11_isOne_28 : decode cX11_isOne 28 = .ok (.iaload, 1) := by decide +kernel
theorem dX11_isOne_29 : decode cX11_isOne 29 = .ok (.aload_n 0, 1) := by decide +kernel
theorem dX11_isOne_30 : decode cX11_isOne 30 = .ok (.getfield 190, 3) := by decide +kernel
theorem dX11_isOne_33 : decode cX11_isOne 33 = .ok (.if_icmp .ne 34, 3) := by decide +kernel
theorem dX11_isOne_36 : decode cX11_isOne 36 = .ok (.aload_n 0, 1) := by decide +kernel
theorem dX11_isOne_37 : decode cX11_isOne 37 = .ok (.getfield 39, 3) := by decide +kernel
theorem dX11_isOne_40 : decode cX11_isOne 40 = .ok (.iload_n 1, 1) := by decide +kernel
theorem dX11_isOne_41 : decode cX11_isOne 41 = .ok (.iaload, 1) := by decide +kernel
theorem dX11_isOne_42 : decode cX11_isOne 42 = .ok (.aload_n 0, 1) := by decide +kernel
theorem dX11_isOne_43 : decode cX11_isOne 43 = .ok (.getfield 203, 3) := by decide +kernel
theorem dX11_isOne_46 : decode cX11_isOne 46 = .ok (.if_icmp .ne 21, 3) := by decide +kernel
theorem dX11_isOne_49 : decode cX11_isOne 49 = .ok (.aload_n 0, 1) := by decide +kernel
theorem dX11_isOne_50 : decode cX11_isOne 50 = .ok (.getfield 42, 3) := by decide +kernel
theorem dX11_isOne_53 : decode cX11_isOne 53 = .ok (.iload_n 1, 1) := by decide +kernel
theorem dX11_isOne_54 : decode cX11_isOne 54 = .ok (.laload, 1) := by decide +kernel
theorem dX11_isOne_55 : decode cX11_isOne 55 = .ok (.aload_n 0, 1) := by decide +kernel
theorem dX11_isOne_56 : decode cX11_isOne 56 = .ok (.getfield 193, 3) := by decide +kernel
theorem dX11_isOne_59 : decode cX11_isOne 59 = .ok (.lcmp, 1) := by decide +kernel
theorem dX11_isOne_63 : decode cX11_isOne 63 = .ok (.iconst 1, 1) := by decide +kernel
theorem dX11_isOne_64 : decode cX11_isOne 64 = .ok (.goto 4, 3) := by decide +kernel
theorem dX11_isOne_60 : decode cX11_isOne 60 = .ok (.ifCond .ne 7, 3) := by decide +kernel
theorem dX11_isOne_68 : decode cX11_isOne 68 = .ok (.istore_n 3, 1) := by decide +kernel
theorem dX11_isOne_69 : decode cX11_isOne 69 = .ok (.iload_n 3, 1) := by decide +kernel
theorem dX11_isOne_70 : decode cX11_isOne 70 = .ok (.ifCond .eq 25, 3) := by decide +kernel
theorem dX11_isOne_95 : decode cX11_isOne 95 = .ok (.iconst 0, 1) := by decide +kernel
theorem dX11_isOne_96 : decode cX11_isOne 96 = .ok (.ireturn, 1) := by decide +kernel
theorem dX11_isOne_73 : decode cX11_isOne 73 = .ok (.iload_n 2, 1) := by decide +kernel
theorem dX11_isOne_74 : decode cX11_isOne 74 = .ok (.bipush 22, 2) := by decide +kernel
theorem dX11_isOne_76 : decode cX11_isOne 76 = .ok (.if_icmp .ne 15, 3) := by decide +kernel
theorem dX11_isOne_91 : decode cX11_isOne 91 = .ok (.iconst 1, 1) := by decide +kernel
theorem dX11_isOne_92 : decode cX11_isOne 92 = .ok (.goto 4, 3) := by decide +kernel
theorem dX11_isOne_79 : decode cX11_isOne 79 = .ok (.aload_n 0, 1) := by decide +kernel
theorem dX11_isOne_80 : decode cX11_isOne 80 = .ok (.iload_n 1, 1) := by decide +kernel
theorem dX11_isOne_81 : decode cX11_isOne 81 = .ok (.aload_n 0, 1) := by decide +kernel
theorem dX11_isOne_82 : decode cX11_isOne 82 = .ok (.getfield 164, 3) := by decide +kernel
theorem dX11_isOne_85 : decode cX11_isOne 85 = .ok (.invokevirtual 213, 3) := by decide +kernel
theorem dX11_isOne_88 : decode cX11_isOne 88 = .ok (.ifCond .eq 7, 3) := by decide +kernel
theorem hy_X11_isOne : yX11_isOne.cls ≠ "java/lang/invoke/MethodHandle" ∧ yX11_isOne.cls ≠ "java/lang/invoke/VarHandle" ∧ (parseMethodDescriptor yX11_isOne.desc).map (fun d => d.parameters.length) = some 2 := ⟨by decide, by decide, by decide +kernel⟩
def f_X11_isOne_b68 (l1 : Int32) (l2 : Int32) (t0 : Int32) (S : mS) : Option ((Int32) × mS) :=
  if t0 = 0 then (
  some (0, S)) else (
  if l2 = 22 then (
  o_let (m_I S 3) fun x1 =>
  o_call (f_X11_isAlike l1 x1 S) fun x2 S1 =>
  if x2 = 0 then (
  some (0, S1)) else (
  some (1, S1))) else (
  some (1, S)))
set_option maxHeartbeats 4000000 in
set_option maxRecDepth 100000 in
theorem w_X11_isOne_b68 {l : Launch} {D : va_G} {Y : Nat → ClassId} {aR : Nat → Nat} {A : Nat → Prop} {ad : Nat → Nat} {p : Program} {e : Env} {s : State} {m : MethodId} {args : Array Value} {below : List Frame} {meth : Method} {c : Code} : ∀ (l1 : Int32) (l2 : Int32) (t0 : Int32) (S S' : mS) (r : Int32) (H : Heap) (locs : List Loc) (ls : Array Slot), jq_X D Y aR A p s m args meth c cX11_isOne RX11 "isOne" 4 (some .boolean) → mJ D Y A s ad S H locs → f_X11_isOne_b68 l1 l2 t0 S = some (r, S') → lv_has ls 4 [(0, .ref (ad 0)), (1, .int l1), (2, .int l2)] → W p l e { frames := 3, cells := 0, slots := 0, locals := 70 } s m args below meth c H locs 0 0 (jq_Z below A (fun v k n H => v = (some (.int r)) ∧ k = 0 ∧ n = 0 ∧ mH D Y A ad S' H) s) (F0 m 68 ls [.int t0]) := by
  intro l1 l2 t0 S S' r H locs ls hX hJ hf hl
  unfold f_X11_isOne_b68 at hf
  have hx := hX.1
  have hb := hX.2.1
  have hm := hX.2.2.1
  have ho := hX.2.2.2.1
  have ht := hX.2.2.2.2.1
  have hn := hX.2.2.2.2.2.1.2.1
  refine lv_istore_n (lv' := [(3, .int t0), (0, .ref (ad 0)), (1, .int l1), (2, .int l2)]) hx hb dX11_isOne_68 rfl hl (by decide) rfl (fun ls hl' => ?_)
  clear hl
  have hl := hl'
  clear hl'
  refine lv_iload_n hx hb dX11_isOne_69 rfl (lv_at hl 0 rfl) ?_
  refine lv_if_eq (tgt := 95) hx hb dX11_isOne_70 (by decide) (fun c1 => ?_) (fun c1 => ?_)
  · replace hf := o_t hf c1
    refine lv_iconst (v := 0) hx hb dX11_isOne_95 (by decide) ?_
    obtain ⟨rfl, rfl⟩ := Prod.mk.inj (Option.some.inj hf)
    exact jq_zret hX hJ.2 (by decide) dX11_isOne_96 ⟨rfl, rfl, rfl, hJ.1⟩
  · replace hf := o_f hf c1
    refine lv_iload_n hx hb dX11_isOne_73 rfl (lv_at hl 3 rfl) ?_
    refine lv_bipush (v := 22) hx hb dX11_isOne_74 (by decide) ?_
    refine lv_icmp_ne (tgt := 91) hx hb dX11_isOne_76 (by decide) (fun c2 => ?_) (fun c2 => ?_)
    · replace hf := o_f hf c2
      refine lv_iconst (v := 1) hx hb dX11_isOne_91 (by decide) ?_
      refine lv_goto (tgt := 96) hx hb dX11_isOne_92 (by decide) ?_
      obtain ⟨rfl, rfl⟩ := Prod.mk.inj (Option.some.inj hf)
      exact jq_zret hX hJ.2 (by decide) dX11_isOne_96 ⟨rfl, rfl, rfl, hJ.1⟩
    · replace hf := o_t hf c2
      refine lv_aload_n hx hb dX11_isOne_79 rfl (lv_at hl 1 rfl) ?_
      refine lv_iload_n hx hb dX11_isOne_80 rfl (lv_at hl 2 rfl) ?_
      refine lv_aload_n hx hb dX11_isOne_81 rfl (lv_at hl 1 rfl) ?_
      replace hf := o_let_e hf
      obtain ⟨x1, hx1, hf⟩ := hf
      refine mg_handles hX hJ hx1 qw697 dX11_isOne_82 ?_
      replace hf := o_call_e hf
      obtain ⟨x2, S1, hq1, hf⟩ := hf
      refine jq_doM hX hJ (jq_okV (As := [.int l1, .int x1]) (rest := []) hx hb hm ho ht (mJ.recv hX hJ) qw895 qw897 qs84 qw898 qw7 hy_X11_isAlike rfl hl.1 (Nat.le_of_ble_eq_true rfl) dX11_isOne_85) (c_X11_isAlike hq1) (Nat.le_of_ble_eq_true rfl) (Nat.le_of_ble_eq_true rfl) (Nat.le_refl _) (Nat.le_refl _) (fun H locs hJ' => ?_)
      clear hJ
      have hJ := hJ'
      clear hJ'
      refine lv_if_eq (tgt := 95) hx hb dX11_isOne_88 (by decide) (fun c3 => ?_) (fun c3 => ?_)
      · replace hf := o_t hf c3
        refine lv_iconst (v := 0) hx hb dX11_isOne_95 (by decide) ?_
        obtain ⟨rfl, rfl⟩ := Prod.mk.inj (Option.some.inj hf)
        exact jq_zret hX hJ.2 (by decide) dX11_isOne_96 ⟨rfl, rfl, rfl, hJ.1⟩
      · replace hf := o_f hf c3
        refine lv_iconst (v := 1) hx hb dX11_isOne_91 (by decide) ?_
        refine lv_goto (tgt := 96) hx hb dX11_isOne_92 (by decide) ?_
        obtain ⟨rfl, rfl⟩ := Prod.mk.inj (Option.some.inj hf)
        exact jq_zret hX hJ.2 (by decide) dX11_isOne_96 ⟨rfl, rfl, rfl, hJ.1⟩
def f_X11_isOne (p1 : Int32) (p2 : Int32) (S : mS) : Option ((Int32) × mS) :=
  o_ck (¬ (p1 < 0 ∨ 32 ≤ (p1).toNatClampNeg)) (o_let (m_aI S 4 (p1).toNatClampNeg) fun x1 =>
  if x1 = p2 then (
  o_ck (¬ (p1 < 0 ∨ 32 ≤ (p1).toNatClampNeg)) (o_let (m_aI S 5 (p1).toNatClampNeg) fun x2 =>
  o_let (m_I S 4) fun x3 =>
  if x2 = x3 then (
  o_ck (¬ (p1 < 0 ∨ 32 ≤ (p1).toNatClampNeg)) (o_let (m_aI S 6 (p1).toNatClampNeg) fun x4 =>
  o_let (m_I S 5) fun x5 =>
  if x4 = x5 then (
  o_ck (¬ (p1 < 0 ∨ 32 ≤ (p1).toNatClampNeg)) (o_let (m_aI S 7 (p1).toNatClampNeg) fun x6 =>
  o_let (m_I S 6) fun x7 =>
  if x6 = x7 then (
  o_ck (¬ (p1 < 0 ∨ 32 ≤ (p1).toNatClampNeg)) (o_let (m_aL S 17 (p1).toNatClampNeg) fun x8 =>
  o_let (m_L S 0) fun x9 =>
  if x8 = x9 then (
  f_X11_isOne_b68 p1 p2 1 S) else (
  f_X11_isOne_b68 p1 p2 0 S))) else (
  f_X11_isOne_b68 p1 p2 0 S))) else (
  f_X11_isOne_b68 p1 p2 0 S))) else (
  f_X11_isOne_b68 p1 p2 0 S))) else (
  f_X11_isOne_b68 p1 p2 0 S))
set_option maxHeartbeats 4000000 in
set_option maxRecDepth 100000 in
theorem c_X11_isOne {l : Launch} {D : va_G} {Y : Nat → ClassId} {aR : Nat → Nat} {A : Nat → Prop} {ad : Nat → Nat} {p1 : Int32} {p2 : Int32} {S S' : mS} {r : Int32} (hf : f_X11_isOne p1 p2 S = some (r, S')) : jq_M l D Y aR A ad yX11_isOne cX11_isOne 4 (some .boolean) 3 70 [.ref (ad 0), .int p1, .int p2] S (some (.int r)) S' := by
  unfold f_X11_isOne at hf
  refine jq_enterM (by decide) (Nat.le_of_ble_eq_true rfl) fun p e s m args below meth c ls H locs hX hJ hl => ?_
  have hl : lv_has ls 4 [(0, .ref (ad 0)), (1, .int p1), (2, .int p2)] := hl
  have hx := hX.1
  have hb := hX.2.1
  have hm := hX.2.2.1
  have ho := hX.2.2.2.1
  have ht := hX.2.2.2.2.1
  have hn := hX.2.2.2.2.2.1.2.1
  refine lv_aload_n hx hb dX11_isOne_0 rfl (lv_at hl 0 rfl) ?_
  refine mg_sortOf hX hJ qw698 dX11_isOne_1 ?_
  refine lv_iload_n hx hb dX11_isOne_4 rfl (lv_at hl 1 rfl) ?_
  replace hf := o_ck_e hf
  obtain ⟨hk1, hf⟩ := hf
  replace hf := o_let_e hf
  obtain ⟨x1, hx1, hf⟩ := hf
  refine ma_I 4 hX hJ (by decide) hk1 hx1 dX11_isOne_5 ?_
  refine lv_iload_n hx hb dX11_isOne_6 rfl (lv_at hl 2 rfl) ?_
  refine lv_icmp_ne (tgt := 67) hx hb dX11_isOne_7 (by decide) (fun c1 => ?_) (fun c1 => ?_)
  · replace hf := o_f hf c1
    refine lv_iconst (v := 0) hx hb dX11_isOne_67 (by decide) ?_
    replace hl := lv_sub hl (l' := [(0, .ref (ad 0)), (1, .int p1), (2, .int p2)]) [0, 1, 2] rfl
    exact w_X11_isOne_b68 p1 p2 0 S S' r H locs ls hX hJ hf hl
  · replace hf := o_t hf c1
    refine lv_aload_n hx hb dX11_isOne_10 rfl (lv_at hl 0 rfl) ?_
    refine mg_aOf hX hJ qw699 dX11_isOne_11 ?_
    refine lv_iload_n hx hb dX11_isOne_14 rfl (lv_at hl 1 rfl) ?_
    replace hf := o_ck_e hf
    obtain ⟨hk2, hf⟩ := hf
    replace hf := o_let_e hf
    obtain ⟨x2, hx2, hf⟩ := hf
    refine ma_I 5 hX hJ (by decide) hk2 hx2 dX11_isOne_15 ?_
    refine lv_aload_n hx hb dX11_isOne_16 rfl (lv_at hl 0 rfl) ?_
    replace hf := o_let_e hf
    obtain ⟨x3, hx3, hf⟩ := hf
    refine mg_madeA hX hJ hx3 qw706 dX11_isOne_17 ?_
    refine lv_icmp_ne (tgt := 67) hx hb dX11_isOne_20 (by decide) (fun c2 => ?_) (fun c2 => ?_)
    · replace hf := o_f hf c2
      refine lv_iconst (v := 0) hx hb dX11_isOne_67 (by decide) ?_
      replace hl := lv_sub hl (l' := [(0, .ref (ad 0)), (1, .int p1), (2, .int p2)]) [0, 1, 2] rfl
      exact w_X11_isOne_b68 p1 p2 0 S S' r H locs ls hX hJ hf hl
    · replace hf := o_t hf c2
      refine lv_aload_n hx hb dX11_isOne_23 rfl (lv_at hl 0 rfl) ?_
      refine mg_bOf hX hJ qw700 dX11_isOne_24 ?_
      refine lv_iload_n hx hb dX11_isOne_27 rfl (lv_at hl 1 rfl) ?_
      replace hf := o_ck_e hf
      obtain ⟨hk3, hf⟩ := hf
      replace hf := o_let_e hf
      obtain ⟨x4, hx4, hf⟩ := hf
      refine ma_I 6 hX hJ (by decide) hk3 hx4 dX11_isOne_28 ?_
      refine lv_aload_n hx hb dX11_isOne_29 rfl (lv_at hl 0 rfl) ?_
      replace hf := o_let_e hf
      obtain ⟨x5, hx5, hf⟩ := hf
      refine mg_madeB hX hJ hx5 qw707 dX11_isOne_30 ?_
      refine lv_icmp_ne (tgt := 67) hx hb dX11_isOne_33 (by decide) (fun c3 => ?_) (fun c3 => ?_)
      · replace hf := o_f hf c3
        refine lv_iconst (v := 0) hx hb dX11_isOne_67 (by decide) ?_
        replace hl := lv_sub hl (l' := [(0, .ref (ad 0)), (1, .int p1), (2, .int p2)]) [0, 1, 2] rfl
        exact w_X11_isOne_b68 p1 p2 0 S S' r H locs ls hX hJ hf hl
      · replace hf := o_t hf c3
        refine lv_aload_n hx hb dX11_isOne_36 rfl (lv_at hl 0 rfl) ?_
        refine mg_cOf hX hJ qw701 dX11_isOne_37 ?_
        refine lv_iload_n hx hb dX11_isOne_40 rfl (lv_at hl 1 rfl) ?_
        replace hf := o_ck_e hf
        obtain ⟨hk4, hf⟩ := hf
        replace hf := o_let_e hf
        obtain ⟨x6, hx6, hf⟩ := hf
        refine ma_I 7 hX hJ (by decide) hk4 hx6 dX11_isOne_41 ?_
        refine lv_aload_n hx hb dX11_isOne_42 rfl (lv_at hl 0 rfl) ?_
        replace hf := o_let_e hf
        obtain ⟨x7, hx7, hf⟩ := hf
        refine mg_madeC hX hJ hx7 qw708 dX11_isOne_43 ?_
        refine lv_icmp_ne (tgt := 67) hx hb dX11_isOne_46 (by decide) (fun c4 => ?_) (fun c4 => ?_)
        · replace hf := o_f hf c4
          refine lv_iconst (v := 0) hx hb dX11_isOne_67 (by decide) ?_
          replace hl := lv_sub hl (l' := [(0, .ref (ad 0)), (1, .int p1), (2, .int p2)]) [0, 1, 2] rfl
          exact w_X11_isOne_b68 p1 p2 0 S S' r H locs ls hX hJ hf hl
        · replace hf := o_t hf c4
          refine lv_aload_n hx hb dX11_isOne_49 rfl (lv_at hl 0 rfl) ?_
          refine mg_vOf hX hJ qw702 dX11_isOne_50 ?_
          refine lv_iload_n hx hb dX11_isOne_53 rfl (lv_at hl 1 rfl) ?_
          replace hf := o_ck_e hf
          obtain ⟨hk5, hf⟩ := hf
          replace hf := o_let_e hf
          obtain ⟨x8, hx8, hf⟩ := hf
          refine ma_L 17 hX hJ (by decide) hk5 hx8 dX11_isOne_54 ?_
          refine lv_aload_n hx hb dX11_isOne_55 rfl (lv_at hl 0 rfl) ?_
          replace hf := o_let_e hf
          obtain ⟨x9, hx9, hf⟩ := hf
          refine mg_madeV hX hJ hx9 qw709 dX11_isOne_56 ?_
          refine W.lcmp hx hb dX11_isOne_59 ?_
          refine lv_if_ne (tgt := 67) hx hb dX11_isOne_60 (by decide) (fun c5 => ?_) (fun c5 => ?_)
          · replace hf := o_f hf (fun z => c5 (qc_eq.mpr z))
            refine lv_iconst (v := 0) hx hb dX11_isOne_67 (by decide) ?_
            replace hl := lv_sub hl (l' := [(0, .ref (ad 0)), (1, .int p1), (2, .int p2)]) [0, 1, 2] rfl
            exact w_X11_isOne_b68 p1 p2 0 S S' r H locs ls hX hJ hf hl
          · replace hf := o_t hf (qc_eq.mp c5)
            refine lv_iconst (v := 1) hx hb dX11_isOne_63 (by decide) ?_
            refine lv_goto (tgt := 68) hx hb dX11_isOne_64 (by decide) ?_
            replace hl := lv_sub hl (l' := [(0, .ref (ad 0)), (1, .int p1), (2, .int p2)]) [0, 1, 2] rfl
            exact w_X11_isOne_b68 p1 p2 1 S S' r H locs ls hX hJ hf hl
theorem dX11_make_0 : decode cX11_make 0 = .ok (.iload_n 1, 1) := by decide +kernel
theorem dX11_make_1 : decode cX11_make 1 = .ok (.i2l, 1) := by decide +kernel
theorem dX11_make_2 : decode cX11_make 2 = .ok (.lconst 0, 1) := by decide +kernel
theorem dX11_make_3 : decode cX11_make 3 = .ok (.ldc2_w 223, 3) := by decide +kernel
theorem dX11_make_6 : decode cX11_make 6 = .ok (.invokestatic 80, 3) := by decide +kernel
theorem dX11_make_9 : decode cX11_make 9 = .ok (.ifCond .ne 5, 3) := by decide +kernel
theorem dX11_make_14 : decode cX11_make 14 = .ok (.aload_n 0, 1) := by decide +kernel
theorem dX11_make_15 : decode cX11_make 15 = .ok (.iconst 0, 1) := by decide +kernel
theorem dX11_make_16 : decode cX11_make 16 = .ok (.putfield 187, 3) := by decide +kernel
theorem dX11_make_19 : decode cX11_make 19 = .ok (.aload_n 0, 1) := by decide +kernel
theorem dX11_make_20 : decode cX11_make 20 = .ok (.iconst 0, 1) := by decide +kernel
theorem dX11_make_21 : decode cX11_make 21 = .ok (.putfield 190, 3) := by decide +kernel
theorem dX11_make_24 : decode cX11_make 24 = .ok (.aload_n 0, 1) := by decide +kernel
theorem dX11_make_25 : decode cX11_make 25 = .ok (.iconst 0, 1) := by decide +kernel
theorem dX11_make_26 : decode cX11_make 26 = .ok (.putfield 203, 3) := by decide +kernel
theorem dX11_make_29 : decode cX11_make 29 = .ok (.aload_n 0, 1) := by decide +kernel
theorem dX11_make_30 : decode cX11_make 30 = .ok (.lconst 0, 1) := by decide +kernel
theorem dX11_make_31 : decode cX11_make 31 = .ok (.putfield 193, 3) := by decide +kernel
theorem dX11_make_34 : decode cX11_make 34 = .ok (.aload_n 0, 1) := by decide +kernel
theorem dX11_make_35 : decode cX11_make 35 = .ok (.getfield 45, 3) := by decide +kernel
theorem dX11_make_38 : decode cX11_make 38 = .ok (.aload_n 0, 1) := by decide +kernel
theorem dX11_make_39 : decode cX11_make 39 = .ok (.getfield 164, 3) := by decide +kernel
theorem dX11_make_42 : decode cX11_make 42 = .ok (.iconst 0, 1) := by decide +kernel
theorem dX11_make_43 : decode cX11_make 43 = .ok (.iastore, 1) := by decide +kernel
theorem dX11_make_44 : decode cX11_make 44 = .ok (.iload_n 1, 1) := by decide +kernel
theorem dX11_make_45 : decode cX11_make 45 = .ok (.bipush 10, 2) := by decide +kernel
theorem dX11_make_47 : decode cX11_make 47 = .ok (.if_icmp .gt 15, 3) := by decide +kernel
theorem dX11_make_62 : decode cX11_make 62 = .ok (.iload_n 1, 1) := by decide +kernel
theorem dX11_make_63 : decode cX11_make 63 = .ok (.bipush 15, 2) := by decide +kernel
theorem dX11_make_65 : decode cX11_make 65 = .ok (.if_icmp .ne 14, 3) := by decide +kernel
theorem dX11_make_79 : decode cX11_make 79 = .ok (.iload_n 1, 1) := by decide +kernel
theorem dX11_make_80 : decode cX11_make 80 = .ok (.bipush 18, 2) := by decide +kernel
theorem dX11_make_82 : decode cX11_make 82 = .ok (.if_icmp .ne 14, 3) := by decide +kernel
theorem dX11_make_96 : decode cX11_make 96 = .ok (.iload_n 1, 1) := by decide +kernel
theorem dX11_make_97 : decode cX11_make 97 = .ok (.bipush 19, 2) := by decide +kernel
theorem dX11_make_99 : decode cX11_make 99 = .ok (.if_icmp .ne 14, 3) := by decide +kernel
theorem dX11_make_113 : decode cX11_make 113 = .ok (.iload_n 1, 1) := by decide +kernel
theorem dX11_make_114 : decode cX11_make 114 = .ok (.bipush 16, 2) := by decide +kernel
theorem dX11_make_116 : decode cX11_make 116 = .ok (.if_icmp .eq 15, 3) := by decide +kernel
theorem dX11_make_131 : decode cX11_make 131 = .ok (.aload_n 0, 1) := by decide +kernel
theorem dX11_make_132 : decode cX11_make 132 = .ok (.iload_n 1, 1) := by decide +kernel
theorem dX11_make_133 : decode cX11_make 133 = .ok (.iload_n 2, 1) := by decide +kernel
theorem dX11_make_134 : decode cX11_make 134 = .ok (.iload_n 3, 1) := by decide +kernel
theorem dX11_make_135 : decode cX11_make 135 = .ok (.invokevirtual 239, 3) := by decide +kernel
theorem dX11_make_138 : decode cX11_make 138 = .ok (.goto 14, 3) := by decide +kernel
theorem dX11_make_152 : decode cX11_make 152 = .ok (.istore 7, 2) := by decide +kernel
theorem dX11_make_154 : decode cX11_make 154 = .ok (.iload 7, 2) := by decide +kernel
theorem dX11_make_156 : decode cX11_make 156 = .ok (.ifCond .eq 6, 3) := by decide +kernel
theorem dX11_make_162 : decode cX11_make 162 = .ok (.iconst 0, 1) := by decide +kernel
theorem dX11_make_163 : decode cX11_make 163 = .ok (.istore 8, 2) := by decide +kernel
theorem dX11_make_159 : decode cX11_make 159 = .ok (.iload 7, 2) := by decide +kernel
theorem dX11_make_161 : decode cX11_make 161 = .ok (.ireturn, 1) := by decide +kernel
theorem dX11_make_119 : decode cX11_make 119 = .ok (.iload_n 1, 1) := by decide +kernel
theorem dX11_make_120 : decode cX11_make 120 = .ok (.bipush 17, 2) := by decide +kernel
theorem dX11_make_122 : decode cX11_make 122 = .ok (.if_icmp .eq 9, 3) := by decide +kernel
theorem dX11_make_125 : decode cX11_make 125 = .ok (.iload_n 1, 1) := by decide +kernel
theorem dX11_make_126 : decode cX11_make 126 = .ok (.bipush 20, 2) := by decide +kernel
theorem dX11_make_128 : decode cX11_make 128 = .ok (.if_icmp .ne 13, 3) := by decide +kernel
theorem dX11_make_141 : decode cX11_make 141 = .ok (.aload_n 0, 1) := by decide +kernel
theorem dX11_make_142 : decode cX11_make 142 = .ok (.iload_n 1, 1) := by decide +kernel
theorem dX11_make_143 : decode cX11_make 143 = .ok (.iload_n 2, 1) := by decide +kernel
theorem dX11_make_144 : decode cX11_make 144 = .ok (.iload_n 3, 1) := by decide +kernel
theorem dX11_make_145 : decode cX11_make 145 = .ok (.iload 4, 2) := by decide +kernel
theorem dX11_make_147 : decode cX11_make 147 = .ok (.lload 5, 2) := by decide +kernel
theorem dX11_make_149 : decode cX11_make 149 = .ok (.invokevirtual 242, 3) := by decide +kernel
theorem dX11_make_102 : decode cX11_make 102 = .ok (.aload_n 0, 1) := by decide +kernel
theorem dX11_make_103 : decode cX11_make 103 = .ok (.iload_n 2, 1) := by decide +kernel
theorem dX11_make_104 : decode cX11_make 104 = .ok (.iload_n 3, 1) := by decide +kernel
theorem dX11_make_105 : decode cX11_make 105 = .ok (.iload 4, 2) := by decide +kernel
theorem dX11_make_107 : decode cX11_make 107 = .ok (.invokevirtual 236, 3) := by decide +kernel
theorem dX11_make_110 : decode cX11_make 110 = .ok (.goto 42, 3) := by decide +kernel
theorem dX11_make_85 : decode cX11_make 85 = .ok (.aload_n 0, 1) := by decide +kernel
theorem dX11_make_86 : decode cX11_make 86 = .ok (.iload_n 2, 1) := by decide +kernel
theorem dX11_make_87 : decode cX11_make 87 = .ok (.iload_n 3, 1) := by decide +kernel
theorem dX11_make_88 : decode cX11_make 88 = .ok (.iload 4, 2) := by decide +kernel
theorem dX11_make_90 : decode cX11_make 90 = .ok (.invokevirtual 233, 3) := by decide +kernel
theorem dX11_make_93 : decode cX11_make 93 = .ok (.goto 59, 3) := by decide +kernel
theorem dX11_make_68 : decode cX11_make 68 = .ok (.aload_n 0, 1) := by decide +kernel
theorem dX11_make_69 : decode cX11_make 69 = .ok (.iload_n 2, 1) := by decide +kernel
theorem dX11_make_70 : decode cX11_make 70 = .ok (.iload_n 3, 1) := by decide +kernel
theorem dX11_make_71 : decode cX11_make 71 = .ok (.iload 4, 2) := by decide +kernel
theorem dX11_make_73 : decode cX11_make 73 = .ok (.invokevirtual 229, 3) := by decide +kernel
theorem dX11_make_76 : decode cX11_make 76 = .ok (.goto 76, 3) := by decide +kernel
theorem dX11_make_50 : decode cX11_make 50 = .ok (.aload_n 0, 1) := by decide +kernel
theorem dX11_make_51 : decode cX11_make 51 = .ok (.iload_n 1, 1) := by decide +kernel
theorem dX11_make_52 : decode cX11_make 52 = .ok (.iload_n 2, 1) := by decide +kernel
theorem dX11_make_53 : decode cX11_make 53 = .ok (.iload_n 3, 1) := by decide +kernel
theorem dX11_make_54 : decode cX11_make 54 = .ok (.lload 5, 2) := by decide +kernel
theorem dX11_make_56 : decode cX11_make 56 = .ok (.invokevirtual 225, 3) := by decide +kernel
theorem dX11_make_59 : decode cX11_make 59 = .ok (.goto 93, 3) := by decide +kernel
theorem dX11_make_12 : decode cX11_make 12 = .ok (.iconst (-1), 1) := by decide +kernel
theorem dX11_make_13 : decode cX11_make 13 = .ok (.ireturn, 1) := by decide +kernel
theorem dX11_make_165 : decode cX11_make 165 = .ok (.iload 8, 2) := by decide +kernel
theorem dX11_make_167 : decode cX11_make 167 = .ok (.aload_n 0, 1) := by decide +kernel
theorem dX11_make_168 : decode cX11_make 168 = .ok (.getfield 164, 3) := by decide +kernel
theorem dX11_make_171 : decode cX11_make 171 = .ok (.if_icmp .ge 22, 3) := by decide +kernel
theorem dX11_make_193 : decode cX11_make 193 = .ok (.aload_n 0, 1) := by decide +kernel
theorem dX11_make_194 : decode cX11_make 194 = .ok (.getfield 164, 3) := by decide +kernel
theorem dX11_make_197 : decode cX11_make 197 = .ok (.bipush 32, 2) := by decide +kernel
theorem dX11_make_199 : decode cX11_make 199 = .ok (.if_icmp .ne 6, 3) := by decide +kernel
theorem dX11_make_205 : decode cX11_make 205 = .ok (.aload_n 0, 1) := by decide +kernel
theorem dX11_make_206 : decode cX11_make 206 = .ok (.getfield 30, 3) := by decide +kernel
theorem dX11_make_209 : decode cX11_make 209 = .ok (.aload_n 0, 1) := by decide +kernel
theorem dX11_make_210 : decode cX11_make 210 = .ok (.getfield 164, 3) := by decide +kernel
theorem dX11_make_213 : decode cX11_make 213 = .ok (.iload_n 1, 1) := by decide +kernel
theorem dX11_make_214 : decode cX11_make 214 = .ok (.iastore, 1) := by decide +kernel
theorem dX11_make_215 : decode cX11_make 215 = .ok (.aload_n 0, 1) := by decide +kernel
theorem dX11_make_216 : decode cX11_make 216 = .ok (.getfield 33, 3) := by decide +kernel
theorem dX11_make_219 : decode cX11_make 219 = .ok (.aload_n 0, 1) := by decide +kernel
theorem dX11_make_220 : decode cX11_make 220 = .ok (.getfield 164, 3) := by decide +kernel
theorem dX11_make_223 : decode cX11_make 223 = .ok (.aload_n 0, 1) := by decide +kernel
theorem dX11_make_224 : decode cX11_make 224 = .ok (.getfield 187, 3) := by decide +kernel
theorem dX11_make_227 : decode cX11_make 227 = .ok (.iastore, 1) := by decide +kernel
theorem dX11_make_228 : decode cX11_make 228 = .ok (.aload_n 0, 1) := by decide +kernel
theorem dX11_make_229 : decode cX11_make 229 = .ok (.getfield 36, 3) := by decide +kernel
theorem dX11_make_232 : decode cX11_make 232 = .ok (.aload_n 0, 1) := by decide +kernel
theorem dX11_make_233 : decode cX11_make 233 = .ok (.getfield 164, 3) := by decide +kernel
theorem dX11_make_236 : decode cX11_make 236 = .ok (.aload_n 0, 1) := by decide +kernel
theorem dX11_make_237 : decode cX11_make 237 = .ok (.getfield 190, 3) := by decide +kernel
theorem dX11_make_240 : decode cX11_make 240 = .ok (.iastore, 1) := by decide +kernel
theorem dX11_make_241 : decode cX11_make 241 = .ok (.aload_n 0, 1) := by decide +kernel
theorem dX11_make_242 : decode cX11_make 242 = .ok (.getfield 39, 3) := by decide +kernel
theorem dX11_make_245 : decode cX11_make 245 = .ok (.aload_n 0, 1) := by decide +kernel
theorem dX11_make_246 : decode cX11_make 246 = .ok (.getfield 164, 3) := by decide +kernel
theorem dX11_make_249 : decode cX11_make 249 = .ok (.aload_n 0, 1) := by decide +kernel
theorem dX11_make_250 : decode cX11_make 250 = .ok (.getfield 203, 3) := by decide +kernel
theorem dX11_make_253 : decode cX11_make 253 = .ok (.iastore, 1) := by decide +kernel
theorem dX11_make_254 : decode cX11_make 254 = .ok (.aload_n 0, 1) := by decide +kernel
theorem dX11_make_255 : decode cX11_make 255 = .ok (.getfield 42, 3) := by decide +kernel
theorem dX11_make_258 : decode cX11_make 258 = .ok (.aload_n 0, 1) := by decide +kernel
theorem dX11_make_259 : decode cX11_make 259 = .ok (.getfield 164, 3) := by decide +kernel
theorem dX11_make_262 : decode cX11_make 262 = .ok (.aload_n 0, 1) := by decide +kernel
theorem dX11_make_263 : decode cX11_make 263 = .ok (.getfield 193, 3) := by decide +kernel
theorem dX11_make_266 : decode cX11_make 266 = .ok (.lastore, 1) := by decide +kernel
theorem dX11_make_267 : decode cX11_make 267 = .ok (.aload_n 0, 1) := by decide +kernel
theorem dX11_make_268 : decode cX11_make 268 = .ok (.dup, 1) := by decide +kernel
theorem dX11_make_269 : decode cX11_make 269 = .ok (.getfield 164, 3) := by decide +kernel
theorem dX11_make_272 : decode cX11_make 272 = .ok (.iconst 1, 1) := by decide +kernel
theorem dX11_make_273 : decode cX11_make 273 = .ok (.iadd, 1) := by decide +kernel
theorem dX11_make_274 : decode cX11_make 274 = .ok (.putfield 164, 3) := by decide +kernel
theorem dX11_make_277 : decode cX11_make 277 = .ok (.aload_n 0, 1) := by decide +kernel
theorem dX11_make_278 : decode cX11_make 278 = .ok (.getfield 164, 3) := by decide +kernel
theorem dX11_make_281 : decode cX11_make 281 = .ok (.iconst 1, 1) := by decide +kernel
theorem dX11_make_282 : decode cX11_make 282 = .ok (.isub, 1) := by decide +kernel
theorem dX11_make_283 : decode cX11_make 283 = .ok (.ireturn, 1) := by decide +kernel
theorem dX11_make_202 : decode cX11_make 202 = .ok (.bipush (-2), 2) := by decide +kernel
theorem dX11_make_204 : decode cX11_make 204 = .ok (.ireturn, 1) := by decide +kernel
theorem dX11_make_174 : decode cX11_make 174 = .ok (.aload_n 0, 1) := by decide +kernel
theorem dX11_make_175 : decode cX11_make 175 = .ok (.iload 8, 2) := by decide +kernel
theorem dX11_make_177 : decode cX11_make 177 = .ok (.iload_n 1, 1) := by decide +kernel
theorem dX11_make_178 : decode cX11_make 178 = .ok (.invokevirtual 246, 3) := by decide +kernel
theorem dX11_make_181 : decode cX11_make 181 = .ok (.ifCond .eq 6, 3) := by decide +kernel
theorem dX11_make_187 : decode cX11_make 187 = .ok (.iinc 8 1, 3) := by decide +kernel
theorem dX11_make_190 : decode cX11_make 190 = .ok (.goto (-25), 3) := by decide +kernel
theorem dX11_make_184 : decode cX11_make 184 = .ok (.iload 8, 2) := by decide +kernel
theorem dX11_make_186 : decode cX11_make 186 = .ok (.ireturn, 1) := by decide +kernel
theorem hy_X11_make : yX11_make.cls ≠ "java/lang/invoke/MethodHandle" ∧ yX11_make.cls ≠ "java/lang/invoke/VarHandle" ∧ (parseMethodDescriptor yX11_make.desc).map (fun d => d.parameters.length) = some 5 := ⟨by decide, by decide, by decide +kernel⟩
def f_X11_make_b165 : Nat → Int32 → Int32 → mS → Option ((Int32) × mS)
  | 0, _, _, _ => none
  | n + 1, l1, l8, S => 
  o_let (m_I S 3) fun x1 =>
  if x1 ≤ l8 then (
  o_let (m_I S 3) fun x2 =>
  if x2 = 32 then (
  some ((-2), S)) else (
  o_let (m_I S 3) fun x3 =>
  o_ck (¬ (x3 < 0 ∨ 32 ≤ (x3).toNatClampNeg)) (o_let (m_wI S 4 (x3).toNatClampNeg l1) fun S1 =>
  o_let (m_I S1 3) fun x4 =>
  o_let (m_I S1 4) fun x5 =>
  o_ck (¬ (x4 < 0 ∨ 32 ≤ (x4).toNatClampNeg)) (o_let (m_wI S1 5 (x4).toNatClampNeg x5) fun S2 =>
  o_let (m_I S2 3) fun x6 =>
  o_let (m_I S2 5) fun x7 =>
  o_ck (¬ (x6 < 0 ∨ 32 ≤ (x6).toNatClampNeg)) (o_let (m_wI S2 6 (x6).toNatClampNeg x7) fun S3 =>
  o_let (m_I S3 3) fun x8 =>
  o_let (m_I S3 6) fun x9 =>
  o_ck (¬ (x8 < 0 ∨ 32 ≤ (x8).toNatClampNeg)) (o_let (m_wI S3 7 (x8).toNatClampNeg x9) fun S4 =>
  o_let (m_I S4 3) fun x10 =>
  o_let (m_L S4 0) fun x11 =>
  o_ck (¬ (x10 < 0 ∨ 32 ≤ (x10).toNatClampNeg)) (o_let (m_wL S4 17 (x10).toNatClampNeg x11) fun S5 =>
  o_let (m_I S5 3) fun x12 =>
  o_let (m_pI S5 3 (x12 + (1 : Int32))) fun S6 =>
  o_let (m_I S6 3) fun x13 =>
  some (x13 - (1 : Int32), S6)))))))) else (
  o_call (f_X11_isOne l8 l1 S) fun x14 S7 =>
  if x14 = 0 then (
  o_let (l8 + 1) fun x15 =>
  f_X11_make_b165 n l1 x15 S7) else (
  some (l8, S7)))
set_option maxHeartbeats 4000000 in
set_option maxRecDepth 100000 in
theorem w_X11_make_b165 {l : Launch} {D : va_G} {Y : Nat → ClassId} {aR : Nat → Nat} {A : Nat → Prop} {ad : Nat → Nat} {p : Program} {e : Env} {s : State} {m : MethodId} {args : Array Value} {below : List Frame} {meth : Method} {c : Code} : ∀ (n : Nat) (l1 : Int32) (l8 : Int32) (S S' : mS) (r : Int32) (H : Heap) (locs : List Loc) (ls : Array Slot), jq_X D Y aR A p s m args meth c cX11_make RX11 "make" 9 (some .int) → mJ D Y A s ad S H locs → f_X11_make_b165 n l1 l8 S = some (r, S') → lv_has ls 9 [(0, .ref (ad 0)), (1, .int l1), (8, .int l8)] → W p l e { frames := 4, cells := 0, slots := 0, locals := 98 } s m args below meth c H locs 0 0 (jq_Z below A (fun v k n H => v = (some (.int r)) ∧ k = 0 ∧ n = 0 ∧ mH D Y A ad S' H) s) (F0 m 165 ls []) := by
  intro n
  induction n with
  | zero =>
    intro l1 l8 S S' r H locs ls hX hJ hf hl
    cases hf
  | succ n ih =>
    intro l1 l8 S S' r H locs ls hX hJ hf hl
    rw [f_X11_make_b165.eq_2] at hf
    have hx := hX.1
    have hb := hX.2.1
    have hm := hX.2.2.1
    have ho := hX.2.2.2.1
    have ht := hX.2.2.2.2.1
    have hn := hX.2.2.2.2.2.1.2.1
    refine lv_iload hx hb dX11_make_165 (lv_at hl 2 rfl) ?_
    refine lv_aload_n hx hb dX11_make_167 rfl (lv_at hl 0 rfl) ?_
    replace hf := o_let_e hf
    obtain ⟨x1, hx1, hf⟩ := hf
    refine mg_handles hX hJ hx1 qw697 dX11_make_168 ?_
    refine lv_icmp_ge (tgt := 193) hx hb dX11_make_171 (by decide) (fun c1 => ?_) (fun c1 => ?_)
    · replace hf := o_t hf c1
      refine lv_aload_n hx hb dX11_make_193 rfl (lv_at hl 0 rfl) ?_
      replace hf := o_let_e hf
      obtain ⟨x2, hx2, hf⟩ := hf
      refine mg_handles hX hJ hx2 qw697 dX11_make_194 ?_
      refine lv_bipush (v := 32) hx hb dX11_make_197 (by decide) ?_
      refine lv_icmp_ne (tgt := 205) hx hb dX11_make_199 (by decide) (fun c2 => ?_) (fun c2 => ?_)
      · replace hf := o_f hf c2
        refine lv_aload_n hx hb dX11_make_205 rfl (lv_at hl 0 rfl) ?_
        refine mg_sortOf hX hJ qw698 dX11_make_206 ?_
        refine lv_aload_n hx hb dX11_make_209 rfl (lv_at hl 0 rfl) ?_
        replace hf := o_let_e hf
        obtain ⟨x3, hx3, hf⟩ := hf
        refine mg_handles hX hJ hx3 qw697 dX11_make_210 ?_
        refine lv_iload_n hx hb dX11_make_213 rfl (lv_at hl 1 rfl) ?_
        replace hf := o_ck_e hf
        obtain ⟨hk1, hf⟩ := hf
        replace hf := o_let_e hf
        obtain ⟨S1, hS1, hf⟩ := hf
        refine mw_I 4 hX hJ (by decide) hk1 hS1 dX11_make_214 (fun H locs hJ' => ?_)
        clear hJ
        have hJ := hJ'
        clear hJ'
        refine lv_aload_n hx hb dX11_make_215 rfl (lv_at hl 0 rfl) ?_
        refine mg_aOf hX hJ qw699 dX11_make_216 ?_
        refine lv_aload_n hx hb dX11_make_219 rfl (lv_at hl 0 rfl) ?_
        replace hf := o_let_e hf
        obtain ⟨x4, hx4, hf⟩ := hf
        refine mg_handles hX hJ hx4 qw697 dX11_make_220 ?_
        refine lv_aload_n hx hb dX11_make_223 rfl (lv_at hl 0 rfl) ?_
        replace hf := o_let_e hf
        obtain ⟨x5, hx5, hf⟩ := hf
        refine mg_madeA hX hJ hx5 qw706 dX11_make_224 ?_
        replace hf := o_ck_e hf
        obtain ⟨hk2, hf⟩ := hf
        replace hf := o_let_e hf
        obtain ⟨S2, hS2, hf⟩ := hf
        refine mw_I 5 hX hJ (by decide) hk2 hS2 dX11_make_227 (fun H locs hJ' => ?_)
        clear hJ
        have hJ := hJ'
        clear hJ'
        refine lv_aload_n hx hb dX11_make_228 rfl (lv_at hl 0 rfl) ?_
        refine mg_bOf hX hJ qw700 dX11_make_229 ?_
        refine lv_aload_n hx hb dX11_make_232 rfl (lv_at hl 0 rfl) ?_
        replace hf := o_let_e hf
        obtain ⟨x6, hx6, hf⟩ := hf
        refine mg_handles hX hJ hx6 qw697 dX11_make_233 ?_
        refine lv_aload_n hx hb dX11_make_236 rfl (lv_at hl 0 rfl) ?_
        replace hf := o_let_e hf
        obtain ⟨x7, hx7, hf⟩ := hf
        refine mg_madeB hX hJ hx7 qw707 dX11_make_237 ?_
        replace hf := o_ck_e hf
        obtain ⟨hk3, hf⟩ := hf
        replace hf := o_let_e hf
        obtain ⟨S3, hS3, hf⟩ := hf
        refine mw_I 6 hX hJ (by decide) hk3 hS3 dX11_make_240 (fun H locs hJ' => ?_)
        clear hJ
        have hJ := hJ'
        clear hJ'
        refine lv_aload_n hx hb dX11_make_241 rfl (lv_at hl 0 rfl) ?_
        refine mg_cOf hX hJ qw701 dX11_make_242 ?_
        refine lv_aload_n hx hb dX11_make_245 rfl (lv_at hl 0 rfl) ?_
        replace hf := o_let_e hf
        obtain ⟨x8, hx8, hf⟩ := hf
        refine mg_handles hX hJ hx8 qw697 dX11_make_246 ?_
        refine lv_aload_n hx hb dX11_make_249 rfl (lv_at hl 0 rfl) ?_
        replace hf := o_let_e hf
        obtain ⟨x9, hx9, hf⟩ := hf
        refine mg_madeC hX hJ hx9 qw708 dX11_make_250 ?_
        replace hf := o_ck_e hf
        obtain ⟨hk4, hf⟩ := hf
        replace hf := o_let_e hf
        obtain ⟨S4, hS4, hf⟩ := hf
        refine mw_I 7 hX hJ (by decide) hk4 hS4 dX11_make_253 (fun H locs hJ' => ?_)
        clear hJ
        have hJ := hJ'
        clear hJ'
        refine lv_aload_n hx hb dX11_make_254 rfl (lv_at hl 0 rfl) ?_
        refine mg_vOf hX hJ qw702 dX11_make_255 ?_
        refine lv_aload_n hx hb dX11_make_258 rfl (lv_at hl 0 rfl) ?_
        replace hf := o_let_e hf
        obtain ⟨x10, hx10, hf⟩ := hf
        refine mg_handles hX hJ hx10 qw697 dX11_make_259 ?_
        refine lv_aload_n hx hb dX11_make_262 rfl (lv_at hl 0 rfl) ?_
        replace hf := o_let_e hf
        obtain ⟨x11, hx11, hf⟩ := hf
        refine mg_madeV hX hJ hx11 qw709 dX11_make_263 ?_
        replace hf := o_ck_e hf
        obtain ⟨hk5, hf⟩ := hf
        replace hf := o_let_e hf
        obtain ⟨S5, hS5, hf⟩ := hf
        refine mw_L 17 hX hJ (by decide) hk5 hS5 dX11_make_266 (fun H locs hJ' => ?_)
        clear hJ
        have hJ := hJ'
        clear hJ'
        refine lv_aload_n hx hb dX11_make_267 rfl (lv_at hl 0 rfl) ?_
        refine lv_dup hx hb dX11_make_268 rfl ?_
        replace hf := o_let_e hf
        obtain ⟨x12, hx12, hf⟩ := hf
        refine mg_handles hX hJ hx12 qw697 dX11_make_269 ?_
        refine lv_iconst (v := 1) hx hb dX11_make_272 (by decide) ?_
        refine lv_iadd hx hb dX11_make_273 ?_
        replace hf := o_let_e hf
        obtain ⟨S6, hS6, hf⟩ := hf
        refine mp_handles hX hJ hS6 qw697 dX11_make_274 (fun H locs hJ' => ?_)
        clear hJ
        have hJ := hJ'
        clear hJ'
        refine lv_aload_n hx hb dX11_make_277 rfl (lv_at hl 0 rfl) ?_
        replace hf := o_let_e hf
        obtain ⟨x13, hx13, hf⟩ := hf
        refine mg_handles hX hJ hx13 qw697 dX11_make_278 ?_
        refine lv_iconst (v := 1) hx hb dX11_make_281 (by decide) ?_
        refine lv_isub hx hb dX11_make_282 ?_
        obtain ⟨rfl, rfl⟩ := Prod.mk.inj (Option.some.inj hf)
        exact jq_iret hX hJ.2 dX11_make_283 ⟨rfl, rfl, rfl, hJ.1⟩
      · replace hf := o_t hf c2
        refine lv_bipush (v := (-2)) hx hb dX11_make_202 (by decide) ?_
        obtain ⟨rfl, rfl⟩ := Prod.mk.inj (Option.some.inj hf)
        exact jq_iret hX hJ.2 dX11_make_204 ⟨rfl, rfl, rfl, hJ.1⟩
    · replace hf := o_f hf c1
      refine lv_aload_n hx hb dX11_make_174 rfl (lv_at hl 0 rfl) ?_
      refine lv_iload hx hb dX11_make_175 (lv_at hl 2 rfl) ?_
      refine lv_iload_n hx hb dX11_make_177 rfl (lv_at hl 1 rfl) ?_
      replace hf := o_call_e hf
      obtain ⟨x14, S7, hq1, hf⟩ := hf
      refine jq_doM hX hJ (jq_okV (As := [.int l8, .int l1]) (rest := []) hx hb hm ho ht (mJ.recv hX hJ) qw925 qw927 qs90 qw928 qw7 hy_X11_isOne rfl hl.1 (Nat.le_of_ble_eq_true rfl) dX11_make_178) (c_X11_isOne hq1) (Nat.le_of_ble_eq_true rfl) (Nat.le_of_ble_eq_true rfl) (Nat.le_refl _) (Nat.le_refl _) (fun H locs hJ' => ?_)
      clear hJ
      have hJ := hJ'
      clear hJ'
      refine lv_if_eq (tgt := 187) hx hb dX11_make_181 (by decide) (fun c3 => ?_) (fun c3 => ?_)
      · replace hf := o_t hf c3
        replace hf := o_let_e hf
        obtain ⟨x15, hx15, hf⟩ := hf
        refine lv_iinc (v := x15) (lv' := [(8, .int x15), (0, .ref (ad 0)), (1, .int l1)]) hx hb dX11_make_187 hl (k := 2) rfl (by rw [← hx15]; rfl) (by decide) rfl (fun ls hl' => ?_)
        clear hl
        have hl := hl'
        clear hl'
        refine lv_goto (tgt := 165) hx hb dX11_make_190 (by decide) ?_
        replace hl := lv_sub hl (l' := [(0, .ref (ad 0)), (1, .int l1), (8, .int x15)]) [1, 2, 0] rfl
        exact ih l1 x15 S7 S' r H locs ls hX hJ hf hl
      · replace hf := o_f hf c3
        refine lv_iload hx hb dX11_make_184 (lv_at hl 2 rfl) ?_
        obtain ⟨rfl, rfl⟩ := Prod.mk.inj (Option.some.inj hf)
        exact jq_iret hX hJ.2 dX11_make_186 ⟨rfl, rfl, rfl, hJ.1⟩
def f_X11_make (p1 : Int32) (p2 : Int32) (p3 : Int32) (p4 : Int32) (p5 : Int64) (S : mS) : Option ((Int32) × mS) :=
  o_cP (f_X11_in ((p1).toInt64) 0 22) fun x1 =>
  if x1 = 0 then (
  some ((-1), S)) else (
  o_let (m_pI S 4 0) fun S1 =>
  o_let (m_pI S1 5 0) fun S2 =>
  o_let (m_pI S2 6 0) fun S3 =>
  o_let (m_pL S3 0 0) fun S4 =>
  o_let (m_I S4 3) fun x2 =>
  o_ck (¬ (x2 < 0 ∨ 33 ≤ (x2).toNatClampNeg)) (o_let (m_wI S4 8 (x2).toNatClampNeg 0) fun S5 =>
  if 10 < p1 then (
  if p1 = 15 then (
  o_call (f_X11_makeFilter p2 p3 p4 S5) fun x9 S12 =>
  if x9 = 0 then (
  f_X11_make_b165 40 p1 0 S12) else (
  some (x9, S12))) else (
  if p1 = 18 then (
  o_call (f_X11_makeGuard p2 p3 p4 S5) fun x8 S11 =>
  if x8 = 0 then (
  f_X11_make_b165 40 p1 0 S11) else (
  some (x8, S11))) else (
  if p1 = 19 then (
  o_call (f_X11_makeCatch p2 p3 p4 S5) fun x7 S10 =>
  if x7 = 0 then (
  f_X11_make_b165 40 p1 0 S10) else (
  some (x7, S10))) else (
  if p1 = 16 then (
  o_call (f_X11_makeTwo p1 p2 p3 S5) fun x3 S6 =>
  if x3 = 0 then (
  f_X11_make_b165 40 p1 0 S6) else (
  some (x3, S6))) else (
  if p1 = 17 then (
  o_call (f_X11_makeTwo p1 p2 p3 S5) fun x4 S7 =>
  if x4 = 0 then (
  f_X11_make_b165 40 p1 0 S7) else (
  some (x4, S7))) else (
  if p1 = 20 then (
  o_call (f_X11_makeTwo p1 p2 p3 S5) fun x6 S9 =>
  if x6 = 0 then (
  f_X11_make_b165 40 p1 0 S9) else (
  some (x6, S9))) else (
  o_call (f_X11_makeOne p1 p2 p3 p4 p5 S5) fun x5 S8 =>
  if x5 = 0 then (
  f_X11_make_b165 40 p1 0 S8) else (
  some (x5, S8))))))))) else (
  o_call (f_X11_makeFirst p1 p2 p3 p5 S5) fun x10 S13 =>
  if x10 = 0 then (
  f_X11_make_b165 40 p1 0 S13) else (
  some (x10, S13)))))
set_option maxHeartbeats 4000000 in
set_option maxRecDepth 100000 in
theorem c_X11_make {l : Launch} {D : va_G} {Y : Nat → ClassId} {aR : Nat → Nat} {A : Nat → Prop} {ad : Nat → Nat} {p1 : Int32} {p2 : Int32} {p3 : Int32} {p4 : Int32} {p5 : Int64} {S S' : mS} {r : Int32} (hf : f_X11_make p1 p2 p3 p4 p5 S = some (r, S')) : jq_M l D Y aR A ad yX11_make cX11_make 9 (some .int) 4 98 [.ref (ad 0), .int p1, .int p2, .int p3, .int p4, .long p5] S (some (.int r)) S' := by
  unfold f_X11_make at hf
  refine jq_enterM (by decide) (Nat.le_of_ble_eq_true rfl) fun p e s m args below meth c ls H locs hX hJ hl => ?_
  have hl : lv_has ls 9 [(0, .ref (ad 0)), (1, .int p1), (2, .int p2), (3, .int p3), (4, .int p4), (5, .long p5)] := hl
  have hx := hX.1
  have hb := hX.2.1
  have hm := hX.2.2.1
  have ho := hX.2.2.2.1
  have ht := hX.2.2.2.2.1
  have hn := hX.2.2.2.2.2.1.2.1
  refine lv_iload_n hx hb dX11_make_0 rfl (lv_at hl 1 rfl) ?_
  refine lv_i2l hx hb dX11_make_1 rfl ?_
  refine lv_lconst (v := 0) hx hb dX11_make_2 (by decide) ?_
  refine lv_ldc2 (v := 22) hx hb ho (ht _ qw853) dX11_make_3 ?_
  replace hf := o_cP_e hf
  obtain ⟨x1, hq1, hf⟩ := hf
  refine jq_doP hX hJ.2 (jq_okS (As := [.long ((p1).toInt64), .long 0, .long 22]) (rest := []) hx hb hm ho ht qw803 qw804 qw805 qw7 hy_X11_in rfl hl.1 (Nat.le_of_ble_eq_true rfl) dX11_make_6) (c_X11_in hq1) (Nat.le_of_ble_eq_true rfl) (Nat.le_of_ble_eq_true rfl) (Nat.le_refl _) (Nat.le_refl _) (fun locs hS9 => ?_)
  replace hJ := mJ.to hJ hS9
  refine lv_if_ne (tgt := 14) hx hb dX11_make_9 (by decide) (fun c1 => ?_) (fun c1 => ?_)
  · replace hf := o_f hf c1
    refine lv_aload_n hx hb dX11_make_14 rfl (lv_at hl 0 rfl) ?_
    refine lv_iconst (v := 0) hx hb dX11_make_15 (by decide) ?_
    replace hf := o_let_e hf
    obtain ⟨S1, hS1, hf⟩ := hf
    refine mp_madeA hX hJ hS1 qw706 dX11_make_16 (fun H locs hJ' => ?_)
    clear hJ
    have hJ := hJ'
    clear hJ'
    refine lv_aload_n hx hb dX11_make_19 rfl (lv_at hl 0 rfl) ?_
    refine lv_iconst (v := 0) hx hb dX11_make_20 (by decide) ?_
    replace hf := o_let_e hf
    obtain ⟨S2, hS2, hf⟩ := hf
    refine mp_madeB hX hJ hS2 qw707 dX11_make_21 (fun H locs hJ' => ?_)
    clear hJ
    have hJ := hJ'
    clear hJ'
    refine lv_aload_n hx hb dX11_make_24 rfl (lv_at hl 0 rfl) ?_
    refine lv_iconst (v := 0) hx hb dX11_make_25 (by decide) ?_
    replace hf := o_let_e hf
    obtain ⟨S3, hS3, hf⟩ := hf
    refine mp_madeC hX hJ hS3 qw708 dX11_make_26 (fun H locs hJ' => ?_)
    clear hJ
    have hJ := hJ'
    clear hJ'
    refine lv_aload_n hx hb dX11_make_29 rfl (lv_at hl 0 rfl) ?_
    refine lv_lconst (v := 0) hx hb dX11_make_30 (by decide) ?_
    replace hf := o_let_e hf
    obtain ⟨S4, hS4, hf⟩ := hf
    refine mp_madeV hX hJ hS4 qw709 dX11_make_31 (fun H locs hJ' => ?_)
    clear hJ
    have hJ := hJ'
    clear hJ'
    refine lv_aload_n hx hb dX11_make_34 rfl (lv_at hl 0 rfl) ?_
    refine mg_manyOf hX hJ qw703 dX11_make_35 ?_
    refine lv_aload_n hx hb dX11_make_38 rfl (lv_at hl 0 rfl) ?_
    replace hf := o_let_e hf
    obtain ⟨x2, hx2, hf⟩ := hf
    refine mg_handles hX hJ hx2 qw697 dX11_make_39 ?_
    refine lv_iconst (v := 0) hx hb dX11_make_42 (by decide) ?_
    replace hf := o_ck_e hf
    obtain ⟨hk1, hf⟩ := hf
    replace hf := o_let_e hf
    obtain ⟨S5, hS5, hf⟩ := hf
    refine mw_I 8 hX hJ (by decide) hk1 hS5 dX11_make_43 (fun H locs hJ' => ?_)
    clear hJ
    have hJ := hJ'
    clear hJ'
    refine lv_iload_n hx hb dX11_make_44 rfl (lv_at hl 1 rfl) ?_
    refine lv_bipush (v := 10) hx hb dX11_make_45 (by decide) ?_
    refine lv_icmp_gt (tgt := 62) hx hb dX11_make_47 (by decide) (fun c2 => ?_) (fun c2 => ?_)
    · replace hf := o_t hf c2
      refine lv_iload_n hx hb dX11_make_62 rfl (lv_at hl 1 rfl) ?_
      refine lv_bipush (v := 15) hx hb dX11_make_63 (by decide) ?_
      refine lv_icmp_ne (tgt := 79) hx hb dX11_make_65 (by decide) (fun c3 => ?_) (fun c3 => ?_)
      · replace hf := o_f hf c3
        refine lv_iload_n hx hb dX11_make_79 rfl (lv_at hl 1 rfl) ?_
        refine lv_bipush (v := 18) hx hb dX11_make_80 (by decide) ?_
        refine lv_icmp_ne (tgt := 96) hx hb dX11_make_82 (by decide) (fun c4 => ?_) (fun c4 => ?_)
        · replace hf := o_f hf c4
          refine lv_iload_n hx hb dX11_make_96 rfl (lv_at hl 1 rfl) ?_
          refine lv_bipush (v := 19) hx hb dX11_make_97 (by decide) ?_
          refine lv_icmp_ne (tgt := 113) hx hb dX11_make_99 (by decide) (fun c5 => ?_) (fun c5 => ?_)
          · replace hf := o_f hf c5
            refine lv_iload_n hx hb dX11_make_113 rfl (lv_at hl 1 rfl) ?_
            refine lv_bipush (v := 16) hx hb dX11_make_114 (by decide) ?_
            refine lv_icmp_eq (tgt := 131) hx hb dX11_make_116 (by decide) (fun c6 => ?_) (fun c6 => ?_)
            · replace hf := o_t hf c6
              refine lv_aload_n hx hb dX11_make_131 rfl (lv_at hl 0 rfl) ?_
              refine lv_iload_n hx hb dX11_make_132 rfl (lv_at hl 1 rfl) ?_
              refine lv_iload_n hx hb dX11_make_133 rfl (lv_at hl 2 rfl) ?_
              refine lv_iload_n hx hb dX11_make_134 rfl (lv_at hl 3 rfl) ?_
              replace hf := o_call_e hf
              obtain ⟨x3, S6, hq2, hf⟩ := hf
              refine jq_doM hX hJ (jq_okV (As := [.int p1, .int p2, .int p3]) (rest := []) hx hb hm ho ht (mJ.recv hX hJ) qw910 qw912 qs87 qw913 qw7 hy_X11_makeTwo rfl hl.1 (Nat.le_of_ble_eq_true rfl) dX11_make_135) (c_X11_makeTwo hq2) (Nat.le_of_ble_eq_true rfl) (Nat.le_of_ble_eq_true rfl) (Nat.le_refl _) (Nat.le_refl _) (fun H locs hJ' => ?_)
              clear hJ
              have hJ := hJ'
              clear hJ'
              refine lv_goto (tgt := 152) hx hb dX11_make_138 (by decide) ?_
              refine lv_istore (lv' := [(7, .int x3), (0, .ref (ad 0)), (1, .int p1), (2, .int p2), (3, .int p3), (4, .int p4), (5, .long p5)]) hx hb dX11_make_152 hl (by decide) rfl (fun ls hl' => ?_)
              clear hl
              have hl := hl'
              clear hl'
              refine lv_iload hx hb dX11_make_154 (lv_at hl 0 rfl) ?_
              refine lv_if_eq (tgt := 162) hx hb dX11_make_156 (by decide) (fun c7 => ?_) (fun c7 => ?_)
              · replace hf := o_t hf c7
                refine lv_iconst (v := 0) hx hb dX11_make_162 (by decide) ?_
                refine lv_istore (lv' := [(8, .int 0), (7, .int x3), (0, .ref (ad 0)), (1, .int p1), (2, .int p2), (3, .int p3), (4, .int p4), (5, .long p5)]) hx hb dX11_make_163 hl (by decide) rfl (fun ls hl' => ?_)
                clear hl
                have hl := hl'
                clear hl'
                replace hl := lv_sub hl (l' := [(0, .ref (ad 0)), (1, .int p1), (8, .int 0)]) [2, 3, 0] rfl
                exact w_X11_make_b165 40 p1 0 S6 S' r H locs ls hX hJ hf hl
              · replace hf := o_f hf c7
                refine lv_iload hx hb dX11_make_159 (lv_at hl 0 rfl) ?_
                obtain ⟨rfl, rfl⟩ := Prod.mk.inj (Option.some.inj hf)
                exact jq_iret hX hJ.2 dX11_make_161 ⟨rfl, rfl, rfl, hJ.1⟩
            · replace hf := o_f hf c6
              refine lv_iload_n hx hb dX11_make_119 rfl (lv_at hl 1 rfl) ?_
              refine lv_bipush (v := 17) hx hb dX11_make_120 (by decide) ?_
              refine lv_icmp_eq (tgt := 131) hx hb dX11_make_122 (by decide) (fun c8 => ?_) (fun c8 => ?_)
              · replace hf := o_t hf c8
                refine lv_aload_n hx hb dX11_make_131 rfl (lv_at hl 0 rfl) ?_
                refine lv_iload_n hx hb dX11_make_132 rfl (lv_at hl 1 rfl) ?_
                refine lv_iload_n hx hb dX11_make_133 rfl (lv_at hl 2 rfl) ?_
                refine lv_iload_n hx hb dX11_make_134 rfl (lv_at hl 3 rfl) ?_
                replace hf := o_call_e hf
                obtain ⟨x4, S7, hq3, hf⟩ := hf
                refine jq_doM hX hJ (jq_okV (As := [.int p1, .int p2, .int p3]) (rest := []) hx hb hm ho ht (mJ.recv hX hJ) qw910 qw912 qs87 qw913 qw7 hy_X11_makeTwo rfl hl.1 (Nat.le_of_ble_eq_true rfl) dX11_make_135) (c_X11_makeTwo hq3) (Nat.le_of_ble_eq_true rfl) (Nat.le_of_ble_eq_true rfl) (Nat.le_refl _) (Nat.le_refl _) (fun H locs hJ' => ?_)
                clear hJ
                have hJ := hJ'
                clear hJ'
                refine lv_goto (tgt := 152) hx hb dX11_make_138 (by decide) ?_
                refine lv_istore (lv' := [(7, .int x4), (0, .ref (ad 0)), (1, .int p1), (2, .int p2), (3, .int p3), (4, .int p4), (5, .long p5)]) hx hb dX11_make_152 hl (by decide) rfl (fun ls hl' => ?_)
                clear hl
                have hl := hl'
                clear hl'
                refine lv_iload hx hb dX11_make_154 (lv_at hl 0 rfl) ?_
                refine lv_if_eq (tgt := 162) hx hb dX11_make_156 (by decide) (fun c9 => ?_) (fun c9 => ?_)
                · replace hf := o_t hf c9
                  refine lv_iconst (v := 0) hx hb dX11_make_162 (by decide) ?_
                  refine lv_istore (lv' := [(8, .int 0), (7, .int x4), (0, .ref (ad 0)), (1, .int p1), (2, .int p2), (3, .int p3), (4, .int p4), (5, .long p5)]) hx hb dX11_make_163 hl (by decide) rfl (fun ls hl' => ?_)
                  clear hl
                  have hl := hl'
                  clear hl'
                  replace hl := lv_sub hl (l' := [(0, .ref (ad 0)), (1, .int p1), (8, .int 0)]) [2, 3, 0] rfl
                  exact w_X11_make_b165 40 p1 0 S7 S' r H locs ls hX hJ hf hl
                · replace hf := o_f hf c9
                  refine lv_iload hx hb dX11_make_159 (lv_at hl 0 rfl) ?_
                  obtain ⟨rfl, rfl⟩ := Prod.mk.inj (Option.some.inj hf)
                  exact jq_iret hX hJ.2 dX11_make_161 ⟨rfl, rfl, rfl, hJ.1⟩
              · replace hf := o_f hf c8
                refine lv_iload_n hx hb dX11_make_125 rfl (lv_at hl 1 rfl) ?_
                refine lv_bipush (v := 20) hx hb dX11_make_126 (by decide) ?_
                refine lv_icmp_ne (tgt := 141) hx hb dX11_make_128 (by decide) (fun c10 => ?_) (fun c10 => ?_)
                · replace hf := o_f hf c10
                  refine lv_aload_n hx hb dX11_make_141 rfl (lv_at hl 0 rfl) ?_
                  refine lv_iload_n hx hb dX11_make_142 rfl (lv_at hl 1 rfl) ?_
                  refine lv_iload_n hx hb dX11_make_143 rfl (lv_at hl 2 rfl) ?_
                  refine lv_iload_n hx hb dX11_make_144 rfl (lv_at hl 3 rfl) ?_
                  refine lv_iload hx hb dX11_make_145 (lv_at hl 4 rfl) ?_
                  refine lv_lload hx hb dX11_make_147 (lv_at hl 5 rfl) ?_
                  replace hf := o_call_e hf
                  obtain ⟨x5, S8, hq4, hf⟩ := hf
                  refine jq_doM hX hJ (jq_okV (As := [.int p1, .int p2, .int p3, .int p4, .long p5]) (rest := []) hx hb hm ho ht (mJ.recv hX hJ) qw914 qw916 qs88 qw917 qw7 hy_X11_makeOne rfl hl.1 (Nat.le_of_ble_eq_true rfl) dX11_make_149) (c_X11_makeOne hq4) (Nat.le_of_ble_eq_true rfl) (Nat.le_of_ble_eq_true rfl) (Nat.le_refl _) (Nat.le_refl _) (fun H locs hJ' => ?_)
                  clear hJ
                  have hJ := hJ'
                  clear hJ'
                  refine lv_istore (lv' := [(7, .int x5), (0, .ref (ad 0)), (1, .int p1), (2, .int p2), (3, .int p3), (4, .int p4), (5, .long p5)]) hx hb dX11_make_152 hl (by decide) rfl (fun ls hl' => ?_)
                  clear hl
                  have hl := hl'
                  clear hl'
                  refine lv_iload hx hb dX11_make_154 (lv_at hl 0 rfl) ?_
                  refine lv_if_eq (tgt := 162) hx hb dX11_make_156 (by decide) (fun c11 => ?_) (fun c11 => ?_)
                  · replace hf := o_t hf c11
                    refine lv_iconst (v := 0) hx hb dX11_make_162 (by decide) ?_
                    refine lv_istore (lv' := [(8, .int 0), (7, .int x5), (0, .ref (ad 0)), (1, .int p1), (2, .int p2), (3, .int p3), (4, .int p4), (5, .long p5)]) hx hb dX11_make_163 hl (by decide) rfl (fun ls hl' => ?_)
                    clear hl
                    have hl := hl'
                    clear hl'
                    replace hl := lv_sub hl (l' := [(0, .ref (ad 0)), (1, .int p1), (8, .int 0)]) [2, 3, 0] rfl
                    exact w_X11_make_b165 40 p1 0 S8 S' r H locs ls hX hJ hf hl
                  · replace hf := o_f hf c11
                    refine lv_iload hx hb dX11_make_159 (lv_at hl 0 rfl) ?_
                    obtain ⟨rfl, rfl⟩ := Prod.mk.inj (Option.some.inj hf)
                    exact jq_iret hX hJ.2 dX11_make_161 ⟨rfl, rfl, rfl, hJ.1⟩
                · replace hf := o_t hf c10
                  refine lv_aload_n hx hb dX11_make_131 rfl (lv_at hl 0 rfl) ?_
                  refine lv_iload_n hx hb dX11_make_132 rfl (lv_at hl 1 rfl) ?_
                  refine lv_iload_n hx hb dX11_make_133 rfl (lv_at hl 2 rfl) ?_
                  refine lv_iload_n hx hb dX11_make_134 rfl (lv_at hl 3 rfl) ?_
                  replace hf := o_call_e hf
                  obtain ⟨x6, S9, hq5, hf⟩ := hf
                  refine jq_doM hX hJ (jq_okV (As := [.int p1, .int p2, .int p3]) (rest := []) hx hb hm ho ht (mJ.recv hX hJ) qw910 qw912 qs87 qw913 qw7 hy_X11_makeTwo rfl hl.1 (Nat.le_of_ble_eq_true rfl) dX11_make_135) (c_X11_makeTwo hq5) (Nat.le_of_ble_eq_true rfl) (Nat.le_of_ble_eq_true rfl) (Nat.le_refl _) (Nat.le_refl _) (fun H locs hJ' => ?_)
                  clear hJ
                  have hJ := hJ'
                  clear hJ'
                  refine lv_goto (tgt := 152) hx hb dX11_make_138 (by decide) ?_
                  refine lv_istore (lv' := [(7, .int x6), (0, .ref (ad 0)), (1, .int p1), (2, .int p2), (3, .int p3), (4, .int p4), (5, .long p5)]) hx hb dX11_make_152 hl (by decide) rfl (fun ls hl' => ?_)
                  clear hl
                  have hl := hl'
                  clear hl'
                  refine lv_iload hx hb dX11_make_154 (lv_at hl 0 rfl) ?_
                  refine lv_if_eq (tgt := 162) hx hb dX11_make_156 (by decide) (fun c12 => ?_) (fun c12 => ?_)
                  · replace hf := o_t hf c12
                    refine lv_iconst (v := 0) hx hb dX11_make_162 (by decide) ?_
                    refine lv_istore (lv' := [(8, .int 0), (7, .int x6), (0, .ref (ad 0)), (1, .int p1), (2, .int p2), (3, .int p3), (4, .int p4), (5, .long p5)]) hx hb dX11_make_163 hl (by decide) rfl (fun ls hl' => ?_)
                    clear hl
                    have hl := hl'
                    clear hl'
                    replace hl := lv_sub hl (l' := [(0, .ref (ad 0)), (1, .int p1), (8, .int 0)]) [2, 3, 0] rfl
                    exact w_X11_make_b165 40 p1 0 S9 S' r H locs ls hX hJ hf hl
                  · replace hf := o_f hf c12
                    refine lv_iload hx hb dX11_make_159 (lv_at hl 0 rfl) ?_
                    obtain ⟨rfl, rfl⟩ := Prod.mk.inj (Option.some.inj hf)
                    exact jq_iret hX hJ.2 dX11_make_161 ⟨rfl, rfl, rfl, hJ.1⟩
          · replace hf := o_t hf c5
            refine lv_aload_n hx hb dX11_make_102 rfl (lv_at hl 0 rfl) ?_
            refine lv_iload_n hx hb dX11_make_103 rfl (lv_at hl 2 rfl) ?_
            refine lv_iload_n hx hb dX11_make_104 rfl (lv_at hl 3 rfl) ?_
            refine lv_iload hx hb dX11_make_105 (lv_at hl 4 rfl) ?_
            replace hf := o_call_e hf
            obtain ⟨x7, S10, hq6, hf⟩ := hf
            refine jq_doM hX hJ (jq_okV (As := [.int p2, .int p3, .int p4]) (rest := []) hx hb hm ho ht (mJ.recv hX hJ) qw903 qw905 qs86 qw906 qw7 hy_X11_makeCatch rfl hl.1 (Nat.le_of_ble_eq_true rfl) dX11_make_107) (c_X11_makeCatch hq6) (Nat.le_of_ble_eq_true rfl) (Nat.le_of_ble_eq_true rfl) (Nat.le_refl _) (Nat.le_refl _) (fun H locs hJ' => ?_)
            clear hJ
            have hJ := hJ'
            clear hJ'
            refine lv_goto (tgt := 152) hx hb dX11_make_110 (by decide) ?_
            refine lv_istore (lv' := [(7, .int x7), (0, .ref (ad 0)), (1, .int p1), (2, .int p2), (3, .int p3), (4, .int p4), (5, .long p5)]) hx hb dX11_make_152 hl (by decide) rfl (fun ls hl' => ?_)
            clear hl
            have hl := hl'
            clear hl'
            refine lv_iload hx hb dX11_make_154 (lv_at hl 0 rfl) ?_
            refine lv_if_eq (tgt := 162) hx hb dX11_make_156 (by decide) (fun c13 => ?_) (fun c13 => ?_)
            · replace hf := o_t hf c13
              refine lv_iconst (v := 0) hx hb dX11_make_162 (by decide) ?_
              refine lv_istore (lv' := [(8, .int 0), (7, .int x7), (0, .ref (ad 0)), (1, .int p1), (2, .int p2), (3, .int p3), (4, .int p4), (5, .long p5)]) hx hb dX11_make_163 hl (by decide) rfl (fun ls hl' => ?_)
              clear hl
              have hl := hl'
              clear hl'
              replace hl := lv_sub hl (l' := [(0, .ref (ad 0)), (1, .int p1), (8, .int 0)]) [2, 3, 0] rfl
              exact w_X11_make_b165 40 p1 0 S10 S' r H locs ls hX hJ hf hl
            · replace hf := o_f hf c13
              refine lv_iload hx hb dX11_make_159 (lv_at hl 0 rfl) ?_
              obtain ⟨rfl, rfl⟩ := Prod.mk.inj (Option.some.inj hf)
              exact jq_iret hX hJ.2 dX11_make_161 ⟨rfl, rfl, rfl, hJ.1⟩
        · replace hf := o_t hf c4
          refine lv_aload_n hx hb dX11_make_85 rfl (lv_at hl 0 rfl) ?_
          refine lv_iload_n hx hb dX11_make_86 rfl (lv_at hl 2 rfl) ?_
          refine lv_iload_n hx hb dX11_make_87 rfl (lv_at hl 3 rfl) ?_
          refine lv_iload hx hb dX11_make_88 (lv_at hl 4 rfl) ?_
          replace hf := o_call_e hf
          obtain ⟨x8, S11, hq7, hf⟩ := hf
          refine jq_doM hX hJ (jq_okV (As := [.int p2, .int p3, .int p4]) (rest := []) hx hb hm ho ht (mJ.recv hX hJ) qw887 qw889 qs82 qw890 qw7 hy_X11_makeGuard rfl hl.1 (Nat.le_of_ble_eq_true rfl) dX11_make_90) (c_X11_makeGuard hq7) (Nat.le_of_ble_eq_true rfl) (Nat.le_of_ble_eq_true rfl) (Nat.le_refl _) (Nat.le_refl _) (fun H locs hJ' => ?_)
          clear hJ
          have hJ := hJ'
          clear hJ'
          refine lv_goto (tgt := 152) hx hb dX11_make_93 (by decide) ?_
          refine lv_istore (lv' := [(7, .int x8), (0, .ref (ad 0)), (1, .int p1), (2, .int p2), (3, .int p3), (4, .int p4), (5, .long p5)]) hx hb dX11_make_152 hl (by decide) rfl (fun ls hl' => ?_)
          clear hl
          have hl := hl'
          clear hl'
          refine lv_iload hx hb dX11_make_154 (lv_at hl 0 rfl) ?_
          refine lv_if_eq (tgt := 162) hx hb dX11_make_156 (by decide) (fun c14 => ?_) (fun c14 => ?_)
          · replace hf := o_t hf c14
            refine lv_iconst (v := 0) hx hb dX11_make_162 (by decide) ?_
            refine lv_istore (lv' := [(8, .int 0), (7, .int x8), (0, .ref (ad 0)), (1, .int p1), (2, .int p2), (3, .int p3), (4, .int p4), (5, .long p5)]) hx hb dX11_make_163 hl (by decide) rfl (fun ls hl' => ?_)
            clear hl
            have hl := hl'
            clear hl'
            replace hl := lv_sub hl (l' := [(0, .ref (ad 0)), (1, .int p1), (8, .int 0)]) [2, 3, 0] rfl
            exact w_X11_make_b165 40 p1 0 S11 S' r H locs ls hX hJ hf hl
          · replace hf := o_f hf c14
            refine lv_iload hx hb dX11_make_159 (lv_at hl 0 rfl) ?_
            obtain ⟨rfl, rfl⟩ := Prod.mk.inj (Option.some.inj hf)
            exact jq_iret hX hJ.2 dX11_make_161 ⟨rfl, rfl, rfl, hJ.1⟩
      · replace hf := o_t hf c3
        refine lv_aload_n hx hb dX11_make_68 rfl (lv_at hl 0 rfl) ?_
        refine lv_iload_n hx hb dX11_make_69 rfl (lv_at hl 2 rfl) ?_
        refine lv_iload_n hx hb dX11_make_70 rfl (lv_at hl 3 rfl) ?_
        refine lv_iload hx hb dX11_make_71 (lv_at hl 4 rfl) ?_
        replace hf := o_call_e hf
        obtain ⟨x9, S12, hq8, hf⟩ := hf
        refine jq_doM hX hJ (jq_okV (As := [.int p2, .int p3, .int p4]) (rest := []) hx hb hm ho ht (mJ.recv hX hJ) qw875 qw877 qs79 qw878 qw7 hy_X11_makeFilter rfl hl.1 (Nat.le_of_ble_eq_true rfl) dX11_make_73) (c_X11_makeFilter hq8) (Nat.le_of_ble_eq_true rfl) (Nat.le_of_ble_eq_true rfl) (Nat.le_refl _) (Nat.le_refl _) (fun H locs hJ' => ?_)
        clear hJ
        have hJ := hJ'
        clear hJ'
        refine lv_goto (tgt := 152) hx hb dX11_make_76 (by decide) ?_
        refine lv_istore (lv' := [(7, .int x9), (0, .ref (ad 0)), (1, .int p1), (2, .int p2), (3, .int p3), (4, .int p4), (5, .long p5)]) hx hb dX11_make_152 hl (by decide) rfl (fun ls hl' => ?_)
        clear hl
        have hl := hl'
        clear hl'
        refine lv_iload hx hb dX11_make_154 (lv_at hl 0 rfl) ?_
        refine lv_if_eq (tgt := 162) hx hb dX11_make_156 (by decide) (fun c15 => ?_) (fun c15 => ?_)
        · replace hf := o_t hf c15
          refine lv_iconst (v := 0) hx hb dX11_make_162 (by decide) ?_
          refine lv_istore (lv' := [(8, .int 0), (7, .int x9), (0, .ref (ad 0)), (1, .int p1), (2, .int p2), (3, .int p3), (4, .int p4), (5, .long p5)]) hx hb dX11_make_163 hl (by decide) rfl (fun ls hl' => ?_)
          clear hl
          have hl := hl'
          clear hl'
          replace hl := lv_sub hl (l' := [(0, .ref (ad 0)), (1, .int p1), (8, .int 0)]) [2, 3, 0] rfl
          exact w_X11_make_b165 40 p1 0 S12 S' r H locs ls hX hJ hf hl
        · replace hf := o_f hf c15
          refine lv_iload hx hb dX11_make_159 (lv_at hl 0 rfl) ?_
          obtain ⟨rfl, rfl⟩ := Prod.mk.inj (Option.some.inj hf)
          exact jq_iret hX hJ.2 dX11_make_161 ⟨rfl, rfl, rfl, hJ.1⟩
    · replace hf := o_f hf c2
      refine lv_aload_n hx hb dX11_make_50 rfl (lv_at hl 0 rfl) ?_
      refine lv_iload_n hx hb dX11_make_51 rfl (lv_at hl 1 rfl) ?_
      refine lv_iload_n hx hb dX11_make_52 rfl (lv_at hl 2 rfl) ?_
      refine lv_iload_n hx hb dX11_make_53 rfl (lv_at hl 3 rfl) ?_
      refine lv_lload hx hb dX11_make_54 (lv_at hl 5 rfl) ?_
      replace hf := o_call_e hf
      obtain ⟨x10, S13, hq9, hf⟩ := hf
      refine jq_doM hX hJ (jq_okV (As := [.int p1, .int p2, .int p3, .long p5]) (rest := []) hx hb hm ho ht (mJ.recv hX hJ) qw854 qw856 qs75 qw857 qw7 hy_X11_makeFirst rfl hl.1 (Nat.le_of_ble_eq_true rfl) dX11_make_56) (c_X11_makeFirst hq9) (Nat.le_of_ble_eq_true rfl) (Nat.le_of_ble_eq_true rfl) (Nat.le_refl _) (Nat.le_refl _) (fun H locs hJ' => ?_)
      clear hJ
      have hJ := hJ'
      clear hJ'
      refine lv_goto (tgt := 152) hx hb dX11_make_59 (by decide) ?_
      refine lv_istore (lv' := [(7, .int x10), (0, .ref (ad 0)), (1, .int p1), (2, .int p2), (3, .int p3), (4, .int p4), (5, .long p5)]) hx hb dX11_make_152 hl (by decide) rfl (fun ls hl' => ?_)
      clear hl
      have hl := hl'
      clear hl'
      refine lv_iload hx hb dX11_make_154 (lv_at hl 0 rfl) ?_
      refine lv_if_eq (tgt := 162) hx hb dX11_make_156 (by decide) (fun c16 => ?_) (fun c16 => ?_)
      · replace hf := o_t hf c16
        refine lv_iconst (v := 0) hx hb dX11_make_162 (by decide) ?_
        refine lv_istore (lv' := [(8, .int 0), (7, .int x10), (0, .ref (ad 0)), (1, .int p1), (2, .int p2), (3, .int p3), (4, .int p4), (5, .long p5)]) hx hb dX11_make_163 hl (by decide) rfl (fun ls hl' => ?_)
        clear hl
        have hl := hl'
        clear hl'
        replace hl := lv_sub hl (l' := [(0, .ref (ad 0)), (1, .int p1), (8, .int 0)]) [2, 3, 0] rfl
        exact w_X11_make_b165 40 p1 0 S13 S' r H locs ls hX hJ hf hl
      · replace hf := o_f hf c16
        refine lv_iload hx hb dX11_make_159 (lv_at hl 0 rfl) ?_
        obtain ⟨rfl, rfl⟩ := Prod.mk.inj (Option.some.inj hf)
        exact jq_iret hX hJ.2 dX11_make_161 ⟨rfl, rfl, rfl, hJ.1⟩
  · replace hf := o_t hf c1
    refine lv_iconst (v := (-1)) hx hb dX11_make_12 (by decide) ?_
    obtain ⟨rfl, rfl⟩ := Prod.mk.inj (Option.some.inj hf)
    exact jq_iret hX hJ.2 dX11_make_13 ⟨rfl, rfl, rfl, hJ.1⟩
theorem dX11_told_0 : decode cX11_told 0 = .ok (.aload_n 0, 1) := by decide +kernel
theorem dX11_told_1 : decode cX11_told 1 = .ok (.iload_n 1, 1) := by decide +kernel
theorem dX11_told_2 : decode cX11_told 2 = .ok (.invokevirtual 200, 3) := by decide +kernel
theorem dX11_told_5 : decode cX11_told 5 = .ok (.ifCond .eq 21, 3) := by decide +kernel
theorem dX11_told_26 : decode cX11_told 26 = .ok (.iconst (-1), 1) := by decide +kernel
theorem dX11_told_27 : decode cX11_told 27 = .ok (.ireturn, 1) := by decide +kernel
theorem dX11_told_8 : decode cX11_told 8 = .ok (.iload_n 2, 1) := by decide +kernel
theorem dX11_told_9 : decode cX11_told 9 = .ok (.i2l, 1) := by decide +kernel
theorem dX11_told_10 : decode cX11_told 10 = .ok (.lconst 0, 1) := by decide +kernel
theorem dX11_told_11 : decode cX11_told 11 = .ok (.iconst 2, 1) := by decide +kernel
theorem dX11_told_12 : decode cX11_told 12 = .ok (.aload_n 0, 1) := by decide +kernel
theorem dX11_told_13 : decode cX11_told 13 = .ok (.getfield 45, 3) := by decide +kernel
theorem dX11_told_16 : decode cX11_told 16 = .ok (.iload_n 1, 1) := by decide +kernel
theorem dX11_told_17 : decode cX11_told 17 = .ok (.iaload, 1) := by decide +kernel
theorem dX11_told_18 : decode cX11_told 18 = .ok (.iadd, 1) := by decide +kernel
theorem dX11_told_19 : decode cX11_told 19 = .ok (.i2l, 1) := by decide +kernel
theorem dX11_told_20 : decode cX11_told 20 = .ok (.invokestatic 80, 3) := by decide +kernel
theorem dX11_told_23 : decode cX11_told 23 = .ok (.ifCond .ne 5, 3) := by decide +kernel
theorem dX11_told_28 : decode cX11_told 28 = .ok (.iload_n 2, 1) := by decide +kernel
theorem dX11_told_29 : decode cX11_told 29 = .ok (.ifCond .ne 12, 3) := by decide +kernel
theorem dX11_told_41 : decode cX11_told 41 = .ok (.iload_n 2, 1) := by decide +kernel
theorem dX11_told_42 : decode cX11_told 42 = .ok (.iconst 1, 1) := by decide +kernel
theorem dX11_told_43 : decode cX11_told 43 = .ok (.if_icmp .ne 12, 3) := by decide +kernel
theorem dX11_told_55 : decode cX11_told 55 = .ok (.iload_n 2, 1) := by decide +kernel
theorem dX11_told_56 : decode cX11_told 56 = .ok (.iconst 2, 1) := by decide +kernel
theorem dX11_told_57 : decode cX11_told 57 = .ok (.if_icmp .ne 12, 3) := by decide +kernel
theorem dX11_told_69 : decode cX11_told 69 = .ok (.aload_n 0, 1) := by decide +kernel
theorem dX11_told_70 : decode cX11_told 70 = .ok (.iload_n 1, 1) := by decide +kernel
theorem dX11_told_71 : decode cX11_told 71 = .ok (.iload_n 2, 1) := by decide +kernel
theorem dX11_told_72 : decode cX11_told 72 = .ok (.iconst 3, 1) := by decide +kernel
theorem dX11_told_73 : decode cX11_told 73 = .ok (.isub, 1) := by decide +kernel
theorem dX11_told_74 : decode cX11_told 74 = .ok (.invokevirtual 167, 3) := by decide +kernel
theorem dX11_told_77 : decode cX11_told 77 = .ok (.ireturn, 1) := by decide +kernel
theorem dX11_told_60 : decode cX11_told 60 = .ok (.aload_n 0, 1) := by decide +kernel
theorem dX11_told_61 : decode cX11_told 61 = .ok (.getfield 51, 3) := by decide +kernel
theorem dX11_told_64 : decode cX11_told 64 = .ok (.iload_n 1, 1) := by decide +kernel
theorem dX11_told_65 : decode cX11_told 65 = .ok (.iaload, 1) := by decide +kernel
theorem dX11_told_66 : decode cX11_told 66 = .ok (.goto 11, 3) := by decide +kernel
theorem dX11_told_46 : decode cX11_told 46 = .ok (.aload_n 0, 1) := by decide +kernel
theorem dX11_told_47 : decode cX11_told 47 = .ok (.getfield 45, 3) := by decide +kernel
theorem dX11_told_50 : decode cX11_told 50 = .ok (.iload_n 1, 1) := by decide +kernel
theorem dX11_told_51 : decode cX11_told 51 = .ok (.iaload, 1) := by decide +kernel
theorem dX11_told_52 : decode cX11_told 52 = .ok (.goto 25, 3) := by decide +kernel
theorem dX11_told_32 : decode cX11_told 32 = .ok (.aload_n 0, 1) := by decide +kernel
theorem dX11_told_33 : decode cX11_told 33 = .ok (.getfield 30, 3) := by decide +kernel
theorem dX11_told_36 : decode cX11_told 36 = .ok (.iload_n 1, 1) := by decide +kernel
theorem dX11_told_37 : decode cX11_told 37 = .ok (.iaload, 1) := by decide +kernel
theorem dX11_told_38 : decode cX11_told 38 = .ok (.goto 39, 3) := by decide +kernel
theorem hy_X11_told : yX11_told.cls ≠ "java/lang/invoke/MethodHandle" ∧ yX11_told.cls ≠ "java/lang/invoke/VarHandle" ∧ (parseMethodDescriptor yX11_told.desc).map (fun d => d.parameters.length) = some 2 := ⟨by decide, by decide, by decide +kernel⟩
def f_X11_told (p1 : Int32) (p2 : Int32) (S : mS) : Option ((Int32) × mS) :=
  o_call (f_X11_isHandle p1 S) fun x1 S1 =>
  if x1 = 0 then (
  some ((-1), S1)) else (
  o_ck (¬ (p1 < 0 ∨ 33 ≤ (p1).toNatClampNeg)) (o_let (m_aI S1 8 (p1).toNatClampNeg) fun x2 =>
  o_cP (f_X11_in ((p2).toInt64) 0 ((((2 : Int32) + x2)).toInt64)) fun x3 =>
  if x3 = 0 then (
  some ((-1), S1)) else (
  if p2 = 0 then (
  o_ck (¬ (p1 < 0 ∨ 32 ≤ (p1).toNatClampNeg)) (o_let (m_aI S1 4 (p1).toNatClampNeg) fun x7 =>
  some (x7, S1))) else (
  if p2 = 1 then (
  o_ck (¬ (p1 < 0 ∨ 33 ≤ (p1).toNatClampNeg)) (o_let (m_aI S1 8 (p1).toNatClampNeg) fun x6 =>
  some (x6, S1))) else (
  if p2 = 2 then (
  o_ck (¬ (p1 < 0 ∨ 33 ≤ (p1).toNatClampNeg)) (o_let (m_aI S1 10 (p1).toNatClampNeg) fun x5 =>
  some (x5, S1))) else (
  o_call (f_X11_kind p1 (p2 - (3 : Int32)) S1) fun x4 S2 =>
  some (x4, S2)))))))
set_option maxHeartbeats 4000000 in
set_option maxRecDepth 100000 in
theorem c_X11_told {l : Launch} {D : va_G} {Y : Nat → ClassId} {aR : Nat → Nat} {A : Nat → Prop} {ad : Nat → Nat} {p1 : Int32} {p2 : Int32} {S S' : mS} {r : Int32} (hf : f_X11_told p1 p2 S = some (r, S')) : jq_M l D Y aR A ad yX11_told cX11_told 3 (some .int) 2 46 [.ref (ad 0), .int p1, .int p2] S (some (.int r)) S' := by
  unfold f_X11_told at hf
  refine jq_enterM (by decide) (Nat.le_of_ble_eq_true rfl) fun p e s m args below meth c ls H locs hX hJ hl => ?_
  have hl : lv_has ls 3 [(0, .ref (ad 0)), (1, .int p1), (2, .int p2)] := hl
  have hx := hX.1
  have hb := hX.2.1
  have hm := hX.2.2.1
  have ho := hX.2.2.2.1
  have ht := hX.2.2.2.2.1
  have hn := hX.2.2.2.2.2.1.2.1
  refine lv_aload_n hx hb dX11_told_0 rfl (lv_at hl 0 rfl) ?_
  refine lv_iload_n hx hb dX11_told_1 rfl (lv_at hl 1 rfl) ?_
  replace hf := o_call_e hf
  obtain ⟨x1, S1, hq1, hf⟩ := hf
  refine jq_doM hX hJ (jq_okV (As := [.int p1]) (rest := []) hx hb hm ho ht (mJ.recv hX hJ) qw879 qw881 qs80 qw882 qw7 hy_X11_isHandle rfl hl.1 (Nat.le_of_ble_eq_true rfl) dX11_told_2) (c_X11_isHandle hq1) (Nat.le_of_ble_eq_true rfl) (Nat.le_of_ble_eq_true rfl) (Nat.le_refl _) (Nat.le_refl _) (fun H locs hJ' => ?_)
  clear hJ
  have hJ := hJ'
  clear hJ'
  refine lv_if_eq (tgt := 26) hx hb dX11_told_5 (by decide) (fun c1 => ?_) (fun c1 => ?_)
  · replace hf := o_t hf c1
    refine lv_iconst (v := (-1)) hx hb dX11_told_26 (by decide) ?_
    obtain ⟨rfl, rfl⟩ := Prod.mk.inj (Option.some.inj hf)
    exact jq_iret hX hJ.2 dX11_told_27 ⟨rfl, rfl, rfl, hJ.1⟩
  · replace hf := o_f hf c1
    refine lv_iload_n hx hb dX11_told_8 rfl (lv_at hl 2 rfl) ?_
    refine lv_i2l hx hb dX11_told_9 rfl ?_
    refine lv_lconst (v := 0) hx hb dX11_told_10 (by decide) ?_
    refine lv_iconst (v := 2) hx hb dX11_told_11 (by decide) ?_
    refine lv_aload_n hx hb dX11_told_12 rfl (lv_at hl 0 rfl) ?_
    refine mg_manyOf hX hJ qw703 dX11_told_13 ?_
    refine lv_iload_n hx hb dX11_told_16 rfl (lv_at hl 1 rfl) ?_
    replace hf := o_ck_e hf
    obtain ⟨hk1, hf⟩ := hf
    replace hf := o_let_e hf
    obtain ⟨x2, hx2, hf⟩ := hf
    refine ma_I 8 hX hJ (by decide) hk1 hx2 dX11_told_17 ?_
    refine lv_iadd hx hb dX11_told_18 ?_
    refine lv_i2l hx hb dX11_told_19 rfl ?_
    replace hf := o_cP_e hf
    obtain ⟨x3, hq2, hf⟩ := hf
    refine jq_doP hX hJ.2 (jq_okS (As := [.long ((p2).toInt64), .long 0, .long ((((2 : Int32) + x2)).toInt64)]) (rest := []) hx hb hm ho ht qw803 qw804 qw805 qw7 hy_X11_in rfl hl.1 (Nat.le_of_ble_eq_true rfl) dX11_told_20) (c_X11_in hq2) (Nat.le_of_ble_eq_true rfl) (Nat.le_of_ble_eq_true rfl) (Nat.le_refl _) (Nat.le_refl _) (fun locs hS9 => ?_)
    replace hJ := mJ.to hJ hS9
    refine lv_if_ne (tgt := 28) hx hb dX11_told_23 (by decide) (fun c2 => ?_) (fun c2 => ?_)
    · replace hf := o_f hf c2
      refine lv_iload_n hx hb dX11_told_28 rfl (lv_at hl 2 rfl) ?_
      refine lv_if_ne (tgt := 41) hx hb dX11_told_29 (by decide) (fun c3 => ?_) (fun c3 => ?_)
      · replace hf := o_f hf c3
        refine lv_iload_n hx hb dX11_told_41 rfl (lv_at hl 2 rfl) ?_
        refine lv_iconst (v := 1) hx hb dX11_told_42 (by decide) ?_
        refine lv_icmp_ne (tgt := 55) hx hb dX11_told_43 (by decide) (fun c4 => ?_) (fun c4 => ?_)
        · replace hf := o_f hf c4
          refine lv_iload_n hx hb dX11_told_55 rfl (lv_at hl 2 rfl) ?_
          refine lv_iconst (v := 2) hx hb dX11_told_56 (by decide) ?_
          refine lv_icmp_ne (tgt := 69) hx hb dX11_told_57 (by decide) (fun c5 => ?_) (fun c5 => ?_)
          · replace hf := o_f hf c5
            refine lv_aload_n hx hb dX11_told_69 rfl (lv_at hl 0 rfl) ?_
            refine lv_iload_n hx hb dX11_told_70 rfl (lv_at hl 1 rfl) ?_
            refine lv_iload_n hx hb dX11_told_71 rfl (lv_at hl 2 rfl) ?_
            refine lv_iconst (v := 3) hx hb dX11_told_72 (by decide) ?_
            refine lv_isub hx hb dX11_told_73 ?_
            replace hf := o_call_e hf
            obtain ⟨x4, S2, hq3, hf⟩ := hf
            refine jq_doM hX hJ (jq_okV (As := [.int p1, .int (p2 - (3 : Int32))]) (rest := []) hx hb hm ho ht (mJ.recv hX hJ) qw883 qw885 qs81 qw886 qw7 hy_X11_kind rfl hl.1 (Nat.le_of_ble_eq_true rfl) dX11_told_74) (c_X11_kind hq3) (Nat.le_of_ble_eq_true rfl) (Nat.le_of_ble_eq_true rfl) (Nat.le_refl _) (Nat.le_refl _) (fun H locs hJ' => ?_)
            clear hJ
            have hJ := hJ'
            clear hJ'
            obtain ⟨rfl, rfl⟩ := Prod.mk.inj (Option.some.inj hf)
            exact jq_iret hX hJ.2 dX11_told_77 ⟨rfl, rfl, rfl, hJ.1⟩
          · replace hf := o_t hf c5
            refine lv_aload_n hx hb dX11_told_60 rfl (lv_at hl 0 rfl) ?_
            refine mg_resultOf hX hJ qw705 dX11_told_61 ?_
            refine lv_iload_n hx hb dX11_told_64 rfl (lv_at hl 1 rfl) ?_
            replace hf := o_ck_e hf
            obtain ⟨hk2, hf⟩ := hf
            replace hf := o_let_e hf
            obtain ⟨x5, hx5, hf⟩ := hf
            refine ma_I 10 hX hJ (by decide) hk2 hx5 dX11_told_65 ?_
            refine lv_goto (tgt := 77) hx hb dX11_told_66 (by decide) ?_
            obtain ⟨rfl, rfl⟩ := Prod.mk.inj (Option.some.inj hf)
            exact jq_iret hX hJ.2 dX11_told_77 ⟨rfl, rfl, rfl, hJ.1⟩
        · replace hf := o_t hf c4
          refine lv_aload_n hx hb dX11_told_46 rfl (lv_at hl 0 rfl) ?_
          refine mg_manyOf hX hJ qw703 dX11_told_47 ?_
          refine lv_iload_n hx hb dX11_told_50 rfl (lv_at hl 1 rfl) ?_
          replace hf := o_ck_e hf
          obtain ⟨hk3, hf⟩ := hf
          replace hf := o_let_e hf
          obtain ⟨x6, hx6, hf⟩ := hf
          refine ma_I 8 hX hJ (by decide) hk3 hx6 dX11_told_51 ?_
          refine lv_goto (tgt := 77) hx hb dX11_told_52 (by decide) ?_
          obtain ⟨rfl, rfl⟩ := Prod.mk.inj (Option.some.inj hf)
          exact jq_iret hX hJ.2 dX11_told_77 ⟨rfl, rfl, rfl, hJ.1⟩
      · replace hf := o_t hf c3
        refine lv_aload_n hx hb dX11_told_32 rfl (lv_at hl 0 rfl) ?_
        refine mg_sortOf hX hJ qw698 dX11_told_33 ?_
        refine lv_iload_n hx hb dX11_told_36 rfl (lv_at hl 1 rfl) ?_
        replace hf := o_ck_e hf
        obtain ⟨hk4, hf⟩ := hf
        replace hf := o_let_e hf
        obtain ⟨x7, hx7, hf⟩ := hf
        refine ma_I 4 hX hJ (by decide) hk4 hx7 dX11_told_37 ?_
        refine lv_goto (tgt := 77) hx hb dX11_told_38 (by decide) ?_
        obtain ⟨rfl, rfl⟩ := Prod.mk.inj (Option.some.inj hf)
        exact jq_iret hX hJ.2 dX11_told_77 ⟨rfl, rfl, rfl, hJ.1⟩
    · replace hf := o_t hf c2
      refine lv_iconst (v := (-1)) hx hb dX11_told_26 (by decide) ?_
      obtain ⟨rfl, rfl⟩ := Prod.mk.inj (Option.some.inj hf)
      exact jq_iret hX hJ.2 dX11_told_27 ⟨rfl, rfl, rfl, hJ.1⟩
theorem dX11_isHand_0 : decode cX11_isHand 0 = .ok (.aload_n 0, 1) := by decide +kernel
theorem dX11_isHand_1 : decode cX11_isHand 1 = .ok (.getfield 159, 3) := by decide +kernel
theorem dX11_isHand_4 : decode cX11_isHand 4 = .ok (.aload_n 0, 1) := by decide +kernel
theorem dX11_isHand_5 : decode cX11_isHand 5 = .ok (.getfield 45, 3) := by decide +kernel
theorem dX11_isHand_8 : decode cX11_isHand 8 = .ok (.iload_n 1, 1) := by decide +kernel
theorem dX11_isHand_9 : decode cX11_isHand 9 = .ok (.iaload, 1) := by decide +kernel
theorem dX11_isHand_10 : decode cX11_isHand 10 = .ok (.if_icmp .ne 20, 3) := by decide +kernel
theorem dX11_isHand_30 : decode cX11_isHand 30 = .ok (.iconst 0, 1) := by decide +kernel
theorem dX11_isHand_31 : decode cX11_isHand 31 = .ok (.istore_n 2, 1) := by decide +kernel
theorem dX11_isHand_32 : decode cX11_isHand 32 = .ok (.iconst 0, 1) := by decide +kernel
theorem dX11_isHand_33 : decode cX11_isHand 33 = .ok (.istore_n 3, 1) := by decide +kernel
theorem dX11_isHand_13 : decode cX11_isHand 13 = .ok (.aload_n 0, 1) := by decide +kernel
theorem dX11_isHand_14 : decode cX11_isHand 14 = .ok (.getfield 51, 3) := by decide +kernel
theorem dX11_isHand_17 : decode cX11_isHand 17 = .ok (.iload_n 1, 1) := by decide +kernel
theorem dX11_isHand_18 : decode cX11_isHand 18 = .ok (.iaload, 1) := by decide +kernel
theorem dX11_isHand_19 : decode cX11_isHand 19 = .ok (.aload_n 0, 1) := by decide +kernel
theorem dX11_isHand_20 : decode cX11_isHand 20 = .ok (.getfield 20, 3) := by decide +kernel
theorem dX11_isHand_23 : decode cX11_isHand 23 = .ok (.if_icmp .ne 7, 3) := by decide +kernel
theorem dX11_isHand_26 : decode cX11_isHand 26 = .ok (.iconst 1, 1) := by decide +kernel
theorem dX11_isHand_27 : decode cX11_isHand 27 = .ok (.goto 4, 3) := by decide +kernel
theorem dX11_isHand_34 : decode cX11_isHand 34 = .ok (.iload_n 3, 1) := by decide +kernel
theorem dX11_isHand_35 : decode cX11_isHand 35 = .ok (.aload_n 0, 1) := by decide +kernel
theorem dX11_isHand_36 : decode cX11_isHand 36 = .ok (.getfield 159, 3) := by decide +kernel
theorem dX11_isHand_39 : decode cX11_isHand 39 = .ok (.if_icmp .ge 34, 3) := by decide +kernel
theorem dX11_isHand_73 : decode cX11_isHand 73 = .ok (.iload_n 2, 1) := by decide +kernel
theorem dX11_isHand_74 : decode cX11_isHand 74 = .ok (.ireturn, 1) := by decide +kernel
theorem dX11_isHand_42 : decode cX11_isHand 42 = .ok (.iload_n 2, 1) := by decide +kernel
theorem dX11_isHand_43 : decode cX11_isHand 43 = .ok (.ifCond .eq 30, 3) := by decide +kernel
theorem dX11_isHand_46 : decode cX11_isHand 46 = .ok (.aload_n 0, 1) := by decide +kernel
theorem dX11_isHand_47 : decode cX11_isHand 47 = .ok (.getfield 24, 3) := by decide +kernel
theorem dX11_isHand_50 : decode cX11_isHand 50 = .ok (.iload_n 3, 1) := by decide +kernel
theorem dX11_isHand_51 : decode cX11_isHand 51 = .ok (.iaload, 1) := by decide +kernel
theorem dX11_isHand_52 : decode cX11_isHand 52 = .ok (.aload_n 0, 1) := by decide +kernel
theorem dX11_isHand_53 : decode cX11_isHand 53 = .ok (.iload_n 1, 1) := by decide +kernel
theorem dX11_isHand_54 : decode cX11_isHand 54 = .ok (.iload_n 3, 1) := by decide +kernel
theorem dX11_isHand_55 : decode cX11_isHand 55 = .ok (.invokevirtual 167, 3) := by decide +kernel
theorem dX11_isHand_58 : decode cX11_isHand 58 = .ok (.if_icmp .ne 7, 3) := by decide +kernel
theorem dX11_isHand_65 : decode cX11_isHand 65 = .ok (.iconst 0, 1) := by decide +kernel
theorem dX11_isHand_66 : decode cX11_isHand 66 = .ok (.istore_n 2, 1) := by decide +kernel
theorem dX11_isHand_67 : decode cX11_isHand 67 = .ok (.iinc 3 1, 3) := by decide +kernel
theorem dX11_isHand_70 : decode cX11_isHand 70 = .ok (.goto (-36), 3) := by decide +kernel
theorem dX11_isHand_61 : decode cX11_isHand 61 = .ok (.iconst 1, 1) := by decide +kernel
theorem dX11_isHand_62 : decode cX11_isHand 62 = .ok (.goto 4, 3) := by decide +kernel
theorem hy_X11_isHand : yX11_isHand.cls ≠ "java/lang/invoke/MethodHandle" ∧ yX11_isHand.cls ≠ "java/lang/invoke/VarHandle" ∧ (parseMethodDescriptor yX11_isHand.desc).map (fun d => d.parameters.length) = some 1 := ⟨by decide, by decide, by decide +kernel⟩
def f_X11_isHand_b34 : Nat → Int32 → Int32 → Int32 → mS → Option ((Int32) × mS)
  | 0, _, _, _, _ => none
  | n + 1, l1, l2, l3, S => 
  o_let (m_I S 2) fun x1 =>
  if x1 ≤ l3 then (
  o_ck (l2 = 0 ∨ l2 = 1) (some (l2, S))) else (
  if l2 = 0 then (
  o_ck (l2 = 0 ∨ l2 = 1) (some (l2, S))) else (
  o_ck (¬ (l3 < 0 ∨ 4 ≤ (l3).toNatClampNeg)) (o_let (m_aI S 3 (l3).toNatClampNeg) fun x2 =>
  o_call (f_X11_kind l1 l3 S) fun x3 S1 =>
  if x2 = x3 then (
  o_let (l3 + 1) fun x5 =>
  f_X11_isHand_b34 n l1 1 x5 S1) else (
  o_let (l3 + 1) fun x4 =>
  f_X11_isHand_b34 n l1 0 x4 S1))))
set_option maxHeartbeats 4000000 in
set_option maxRecDepth 100000 in
theorem w_X11_isHand_b34 {l : Launch} {D : va_G} {Y : Nat → ClassId} {aR : Nat → Nat} {A : Nat → Prop} {ad : Nat → Nat} {p : Program} {e : Env} {s : State} {m : MethodId} {args : Array Value} {below : List Frame} {meth : Method} {c : Code} : ∀ (n : Nat) (l1 : Int32) (l2 : Int32) (l3 : Int32) (S S' : mS) (r : Int32) (H : Heap) (locs : List Loc) (ls : Array Slot), jq_X D Y aR A p s m args meth c cX11_isHand RX11 "isHand" 4 (some .boolean) → mJ D Y A s ad S H locs → f_X11_isHand_b34 n l1 l2 l3 S = some (r, S') → lv_has ls 4 [(0, .ref (ad 0)), (1, .int l1), (2, .int l2), (3, .int l3)] → W p l e { frames := 1, cells := 0, slots := 0, locals := 22 } s m args below meth c H locs 0 0 (jq_Z below A (fun v k n H => v = (some (.int r)) ∧ k = 0 ∧ n = 0 ∧ mH D Y A ad S' H) s) (F0 m 34 ls []) := by
  intro n
  induction n with
  | zero =>
    intro l1 l2 l3 S S' r H locs ls hX hJ hf hl
    cases hf
  | succ n ih =>
    intro l1 l2 l3 S S' r H locs ls hX hJ hf hl
    rw [f_X11_isHand_b34.eq_2] at hf
    have hx := hX.1
    have hb := hX.2.1
    have hm := hX.2.2.1
    have ho := hX.2.2.2.1
    have ht := hX.2.2.2.2.1
    have hn := hX.2.2.2.2.2.1.2.1
    refine lv_iload_n hx hb dX11_isHand_34 rfl (lv_at hl 3 rfl) ?_
    refine lv_aload_n hx hb dX11_isHand_35 rfl (lv_at hl 0 rfl) ?_
    replace hf := o_let_e hf
    obtain ⟨x1, hx1, hf⟩ := hf
    refine mg_handMany hX hJ hx1 qw694 dX11_isHand_36 ?_
    refine lv_icmp_ge (tgt := 73) hx hb dX11_isHand_39 (by decide) (fun c1 => ?_) (fun c1 => ?_)
    · replace hf := o_t hf c1
      refine lv_iload_n hx hb dX11_isHand_73 rfl (lv_at hl 2 rfl) ?_
      replace hf := o_ck_e hf
      obtain ⟨hc1, hf⟩ := hf
      obtain ⟨rfl, rfl⟩ := Prod.mk.inj (Option.some.inj hf)
      exact jq_zret hX hJ.2 (qz_b hc1) dX11_isHand_74 ⟨rfl, rfl, rfl, hJ.1⟩
    · replace hf := o_f hf c1
      refine lv_iload_n hx hb dX11_isHand_42 rfl (lv_at hl 2 rfl) ?_
      refine lv_if_eq (tgt := 73) hx hb dX11_isHand_43 (by decide) (fun c2 => ?_) (fun c2 => ?_)
      · replace hf := o_t hf c2
        refine lv_iload_n hx hb dX11_isHand_73 rfl (lv_at hl 2 rfl) ?_
        replace hf := o_ck_e hf
        obtain ⟨hc2, hf⟩ := hf
        obtain ⟨rfl, rfl⟩ := Prod.mk.inj (Option.some.inj hf)
        exact jq_zret hX hJ.2 (qz_b hc2) dX11_isHand_74 ⟨rfl, rfl, rfl, hJ.1⟩
      · replace hf := o_f hf c2
        refine lv_aload_n hx hb dX11_isHand_46 rfl (lv_at hl 0 rfl) ?_
        refine mg_handKind hX hJ qw695 dX11_isHand_47 ?_
        refine lv_iload_n hx hb dX11_isHand_50 rfl (lv_at hl 3 rfl) ?_
        replace hf := o_ck_e hf
        obtain ⟨hk1, hf⟩ := hf
        replace hf := o_let_e hf
        obtain ⟨x2, hx2, hf⟩ := hf
        refine ma_I 3 hX hJ (by decide) hk1 hx2 dX11_isHand_51 ?_
        refine lv_aload_n hx hb dX11_isHand_52 rfl (lv_at hl 0 rfl) ?_
        refine lv_iload_n hx hb dX11_isHand_53 rfl (lv_at hl 1 rfl) ?_
        refine lv_iload_n hx hb dX11_isHand_54 rfl (lv_at hl 3 rfl) ?_
        replace hf := o_call_e hf
        obtain ⟨x3, S1, hq1, hf⟩ := hf
        refine jq_doM hX hJ (jq_okV (As := [.int l1, .int l3]) (rest := [.int x2]) hx hb hm ho ht (mJ.recv hX hJ) qw883 qw885 qs81 qw886 qw7 hy_X11_kind rfl hl.1 (Nat.le_of_ble_eq_true rfl) dX11_isHand_55) (c_X11_kind hq1) (Nat.le_of_ble_eq_true rfl) (Nat.le_of_ble_eq_true rfl) (Nat.le_refl _) (Nat.le_refl _) (fun H locs hJ' => ?_)
        clear hJ
        have hJ := hJ'
        clear hJ'
        refine lv_icmp_ne (tgt := 65) hx hb dX11_isHand_58 (by decide) (fun c3 => ?_) (fun c3 => ?_)
        · replace hf := o_f hf c3
          refine lv_iconst (v := 0) hx hb dX11_isHand_65 (by decide) ?_
          refine lv_istore_n (lv' := [(2, .int 0), (0, .ref (ad 0)), (1, .int l1), (3, .int l3)]) hx hb dX11_isHand_66 rfl hl (by decide) rfl (fun ls hl' => ?_)
          clear hl
          have hl := hl'
          clear hl'
          replace hf := o_let_e hf
          obtain ⟨x4, hx4, hf⟩ := hf
          refine lv_iinc (v := x4) (lv' := [(3, .int x4), (2, .int 0), (0, .ref (ad 0)), (1, .int l1)]) hx hb dX11_isHand_67 hl (k := 3) rfl (by rw [← hx4]; rfl) (by decide) rfl (fun ls hl' => ?_)
          clear hl
          have hl := hl'
          clear hl'
          refine lv_goto (tgt := 34) hx hb dX11_isHand_70 (by decide) ?_
          replace hl := lv_sub hl (l' := [(0, .ref (ad 0)), (1, .int l1), (2, .int 0), (3, .int x4)]) [2, 3, 1, 0] rfl
          exact ih l1 0 x4 S1 S' r H locs ls hX hJ hf hl
        · replace hf := o_t hf c3
          refine lv_iconst (v := 1) hx hb dX11_isHand_61 (by decide) ?_
          refine lv_goto (tgt := 66) hx hb dX11_isHand_62 (by decide) ?_
          refine lv_istore_n (lv' := [(2, .int 1), (0, .ref (ad 0)), (1, .int l1), (3, .int l3)]) hx hb dX11_isHand_66 rfl hl (by decide) rfl (fun ls hl' => ?_)
          clear hl
          have hl := hl'
          clear hl'
          replace hf := o_let_e hf
          obtain ⟨x5, hx5, hf⟩ := hf
          refine lv_iinc (v := x5) (lv' := [(3, .int x5), (2, .int 1), (0, .ref (ad 0)), (1, .int l1)]) hx hb dX11_isHand_67 hl (k := 3) rfl (by rw [← hx5]; rfl) (by decide) rfl (fun ls hl' => ?_)
          clear hl
          have hl := hl'
          clear hl'
          refine lv_goto (tgt := 34) hx hb dX11_isHand_70 (by decide) ?_
          replace hl := lv_sub hl (l' := [(0, .ref (ad 0)), (1, .int l1), (2, .int 1), (3, .int x5)]) [2, 3, 1, 0] rfl
          exact ih l1 1 x5 S1 S' r H locs ls hX hJ hf hl
def f_X11_isHand (p1 : Int32) (S : mS) : Option ((Int32) × mS) :=
  o_let (m_I S 2) fun x1 =>
  o_ck (¬ (p1 < 0 ∨ 33 ≤ (p1).toNatClampNeg)) (o_let (m_aI S 8 (p1).toNatClampNeg) fun x2 =>
  if x1 = x2 then (
  o_ck (¬ (p1 < 0 ∨ 33 ≤ (p1).toNatClampNeg)) (o_let (m_aI S 10 (p1).toNatClampNeg) fun x3 =>
  o_let (m_I S 1) fun x4 =>
  if x3 = x4 then (
  f_X11_isHand_b34 12 p1 1 0 S) else (
  f_X11_isHand_b34 12 p1 0 0 S))) else (
  f_X11_isHand_b34 12 p1 0 0 S))
set_option maxHeartbeats 4000000 in
set_option maxRecDepth 100000 in
theorem c_X11_isHand {l : Launch} {D : va_G} {Y : Nat → ClassId} {aR : Nat → Nat} {A : Nat → Prop} {ad : Nat → Nat} {p1 : Int32} {S S' : mS} {r : Int32} (hf : f_X11_isHand p1 S = some (r, S')) : jq_M l D Y aR A ad yX11_isHand cX11_isHand 4 (some .boolean) 1 22 [.ref (ad 0), .int p1] S (some (.int r)) S' := by
  unfold f_X11_isHand at hf
  refine jq_enterM (by decide) (Nat.le_of_ble_eq_true rfl) fun p e s m args below meth c ls H locs hX hJ hl => ?_
  have hl : lv_has ls 4 [(0, .ref (ad 0)), (1, .int p1)] := hl
  have hx := hX.1
  have hb := hX.2.1
  have hm := hX.2.2.1
  have ho := hX.2.2.2.1
  have ht := hX.2.2.2.2.1
  have hn := hX.2.2.2.2.2.1.2.1
  refine lv_aload_n hx hb dX11_isHand_0 rfl (lv_at hl 0 rfl) ?_
  replace hf := o_let_e hf
  obtain ⟨x1, hx1, hf⟩ := hf
  refine mg_handMany hX hJ hx1 qw694 dX11_isHand_1 ?_
  refine lv_aload_n hx hb dX11_isHand_4 rfl (lv_at hl 0 rfl) ?_
  refine mg_manyOf hX hJ qw703 dX11_isHand_5 ?_
  refine lv_iload_n hx hb dX11_isHand_8 rfl (lv_at hl 1 rfl) ?_
  replace hf := o_ck_e hf
  obtain ⟨hk1, hf⟩ := hf
  replace hf := o_let_e hf
  obtain ⟨x2, hx2, hf⟩ := hf
  refine ma_I 8 hX hJ (by decide) hk1 hx2 dX11_isHand_9 ?_
  refine lv_icmp_ne (tgt := 30) hx hb dX11_isHand_10 (by decide) (fun c1 => ?_) (fun c1 => ?_)
  · replace hf := o_f hf c1
    refine lv_iconst (v := 0) hx hb dX11_isHand_30 (by decide) ?_
    refine lv_istore_n (lv' := [(2, .int 0), (0, .ref (ad 0)), (1, .int p1)]) hx hb dX11_isHand_31 rfl hl (by decide) rfl (fun ls hl' => ?_)
    clear hl
    have hl := hl'
    clear hl'
    refine lv_iconst (v := 0) hx hb dX11_isHand_32 (by decide) ?_
    refine lv_istore_n (lv' := [(3, .int 0), (2, .int 0), (0, .ref (ad 0)), (1, .int p1)]) hx hb dX11_isHand_33 rfl hl (by decide) rfl (fun ls hl' => ?_)
    clear hl
    have hl := hl'
    clear hl'
    replace hl := lv_sub hl (l' := [(0, .ref (ad 0)), (1, .int p1), (2, .int 0), (3, .int 0)]) [2, 3, 1, 0] rfl
    exact w_X11_isHand_b34 12 p1 0 0 S S' r H locs ls hX hJ hf hl
  · replace hf := o_t hf c1
    refine lv_aload_n hx hb dX11_isHand_13 rfl (lv_at hl 0 rfl) ?_
    refine mg_resultOf hX hJ qw705 dX11_isHand_14 ?_
    refine lv_iload_n hx hb dX11_isHand_17 rfl (lv_at hl 1 rfl) ?_
    replace hf := o_ck_e hf
    obtain ⟨hk2, hf⟩ := hf
    replace hf := o_let_e hf
    obtain ⟨x3, hx3, hf⟩ := hf
    refine ma_I 10 hX hJ (by decide) hk2 hx3 dX11_isHand_18 ?_
    refine lv_aload_n hx hb dX11_isHand_19 rfl (lv_at hl 0 rfl) ?_
    replace hf := o_let_e hf
    obtain ⟨x4, hx4, hf⟩ := hf
    refine mg_handResult hX hJ hx4 qw693 dX11_isHand_20 ?_
    refine lv_icmp_ne (tgt := 30) hx hb dX11_isHand_23 (by decide) (fun c2 => ?_) (fun c2 => ?_)
    · replace hf := o_f hf c2
      refine lv_iconst (v := 0) hx hb dX11_isHand_30 (by decide) ?_
      refine lv_istore_n (lv' := [(2, .int 0), (0, .ref (ad 0)), (1, .int p1)]) hx hb dX11_isHand_31 rfl hl (by decide) rfl (fun ls hl' => ?_)
      clear hl
      have hl := hl'
      clear hl'
      refine lv_iconst (v := 0) hx hb dX11_isHand_32 (by decide) ?_
      refine lv_istore_n (lv' := [(3, .int 0), (2, .int 0), (0, .ref (ad 0)), (1, .int p1)]) hx hb dX11_isHand_33 rfl hl (by decide) rfl (fun ls hl' => ?_)
      clear hl
      have hl := hl'
      clear hl'
      replace hl := lv_sub hl (l' := [(0, .ref (ad 0)), (1, .int p1), (2, .int 0), (3, .int 0)]) [2, 3, 1, 0] rfl
      exact w_X11_isHand_b34 12 p1 0 0 S S' r H locs ls hX hJ hf hl
    · replace hf := o_t hf c2
      refine lv_iconst (v := 1) hx hb dX11_isHand_26 (by decide) ?_
      refine lv_goto (tgt := 31) hx hb dX11_isHand_27 (by decide) ?_
      refine lv_istore_n (lv' := [(2, .int 1), (0, .ref (ad 0)), (1, .int p1)]) hx hb dX11_isHand_31 rfl hl (by decide) rfl (fun ls hl' => ?_)
      clear hl
      have hl := hl'
      clear hl'
      refine lv_iconst (v := 0) hx hb dX11_isHand_32 (by decide) ?_
      refine lv_istore_n (lv' := [(3, .int 0), (2, .int 1), (0, .ref (ad 0)), (1, .int p1)]) hx hb dX11_isHand_33 rfl hl (by decide) rfl (fun ls hl' => ?_)
      clear hl
      have hl := hl'
      clear hl'
      replace hl := lv_sub hl (l' := [(0, .ref (ad 0)), (1, .int p1), (2, .int 1), (3, .int 0)]) [2, 3, 1, 0] rfl
      exact w_X11_isHand_b34 12 p1 1 0 S S' r H locs ls hX hJ hf hl
theorem dX11_fits_0 : decode cX11_fits 0 = .ok (.aload_n 0, 1) := by decide +kernel
theorem dX11_fits_1 : decode cX11_fits 1 = .ok (.iload_n 1, 1) := by decide +kernel
theorem dX11_fits_2 : decode cX11_fits 2 = .ok (.invokevirtual 200, 3) := by decide +kernel
theorem dX11_fits_5 : decode cX11_fits 5 = .ok (.ifCond .ne 7, 3) := by decide +kernel
theorem dX11_fits_12 : decode cX11_fits 12 = .ok (.aload_n 0, 1) := by decide +kernel
theorem dX11_fits_13 : decode cX11_fits 13 = .ok (.iload_n 1, 1) := by decide +kernel
theorem dX11_fits_14 : decode cX11_fits 14 = .ok (.invokevirtual 252, 3) := by decide +kernel
theorem dX11_fits_17 : decode cX11_fits 17 = .ok (.ifCond .eq 7, 3) := by decide +kernel
theorem dX11_fits_24 : decode cX11_fits 24 = .ok (.aload_n 0, 1) := by decide +kernel
theorem dX11_fits_25 : decode cX11_fits 25 = .ok (.iload_n 1, 1) := by decide +kernel
theorem dX11_fits_26 : decode cX11_fits 26 = .ok (.invokevirtual 210, 3) := by decide +kernel
theorem dX11_fits_29 : decode cX11_fits 29 = .ok (.ifCond .eq 7, 3) := by decide +kernel
theorem dX11_fits_36 : decode cX11_fits 36 = .ok (.iconst 0, 1) := by decide +kernel
theorem dX11_fits_37 : decode cX11_fits 37 = .ok (.ireturn, 1) := by decide +kernel
theorem dX11_fits_32 : decode cX11_fits 32 = .ok (.iconst 1, 1) := by decide +kernel
theorem dX11_fits_33 : decode cX11_fits 33 = .ok (.goto 4, 3) := by decide +kernel
theorem dX11_fits_20 : decode cX11_fits 20 = .ok (.iconst 2, 1) := by decide +kernel
theorem dX11_fits_21 : decode cX11_fits 21 = .ok (.goto 16, 3) := by decide +kernel
theorem dX11_fits_8 : decode cX11_fits 8 = .ok (.iconst (-1), 1) := by decide +kernel
theorem dX11_fits_9 : decode cX11_fits 9 = .ok (.goto 28, 3) := by decide +kernel
theorem hy_X11_fits : yX11_fits.cls ≠ "java/lang/invoke/MethodHandle" ∧ yX11_fits.cls ≠ "java/lang/invoke/VarHandle" ∧ (parseMethodDescriptor yX11_fits.desc).map (fun d => d.parameters.length) = some 1 := ⟨by decide, by decide, by decide +kernel⟩
def f_X11_fits (p1 : Int32) (S : mS) : Option ((Int32) × mS) :=
  o_call (f_X11_isHandle p1 S) fun x1 S1 =>
  if x1 = 0 then (
  some ((-1), S1)) else (
  o_call (f_X11_isHand p1 S1) fun x2 S2 =>
  if x2 = 0 then (
  o_call (f_X11_handGoes p1 S2) fun x3 S3 =>
  if x3 = 0 then (
  some (0, S3)) else (
  some (1, S3))) else (
  some (2, S2)))
set_option maxHeartbeats 4000000 in
set_option maxRecDepth 100000 in
theorem c_X11_fits {l : Launch} {D : va_G} {Y : Nat → ClassId} {aR : Nat → Nat} {A : Nat → Prop} {ad : Nat → Nat} {p1 : Int32} {S S' : mS} {r : Int32} (hf : f_X11_fits p1 S = some (r, S')) : jq_M l D Y aR A ad yX11_fits cX11_fits 2 (some .int) 3 69 [.ref (ad 0), .int p1] S (some (.int r)) S' := by
  unfold f_X11_fits at hf
  refine jq_enterM (by decide) (Nat.le_of_ble_eq_true rfl) fun p e s m args below meth c ls H locs hX hJ hl => ?_
  have hl : lv_has ls 2 [(0, .ref (ad 0)), (1, .int p1)] := hl
  have hx := hX.1
  have hb := hX.2.1
  have hm := hX.2.2.1
  have ho := hX.2.2.2.1
  have ht := hX.2.2.2.2.1
  have hn := hX.2.2.2.2.2.1.2.1
  refine lv_aload_n hx hb dX11_fits_0 rfl (lv_at hl 0 rfl) ?_
  refine lv_iload_n hx hb dX11_fits_1 rfl (lv_at hl 1 rfl) ?_
  replace hf := o_call_e hf
  obtain ⟨x1, S1, hq1, hf⟩ := hf
  refine jq_doM hX hJ (jq_okV (As := [.int p1]) (rest := []) hx hb hm ho ht (mJ.recv hX hJ) qw879 qw881 qs80 qw882 qw7 hy_X11_isHandle rfl hl.1 (Nat.le_of_ble_eq_true rfl) dX11_fits_2) (c_X11_isHandle hq1) (Nat.le_of_ble_eq_true rfl) (Nat.le_of_ble_eq_true rfl) (Nat.le_refl _) (Nat.le_refl _) (fun H locs hJ' => ?_)
  clear hJ
  have hJ := hJ'
  clear hJ'
  refine lv_if_ne (tgt := 12) hx hb dX11_fits_5 (by decide) (fun c1 => ?_) (fun c1 => ?_)
  · replace hf := o_f hf c1
    refine lv_aload_n hx hb dX11_fits_12 rfl (lv_at hl 0 rfl) ?_
    refine lv_iload_n hx hb dX11_fits_13 rfl (lv_at hl 1 rfl) ?_
    replace hf := o_call_e hf
    obtain ⟨x2, S2, hq2, hf⟩ := hf
    refine jq_doM hX hJ (jq_okV (As := [.int p1]) (rest := []) hx hb hm ho ht (mJ.recv hX hJ) qw937 qw939 qs91 qw940 qw7 hy_X11_isHand rfl hl.1 (Nat.le_of_ble_eq_true rfl) dX11_fits_14) (c_X11_isHand hq2) (Nat.le_of_ble_eq_true rfl) (Nat.le_of_ble_eq_true rfl) (Nat.le_refl _) (Nat.le_refl _) (fun H locs hJ' => ?_)
    clear hJ
    have hJ := hJ'
    clear hJ'
    refine lv_if_eq (tgt := 24) hx hb dX11_fits_17 (by decide) (fun c2 => ?_) (fun c2 => ?_)
    · replace hf := o_t hf c2
      refine lv_aload_n hx hb dX11_fits_24 rfl (lv_at hl 0 rfl) ?_
      refine lv_iload_n hx hb dX11_fits_25 rfl (lv_at hl 1 rfl) ?_
      replace hf := o_call_e hf
      obtain ⟨x3, S3, hq3, hf⟩ := hf
      refine jq_doM hX hJ (jq_okV (As := [.int p1]) (rest := []) hx hb hm ho ht (mJ.recv hX hJ) qw918 qw920 qs89 qw921 qw7 hy_X11_handGoes rfl hl.1 (Nat.le_of_ble_eq_true rfl) dX11_fits_26) (c_X11_handGoes hq3) (Nat.le_of_ble_eq_true rfl) (Nat.le_of_ble_eq_true rfl) (Nat.le_refl _) (Nat.le_refl _) (fun H locs hJ' => ?_)
      clear hJ
      have hJ := hJ'
      clear hJ'
      refine lv_if_eq (tgt := 36) hx hb dX11_fits_29 (by decide) (fun c3 => ?_) (fun c3 => ?_)
      · replace hf := o_t hf c3
        refine lv_iconst (v := 0) hx hb dX11_fits_36 (by decide) ?_
        obtain ⟨rfl, rfl⟩ := Prod.mk.inj (Option.some.inj hf)
        exact jq_iret hX hJ.2 dX11_fits_37 ⟨rfl, rfl, rfl, hJ.1⟩
      · replace hf := o_f hf c3
        refine lv_iconst (v := 1) hx hb dX11_fits_32 (by decide) ?_
        refine lv_goto (tgt := 37) hx hb dX11_fits_33 (by decide) ?_
        obtain ⟨rfl, rfl⟩ := Prod.mk.inj (Option.some.inj hf)
        exact jq_iret hX hJ.2 dX11_fits_37 ⟨rfl, rfl, rfl, hJ.1⟩
    · replace hf := o_f hf c2
      refine lv_iconst (v := 2) hx hb dX11_fits_20 (by decide) ?_
      refine lv_goto (tgt := 37) hx hb dX11_fits_21 (by decide) ?_
      obtain ⟨rfl, rfl⟩ := Prod.mk.inj (Option.some.inj hf)
      exact jq_iret hX hJ.2 dX11_fits_37 ⟨rfl, rfl, rfl, hJ.1⟩
  · replace hf := o_t hf c1
    refine lv_iconst (v := (-1)) hx hb dX11_fits_8 (by decide) ?_
    refine lv_goto (tgt := 37) hx hb dX11_fits_9 (by decide) ?_
    obtain ⟨rfl, rfl⟩ := Prod.mk.inj (Option.some.inj hf)
    exact jq_iret hX hJ.2 dX11_fits_37 ⟨rfl, rfl, rfl, hJ.1⟩
theorem dX11_give_0 : decode cX11_give 0 = .ok (.iload_n 1, 1) := by decide +kernel
theorem dX11_give_1 : decode cX11_give 1 = .ok (.i2l, 1) := by decide +kernel
theorem dX11_give_2 : decode cX11_give 2 = .ok (.lconst 0, 1) := by decide +kernel
theorem dX11_give_3 : decode cX11_give 3 = .ok (.ldc2_w 255, 3) := by decide +kernel
theorem dX11_give_6 : decode cX11_give 6 = .ok (.invokestatic 80, 3) := by decide +kernel
theorem dX11_give_9 : decode cX11_give 9 = .ok (.ifCond .ne 5, 3) := by decide +kernel
theorem dX11_give_14 : decode cX11_give 14 = .ok (.aload_n 0, 1) := by decide +kernel
theorem dX11_give_15 : decode cX11_give 15 = .ok (.getfield 27, 3) := by decide +kernel
theorem dX11_give_18 : decode cX11_give 18 = .ok (.iload_n 1, 1) := by decide +kernel
theorem dX11_give_19 : decode cX11_give 19 = .ok (.lload_n 2, 1) := by decide +kernel
theorem dX11_give_20 : decode cX11_give 20 = .ok (.lastore, 1) := by decide +kernel
theorem dX11_give_21 : decode cX11_give 21 = .ok (.iconst 1, 1) := by decide +kernel
theorem dX11_give_22 : decode cX11_give 22 = .ok (.ireturn, 1) := by decide +kernel
theorem dX11_give_12 : decode cX11_give 12 = .ok (.iconst (-1), 1) := by decide +kernel
theorem dX11_give_13 : decode cX11_give 13 = .ok (.ireturn, 1) := by decide +kernel
theorem hy_X11_give : yX11_give.cls ≠ "java/lang/invoke/MethodHandle" ∧ yX11_give.cls ≠ "java/lang/invoke/VarHandle" ∧ (parseMethodDescriptor yX11_give.desc).map (fun d => d.parameters.length) = some 2 := ⟨by decide, by decide, by decide +kernel⟩
def f_X11_give (p1 : Int32) (p2 : Int64) (S : mS) : Option ((Int32) × mS) :=
  o_cP (f_X11_in ((p1).toInt64) 0 3) fun x1 =>
  if x1 = 0 then (
  some ((-1), S)) else (
  o_ck (¬ (p1 < 0 ∨ 4 ≤ (p1).toNatClampNeg)) (o_let (m_wL S 16 (p1).toNatClampNeg p2) fun S1 =>
  some (1, S1)))
set_option maxHeartbeats 4000000 in
set_option maxRecDepth 100000 in
theorem c_X11_give {l : Launch} {D : va_G} {Y : Nat → ClassId} {aR : Nat → Nat} {A : Nat → Prop} {ad : Nat → Nat} {p1 : Int32} {p2 : Int64} {S S' : mS} {r : Int32} (hf : f_X11_give p1 p2 S = some (r, S')) : jq_M l D Y aR A ad yX11_give cX11_give 4 (some .int) 1 25 [.ref (ad 0), .int p1, .long p2] S (some (.int r)) S' := by
  unfold f_X11_give at hf
  refine jq_enterM (by decide) (Nat.le_of_ble_eq_true rfl) fun p e s m args below meth c ls H locs hX hJ hl => ?_
  have hl : lv_has ls 4 [(0, .ref (ad 0)), (1, .int p1), (2, .long p2)] := hl
  have hx := hX.1
  have hb := hX.2.1
  have hm := hX.2.2.1
  have ho := hX.2.2.2.1
  have ht := hX.2.2.2.2.1
  have hn := hX.2.2.2.2.2.1.2.1
  refine lv_iload_n hx hb dX11_give_0 rfl (lv_at hl 1 rfl) ?_
  refine lv_i2l hx hb dX11_give_1 rfl ?_
  refine lv_lconst (v := 0) hx hb dX11_give_2 (by decide) ?_
  refine lv_ldc2 (v := 3) hx hb ho (ht _ qw945) dX11_give_3 ?_
  replace hf := o_cP_e hf
  obtain ⟨x1, hq1, hf⟩ := hf
  refine jq_doP hX hJ.2 (jq_okS (As := [.long ((p1).toInt64), .long 0, .long 3]) (rest := []) hx hb hm ho ht qw803 qw804 qw805 qw7 hy_X11_in rfl hl.1 (Nat.le_of_ble_eq_true rfl) dX11_give_6) (c_X11_in hq1) (Nat.le_of_ble_eq_true rfl) (Nat.le_of_ble_eq_true rfl) (Nat.le_refl _) (Nat.le_refl _) (fun locs hS9 => ?_)
  replace hJ := mJ.to hJ hS9
  refine lv_if_ne (tgt := 14) hx hb dX11_give_9 (by decide) (fun c1 => ?_) (fun c1 => ?_)
  · replace hf := o_f hf c1
    refine lv_aload_n hx hb dX11_give_14 rfl (lv_at hl 0 rfl) ?_
    refine mg_given hX hJ qw696 dX11_give_15 ?_
    refine lv_iload_n hx hb dX11_give_18 rfl (lv_at hl 1 rfl) ?_
    refine lv_lload_n hx hb dX11_give_19 rfl (lv_at hl 2 rfl) ?_
    replace hf := o_ck_e hf
    obtain ⟨hk1, hf⟩ := hf
    replace hf := o_let_e hf
    obtain ⟨S1, hS1, hf⟩ := hf
    refine mw_L 16 hX hJ (by decide) hk1 hS1 dX11_give_20 (fun H locs hJ' => ?_)
    clear hJ
    have hJ := hJ'
    clear hJ'
    refine lv_iconst (v := 1) hx hb dX11_give_21 (by decide) ?_
    obtain ⟨rfl, rfl⟩ := Prod.mk.inj (Option.some.inj hf)
    exact jq_iret hX hJ.2 dX11_give_22 ⟨rfl, rfl, rfl, hJ.1⟩
  · replace hf := o_t hf c1
    refine lv_iconst (v := (-1)) hx hb dX11_give_12 (by decide) ?_
    obtain ⟨rfl, rfl⟩ := Prod.mk.inj (Option.some.inj hf)
    exact jq_iret hX hJ.2 dX11_give_13 ⟨rfl, rfl, rfl, hJ.1⟩
theorem dX11_value_0 : decode cX11_value 0 = .ok (.aload_n 0, 1) := by decide +kernel
theorem dX11_value_1 : decode cX11_value 1 = .ok (.getfield 333, 3) := by decide +kernel
theorem dX11_value_4 : decode cX11_value 4 = .ok (.lreturn, 1) := by decide +kernel
theorem hy_X11_value : yX11_value.cls ≠ "java/lang/invoke/MethodHandle" ∧ yX11_value.cls ≠ "java/lang/invoke/VarHandle" ∧ (parseMethodDescriptor yX11_value.desc).map (fun d => d.parameters.length) = some 0 := ⟨by decide, by decide, by decide +kernel⟩
def f_X11_value  (S : mS) : Option ((Int64) × mS) :=
  o_let (m_L S 2) fun x1 =>
  some (x1, S)
set_option maxHeartbeats 4000000 in
set_option maxRecDepth 100000 in
theorem c_X11_value {l : Launch} {D : va_G} {Y : Nat → ClassId} {aR : Nat → Nat} {A : Nat → Prop} {ad : Nat → Nat}  {S S' : mS} {r : Int64} (hf : f_X11_value S = some (r, S')) : jq_M l D Y aR A ad yX11_value cX11_value 1 (some .long) 0 0 [.ref (ad 0)] S (some (.long r)) S' := by
  unfold f_X11_value at hf
  refine jq_enterM (by decide) (Nat.le_of_ble_eq_true rfl) fun p e s m args below meth c ls H locs hX hJ hl => ?_
  have hl : lv_has ls 1 [(0, .ref (ad 0))] := hl
  have hx := hX.1
  have hb := hX.2.1
  have hm := hX.2.2.1
  have ho := hX.2.2.2.1
  have ht := hX.2.2.2.2.1
  have hn := hX.2.2.2.2.2.1.2.1
  refine lv_aload_n hx hb dX11_value_0 rfl (lv_at hl 0 rfl) ?_
  replace hf := o_let_e hf
  obtain ⟨x1, hx1, hf⟩ := hf
  refine mg_value hX hJ hx1 qw723 dX11_value_1 ?_
  obtain ⟨rfl, rfl⟩ := Prod.mk.inj (Option.some.inj hf)
  exact jq_lret hX hJ.2 dX11_value_4 ⟨rfl, rfl, rfl, hJ.1⟩
theorem dX11_last_0 : decode cX11_last 0 = .ok (.iload_n 1, 1) := by decide +kernel
theorem dX11_last_1 : decode cX11_last 1 = .ok (.ifCond .ne 10, 3) := by decide +kernel
theorem dX11_last_11 : decode cX11_last 11 = .ok (.iload_n 1, 1) := by decide +kernel
theorem dX11_last_12 : decode cX11_last 12 = .ok (.iconst 1, 1) := by decide +kernel
theorem dX11_last_13 : decode cX11_last 13 = .ok (.if_icmp .ne 10, 3) := by decide +kernel
theorem dX11_last_23 : decode cX11_last 23 = .ok (.iload_n 1, 1) := by decide +kernel
theorem dX11_last_24 : decode cX11_last 24 = .ok (.iconst 2, 1) := by decide +kernel
theorem dX11_last_25 : decode cX11_last 25 = .ok (.if_icmp .ne 10, 3) := by decide +kernel
theorem dX11_last_35 : decode cX11_last 35 = .ok (.iconst (-1), 1) := by decide +kernel
theorem dX11_last_36 : decode cX11_last 36 = .ok (.ireturn, 1) := by decide +kernel
theorem dX11_last_28 : decode cX11_last 28 = .ok (.aload_n 0, 1) := by decide +kernel
theorem dX11_last_29 : decode cX11_last 29 = .ok (.getfield 72, 3) := by decide +kernel
theorem dX11_last_32 : decode cX11_last 32 = .ok (.goto 4, 3) := by decide +kernel
theorem dX11_last_16 : decode cX11_last 16 = .ok (.aload_n 0, 1) := by decide +kernel
theorem dX11_last_17 : decode cX11_last 17 = .ok (.getfield 269, 3) := by decide +kernel
theorem dX11_last_20 : decode cX11_last 20 = .ok (.goto 16, 3) := by decide +kernel
theorem dX11_last_4 : decode cX11_last 4 = .ok (.aload_n 0, 1) := by decide +kernel
theorem dX11_last_5 : decode cX11_last 5 = .ok (.getfield 260, 3) := by decide +kernel
theorem dX11_last_8 : decode cX11_last 8 = .ok (.goto 28, 3) := by decide +kernel
theorem hy_X11_last : yX11_last.cls ≠ "java/lang/invoke/MethodHandle" ∧ yX11_last.cls ≠ "java/lang/invoke/VarHandle" ∧ (parseMethodDescriptor yX11_last.desc).map (fun d => d.parameters.length) = some 1 := ⟨by decide, by decide, by decide +kernel⟩
def f_X11_last (p1 : Int32) (S : mS) : Option ((Int32) × mS) :=
  if p1 = 0 then (
  o_let (m_I S 9) fun x3 =>
  some (x3, S)) else (
  if p1 = 1 then (
  o_let (m_I S 10) fun x2 =>
  some (x2, S)) else (
  if p1 = 2 then (
  o_let (m_I S 11) fun x1 =>
  some (x1, S)) else (
  some ((-1), S))))
set_option maxHeartbeats 4000000 in
set_option maxRecDepth 100000 in
theorem c_X11_last {l : Launch} {D : va_G} {Y : Nat → ClassId} {aR : Nat → Nat} {A : Nat → Prop} {ad : Nat → Nat} {p1 : Int32} {S S' : mS} {r : Int32} (hf : f_X11_last p1 S = some (r, S')) : jq_M l D Y aR A ad yX11_last cX11_last 2 (some .int) 0 0 [.ref (ad 0), .int p1] S (some (.int r)) S' := by
  unfold f_X11_last at hf
  refine jq_enterM (by decide) (Nat.le_of_ble_eq_true rfl) fun p e s m args below meth c ls H locs hX hJ hl => ?_
  have hl : lv_has ls 2 [(0, .ref (ad 0)), (1, .int p1)] := hl
  have hx := hX.1
  have hb := hX.2.1
  have hm := hX.2.2.1
  have ho := hX.2.2.2.1
  have ht := hX.2.2.2.2.1
  have hn := hX.2.2.2.2.2.1.2.1
  refine lv_iload_n hx hb dX11_last_0 rfl (lv_at hl 1 rfl) ?_
  refine lv_if_ne (tgt := 11) hx hb dX11_last_1 (by decide) (fun c1 => ?_) (fun c1 => ?_)
  · replace hf := o_f hf c1
    refine lv_iload_n hx hb dX11_last_11 rfl (lv_at hl 1 rfl) ?_
    refine lv_iconst (v := 1) hx hb dX11_last_12 (by decide) ?_
    refine lv_icmp_ne (tgt := 23) hx hb dX11_last_13 (by decide) (fun c2 => ?_) (fun c2 => ?_)
    · replace hf := o_f hf c2
      refine lv_iload_n hx hb dX11_last_23 rfl (lv_at hl 1 rfl) ?_
      refine lv_iconst (v := 2) hx hb dX11_last_24 (by decide) ?_
      refine lv_icmp_ne (tgt := 35) hx hb dX11_last_25 (by decide) (fun c3 => ?_) (fun c3 => ?_)
      · replace hf := o_f hf c3
        refine lv_iconst (v := (-1)) hx hb dX11_last_35 (by decide) ?_
        obtain ⟨rfl, rfl⟩ := Prod.mk.inj (Option.some.inj hf)
        exact jq_iret hX hJ.2 dX11_last_36 ⟨rfl, rfl, rfl, hJ.1⟩
      · replace hf := o_t hf c3
        refine lv_aload_n hx hb dX11_last_28 rfl (lv_at hl 0 rfl) ?_
        replace hf := o_let_e hf
        obtain ⟨x1, hx1, hf⟩ := hf
        refine mg_blamed hX hJ hx1 qw721 dX11_last_29 ?_
        refine lv_goto (tgt := 36) hx hb dX11_last_32 (by decide) ?_
        obtain ⟨rfl, rfl⟩ := Prod.mk.inj (Option.some.inj hf)
        exact jq_iret hX hJ.2 dX11_last_36 ⟨rfl, rfl, rfl, hJ.1⟩
    · replace hf := o_t hf c2
      refine lv_aload_n hx hb dX11_last_16 rfl (lv_at hl 0 rfl) ?_
      replace hf := o_let_e hf
      obtain ⟨x2, hx2, hf⟩ := hf
      refine mg_failures hX hJ hx2 qw720 dX11_last_17 ?_
      refine lv_goto (tgt := 36) hx hb dX11_last_20 (by decide) ?_
      obtain ⟨rfl, rfl⟩ := Prod.mk.inj (Option.some.inj hf)
      exact jq_iret hX hJ.2 dX11_last_36 ⟨rfl, rfl, rfl, hJ.1⟩
  · replace hf := o_t hf c1
    refine lv_aload_n hx hb dX11_last_4 rfl (lv_at hl 0 rfl) ?_
    replace hf := o_let_e hf
    obtain ⟨x3, hx3, hf⟩ := hf
    refine mg_steps hX hJ hx3 qw719 dX11_last_5 ?_
    refine lv_goto (tgt := 36) hx hb dX11_last_8 (by decide) ?_
    obtain ⟨rfl, rfl⟩ := Prod.mk.inj (Option.some.inj hf)
    exact jq_iret hX hJ.2 dX11_last_36 ⟨rfl, rfl, rfl, hJ.1⟩
theorem dX11_count_0 : decode cX11_count 0 = .ok (.iload_n 1, 1) := by decide +kernel
theorem dX11_count_1 : decode cX11_count 1 = .ok (.ifCond .ne 10, 3) := by decide +kernel
theorem dX11_count_11 : decode cX11_count 11 = .ok (.iload_n 1, 1) := by decide +kernel
theorem dX11_count_12 : decode cX11_count 12 = .ok (.iconst 1, 1) := by decide +kernel
theorem dX11_count_13 : decode cX11_count 13 = .ok (.if_icmp .ne 10, 3) := by decide +kernel
theorem dX11_count_23 : decode cX11_count 23 = .ok (.iload_n 1, 1) := by decide +kernel
theorem dX11_count_24 : decode cX11_count 24 = .ok (.iconst 2, 1) := by decide +kernel
theorem dX11_count_25 : decode cX11_count 25 = .ok (.if_icmp .ne 10, 3) := by decide +kernel
theorem dX11_count_35 : decode cX11_count 35 = .ok (.iconst (-1), 1) := by decide +kernel
theorem dX11_count_36 : decode cX11_count 36 = .ok (.ireturn, 1) := by decide +kernel
theorem dX11_count_28 : decode cX11_count 28 = .ok (.aload_n 0, 1) := by decide +kernel
theorem dX11_count_29 : decode cX11_count 29 = .ok (.getfield 327, 3) := by decide +kernel
theorem dX11_count_32 : decode cX11_count 32 = .ok (.goto 4, 3) := by decide +kernel
theorem dX11_count_16 : decode cX11_count 16 = .ok (.aload_n 0, 1) := by decide +kernel
theorem dX11_count_17 : decode cX11_count 17 = .ok (.getfield 164, 3) := by decide +kernel
theorem dX11_count_20 : decode cX11_count 20 = .ok (.goto 16, 3) := by decide +kernel
theorem dX11_count_4 : decode cX11_count 4 = .ok (.aload_n 0, 1) := by decide +kernel
theorem dX11_count_5 : decode cX11_count 5 = .ok (.getfield 86, 3) := by decide +kernel
theorem dX11_count_8 : decode cX11_count 8 = .ok (.goto 28, 3) := by decide +kernel
theorem hy_X11_count : yX11_count.cls ≠ "java/lang/invoke/MethodHandle" ∧ yX11_count.cls ≠ "java/lang/invoke/VarHandle" ∧ (parseMethodDescriptor yX11_count.desc).map (fun d => d.parameters.length) = some 1 := ⟨by decide, by decide, by decide +kernel⟩
def f_X11_count (p1 : Int32) (S : mS) : Option ((Int32) × mS) :=
  if p1 = 0 then (
  o_let (m_I S 0) fun x3 =>
  some (x3, S)) else (
  if p1 = 1 then (
  o_let (m_I S 3) fun x2 =>
  some (x2, S)) else (
  if p1 = 2 then (
  o_let (m_I S 12) fun x1 =>
  some (x1, S)) else (
  some ((-1), S))))
set_option maxHeartbeats 4000000 in
set_option maxRecDepth 100000 in
theorem c_X11_count {l : Launch} {D : va_G} {Y : Nat → ClassId} {aR : Nat → Nat} {A : Nat → Prop} {ad : Nat → Nat} {p1 : Int32} {S S' : mS} {r : Int32} (hf : f_X11_count p1 S = some (r, S')) : jq_M l D Y aR A ad yX11_count cX11_count 2 (some .int) 0 0 [.ref (ad 0), .int p1] S (some (.int r)) S' := by
  unfold f_X11_count at hf
  refine jq_enterM (by decide) (Nat.le_of_ble_eq_true rfl) fun p e s m args below meth c ls H locs hX hJ hl => ?_
  have hl : lv_has ls 2 [(0, .ref (ad 0)), (1, .int p1)] := hl
  have hx := hX.1
  have hb := hX.2.1
  have hm := hX.2.2.1
  have ho := hX.2.2.2.1
  have ht := hX.2.2.2.2.1
  have hn := hX.2.2.2.2.2.1.2.1
  refine lv_iload_n hx hb dX11_count_0 rfl (lv_at hl 1 rfl) ?_
  refine lv_if_ne (tgt := 11) hx hb dX11_count_1 (by decide) (fun c1 => ?_) (fun c1 => ?_)
  · replace hf := o_f hf c1
    refine lv_iload_n hx hb dX11_count_11 rfl (lv_at hl 1 rfl) ?_
    refine lv_iconst (v := 1) hx hb dX11_count_12 (by decide) ?_
    refine lv_icmp_ne (tgt := 23) hx hb dX11_count_13 (by decide) (fun c2 => ?_) (fun c2 => ?_)
    · replace hf := o_f hf c2
      refine lv_iload_n hx hb dX11_count_23 rfl (lv_at hl 1 rfl) ?_
      refine lv_iconst (v := 2) hx hb dX11_count_24 (by decide) ?_
      refine lv_icmp_ne (tgt := 35) hx hb dX11_count_25 (by decide) (fun c3 => ?_) (fun c3 => ?_)
      · replace hf := o_f hf c3
        refine lv_iconst (v := (-1)) hx hb dX11_count_35 (by decide) ?_
        obtain ⟨rfl, rfl⟩ := Prod.mk.inj (Option.some.inj hf)
        exact jq_iret hX hJ.2 dX11_count_36 ⟨rfl, rfl, rfl, hJ.1⟩
      · replace hf := o_t hf c3
        refine lv_aload_n hx hb dX11_count_28 rfl (lv_at hl 0 rfl) ?_
        replace hf := o_let_e hf
        obtain ⟨x1, hx1, hf⟩ := hf
        refine mg_runs hX hJ hx1 qw722 dX11_count_29 ?_
        refine lv_goto (tgt := 36) hx hb dX11_count_32 (by decide) ?_
        obtain ⟨rfl, rfl⟩ := Prod.mk.inj (Option.some.inj hf)
        exact jq_iret hX hJ.2 dX11_count_36 ⟨rfl, rfl, rfl, hJ.1⟩
    · replace hf := o_t hf c2
      refine lv_aload_n hx hb dX11_count_16 rfl (lv_at hl 0 rfl) ?_
      replace hf := o_let_e hf
      obtain ⟨x2, hx2, hf⟩ := hf
      refine mg_handles hX hJ hx2 qw697 dX11_count_17 ?_
      refine lv_goto (tgt := 36) hx hb dX11_count_20 (by decide) ?_
      obtain ⟨rfl, rfl⟩ := Prod.mk.inj (Option.some.inj hf)
      exact jq_iret hX hJ.2 dX11_count_36 ⟨rfl, rfl, rfl, hJ.1⟩
  · replace hf := o_t hf c1
    refine lv_aload_n hx hb dX11_count_4 rfl (lv_at hl 0 rfl) ?_
    replace hf := o_let_e hf
    obtain ⟨x3, hx3, hf⟩ := hf
    refine mg_rows hX hJ hx3 qw689 dX11_count_5 ?_
    refine lv_goto (tgt := 36) hx hb dX11_count_8 (by decide) ?_
    obtain ⟨rfl, rfl⟩ := Prod.mk.inj (Option.some.inj hf)
    exact jq_iret hX hJ.2 dX11_count_36 ⟨rfl, rfl, rfl, hJ.1⟩
