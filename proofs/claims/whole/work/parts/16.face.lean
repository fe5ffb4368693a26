theorem dX10_init_0 : decode cX10_init 0 = .ok (.aload_n 0, 1) := by decide +kernel
theorem dX10_init_1 : decode cX10_init 1 = .ok (.invokespecial 1, 3) := by decide +kernel
theorem dX10_init_4 : decode cX10_init 4 = .ok (.new 7, 3) := by decide +kernel
theorem dX10_init_7 : decode cX10_init 7 = .ok (.dup, 1) := by decide +kernel
theorem dX10_init_8 : decode cX10_init 8 = .ok (.invokespecial 9, 3) := by decide +kernel
theorem dX10_init_11 : decode cX10_init 11 = .ok (.astore_n 1, 1) := by decide +kernel
theorem dX10_init_12 : decode cX10_init 12 = .ok (.new 10, 3) := by decide +kernel
theorem dX10_init_15 : decode cX10_init 15 = .ok (.dup, 1) := by decide +kernel
theorem dX10_init_16 : decode cX10_init 16 = .ok (.invokespecial 12, 3) := by decide +kernel
theorem dX10_init_19 : decode cX10_init 19 = .ok (.astore_n 2, 1) := by decide +kernel
theorem dX10_init_20 : decode cX10_init 20 = .ok (.aload_n 0, 1) := by decide +kernel
theorem dX10_init_21 : decode cX10_init 21 = .ok (.aload_n 1, 1) := by decide +kernel
theorem dX10_init_22 : decode cX10_init 22 = .ok (.putfield 13, 3) := by decide +kernel
theorem dX10_init_25 : decode cX10_init 25 = .ok (.aload_n 0, 1) := by decide +kernel
theorem dX10_init_26 : decode cX10_init 26 = .ok (.aload_n 2, 1) := by decide +kernel
theorem dX10_init_27 : decode cX10_init 27 = .ok (.putfield 19, 3) := by decide +kernel
theorem dX10_init_30 : decode cX10_init 30 = .ok (.aload_n 0, 1) := by decide +kernel
theorem dX10_init_31 : decode cX10_init 31 = .ok (.new 23, 3) := by decide +kernel
theorem dX10_init_34 : decode cX10_init 34 = .ok (.dup, 1) := by decide +kernel
theorem dX10_init_35 : decode cX10_init 35 = .ok (.aload_n 2, 1) := by decide +kernel
theorem dX10_init_36 : decode cX10_init 36 = .ok (.aload_n 1, 1) := by decide +kernel
theorem dX10_init_37 : decode cX10_init 37 = .ok (.invokespecial 25, 3) := by decide +kernel
theorem dX10_init_40 : decode cX10_init 40 = .ok (.putfield 28, 3) := by decide +kernel
theorem dX10_init_43 : decode cX10_init 43 = .ok (.aload_n 0, 1) := by decide +kernel
theorem dX10_init_44 : decode cX10_init 44 = .ok (.new 32, 3) := by decide +kernel
theorem dX10_init_47 : decode cX10_init 47 = .ok (.dup, 1) := by decide +kernel
theorem dX10_init_48 : decode cX10_init 48 = .ok (.aload_n 2, 1) := by decide +kernel
theorem dX10_init_49 : decode cX10_init 49 = .ok (.aload_n 1, 1) := by decide +kernel
theorem dX10_init_50 : decode cX10_init 50 = .ok (.invokespecial 34, 3) := by decide +kernel
theorem dX10_init_53 : decode cX10_init 53 = .ok (.putfield 35, 3) := by decide +kernel
theorem dX10_init_56 : decode cX10_init 56 = .ok (.aload_n 0, 1) := by decide +kernel
theorem dX10_init_57 : decode cX10_init 57 = .ok (.iconst 4, 1) := by decide +kernel
theorem dX10_init_58 : decode cX10_init 58 = .ok (.newarray .long, 2) := by decide +kernel
theorem dX10_init_60 : decode cX10_init 60 = .ok (.putfield 39, 3) := by decide +kernel
theorem dX10_init_63 : decode cX10_init 63 = .ok (.aload_n 0, 1) := by decide +kernel
theorem dX10_init_64 : decode cX10_init 64 = .ok (.new 43, 3) := by decide +kernel
theorem dX10_init_67 : decode cX10_init 67 = .ok (.dup, 1) := by decide +kernel
theorem dX10_init_68 : decode cX10_init 68 = .ok (.iconst 4, 1) := by decide +kernel
theorem dX10_init_69 : decode cX10_init 69 = .ok (.iconst 0, 1) := by decide +kernel
theorem dX10_init_70 : decode cX10_init 70 = .ok (.iconst 4, 1) := by decide +kernel
theorem dX10_init_71 : decode cX10_init 71 = .ok (.newarray .int, 2) := by decide +kernel
theorem dX10_init_73 : decode cX10_init 73 = .ok (.invokespecial 47, 3) := by decide +kernel
theorem dX10_init_76 : decode cX10_init 76 = .ok (.putfield 50, 3) := by decide +kernel
theorem dX10_init_79 : decode cX10_init 79 = .ok (.return_, 1) := by decide +kernel
theorem hy_X10_init : yX10_init.cls ≠ "java/lang/invoke/MethodHandle" ∧ yX10_init.cls ≠ "java/lang/invoke/VarHandle" ∧ (parseMethodDescriptor yX10_init.desc).map (fun d => d.parameters.length) = some 0 := ⟨by decide, by decide, by decide +kernel⟩
def f_X10_init (o : Nat) (S : wS) : Option ((Unit) × wS) :=
  o_new 6 2 S fun a1 S1 =>
  o_call (f_X6_init a1 S1) fun _ S2 =>
  o_new 2 2 S2 fun a2 S3 =>
  o_call (f_X1_init a2 S3) fun _ S4 =>
  o_pR 9 10 o (some a1) S4 fun S5 =>
  o_pR 9 11 o (some a2) S5 fun S6 =>
  o_new 3 2 S6 fun a3 S7 =>
  o_call (f_X3_init a3 a2 a1 S7) fun _ S8 =>
  o_pR 9 12 o (some a3) S8 fun S9 =>
  o_new 7 7 S9 fun a4 S10 =>
  o_call (f_X7_init a4 a2 a1 S10) fun _ S11 =>
  o_pR 9 13 o (some a4) S11 fun S12 =>
  o_newA 22 4 S12 fun a5 S13 =>
  o_pR 9 14 o (some a5) S13 fun S14 =>
  o_new 8 3 S14 fun a6 S15 =>
  o_newA 21 4 S15 fun a7 S16 =>
  o_call (f_X9_init a6 4 0 a7 S16) fun _ S17 =>
  o_pR 9 15 o (some a6) S17 fun S18 =>
  some ((), S18)
set_option maxHeartbeats 4000000 in
set_option maxRecDepth 100000 in
theorem c_X10_init {l : Launch} {D : va_G} {Y : Nat → ClassId} {aR : Nat → Nat} {A : Nat → Prop} {o : Nat} {S S' : wS} {r : Unit} (hf : f_X10_init o S = some (r, S')) : jq_S l D Y aR A yX10_init cX10_init 3 none 2 35 [.ref o] S none S' := by
  unfold f_X10_init at hf
  refine jq_enterS (by decide) (Nat.le_of_ble_eq_true rfl) fun p e s m args below meth c ls H locs hX hJ hl => ?_
  have hl : lv_has ls 3 [(0, .ref o)] := hl
  have hx := hX.1
  have hb := hX.2.1
  have hm := hX.2.2.1
  have ho := hX.2.2.2.1
  have ht := hX.2.2.2.2.1
  have hn := hX.2.2.2.2.2.1.2.1
  refine lv_aload_n hx hb dX10_init_0 rfl (lv_at hl 0 rfl) ?_
  refine W.objInit hx hb ho (ht _ qw22) (ht _ qw23) (ht _ qw24) rfl (hl.1.trans hm.symm) rfl dX10_init_1 (Nat.le_of_ble_eq_true rfl) (Nat.le_of_ble_eq_true rfl) ?_
  refine W.eq (g2 := F0 m 4 ls []) rfl ?_
  replace hf := o_new_e hf
  obtain ⟨hk1, a1, S1, ha1, hS1, hf⟩ := hf
  refine nw_X6 hX hJ hk1 ha1 hS1 qw25 dX10_init_4 (fun H hJ' => ?_)
  clear hJ
  have hJ := hJ'
  clear hJ'
  refine lv_dup hx hb dX10_init_7 rfl ?_
  replace hf := o_call_e hf
  obtain ⟨_, S2, hq1, hf⟩ := hf
  refine jq_doS hX hJ (jq_okIN (As := []) (rest := [.ref a1]) hx hb hm ho ht hn qn27 qw28 qw29 qw2 rfl hy_X6_init rfl hl.1 (Nat.le_of_ble_eq_true rfl) dX10_init_8) (c_X6_init hq1) (Nat.le_of_ble_eq_true rfl) (Nat.le_of_ble_eq_true rfl) (fun H locs hJ' => ?_)
  clear hJ
  have hJ := hJ'
  clear hJ'
  refine lv_astore_n (lv' := [(1, .ref a1), (0, .ref o)]) hx hb dX10_init_11 rfl hl (by decide) rfl (fun ls hl' => ?_)
  clear hl
  have hl := hl'
  clear hl'
  replace hf := o_new_e hf
  obtain ⟨hk2, a2, S3, ha2, hS3, hf⟩ := hf
  refine nw_X1 hX hJ hk2 ha2 hS3 qw41 dX10_init_12 (fun H hJ' => ?_)
  clear hJ
  have hJ := hJ'
  clear hJ'
  refine lv_dup hx hb dX10_init_15 rfl ?_
  replace hf := o_call_e hf
  obtain ⟨_, S4, hq2, hf⟩ := hf
  refine jq_doS hX hJ (jq_okIN (As := []) (rest := [.ref a2]) hx hb hm ho ht hn qn43 qw44 qw45 qw3 rfl hy_X1_init rfl hl.1 (Nat.le_of_ble_eq_true rfl) dX10_init_16) (c_X1_init hq2) (Nat.le_of_ble_eq_true rfl) (Nat.le_of_ble_eq_true rfl) (fun H locs hJ' => ?_)
  clear hJ
  have hJ := hJ'
  clear hJ'
  refine lv_astore_n (lv' := [(2, .ref a2), (1, .ref a1), (0, .ref o)]) hx hb dX10_init_19 rfl hl (by decide) rfl (fun ls hl' => ?_)
  clear hl
  have hl := hl'
  clear hl'
  refine lv_aload_n hx hb dX10_init_20 rfl (lv_at hl 2 rfl) ?_
  refine lv_aload_n hx hb dX10_init_21 rfl (lv_at hl 1 rfl) ?_
  replace hf := o_pR_e hf
  obtain ⟨hk13, S5, hS5, hf⟩ := hf
  refine pf_X10_rows hX hJ hk13 hS5 rfl rfl qw126 dX10_init_22 (fun H locs hJ' => ?_)
  clear hJ
  have hJ := hJ'
  clear hJ'
  refine lv_aload_n hx hb dX10_init_25 rfl (lv_at hl 2 rfl) ?_
  refine lv_aload_n hx hb dX10_init_26 rfl (lv_at hl 0 rfl) ?_
  replace hf := o_pR_e hf
  obtain ⟨hk12, S6, hS6, hf⟩ := hf
  refine pf_X10_handles hX hJ hk12 hS6 rfl rfl qw127 dX10_init_27 (fun H locs hJ' => ?_)
  clear hJ
  have hJ := hJ'
  clear hJ'
  refine lv_aload_n hx hb dX10_init_30 rfl (lv_at hl 2 rfl) ?_
  replace hf := o_new_e hf
  obtain ⟨hk3, a3, S7, ha3, hS7, hf⟩ := hf
  refine nw_X3 hX hJ hk3 ha3 hS7 qw57 dX10_init_31 (fun H hJ' => ?_)
  clear hJ
  have hJ := hJ'
  clear hJ'
  refine lv_dup hx hb dX10_init_34 rfl ?_
  refine lv_aload_n hx hb dX10_init_35 rfl (lv_at hl 0 rfl) ?_
  refine lv_aload_n hx hb dX10_init_36 rfl (lv_at hl 1 rfl) ?_
  replace hf := o_call_e hf
  obtain ⟨_, S8, hq3, hf⟩ := hf
  refine jq_doS hX hJ (jq_okIN (As := [.ref a2, .ref a1]) (rest := [.ref a3, .ref o]) hx hb hm ho ht hn qn59 qw60 qw61 qw4 rfl hy_X3_init rfl hl.1 (Nat.le_of_ble_eq_true rfl) dX10_init_37) (c_X3_init hq3) (Nat.le_of_ble_eq_true rfl) (Nat.le_of_ble_eq_true rfl) (fun H locs hJ' => ?_)
  clear hJ
  have hJ := hJ'
  clear hJ'
  replace hf := o_pR_e hf
  obtain ⟨hk11, S9, hS9, hf⟩ := hf
  refine pf_X10_maker hX hJ hk11 hS9 rfl rfl qw128 dX10_init_40 (fun H locs hJ' => ?_)
  clear hJ
  have hJ := hJ'
  clear hJ'
  refine lv_aload_n hx hb dX10_init_43 rfl (lv_at hl 2 rfl) ?_
  replace hf := o_new_e hf
  obtain ⟨hk4, a4, S10, ha4, hS10, hf⟩ := hf
  refine nw_X7 hX hJ hk4 ha4 hS10 qw70 dX10_init_44 (fun H hJ' => ?_)
  clear hJ
  have hJ := hJ'
  clear hJ'
  refine lv_dup hx hb dX10_init_47 rfl ?_
  refine lv_aload_n hx hb dX10_init_48 rfl (lv_at hl 0 rfl) ?_
  refine lv_aload_n hx hb dX10_init_49 rfl (lv_at hl 1 rfl) ?_
  replace hf := o_call_e hf
  obtain ⟨_, S11, hq4, hf⟩ := hf
  refine jq_doS hX hJ (jq_okIN (As := [.ref a2, .ref a1]) (rest := [.ref a4, .ref o]) hx hb hm ho ht hn qn72 qw73 qw74 qw5 rfl hy_X7_init rfl hl.1 (Nat.le_of_ble_eq_true rfl) dX10_init_50) (c_X7_init hq4) (Nat.le_of_ble_eq_true rfl) (Nat.le_of_ble_eq_true rfl) (fun H locs hJ' => ?_)
  clear hJ
  have hJ := hJ'
  clear hJ'
  replace hf := o_pR_e hf
  obtain ⟨hk10, S12, hS12, hf⟩ := hf
  refine pf_X10_runner hX hJ hk10 hS12 rfl rfl qw129 dX10_init_53 (fun H locs hJ' => ?_)
  clear hJ
  have hJ := hJ'
  clear hJ'
  refine lv_aload_n hx hb dX10_init_56 rfl (lv_at hl 2 rfl) ?_
  refine lv_iconst (v := 4) hx hb dX10_init_57 (by decide) ?_
  replace hf := o_newA_e hf
  obtain ⟨hk5, a5, S13, ha5, hS13, hf⟩ := hf
  refine na_L hX hJ hk5 ha5 hS13 dX10_init_58 (fun H hJ' => ?_)
  clear hJ
  have hJ := hJ'
  clear hJ'
  replace hf := o_pR_e hf
  obtain ⟨hk9, S14, hS14, hf⟩ := hf
  refine pf_X10_numbers hX hJ hk9 hS14 rfl rfl qw130 dX10_init_60 (fun H locs hJ' => ?_)
  clear hJ
  have hJ := hJ'
  clear hJ'
  refine lv_aload_n hx hb dX10_init_63 rfl (lv_at hl 2 rfl) ?_
  replace hf := o_new_e hf
  obtain ⟨hk6, a6, S15, ha6, hS15, hf⟩ := hf
  refine nw_X9 hX hJ hk6 ha6 hS15 qw103 dX10_init_64 (fun H hJ' => ?_)
  clear hJ
  have hJ := hJ'
  clear hJ'
  refine lv_dup hx hb dX10_init_67 rfl ?_
  refine lv_iconst (v := 4) hx hb dX10_init_68 (by decide) ?_
  refine lv_iconst (v := 0) hx hb dX10_init_69 (by decide) ?_
  refine lv_iconst (v := 4) hx hb dX10_init_70 (by decide) ?_
  replace hf := o_newA_e hf
  obtain ⟨hk7, a7, S16, ha7, hS16, hf⟩ := hf
  refine na_I hX hJ hk7 ha7 hS16 dX10_init_71 (fun H hJ' => ?_)
  clear hJ
  have hJ := hJ'
  clear hJ'
  replace hf := o_call_e hf
  obtain ⟨_, S17, hq5, hf⟩ := hf
  refine jq_doS hX hJ (jq_okIN (As := [.int 4, .int 0, .ref a7]) (rest := [.ref a6, .ref o]) hx hb hm ho ht hn qn105 qw106 qw107 qw6 rfl hy_X9_init rfl hl.1 (Nat.le_of_ble_eq_true rfl) dX10_init_73) (c_X9_init hq5) (Nat.le_of_ble_eq_true rfl) (Nat.le_of_ble_eq_true rfl) (fun H locs hJ' => ?_)
  clear hJ
  have hJ := hJ'
  clear hJ'
  replace hf := o_pR_e hf
  obtain ⟨hk8, S18, hS18, hf⟩ := hf
  refine pf_X10_atHand hX hJ hk8 hS18 qw131 dX10_init_76 (fun H locs hJ' => ?_)
  clear hJ
  have hJ := hJ'
  clear hJ'
  obtain ⟨rfl, rfl⟩ := Prod.mk.inj (Option.some.inj hf)
  exact jq_vret hX hJ.2.2 dX10_init_79 ⟨rfl, rfl, rfl, hJ.1, hJ.2.1⟩
theorem dX10_row_0 : decode cX10_row 0 = .ok (.iload_n 1, 1) := by decide +kernel
theorem dX10_row_1 : decode cX10_row 1 = .ok (.invokestatic 54, 3) := by decide +kernel
theorem dX10_row_4 : decode cX10_row 4 = .ok (.ifCond .eq 13, 3) := by decide +kernel
theorem dX10_row_17 : decode cX10_row 17 = .ok (.iconst (-1), 1) := by decide +kernel
theorem dX10_row_18 : decode cX10_row 18 = .ok (.ireturn, 1) := by decide +kernel
theorem dX10_row_7 : decode cX10_row 7 = .ok (.iload_n 2, 1) := by decide +kernel
theorem dX10_row_8 : decode cX10_row 8 = .ok (.ifCond .lt 9, 3) := by decide +kernel
theorem dX10_row_11 : decode cX10_row 11 = .ok (.iload_n 2, 1) := by decide +kernel
theorem dX10_row_12 : decode cX10_row 12 = .ok (.bipush 8, 2) := by decide +kernel
theorem dX10_row_14 : decode cX10_row 14 = .ok (.if_icmp .le 5, 3) := by decide +kernel
theorem dX10_row_19 : decode cX10_row 19 = .ok (.aload_n 0, 1) := by decide +kernel
theorem dX10_row_20 : decode cX10_row 20 = .ok (.getfield 13, 3) := by decide +kernel
theorem dX10_row_23 : decode cX10_row 23 = .ok (.iload_n 1, 1) := by decide +kernel
theorem dX10_row_24 : decode cX10_row 24 = .ok (.iload_n 2, 1) := by decide +kernel
theorem dX10_row_25 : decode cX10_row 25 = .ok (.invokevirtual 58, 3) := by decide +kernel
theorem dX10_row_28 : decode cX10_row 28 = .ok (.ireturn, 1) := by decide +kernel
theorem hy_X10_row : yX10_row.cls ≠ "java/lang/invoke/MethodHandle" ∧ yX10_row.cls ≠ "java/lang/invoke/VarHandle" ∧ (parseMethodDescriptor yX10_row.desc).map (fun d => d.parameters.length) = some 2 := ⟨by decide, by decide, by decide +kernel⟩
def f_X10_row (o : Nat) (p1 : Int32) (p2 : Int32) (S : wS) : Option ((Int32) × wS) :=
  o_cP (f_X2_isLane p1) fun x1 =>
  if x1 = 0 then (
  some ((-1), S)) else (
  if p2 < 0 then (
  some ((-1), S)) else (
  if p2 ≤ 8 then (
  o_gR 9 10 o S fun x2 =>
  o_cs x2 (none) (fun a1 =>
  o_ck (s_K S a1 = 6) (o_call (f_X6_added a1 p1 p2 S) fun x3 S1 =>
  some (x3, S1)))) else (
  some ((-1), S))))
set_option maxHeartbeats 4000000 in
set_option maxRecDepth 100000 in
theorem c_X10_row {l : Launch} {D : va_G} {Y : Nat → ClassId} {aR : Nat → Nat} {A : Nat → Prop} {o : Nat} {p1 : Int32} {p2 : Int32} {S S' : wS} {r : Int32} (hf : f_X10_row o p1 p2 S = some (r, S')) : jq_S l D Y aR A yX10_row cX10_row 3 (some .int) 3 61 [.ref o, .int p1, .int p2] S (some (.int r)) S' := by
  unfold f_X10_row at hf
  refine jq_enterS (by decide) (Nat.le_of_ble_eq_true rfl) fun p e s m args below meth c ls H locs hX hJ hl => ?_
  have hl : lv_has ls 3 [(0, .ref o), (1, .int p1), (2, .int p2)] := hl
  have hx := hX.1
  have hb := hX.2.1
  have hm := hX.2.2.1
  have ho := hX.2.2.2.1
  have ht := hX.2.2.2.2.1
  have hn := hX.2.2.2.2.2.1.2.1
  refine lv_iload_n hx hb dX10_row_0 rfl (lv_at hl 1 rfl) ?_
  replace hf := o_cP_e hf
  obtain ⟨x1, hq1, hf⟩ := hf
  refine jq_doPS hX hJ (jq_okSN (As := [.int p1]) (rest := []) hx hb hm ho ht hn qn155 qw156 qw157 qw8 hy_X2_isLane rfl hl.1 (Nat.le_of_ble_eq_true rfl) dX10_row_1) (c_X2_isLane hq1) (Nat.le_of_ble_eq_true rfl) (Nat.le_of_ble_eq_true rfl) (fun locs hJ' => ?_)
  clear hJ
  have hJ := hJ'
  clear hJ'
  refine lv_if_eq (tgt := 17) hx hb dX10_row_4 (by decide) (fun c1 => ?_) (fun c1 => ?_)
  · replace hf := o_t hf c1
    refine lv_iconst (v := (-1)) hx hb dX10_row_17 (by decide) ?_
    obtain ⟨rfl, rfl⟩ := Prod.mk.inj (Option.some.inj hf)
    exact jq_iret hX hJ.2.2 dX10_row_18 ⟨rfl, rfl, rfl, hJ.1, hJ.2.1⟩
  · replace hf := o_f hf c1
    refine lv_iload_n hx hb dX10_row_7 rfl (lv_at hl 2 rfl) ?_
    refine lv_if_lt (tgt := 17) hx hb dX10_row_8 (by decide) (fun c2 => ?_) (fun c2 => ?_)
    · replace hf := o_t hf c2
      refine lv_iconst (v := (-1)) hx hb dX10_row_17 (by decide) ?_
      obtain ⟨rfl, rfl⟩ := Prod.mk.inj (Option.some.inj hf)
      exact jq_iret hX hJ.2.2 dX10_row_18 ⟨rfl, rfl, rfl, hJ.1, hJ.2.1⟩
    · replace hf := o_f hf c2
      refine lv_iload_n hx hb dX10_row_11 rfl (lv_at hl 2 rfl) ?_
      refine lv_bipush (v := 8) hx hb dX10_row_12 (by decide) ?_
      refine lv_icmp_le (tgt := 19) hx hb dX10_row_14 (by decide) (fun c3 => ?_) (fun c3 => ?_)
      · replace hf := o_t hf c3
        refine lv_aload_n hx hb dX10_row_19 rfl (lv_at hl 0 rfl) ?_
        replace hf := o_gR_e hf
        obtain ⟨hk1, x2, hx2, hf⟩ := hf
        refine gf_X10_rows hX hJ hk1 hx2 qw126 dX10_row_20 ?_
        refine lv_iload_n hx hb dX10_row_23 rfl (lv_at hl 1 rfl) ?_
        refine lv_iload_n hx hb dX10_row_24 rfl (lv_at hl 2 rfl) ?_
        replace hf := o_cs_e hf
        rcases hf with ⟨hr1, hf⟩ | ⟨a1, hr1, hf⟩
        · subst hr1
          cases hf
        · subst hr1
          replace hf := o_ck_e hf
          obtain ⟨hk2, hf⟩ := hf
          replace hf := o_call_e hf
          obtain ⟨x3, S1, hq2, hf⟩ := hf
          refine jq_doS hX hJ (jq_okVN (As := [.int p1, .int p2]) (rest := []) hx hb hm ho ht hn (wJ.recv hX hJ (by rw [hk2]; decide) (wE_X6 hk2) rfl) qn158 qw160 qs0 qw161 qw2 hy_X6_added rfl hl.1 (Nat.le_of_ble_eq_true rfl) dX10_row_25) (c_X6_added hq2) (Nat.le_of_ble_eq_true rfl) (Nat.le_of_ble_eq_true rfl) (fun H locs hJ' => ?_)
          clear hJ
          have hJ := hJ'
          clear hJ'
          obtain ⟨rfl, rfl⟩ := Prod.mk.inj (Option.some.inj hf)
          exact jq_iret hX hJ.2.2 dX10_row_28 ⟨rfl, rfl, rfl, hJ.1, hJ.2.1⟩
      · replace hf := o_f hf c3
        refine lv_iconst (v := (-1)) hx hb dX10_row_17 (by decide) ?_
        obtain ⟨rfl, rfl⟩ := Prod.mk.inj (Option.some.inj hf)
        exact jq_iret hX hJ.2.2 dX10_row_18 ⟨rfl, rfl, rfl, hJ.1, hJ.2.1⟩
theorem dX10_put_0 : decode cX10_put 0 = .ok (.aload_n 0, 1) := by decide +kernel
theorem dX10_put_1 : decode cX10_put 1 = .ok (.getfield 13, 3) := by decide +kernel
theorem dX10_put_4 : decode cX10_put 4 = .ok (.iload_n 1, 1) := by decide +kernel
theorem dX10_put_5 : decode cX10_put 5 = .ok (.i2l, 1) := by decide +kernel
theorem dX10_put_6 : decode cX10_put 6 = .ok (.invokevirtual 62, 3) := by decide +kernel
theorem dX10_put_9 : decode cX10_put 9 = .ok (.astore 5, 2) := by decide +kernel
theorem dX10_put_11 : decode cX10_put 11 = .ok (.aload 5, 2) := by decide +kernel
theorem dX10_put_13 : decode cX10_put 13 = .ok (.ifnull 13, 3) := by decide +kernel
theorem dX10_put_16 : decode cX10_put 16 = .ok (.aload 5, 2) := by decide +kernel
theorem dX10_put_18 : decode cX10_put 18 = .ok (.iload_n 2, 1) := by decide +kernel
theorem dX10_put_19 : decode cX10_put 19 = .ok (.i2l, 1) := by decide +kernel
theorem dX10_put_20 : decode cX10_put 20 = .ok (.invokevirtual 66, 3) := by decide +kernel
theorem dX10_put_23 : decode cX10_put 23 = .ok (.ifCond .ne 5, 3) := by decide +kernel
theorem dX10_put_28 : decode cX10_put 28 = .ok (.aload 5, 2) := by decide +kernel
theorem dX10_put_30 : decode cX10_put 30 = .ok (.iload_n 2, 1) := by decide +kernel
theorem dX10_put_31 : decode cX10_put 31 = .ok (.i2l, 1) := by decide +kernel
theorem dX10_put_32 : decode cX10_put 32 = .ok (.aload 5, 2) := by decide +kernel
theorem dX10_put_34 : decode cX10_put 34 = .ok (.getfield 72, 3) := by decide +kernel
theorem dX10_put_37 : decode cX10_put 37 = .ok (.lload_n 3, 1) := by decide +kernel
theorem dX10_put_38 : decode cX10_put 38 = .ok (.invokestatic 76, 3) := by decide +kernel
theorem dX10_put_41 : decode cX10_put 41 = .ok (.invokevirtual 80, 3) := by decide +kernel
theorem dX10_put_44 : decode cX10_put 44 = .ok (.iconst 1, 1) := by decide +kernel
theorem dX10_put_45 : decode cX10_put 45 = .ok (.ireturn, 1) := by decide +kernel
theorem dX10_put_26 : decode cX10_put 26 = .ok (.iconst (-1), 1) := by decide +kernel
theorem dX10_put_27 : decode cX10_put 27 = .ok (.ireturn, 1) := by decide +kernel
theorem hy_X10_put : yX10_put.cls ≠ "java/lang/invoke/MethodHandle" ∧ yX10_put.cls ≠ "java/lang/invoke/VarHandle" ∧ (parseMethodDescriptor yX10_put.desc).map (fun d => d.parameters.length) = some 3 := ⟨by decide, by decide, by decide +kernel⟩
def f_X10_put (o : Nat) (p1 : Int32) (p2 : Int32) (p3 : Int64) (S : wS) : Option ((Int32) × wS) :=
  o_gR 9 10 o S fun x1 =>
  o_cs x1 (none) (fun a1 =>
  o_ck (s_K S a1 = 6) (o_call (f_X6_at a1 ((p1).toInt64) S) fun x2 S1 =>
  o_cs x2 (some ((-1), S1)) (fun a2 =>
  o_ck (s_K S1 a2 = 5) (o_call (f_X5_has a2 ((p2).toInt64) S1) fun x3 S2 =>
  if x3 = 0 then (
  some ((-1), S2)) else (
  o_gI 5 6 a2 S2 fun x4 =>
  o_cP (f_X2_fromBits x4 p3) fun x5 =>
  o_ck (s_K S2 a2 = 5) (o_call (f_X5_set a2 ((p2).toInt64) x5 S2) fun _ S3 =>
  some (1, S3)))))))
set_option maxHeartbeats 4000000 in
set_option maxRecDepth 100000 in
theorem c_X10_put {l : Launch} {D : va_G} {Y : Nat → ClassId} {aR : Nat → Nat} {A : Nat → Prop} {o : Nat} {p1 : Int32} {p2 : Int32} {p3 : Int64} {S S' : wS} {r : Int32} (hf : f_X10_put o p1 p2 p3 S = some (r, S')) : jq_S l D Y aR A yX10_put cX10_put 6 (some .int) 4 88 [.ref o, .int p1, .int p2, .long p3] S (some (.int r)) S' := by
  unfold f_X10_put at hf
  refine jq_enterS (by decide) (Nat.le_of_ble_eq_true rfl) fun p e s m args below meth c ls H locs hX hJ hl => ?_
  have hl : lv_has ls 6 [(0, .ref o), (1, .int p1), (2, .int p2), (3, .long p3)] := hl
  have hx := hX.1
  have hb := hX.2.1
  have hm := hX.2.2.1
  have ho := hX.2.2.2.1
  have ht := hX.2.2.2.2.1
  have hn := hX.2.2.2.2.2.1.2.1
  refine lv_aload_n hx hb dX10_put_0 rfl (lv_at hl 0 rfl) ?_
  replace hf := o_gR_e hf
  obtain ⟨hk1, x1, hx1, hf⟩ := hf
  refine gf_X10_rows hX hJ hk1 hx1 qw126 dX10_put_1 ?_
  refine lv_iload_n hx hb dX10_put_4 rfl (lv_at hl 1 rfl) ?_
  refine lv_i2l hx hb dX10_put_5 rfl ?_
  replace hf := o_cs_e hf
  rcases hf with ⟨hr1, hf⟩ | ⟨a1, hr1, hf⟩
  · subst hr1
    cases hf
  · subst hr1
    replace hf := o_ck_e hf
    obtain ⟨hk2, hf⟩ := hf
    replace hf := o_call_e hf
    obtain ⟨x2, S1, hq1, hf⟩ := hf
    refine jq_doS hX hJ (jq_okVN (As := [.long ((p1).toInt64)]) (rest := []) hx hb hm ho ht hn (wJ.recv hX hJ (by rw [hk2]; decide) (wE_X6 hk2) rfl) qn186 qw188 qs1 qw189 qw2 hy_X6_at rfl hl.1 (Nat.le_of_ble_eq_true rfl) dX10_put_6) (c_X6_at hq1) (Nat.le_of_ble_eq_true rfl) (Nat.le_of_ble_eq_true rfl) (fun H locs hJ' => ?_)
    clear hJ
    have hJ := hJ'
    clear hJ'
    replace hf := o_cs_e hf
    rcases hf with ⟨hr2, hf⟩ | ⟨a2, hr2, hf⟩
    · subst hr2
      refine lv_astoreN (lv' := [(5, .null), (0, .ref o), (1, .int p1), (2, .int p2), (3, .long p3)]) hx hb dX10_put_9 hl (by decide) rfl (fun ls hl' => ?_)
      clear hl
      have hl := hl'
      clear hl'
      refine lv_aloadN hx hb dX10_put_11 (lv_at hl 0 rfl) ?_
      refine lv_ifnullN (tgt := 26) hx hb dX10_put_13 (by decide) ?_
      refine lv_iconst (v := (-1)) hx hb dX10_put_26 (by decide) ?_
      obtain ⟨rfl, rfl⟩ := Prod.mk.inj (Option.some.inj hf)
      exact jq_iret hX hJ.2.2 dX10_put_27 ⟨rfl, rfl, rfl, hJ.1, hJ.2.1⟩
    · subst hr2
      refine lv_astore (lv' := [(5, .ref a2), (0, .ref o), (1, .int p1), (2, .int p2), (3, .long p3)]) hx hb dX10_put_9 hl (by decide) rfl (fun ls hl' => ?_)
      clear hl
      have hl := hl'
      clear hl'
      refine lv_aload hx hb dX10_put_11 (lv_at hl 0 rfl) ?_
      refine lv_ifnull hx hb dX10_put_13 ?_
      refine lv_aload hx hb dX10_put_16 (lv_at hl 0 rfl) ?_
      refine lv_iload_n hx hb dX10_put_18 rfl (lv_at hl 3 rfl) ?_
      refine lv_i2l hx hb dX10_put_19 rfl ?_
      replace hf := o_ck_e hf
      obtain ⟨hk3, hf⟩ := hf
      replace hf := o_call_e hf
      obtain ⟨x3, S2, hq2, hf⟩ := hf
      refine jq_doS hX hJ (jq_okVN (As := [.long ((p2).toInt64)]) (rest := []) hx hb hm ho ht hn (wJ.recv hX hJ (by rw [hk3]; decide) (wE_X5 hk3) rfl) qn190 qw192 qs2 qw193 qw9 hy_X5_has rfl hl.1 (Nat.le_of_ble_eq_true rfl) dX10_put_20) (c_X5_has hq2) (Nat.le_of_ble_eq_true rfl) (Nat.le_of_ble_eq_true rfl) (fun H locs hJ' => ?_)
      clear hJ
      have hJ := hJ'
      clear hJ'
      refine lv_if_ne (tgt := 28) hx hb dX10_put_23 (by decide) (fun c1 => ?_) (fun c1 => ?_)
      · replace hf := o_f hf c1
        refine lv_aload hx hb dX10_put_28 (lv_at hl 0 rfl) ?_
        refine lv_iload_n hx hb dX10_put_30 rfl (lv_at hl 3 rfl) ?_
        refine lv_i2l hx hb dX10_put_31 rfl ?_
        refine lv_aload hx hb dX10_put_32 (lv_at hl 0 rfl) ?_
        replace hf := o_gI_e hf
        obtain ⟨hk4, x4, hx4, hf⟩ := hf
        refine gn_X5_lane hX hJ hk4 hx4 qn174 dX10_put_34 ?_
        refine lv_lload_n hx hb dX10_put_37 rfl (lv_at hl 4 rfl) ?_
        replace hf := o_cP_e hf
        obtain ⟨x5, hq3, hf⟩ := hf
        refine jq_doPS hX hJ (jq_okSN (As := [.int x4, .long p3]) (rest := [.long ((p2).toInt64), .ref a2]) hx hb hm ho ht hn qn194 qw195 qw196 qw8 hy_X2_fromBits rfl hl.1 (Nat.le_of_ble_eq_true rfl) dX10_put_38) (c_X2_fromBits hq3) (Nat.le_of_ble_eq_true rfl) (Nat.le_of_ble_eq_true rfl) (fun locs hJ' => ?_)
        clear hJ
        have hJ := hJ'
        clear hJ'
        replace hf := o_ck_e hf
        obtain ⟨hk5, hf⟩ := hf
        replace hf := o_call_e hf
        obtain ⟨_, S3, hq4, hf⟩ := hf
        refine jq_doS hX hJ (jq_okVN (As := [.long ((p2).toInt64), .long x5]) (rest := []) hx hb hm ho ht hn (wJ.recv hX hJ (by rw [hk5]; decide) (wE_X5 hk5) rfl) qn223 qw225 qs8 qw226 qw9 hy_X5_set rfl hl.1 (Nat.le_of_ble_eq_true rfl) dX10_put_41) (c_X5_set hq4) (Nat.le_of_ble_eq_true rfl) (Nat.le_of_ble_eq_true rfl) (fun H locs hJ' => ?_)
        clear hJ
        have hJ := hJ'
        clear hJ'
        refine lv_iconst (v := 1) hx hb dX10_put_44 (by decide) ?_
        obtain ⟨rfl, rfl⟩ := Prod.mk.inj (Option.some.inj hf)
        exact jq_iret hX hJ.2.2 dX10_put_45 ⟨rfl, rfl, rfl, hJ.1, hJ.2.1⟩
      · replace hf := o_t hf c1
        refine lv_iconst (v := (-1)) hx hb dX10_put_26 (by decide) ?_
        obtain ⟨rfl, rfl⟩ := Prod.mk.inj (Option.some.inj hf)
        exact jq_iret hX hJ.2.2 dX10_put_27 ⟨rfl, rfl, rfl, hJ.1, hJ.2.1⟩
theorem dX10_item_0 : decode cX10_item 0 = .ok (.aload_n 0, 1) := by decide +kernel
theorem dX10_item_1 : decode cX10_item 1 = .ok (.getfield 13, 3) := by decide +kernel
theorem dX10_item_4 : decode cX10_item 4 = .ok (.iload_n 1, 1) := by decide +kernel
theorem dX10_item_5 : decode cX10_item 5 = .ok (.i2l, 1) := by decide +kernel
theorem dX10_item_6 : decode cX10_item 6 = .ok (.invokevirtual 62, 3) := by decide +kernel
theorem dX10_item_9 : decode cX10_item 9 = .ok (.astore_n 3, 1) := by decide +kernel
theorem dX10_item_10 : decode cX10_item 10 = .ok (.aload_n 3, 1) := by decide +kernel
theorem dX10_item_11 : decode cX10_item 11 = .ok (.ifnonnull 7, 3) := by decide +kernel
theorem dX10_item_18 : decode cX10_item 18 = .ok (.aload_n 3, 1) := by decide +kernel
theorem dX10_item_19 : decode cX10_item 19 = .ok (.iload_n 2, 1) := by decide +kernel
theorem dX10_item_20 : decode cX10_item 20 = .ok (.i2l, 1) := by decide +kernel
theorem dX10_item_21 : decode cX10_item 21 = .ok (.invokevirtual 84, 3) := by decide +kernel
theorem dX10_item_24 : decode cX10_item 24 = .ok (.lreturn, 1) := by decide +kernel
theorem dX10_item_14 : decode cX10_item 14 = .ok (.lconst 0, 1) := by decide +kernel
theorem dX10_item_15 : decode cX10_item 15 = .ok (.goto 9, 3) := by decide +kernel
theorem hy_X10_item : yX10_item.cls ≠ "java/lang/invoke/MethodHandle" ∧ yX10_item.cls ≠ "java/lang/invoke/VarHandle" ∧ (parseMethodDescriptor yX10_item.desc).map (fun d => d.parameters.length) = some 2 := ⟨by decide, by decide, by decide +kernel⟩
def f_X10_item (o : Nat) (p1 : Int32) (p2 : Int32) (S : wS) : Option ((Int64) × wS) :=
  o_gR 9 10 o S fun x1 =>
  o_cs x1 (none) (fun a1 =>
  o_ck (s_K S a1 = 6) (o_call (f_X6_at a1 ((p1).toInt64) S) fun x2 S1 =>
  o_cs x2 (some (0, S1)) (fun a2 =>
  o_ck (s_K S1 a2 = 5) (o_call (f_X5_get a2 ((p2).toInt64) S1) fun x3 S2 =>
  some (x3, S2)))))
set_option maxHeartbeats 4000000 in
set_option maxRecDepth 100000 in
theorem c_X10_item {l : Launch} {D : va_G} {Y : Nat → ClassId} {aR : Nat → Nat} {A : Nat → Prop} {o : Nat} {p1 : Int32} {p2 : Int32} {S S' : wS} {r : Int64} (hf : f_X10_item o p1 p2 S = some (r, S')) : jq_S l D Y aR A yX10_item cX10_item 4 (some .long) 2 44 [.ref o, .int p1, .int p2] S (some (.long r)) S' := by
  unfold f_X10_item at hf
  refine jq_enterS (by decide) (Nat.le_of_ble_eq_true rfl) fun p e s m args below meth c ls H locs hX hJ hl => ?_
  have hl : lv_has ls 4 [(0, .ref o), (1, .int p1), (2, .int p2)] := hl
  have hx := hX.1
  have hb := hX.2.1
  have hm := hX.2.2.1
  have ho := hX.2.2.2.1
  have ht := hX.2.2.2.2.1
  have hn := hX.2.2.2.2.2.1.2.1
  refine lv_aload_n hx hb dX10_item_0 rfl (lv_at hl 0 rfl) ?_
  replace hf := o_gR_e hf
  obtain ⟨hk1, x1, hx1, hf⟩ := hf
  refine gf_X10_rows hX hJ hk1 hx1 qw126 dX10_item_1 ?_
  refine lv_iload_n hx hb dX10_item_4 rfl (lv_at hl 1 rfl) ?_
  refine lv_i2l hx hb dX10_item_5 rfl ?_
  replace hf := o_cs_e hf
  rcases hf with ⟨hr1, hf⟩ | ⟨a1, hr1, hf⟩
  · subst hr1
    cases hf
  · subst hr1
    replace hf := o_ck_e hf
    obtain ⟨hk2, hf⟩ := hf
    replace hf := o_call_e hf
    obtain ⟨x2, S1, hq1, hf⟩ := hf
    refine jq_doS hX hJ (jq_okVN (As := [.long ((p1).toInt64)]) (rest := []) hx hb hm ho ht hn (wJ.recv hX hJ (by rw [hk2]; decide) (wE_X6 hk2) rfl) qn186 qw188 qs1 qw189 qw2 hy_X6_at rfl hl.1 (Nat.le_of_ble_eq_true rfl) dX10_item_6) (c_X6_at hq1) (Nat.le_of_ble_eq_true rfl) (Nat.le_of_ble_eq_true rfl) (fun H locs hJ' => ?_)
    clear hJ
    have hJ := hJ'
    clear hJ'
    replace hf := o_cs_e hf
    rcases hf with ⟨hr2, hf⟩ | ⟨a2, hr2, hf⟩
    · subst hr2
      refine lv_astore_nN (lv' := [(3, .null), (0, .ref o), (1, .int p1), (2, .int p2)]) hx hb dX10_item_9 rfl hl (by decide) rfl (fun ls hl' => ?_)
      clear hl
      have hl := hl'
      clear hl'
      refine lv_aload_nN hx hb dX10_item_10 rfl (lv_at hl 0 rfl) ?_
      refine lv_ifnonnullN hx hb dX10_item_11 ?_
      refine lv_lconst (v := 0) hx hb dX10_item_14 (by decide) ?_
      refine lv_goto (tgt := 24) hx hb dX10_item_15 (by decide) ?_
      obtain ⟨rfl, rfl⟩ := Prod.mk.inj (Option.some.inj hf)
      exact jq_lret hX hJ.2.2 dX10_item_24 ⟨rfl, rfl, rfl, hJ.1, hJ.2.1⟩
    · subst hr2
      refine lv_astore_n (lv' := [(3, .ref a2), (0, .ref o), (1, .int p1), (2, .int p2)]) hx hb dX10_item_9 rfl hl (by decide) rfl (fun ls hl' => ?_)
      clear hl
      have hl := hl'
      clear hl'
      refine lv_aload_n hx hb dX10_item_10 rfl (lv_at hl 0 rfl) ?_
      refine lv_ifnonnull (tgt := 18) hx hb dX10_item_11 (by decide) ?_
      refine lv_aload_n hx hb dX10_item_18 rfl (lv_at hl 0 rfl) ?_
      refine lv_iload_n hx hb dX10_item_19 rfl (lv_at hl 3 rfl) ?_
      refine lv_i2l hx hb dX10_item_20 rfl ?_
      replace hf := o_ck_e hf
      obtain ⟨hk3, hf⟩ := hf
      replace hf := o_call_e hf
      obtain ⟨x3, S2, hq2, hf⟩ := hf
      refine jq_doS hX hJ (jq_okVN (As := [.long ((p2).toInt64)]) (rest := []) hx hb hm ho ht hn (wJ.recv hX hJ (by rw [hk3]; decide) (wE_X5 hk3) rfl) qn232 qw234 qs9 qw235 qw9 hy_X5_get rfl hl.1 (Nat.le_of_ble_eq_true rfl) dX10_item_21) (c_X5_get hq2) (Nat.le_of_ble_eq_true rfl) (Nat.le_of_ble_eq_true rfl) (fun H locs hJ' => ?_)
      clear hJ
      have hJ := hJ'
      clear hJ'
      obtain ⟨rfl, rfl⟩ := Prod.mk.inj (Option.some.inj hf)
      exact jq_lret hX hJ.2.2 dX10_item_24 ⟨rfl, rfl, rfl, hJ.1, hJ.2.1⟩
theorem dX10_size_0 : decode cX10_size 0 = .ok (.aload_n 0, 1) := by decide +kernel
theorem dX10_size_1 : decode cX10_size 1 = .ok (.getfield 13, 3) := by decide +kernel
theorem dX10_size_4 : decode cX10_size 4 = .ok (.iload_n 1, 1) := by decide +kernel
theorem dX10_size_5 : decode cX10_size 5 = .ok (.i2l, 1) := by decide +kernel
theorem dX10_size_6 : decode cX10_size 6 = .ok (.invokevirtual 62, 3) := by decide +kernel
theorem dX10_size_9 : decode cX10_size 9 = .ok (.astore_n 2, 1) := by decide +kernel
theorem dX10_size_10 : decode cX10_size 10 = .ok (.aload_n 2, 1) := by decide +kernel
theorem dX10_size_11 : decode cX10_size 11 = .ok (.ifnonnull 7, 3) := by decide +kernel
theorem dX10_size_18 : decode cX10_size 18 = .ok (.aload_n 2, 1) := by decide +kernel
theorem dX10_size_19 : decode cX10_size 19 = .ok (.invokevirtual 88, 3) := by decide +kernel
theorem dX10_size_22 : decode cX10_size 22 = .ok (.ireturn, 1) := by decide +kernel
theorem dX10_size_14 : decode cX10_size 14 = .ok (.iconst (-1), 1) := by decide +kernel
theorem dX10_size_15 : decode cX10_size 15 = .ok (.goto 7, 3) := by decide +kernel
theorem hy_X10_size : yX10_size.cls ≠ "java/lang/invoke/MethodHandle" ∧ yX10_size.cls ≠ "java/lang/invoke/VarHandle" ∧ (parseMethodDescriptor yX10_size.desc).map (fun d => d.parameters.length) = some 1 := ⟨by decide, by decide, by decide +kernel⟩
def f_X10_size (o : Nat) (p1 : Int32) (S : wS) : Option ((Int32) × wS) :=
  o_gR 9 10 o S fun x1 =>
  o_cs x1 (none) (fun a1 =>
  o_ck (s_K S a1 = 6) (o_call (f_X6_at a1 ((p1).toInt64) S) fun x2 S1 =>
  o_cs x2 (some ((-1), S1)) (fun a2 =>
  o_ck (s_K S1 a2 = 5) (o_call (f_X5_many a2 S1) fun x3 S2 =>
  some (x3, S2)))))
set_option maxHeartbeats 4000000 in
set_option maxRecDepth 100000 in
theorem c_X10_size {l : Launch} {D : va_G} {Y : Nat → ClassId} {aR : Nat → Nat} {A : Nat → Prop} {o : Nat} {p1 : Int32} {S S' : wS} {r : Int32} (hf : f_X10_size o p1 S = some (r, S')) : jq_S l D Y aR A yX10_size cX10_size 3 (some .int) 1 22 [.ref o, .int p1] S (some (.int r)) S' := by
  unfold f_X10_size at hf
  refine jq_enterS (by decide) (Nat.le_of_ble_eq_true rfl) fun p e s m args below meth c ls H locs hX hJ hl => ?_
  have hl : lv_has ls 3 [(0, .ref o), (1, .int p1)] := hl
  have hx := hX.1
  have hb := hX.2.1
  have hm := hX.2.2.1
  have ho := hX.2.2.2.1
  have ht := hX.2.2.2.2.1
  have hn := hX.2.2.2.2.2.1.2.1
  refine lv_aload_n hx hb dX10_size_0 rfl (lv_at hl 0 rfl) ?_
  replace hf := o_gR_e hf
  obtain ⟨hk1, x1, hx1, hf⟩ := hf
  refine gf_X10_rows hX hJ hk1 hx1 qw126 dX10_size_1 ?_
  refine lv_iload_n hx hb dX10_size_4 rfl (lv_at hl 1 rfl) ?_
  refine lv_i2l hx hb dX10_size_5 rfl ?_
  replace hf := o_cs_e hf
  rcases hf with ⟨hr1, hf⟩ | ⟨a1, hr1, hf⟩
  · subst hr1
    cases hf
  · subst hr1
    replace hf := o_ck_e hf
    obtain ⟨hk2, hf⟩ := hf
    replace hf := o_call_e hf
    obtain ⟨x2, S1, hq1, hf⟩ := hf
    refine jq_doS hX hJ (jq_okVN (As := [.long ((p1).toInt64)]) (rest := []) hx hb hm ho ht hn (wJ.recv hX hJ (by rw [hk2]; decide) (wE_X6 hk2) rfl) qn186 qw188 qs1 qw189 qw2 hy_X6_at rfl hl.1 (Nat.le_of_ble_eq_true rfl) dX10_size_6) (c_X6_at hq1) (Nat.le_of_ble_eq_true rfl) (Nat.le_of_ble_eq_true rfl) (fun H locs hJ' => ?_)
    clear hJ
    have hJ := hJ'
    clear hJ'
    replace hf := o_cs_e hf
    rcases hf with ⟨hr2, hf⟩ | ⟨a2, hr2, hf⟩
    · subst hr2
      refine lv_astore_nN (lv' := [(2, .null), (0, .ref o), (1, .int p1)]) hx hb dX10_size_9 rfl hl (by decide) rfl (fun ls hl' => ?_)
      clear hl
      have hl := hl'
      clear hl'
      refine lv_aload_nN hx hb dX10_size_10 rfl (lv_at hl 0 rfl) ?_
      refine lv_ifnonnullN hx hb dX10_size_11 ?_
      refine lv_iconst (v := (-1)) hx hb dX10_size_14 (by decide) ?_
      refine lv_goto (tgt := 22) hx hb dX10_size_15 (by decide) ?_
      obtain ⟨rfl, rfl⟩ := Prod.mk.inj (Option.some.inj hf)
      exact jq_iret hX hJ.2.2 dX10_size_22 ⟨rfl, rfl, rfl, hJ.1, hJ.2.1⟩
    · subst hr2
      refine lv_astore_n (lv' := [(2, .ref a2), (0, .ref o), (1, .int p1)]) hx hb dX10_size_9 rfl hl (by decide) rfl (fun ls hl' => ?_)
      clear hl
      have hl := hl'
      clear hl'
      refine lv_aload_n hx hb dX10_size_10 rfl (lv_at hl 0 rfl) ?_
      refine lv_ifnonnull (tgt := 18) hx hb dX10_size_11 (by decide) ?_
      refine lv_aload_n hx hb dX10_size_18 rfl (lv_at hl 0 rfl) ?_
      replace hf := o_ck_e hf
      obtain ⟨hk3, hf⟩ := hf
      replace hf := o_call_e hf
      obtain ⟨x3, S2, hq2, hf⟩ := hf
      refine jq_doS hX hJ (jq_okVN (As := []) (rest := []) hx hb hm ho ht hn (wJ.recv hX hJ (by rw [hk3]; decide) (wE_X5 hk3) rfl) qn240 qw242 qs10 qw243 qw9 hy_X5_many rfl hl.1 (Nat.le_of_ble_eq_true rfl) dX10_size_19) (c_X5_many hq2) (Nat.le_of_ble_eq_true rfl) (Nat.le_of_ble_eq_true rfl) (fun H locs hJ' => ?_)
      clear hJ
      have hJ := hJ'
      clear hJ'
      obtain ⟨rfl, rfl⟩ := Prod.mk.inj (Option.some.inj hf)
      exact jq_iret hX hJ.2.2 dX10_size_22 ⟨rfl, rfl, rfl, hJ.1, hJ.2.1⟩
theorem dX10_type_0 : decode cX10_type 0 = .ok (.iload_n 1, 1) := by decide +kernel
theorem dX10_type_1 : decode cX10_type 1 = .ok (.invokestatic 92, 3) := by decide +kernel
theorem dX10_type_4 : decode cX10_type 4 = .ok (.ifCond .eq 12, 3) := by decide +kernel
theorem dX10_type_16 : decode cX10_type 16 = .ok (.iconst (-1), 1) := by decide +kernel
theorem dX10_type_17 : decode cX10_type 17 = .ok (.ireturn, 1) := by decide +kernel
theorem dX10_type_7 : decode cX10_type 7 = .ok (.iload_n 2, 1) := by decide +kernel
theorem dX10_type_8 : decode cX10_type 8 = .ok (.ifCond .lt 8, 3) := by decide +kernel
theorem dX10_type_11 : decode cX10_type 11 = .ok (.iload_n 2, 1) := by decide +kernel
theorem dX10_type_12 : decode cX10_type 12 = .ok (.iconst 4, 1) := by decide +kernel
theorem dX10_type_13 : decode cX10_type 13 = .ok (.if_icmp .le 5, 3) := by decide +kernel
theorem dX10_type_18 : decode cX10_type 18 = .ok (.iconst 4, 1) := by decide +kernel
theorem dX10_type_19 : decode cX10_type 19 = .ok (.newarray .int, 2) := by decide +kernel
theorem dX10_type_21 : decode cX10_type 21 = .ok (.dup, 1) := by decide +kernel
theorem dX10_type_22 : decode cX10_type 22 = .ok (.iconst 0, 1) := by decide +kernel
theorem dX10_type_23 : decode cX10_type 23 = .ok (.iload_n 3, 1) := by decide +kernel
theorem dX10_type_24 : decode cX10_type 24 = .ok (.iastore, 1) := by decide +kernel
theorem dX10_type_25 : decode cX10_type 25 = .ok (.dup, 1) := by decide +kernel
theorem dX10_type_26 : decode cX10_type 26 = .ok (.iconst 1, 1) := by decide +kernel
theorem dX10_type_27 : decode cX10_type 27 = .ok (.iload 4, 2) := by decide +kernel
theorem dX10_type_29 : decode cX10_type 29 = .ok (.iastore, 1) := by decide +kernel
theorem dX10_type_30 : decode cX10_type 30 = .ok (.dup, 1) := by decide +kernel
theorem dX10_type_31 : decode cX10_type 31 = .ok (.iconst 2, 1) := by decide +kernel
theorem dX10_type_32 : decode cX10_type 32 = .ok (.iload 5, 2) := by decide +kernel
theorem dX10_type_34 : decode cX10_type 34 = .ok (.iastore, 1) := by decide +kernel
theorem dX10_type_35 : decode cX10_type 35 = .ok (.dup, 1) := by decide +kernel
theorem dX10_type_36 : decode cX10_type 36 = .ok (.iconst 3, 1) := by decide +kernel
theorem dX10_type_37 : decode cX10_type 37 = .ok (.iload 6, 2) := by decide +kernel
theorem dX10_type_39 : decode cX10_type 39 = .ok (.iastore, 1) := by decide +kernel
theorem dX10_type_40 : decode cX10_type 40 = .ok (.astore 7, 2) := by decide +kernel
theorem dX10_type_42 : decode cX10_type 42 = .ok (.iconst 0, 1) := by decide +kernel
theorem dX10_type_43 : decode cX10_type 43 = .ok (.istore 8, 2) := by decide +kernel
theorem dX10_type_45 : decode cX10_type 45 = .ok (.iload 8, 2) := by decide +kernel
theorem dX10_type_47 : decode cX10_type 47 = .ok (.iload_n 2, 1) := by decide +kernel
theorem dX10_type_48 : decode cX10_type 48 = .ok (.if_icmp .ge 30, 3) := by decide +kernel
theorem dX10_type_78 : decode cX10_type 78 = .ok (.aload_n 0, 1) := by decide +kernel
theorem dX10_type_79 : decode cX10_type 79 = .ok (.new 43, 3) := by decide +kernel
theorem dX10_type_82 : decode cX10_type 82 = .ok (.dup, 1) := by decide +kernel
theorem dX10_type_83 : decode cX10_type 83 = .ok (.iload_n 1, 1) := by decide +kernel
theorem dX10_type_84 : decode cX10_type 84 = .ok (.iload_n 2, 1) := by decide +kernel
theorem dX10_type_85 : decode cX10_type 85 = .ok (.aload 7, 2) := by decide +kernel
theorem dX10_type_87 : decode cX10_type 87 = .ok (.invokespecial 47, 3) := by decide +kernel
theorem dX10_type_90 : decode cX10_type 90 = .ok (.putfield 50, 3) := by decide +kernel
theorem dX10_type_93 : decode cX10_type 93 = .ok (.iconst 1, 1) := by decide +kernel
theorem dX10_type_94 : decode cX10_type 94 = .ok (.ireturn, 1) := by decide +kernel
theorem dX10_type_51 : decode cX10_type 51 = .ok (.iload 8, 2) := by decide +kernel
theorem dX10_type_53 : decode cX10_type 53 = .ok (.aload 7, 2) := by decide +kernel
theorem dX10_type_55 : decode cX10_type 55 = .ok (.arraylength, 1) := by decide +kernel
theorem dX10_type_56 : decode cX10_type 56 = .ok (.if_icmp .ge 22, 3) := by decide +kernel
theorem dX10_type_59 : decode cX10_type 59 = .ok (.aload 7, 2) := by decide +kernel
theorem dX10_type_61 : decode cX10_type 61 = .ok (.iload 8, 2) := by decide +kernel
theorem dX10_type_63 : decode cX10_type 63 = .ok (.iaload, 1) := by decide +kernel
theorem dX10_type_64 : decode cX10_type 64 = .ok (.invokestatic 92, 3) := by decide +kernel
theorem dX10_type_67 : decode cX10_type 67 = .ok (.ifCond .ne 5, 3) := by decide +kernel
theorem dX10_type_72 : decode cX10_type 72 = .ok (.iinc 8 1, 3) := by decide +kernel
theorem dX10_type_75 : decode cX10_type 75 = .ok (.goto (-30), 3) := by decide +kernel
theorem dX10_type_70 : decode cX10_type 70 = .ok (.iconst (-1), 1) := by decide +kernel
theorem dX10_type_71 : decode cX10_type 71 = .ok (.ireturn, 1) := by decide +kernel
theorem hy_X10_type : yX10_type.cls ≠ "java/lang/invoke/MethodHandle" ∧ yX10_type.cls ≠ "java/lang/invoke/VarHandle" ∧ (parseMethodDescriptor yX10_type.desc).map (fun d => d.parameters.length) = some 6 := ⟨by decide, by decide, by decide +kernel⟩
def f_X10_type_b45 : Nat → Nat → Int32 → Int32 → Nat → Int32 → wS → Option ((Int32) × wS)
  | 0, _, _, _, _, _, _ => none
  | n + 1, l0, l1, l2, l7, l8, S => 
  if l2 ≤ l8 then (
  o_new 8 3 S fun a1 S1 =>
  o_call (f_X9_init a1 l1 l2 l7 S1) fun _ S2 =>
  o_pR 9 15 l0 (some a1) S2 fun S3 =>
  some (1, S3)) else (
  o_len 21 l7 S fun x1 =>
  if x1 ≤ l8 then (
  o_new 8 3 S fun a2 S4 =>
  o_call (f_X9_init a2 l1 l2 l7 S4) fun _ S5 =>
  o_pR 9 15 l0 (some a2) S5 fun S6 =>
  some (1, S6)) else (
  o_rI l7 l8 S fun x2 =>
  o_cP (f_X2_isKind x2) fun x3 =>
  if x3 = 0 then (
  some ((-1), S)) else (
  o_let (l8 + 1) fun x4 =>
  f_X10_type_b45 n l0 l1 l2 l7 x4 S)))
set_option maxHeartbeats 4000000 in
set_option maxRecDepth 100000 in
theorem w_X10_type_b45 {l : Launch} {D : va_G} {Y : Nat → ClassId} {aR : Nat → Nat} {A : Nat → Prop} {p : Program} {e : Env} {s : State} {m : MethodId} {args : Array Value} {below : List Frame} {meth : Method} {c : Code} {S0 : wS} : ∀ (n : Nat) (l0 : Nat) (l1 : Int32) (l2 : Int32) (l7 : Nat) (l8 : Int32) (S S' : wS) (r : Int32) (H : Heap) (locs : List Loc) (ls : Array Slot), jq_X D Y aR A p s m args meth c cX10_type RX10 "type" 9 (some .int) → wJ D Y A s S0 S H locs → f_X10_type_b45 n l0 l1 l2 l7 l8 S = some (r, S') → lv_has ls 9 [(0, .ref l0), (1, .int l1), (2, .int l2), (7, .ref l7), (8, .int l8)] → W p l e { frames := 2, cells := s_lm S0 - s_nx S0, slots := s_sm S0 - s_sl S0, locals := 35 } s m args below meth c H locs (s_nx S - s_nx S0) (s_sl S - s_sl S0) (jq_Z below A (fun v k n H => v = (some (.int r)) ∧ k = s_nx S' - s_nx S0 ∧ n = s_sl S' - s_sl S0 ∧ wG S0 S' ∧ wH D Y A S' H) s) (F0 m 45 ls []) := by
  intro n
  induction n with
  | zero =>
    intro l0 l1 l2 l7 l8 S S' r H locs ls hX hJ hf hl
    cases hf
  | succ n ih =>
    intro l0 l1 l2 l7 l8 S S' r H locs ls hX hJ hf hl
    rw [f_X10_type_b45.eq_2] at hf
    have hx := hX.1
    have hb := hX.2.1
    have hm := hX.2.2.1
    have ho := hX.2.2.2.1
    have ht := hX.2.2.2.2.1
    have hn := hX.2.2.2.2.2.1.2.1
    refine lv_iload hx hb dX10_type_45 (lv_at hl 4 rfl) ?_
    refine lv_iload_n hx hb dX10_type_47 rfl (lv_at hl 2 rfl) ?_
    refine lv_icmp_ge (tgt := 78) hx hb dX10_type_48 (by decide) (fun c1 => ?_) (fun c1 => ?_)
    · replace hf := o_t hf c1
      refine lv_aload_n hx hb dX10_type_78 rfl (lv_at hl 0 rfl) ?_
      replace hf := o_new_e hf
      obtain ⟨hk1, a1, S1, ha1, hS1, hf⟩ := hf
      refine nw_X9 hX hJ hk1 ha1 hS1 qw103 dX10_type_79 (fun H hJ' => ?_)
      clear hJ
      have hJ := hJ'
      clear hJ'
      refine lv_dup hx hb dX10_type_82 rfl ?_
      refine lv_iload_n hx hb dX10_type_83 rfl (lv_at hl 1 rfl) ?_
      refine lv_iload_n hx hb dX10_type_84 rfl (lv_at hl 2 rfl) ?_
      refine lv_aload hx hb dX10_type_85 (lv_at hl 3 rfl) ?_
      replace hf := o_call_e hf
      obtain ⟨_, S2, hq1, hf⟩ := hf
      refine jq_doS hX hJ (jq_okIN (As := [.int l1, .int l2, .ref l7]) (rest := [.ref a1, .ref l0]) hx hb hm ho ht hn qn105 qw106 qw107 qw6 rfl hy_X9_init rfl hl.1 (Nat.le_of_ble_eq_true rfl) dX10_type_87) (c_X9_init hq1) (Nat.le_of_ble_eq_true rfl) (Nat.le_of_ble_eq_true rfl) (fun H locs hJ' => ?_)
      clear hJ
      have hJ := hJ'
      clear hJ'
      replace hf := o_pR_e hf
      obtain ⟨hk2, S3, hS3, hf⟩ := hf
      refine pf_X10_atHand hX hJ hk2 hS3 qw131 dX10_type_90 (fun H locs hJ' => ?_)
      clear hJ
      have hJ := hJ'
      clear hJ'
      refine lv_iconst (v := 1) hx hb dX10_type_93 (by decide) ?_
      obtain ⟨rfl, rfl⟩ := Prod.mk.inj (Option.some.inj hf)
      exact jq_iret hX hJ.2.2 dX10_type_94 ⟨rfl, rfl, rfl, hJ.1, hJ.2.1⟩
    · replace hf := o_f hf c1
      refine lv_iload hx hb dX10_type_51 (lv_at hl 4 rfl) ?_
      refine lv_aload hx hb dX10_type_53 (lv_at hl 3 rfl) ?_
      replace hf := o_len_e hf
      obtain ⟨hk3, x1, hx1, hf⟩ := hf
      refine gl_I hX hJ hk3 hx1 dX10_type_55 ?_
      refine lv_icmp_ge (tgt := 78) hx hb dX10_type_56 (by decide) (fun c2 => ?_) (fun c2 => ?_)
      · replace hf := o_t hf c2
        refine lv_aload_n hx hb dX10_type_78 rfl (lv_at hl 0 rfl) ?_
        replace hf := o_new_e hf
        obtain ⟨hk4, a2, S4, ha2, hS4, hf⟩ := hf
        refine nw_X9 hX hJ hk4 ha2 hS4 qw103 dX10_type_79 (fun H hJ' => ?_)
        clear hJ
        have hJ := hJ'
        clear hJ'
        refine lv_dup hx hb dX10_type_82 rfl ?_
        refine lv_iload_n hx hb dX10_type_83 rfl (lv_at hl 1 rfl) ?_
        refine lv_iload_n hx hb dX10_type_84 rfl (lv_at hl 2 rfl) ?_
        refine lv_aload hx hb dX10_type_85 (lv_at hl 3 rfl) ?_
        replace hf := o_call_e hf
        obtain ⟨_, S5, hq2, hf⟩ := hf
        refine jq_doS hX hJ (jq_okIN (As := [.int l1, .int l2, .ref l7]) (rest := [.ref a2, .ref l0]) hx hb hm ho ht hn qn105 qw106 qw107 qw6 rfl hy_X9_init rfl hl.1 (Nat.le_of_ble_eq_true rfl) dX10_type_87) (c_X9_init hq2) (Nat.le_of_ble_eq_true rfl) (Nat.le_of_ble_eq_true rfl) (fun H locs hJ' => ?_)
        clear hJ
        have hJ := hJ'
        clear hJ'
        replace hf := o_pR_e hf
        obtain ⟨hk5, S6, hS6, hf⟩ := hf
        refine pf_X10_atHand hX hJ hk5 hS6 qw131 dX10_type_90 (fun H locs hJ' => ?_)
        clear hJ
        have hJ := hJ'
        clear hJ'
        refine lv_iconst (v := 1) hx hb dX10_type_93 (by decide) ?_
        obtain ⟨rfl, rfl⟩ := Prod.mk.inj (Option.some.inj hf)
        exact jq_iret hX hJ.2.2 dX10_type_94 ⟨rfl, rfl, rfl, hJ.1, hJ.2.1⟩
      · replace hf := o_f hf c2
        refine lv_aload hx hb dX10_type_59 (lv_at hl 3 rfl) ?_
        refine lv_iload hx hb dX10_type_61 (lv_at hl 4 rfl) ?_
        replace hf := o_rI_e hf
        obtain ⟨hk6, x2, hx2, hf⟩ := hf
        refine ga_I hX hJ hk6 hx2 dX10_type_63 ?_
        replace hf := o_cP_e hf
        obtain ⟨x3, hq3, hf⟩ := hf
        refine jq_doPS hX hJ (jq_okSN (As := [.int x2]) (rest := []) hx hb hm ho ht hn qn248 qw249 qw250 qw8 hy_X2_isKind rfl hl.1 (Nat.le_of_ble_eq_true rfl) dX10_type_64) (c_X2_isKind hq3) (Nat.le_of_ble_eq_true rfl) (Nat.le_of_ble_eq_true rfl) (fun locs hJ' => ?_)
        clear hJ
        have hJ := hJ'
        clear hJ'
        refine lv_if_ne (tgt := 72) hx hb dX10_type_67 (by decide) (fun c3 => ?_) (fun c3 => ?_)
        · replace hf := o_f hf c3
          replace hf := o_let_e hf
          obtain ⟨x4, hx4, hf⟩ := hf
          refine lv_iinc (v := x4) (lv' := [(8, .int x4), (0, .ref l0), (1, .int l1), (2, .int l2), (7, .ref l7)]) hx hb dX10_type_72 hl (k := 4) rfl (by rw [← hx4]; rfl) (by decide) rfl (fun ls hl' => ?_)
          clear hl
          have hl := hl'
          clear hl'
          refine lv_goto (tgt := 45) hx hb dX10_type_75 (by decide) ?_
          replace hl := lv_sub hl (l' := [(0, .ref l0), (1, .int l1), (2, .int l2), (7, .ref l7), (8, .int x4)]) [1, 2, 3, 4, 0] rfl
          exact ih l0 l1 l2 l7 x4 S S' r H locs ls hX hJ hf hl
        · replace hf := o_t hf c3
          refine lv_iconst (v := (-1)) hx hb dX10_type_70 (by decide) ?_
          obtain ⟨rfl, rfl⟩ := Prod.mk.inj (Option.some.inj hf)
          exact jq_iret hX hJ.2.2 dX10_type_71 ⟨rfl, rfl, rfl, hJ.1, hJ.2.1⟩
def f_X10_type (o : Nat) (p1 : Int32) (p2 : Int32) (p3 : Int32) (p4 : Int32) (p5 : Int32) (p6 : Int32) (S : wS) : Option ((Int32) × wS) :=
  o_cP (f_X2_isKind p1) fun x1 =>
  if x1 = 0 then (
  some ((-1), S)) else (
  if p2 < 0 then (
  some ((-1), S)) else (
  if p2 ≤ 4 then (
  o_newA 21 4 S fun a1 S1 =>
  o_wI a1 0 p3 S1 fun S2 =>
  o_wI a1 1 p4 S2 fun S3 =>
  o_wI a1 2 p5 S3 fun S4 =>
  o_wI a1 3 p6 S4 fun S5 =>
  f_X10_type_b45 12 o p1 p2 a1 0 S5) else (
  some ((-1), S))))
set_option maxHeartbeats 4000000 in
set_option maxRecDepth 100000 in
theorem c_X10_type {l : Launch} {D : va_G} {Y : Nat → ClassId} {aR : Nat → Nat} {A : Nat → Prop} {o : Nat} {p1 : Int32} {p2 : Int32} {p3 : Int32} {p4 : Int32} {p5 : Int32} {p6 : Int32} {S S' : wS} {r : Int32} (hf : f_X10_type o p1 p2 p3 p4 p5 p6 S = some (r, S')) : jq_S l D Y aR A yX10_type cX10_type 9 (some .int) 2 35 [.ref o, .int p1, .int p2, .int p3, .int p4, .int p5, .int p6] S (some (.int r)) S' := by
  unfold f_X10_type at hf
  refine jq_enterS (by decide) (Nat.le_of_ble_eq_true rfl) fun p e s m args below meth c ls H locs hX hJ hl => ?_
  have hl : lv_has ls 9 [(0, .ref o), (1, .int p1), (2, .int p2), (3, .int p3), (4, .int p4), (5, .int p5), (6, .int p6)] := hl
  have hx := hX.1
  have hb := hX.2.1
  have hm := hX.2.2.1
  have ho := hX.2.2.2.1
  have ht := hX.2.2.2.2.1
  have hn := hX.2.2.2.2.2.1.2.1
  refine lv_iload_n hx hb dX10_type_0 rfl (lv_at hl 1 rfl) ?_
  replace hf := o_cP_e hf
  obtain ⟨x1, hq1, hf⟩ := hf
  refine jq_doPS hX hJ (jq_okSN (As := [.int p1]) (rest := []) hx hb hm ho ht hn qn248 qw249 qw250 qw8 hy_X2_isKind rfl hl.1 (Nat.le_of_ble_eq_true rfl) dX10_type_1) (c_X2_isKind hq1) (Nat.le_of_ble_eq_true rfl) (Nat.le_of_ble_eq_true rfl) (fun locs hJ' => ?_)
  clear hJ
  have hJ := hJ'
  clear hJ'
  refine lv_if_eq (tgt := 16) hx hb dX10_type_4 (by decide) (fun c1 => ?_) (fun c1 => ?_)
  · replace hf := o_t hf c1
    refine lv_iconst (v := (-1)) hx hb dX10_type_16 (by decide) ?_
    obtain ⟨rfl, rfl⟩ := Prod.mk.inj (Option.some.inj hf)
    exact jq_iret hX hJ.2.2 dX10_type_17 ⟨rfl, rfl, rfl, hJ.1, hJ.2.1⟩
  · replace hf := o_f hf c1
    refine lv_iload_n hx hb dX10_type_7 rfl (lv_at hl 2 rfl) ?_
    refine lv_if_lt (tgt := 16) hx hb dX10_type_8 (by decide) (fun c2 => ?_) (fun c2 => ?_)
    · replace hf := o_t hf c2
      refine lv_iconst (v := (-1)) hx hb dX10_type_16 (by decide) ?_
      obtain ⟨rfl, rfl⟩ := Prod.mk.inj (Option.some.inj hf)
      exact jq_iret hX hJ.2.2 dX10_type_17 ⟨rfl, rfl, rfl, hJ.1, hJ.2.1⟩
    · replace hf := o_f hf c2
      refine lv_iload_n hx hb dX10_type_11 rfl (lv_at hl 2 rfl) ?_
      refine lv_iconst (v := 4) hx hb dX10_type_12 (by decide) ?_
      refine lv_icmp_le (tgt := 18) hx hb dX10_type_13 (by decide) (fun c3 => ?_) (fun c3 => ?_)
      · replace hf := o_t hf c3
        refine lv_iconst (v := 4) hx hb dX10_type_18 (by decide) ?_
        replace hf := o_newA_e hf
        obtain ⟨hk1, a1, S1, ha1, hS1, hf⟩ := hf
        refine na_I hX hJ hk1 ha1 hS1 dX10_type_19 (fun H hJ' => ?_)
        clear hJ
        have hJ := hJ'
        clear hJ'
        refine lv_dup hx hb dX10_type_21 rfl ?_
        refine lv_iconst (v := 0) hx hb dX10_type_22 (by decide) ?_
        refine lv_iload_n hx hb dX10_type_23 rfl (lv_at hl 3 rfl) ?_
        replace hf := o_wI_e hf
        obtain ⟨hk2, S2, hS2, hf⟩ := hf
        refine wa_I hX hJ hk2 hS2 dX10_type_24 (fun H locs hJ' => ?_)
        clear hJ
        have hJ := hJ'
        clear hJ'
        refine lv_dup hx hb dX10_type_25 rfl ?_
        refine lv_iconst (v := 1) hx hb dX10_type_26 (by decide) ?_
        refine lv_iload hx hb dX10_type_27 (lv_at hl 4 rfl) ?_
        replace hf := o_wI_e hf
        obtain ⟨hk3, S3, hS3, hf⟩ := hf
        refine wa_I hX hJ hk3 hS3 dX10_type_29 (fun H locs hJ' => ?_)
        clear hJ
        have hJ := hJ'
        clear hJ'
        refine lv_dup hx hb dX10_type_30 rfl ?_
        refine lv_iconst (v := 2) hx hb dX10_type_31 (by decide) ?_
        refine lv_iload hx hb dX10_type_32 (lv_at hl 5 rfl) ?_
        replace hf := o_wI_e hf
        obtain ⟨hk4, S4, hS4, hf⟩ := hf
        refine wa_I hX hJ hk4 hS4 dX10_type_34 (fun H locs hJ' => ?_)
        clear hJ
        have hJ := hJ'
        clear hJ'
        refine lv_dup hx hb dX10_type_35 rfl ?_
        refine lv_iconst (v := 3) hx hb dX10_type_36 (by decide) ?_
        refine lv_iload hx hb dX10_type_37 (lv_at hl 6 rfl) ?_
        replace hf := o_wI_e hf
        obtain ⟨hk5, S5, hS5, hf⟩ := hf
        refine wa_I hX hJ hk5 hS5 dX10_type_39 (fun H locs hJ' => ?_)
        clear hJ
        have hJ := hJ'
        clear hJ'
        refine lv_astore (lv' := [(7, .ref a1), (0, .ref o), (1, .int p1), (2, .int p2), (3, .int p3), (4, .int p4), (5, .int p5), (6, .int p6)]) hx hb dX10_type_40 hl (by decide) rfl (fun ls hl' => ?_)
        clear hl
        have hl := hl'
        clear hl'
        refine lv_iconst (v := 0) hx hb dX10_type_42 (by decide) ?_
        refine lv_istore (lv' := [(8, .int 0), (7, .ref a1), (0, .ref o), (1, .int p1), (2, .int p2), (3, .int p3), (4, .int p4), (5, .int p5), (6, .int p6)]) hx hb dX10_type_43 hl (by decide) rfl (fun ls hl' => ?_)
        clear hl
        have hl := hl'
        clear hl'
        replace hl := lv_sub hl (l' := [(0, .ref o), (1, .int p1), (2, .int p2), (7, .ref a1), (8, .int 0)]) [2, 3, 4, 1, 0] rfl
        exact w_X10_type_b45 12 o p1 p2 a1 0 S5 S' r H locs ls hX hJ hf hl
      · replace hf := o_f hf c3
        refine lv_iconst (v := (-1)) hx hb dX10_type_16 (by decide) ?_
        obtain ⟨rfl, rfl⟩ := Prod.mk.inj (Option.some.inj hf)
        exact jq_iret hX hJ.2.2 dX10_type_17 ⟨rfl, rfl, rfl, hJ.1, hJ.2.1⟩
theorem dX10_make_0 : decode cX10_make 0 = .ok (.new 95, 3) := by decide +kernel
theorem dX10_make_3 : decode cX10_make 3 = .ok (.dup, 1) := by decide +kernel
theorem dX10_make_4 : decode cX10_make 4 = .ok (.iload_n 1, 1) := by decide +kernel
theorem dX10_make_5 : decode cX10_make 5 = .ok (.iload_n 2, 1) := by decide +kernel
theorem dX10_make_6 : decode cX10_make 6 = .ok (.iload_n 3, 1) := by decide +kernel
theorem dX10_make_7 : decode cX10_make 7 = .ok (.iload 4, 2) := by decide +kernel
theorem dX10_make_9 : decode cX10_make 9 = .ok (.lload 5, 2) := by decide +kernel
theorem dX10_make_11 : decode cX10_make 11 = .ok (.invokespecial 97, 3) := by decide +kernel
theorem dX10_make_14 : decode cX10_make 14 = .ok (.astore 7, 2) := by decide +kernel
theorem dX10_make_16 : decode cX10_make 16 = .ok (.aload_n 0, 1) := by decide +kernel
theorem dX10_make_17 : decode cX10_make 17 = .ok (.getfield 28, 3) := by decide +kernel
theorem dX10_make_20 : decode cX10_make 20 = .ok (.aload 7, 2) := by decide +kernel
theorem dX10_make_22 : decode cX10_make 22 = .ok (.invokevirtual 100, 3) := by decide +kernel
theorem dX10_make_25 : decode cX10_make 25 = .ok (.ifCond .ne 5, 3) := by decide +kernel
theorem dX10_make_30 : decode cX10_make 30 = .ok (.aload_n 0, 1) := by decide +kernel
theorem dX10_make_31 : decode cX10_make 31 = .ok (.getfield 28, 3) := by decide +kernel
theorem dX10_make_34 : decode cX10_make 34 = .ok (.aload 7, 2) := by decide +kernel
theorem dX10_make_36 : decode cX10_make 36 = .ok (.aload_n 0, 1) := by decide +kernel
theorem dX10_make_37 : decode cX10_make 37 = .ok (.getfield 50, 3) := by decide +kernel
theorem dX10_make_40 : decode cX10_make 40 = .ok (.invokevirtual 104, 3) := by decide +kernel
theorem dX10_make_43 : decode cX10_make 43 = .ok (.astore 8, 2) := by decide +kernel
theorem dX10_make_45 : decode cX10_make 45 = .ok (.aload 8, 2) := by decide +kernel
theorem dX10_make_47 : decode cX10_make 47 = .ok (.ifnonnull 6, 3) := by decide +kernel
theorem dX10_make_53 : decode cX10_make 53 = .ok (.aload 7, 2) := by decide +kernel
theorem dX10_make_55 : decode cX10_make 55 = .ok (.aload 8, 2) := by decide +kernel
theorem dX10_make_57 : decode cX10_make 57 = .ok (.aload_n 0, 1) := by decide +kernel
theorem dX10_make_58 : decode cX10_make 58 = .ok (.getfield 28, 3) := by decide +kernel
theorem dX10_make_61 : decode cX10_make 61 = .ok (.aload 7, 2) := by decide +kernel
theorem dX10_make_63 : decode cX10_make 63 = .ok (.invokevirtual 108, 3) := by decide +kernel
theorem dX10_make_66 : decode cX10_make 66 = .ok (.invokevirtual 112, 3) := by decide +kernel
theorem dX10_make_69 : decode cX10_make 69 = .ok (.aload_n 0, 1) := by decide +kernel
theorem dX10_make_70 : decode cX10_make 70 = .ok (.getfield 19, 3) := by decide +kernel
theorem dX10_make_73 : decode cX10_make 73 = .ok (.aload 7, 2) := by decide +kernel
theorem dX10_make_75 : decode cX10_make 75 = .ok (.invokevirtual 116, 3) := by decide +kernel
theorem dX10_make_78 : decode cX10_make 78 = .ok (.ireturn, 1) := by decide +kernel
theorem dX10_make_50 : decode cX10_make 50 = .ok (.bipush (-3), 2) := by decide +kernel
theorem dX10_make_52 : decode cX10_make 52 = .ok (.ireturn, 1) := by decide +kernel
theorem dX10_make_28 : decode cX10_make 28 = .ok (.iconst (-1), 1) := by decide +kernel
theorem dX10_make_29 : decode cX10_make 29 = .ok (.ireturn, 1) := by decide +kernel
theorem hy_X10_make : yX10_make.cls ≠ "java/lang/invoke/MethodHandle" ∧ yX10_make.cls ≠ "java/lang/invoke/VarHandle" ∧ (parseMethodDescriptor yX10_make.desc).map (fun d => d.parameters.length) = some 5 := ⟨by decide, by decide, by decide +kernel⟩
def f_X10_make (o : Nat) (p1 : Int32) (p2 : Int32) (p3 : Int32) (p4 : Int32) (p5 : Int64) (S : wS) : Option ((Int32) × wS) :=
  o_new 1 7 S fun a1 S1 =>
  o_call (f_X0_init a1 p1 p2 p3 p4 p5 S1) fun _ S2 =>
  o_gR 9 12 o S2 fun x1 =>
  o_cs x1 (none) (fun a2 =>
  o_ck (s_K S2 a2 = 3) (o_call (f_X3_isTold a2 a1 S2) fun x2 S3 =>
  if x2 = 0 then (
  some ((-1), S3)) else (
  o_gR 9 12 o S3 fun x3 =>
  o_gR 9 15 o S3 fun x4 =>
  o_cs x4 (none) (fun a3 =>
  o_cs x3 (none) (fun a4 =>
  o_ck (s_K S3 a4 = 3) (o_call (f_X3_typeOf a4 a1 a3 S3) fun x5 S4 =>
  o_cs x5 (some ((-3), S4)) (fun a5 =>
  o_gR 9 12 o S4 fun x6 =>
  o_cs x6 (none) (fun a6 =>
  o_ck (s_K S4 a6 = 3) (o_call (f_X3_bitsOf a6 a1 S4) fun x7 S5 =>
  o_ck (s_K S5 a1 = 1) (o_call (f_X0_settle a1 a5 x7 S5) fun _ S6 =>
  o_gR 9 11 o S6 fun x8 =>
  o_cs x8 (none) (fun a7 =>
  o_ck (s_K S6 a7 = 2) (o_call (f_X1_numberOf a7 a1 S6) fun x9 S7 =>
  some (x9, S7)))))))))))))
set_option maxHeartbeats 4000000 in
set_option maxRecDepth 100000 in
theorem c_X10_make {l : Launch} {D : va_G} {Y : Nat → ClassId} {aR : Nat → Nat} {A : Nat → Prop} {o : Nat} {p1 : Int32} {p2 : Int32} {p3 : Int32} {p4 : Int32} {p5 : Int64} {S S' : wS} {r : Int32} (hf : f_X10_make o p1 p2 p3 p4 p5 S = some (r, S')) : jq_S l D Y aR A yX10_make cX10_make 9 (some .int) 6 138 [.ref o, .int p1, .int p2, .int p3, .int p4, .long p5] S (some (.int r)) S' := by
  unfold f_X10_make at hf
  refine jq_enterS (by decide) (Nat.le_of_ble_eq_true rfl) fun p e s m args below meth c ls H locs hX hJ hl => ?_
  have hl : lv_has ls 9 [(0, .ref o), (1, .int p1), (2, .int p2), (3, .int p3), (4, .int p4), (5, .long p5)] := hl
  have hx := hX.1
  have hb := hX.2.1
  have hm := hX.2.2.1
  have ho := hX.2.2.2.1
  have ht := hX.2.2.2.2.1
  have hn := hX.2.2.2.2.2.1.2.1
  replace hf := o_new_e hf
  obtain ⟨hk1, a1, S1, ha1, hS1, hf⟩ := hf
  refine nw_X0 hX hJ hk1 ha1 hS1 qw255 dX10_make_0 (fun H hJ' => ?_)
  clear hJ
  have hJ := hJ'
  clear hJ'
  refine lv_dup hx hb dX10_make_3 rfl ?_
  refine lv_iload_n hx hb dX10_make_4 rfl (lv_at hl 1 rfl) ?_
  refine lv_iload_n hx hb dX10_make_5 rfl (lv_at hl 2 rfl) ?_
  refine lv_iload_n hx hb dX10_make_6 rfl (lv_at hl 3 rfl) ?_
  refine lv_iload hx hb dX10_make_7 (lv_at hl 4 rfl) ?_
  refine lv_lload hx hb dX10_make_9 (lv_at hl 5 rfl) ?_
  replace hf := o_call_e hf
  obtain ⟨_, S2, hq1, hf⟩ := hf
  refine jq_doS hX hJ (jq_okIN (As := [.int p1, .int p2, .int p3, .int p4, .long p5]) (rest := [.ref a1]) hx hb hm ho ht hn qn257 qw258 qw259 qw13 rfl hy_X0_init rfl hl.1 (Nat.le_of_ble_eq_true rfl) dX10_make_11) (c_X0_init hq1) (Nat.le_of_ble_eq_true rfl) (Nat.le_of_ble_eq_true rfl) (fun H locs hJ' => ?_)
  clear hJ
  have hJ := hJ'
  clear hJ'
  refine lv_astore (lv' := [(7, .ref a1), (0, .ref o), (1, .int p1), (2, .int p2), (3, .int p3), (4, .int p4), (5, .long p5)]) hx hb dX10_make_14 hl (by decide) rfl (fun ls hl' => ?_)
  clear hl
  have hl := hl'
  clear hl'
  refine lv_aload_n hx hb dX10_make_16 rfl (lv_at hl 1 rfl) ?_
  replace hf := o_gR_e hf
  obtain ⟨hk2, x1, hx1, hf⟩ := hf
  refine gf_X10_maker hX hJ hk2 hx1 qw128 dX10_make_17 ?_
  refine lv_aload hx hb dX10_make_20 (lv_at hl 0 rfl) ?_
  replace hf := o_cs_e hf
  rcases hf with ⟨hr1, hf⟩ | ⟨a2, hr1, hf⟩
  · subst hr1
    cases hf
  · subst hr1
    replace hf := o_ck_e hf
    obtain ⟨hk3, hf⟩ := hf
    replace hf := o_call_e hf
    obtain ⟨x2, S3, hq2, hf⟩ := hf
    refine jq_doS hX hJ (jq_okVN (As := [.ref a1]) (rest := []) hx hb hm ho ht hn (wJ.recv hX hJ (by rw [hk3]; decide) (wE_X3 hk3) rfl) qn307 qw309 qs11 qw310 qw4 hy_X3_isTold rfl hl.1 (Nat.le_of_ble_eq_true rfl) dX10_make_22) (c_X3_isTold hq2) (Nat.le_of_ble_eq_true rfl) (Nat.le_of_ble_eq_true rfl) (fun H locs hJ' => ?_)
    clear hJ
    have hJ := hJ'
    clear hJ'
    refine lv_if_ne (tgt := 30) hx hb dX10_make_25 (by decide) (fun c1 => ?_) (fun c1 => ?_)
    · replace hf := o_f hf c1
      refine lv_aload_n hx hb dX10_make_30 rfl (lv_at hl 1 rfl) ?_
      replace hf := o_gR_e hf
      obtain ⟨hk4, x3, hx3, hf⟩ := hf
      refine gf_X10_maker hX hJ hk4 hx3 qw128 dX10_make_31 ?_
      refine lv_aload hx hb dX10_make_34 (lv_at hl 0 rfl) ?_
      refine lv_aload_n hx hb dX10_make_36 rfl (lv_at hl 1 rfl) ?_
      replace hf := o_gR_e hf
      obtain ⟨hk5, x4, hx4, hf⟩ := hf
      refine gf_X10_atHand hX hJ hk5 hx4 qw131 dX10_make_37 ?_
      replace hf := o_cs_e hf
      rcases hf with ⟨hr2, hf⟩ | ⟨a3, hr2, hf⟩
      · subst hr2
        cases hf
      · subst hr2
        replace hf := o_cs_e hf
        rcases hf with ⟨hr3, hf⟩ | ⟨a4, hr3, hf⟩
        · subst hr3
          cases hf
        · subst hr3
          replace hf := o_ck_e hf
          obtain ⟨hk6, hf⟩ := hf
          replace hf := o_call_e hf
          obtain ⟨x5, S4, hq3, hf⟩ := hf
          refine jq_doS hX hJ (jq_okVN (As := [.ref a1, .ref a3]) (rest := []) hx hb hm ho ht hn (wJ.recv hX hJ (by rw [hk6]; decide) (wE_X3 hk6) rfl) qn362 qw364 qs21 qw365 qw4 hy_X3_typeOf rfl hl.1 (Nat.le_of_ble_eq_true rfl) dX10_make_40) (c_X3_typeOf hq3) (Nat.le_of_ble_eq_true rfl) (Nat.le_of_ble_eq_true rfl) (fun H locs hJ' => ?_)
          clear hJ
          have hJ := hJ'
          clear hJ'
          replace hf := o_cs_e hf
          rcases hf with ⟨hr4, hf⟩ | ⟨a5, hr4, hf⟩
          · subst hr4
            refine lv_astoreN (lv' := [(8, .null), (7, .ref a1), (0, .ref o), (1, .int p1), (2, .int p2), (3, .int p3), (4, .int p4), (5, .long p5)]) hx hb dX10_make_43 hl (by decide) rfl (fun ls hl' => ?_)
            clear hl
            have hl := hl'
            clear hl'
            refine lv_aloadN hx hb dX10_make_45 (lv_at hl 0 rfl) ?_
            refine lv_ifnonnullN hx hb dX10_make_47 ?_
            refine lv_bipush (v := (-3)) hx hb dX10_make_50 (by decide) ?_
            obtain ⟨rfl, rfl⟩ := Prod.mk.inj (Option.some.inj hf)
            exact jq_iret hX hJ.2.2 dX10_make_52 ⟨rfl, rfl, rfl, hJ.1, hJ.2.1⟩
          · subst hr4
            refine lv_astore (lv' := [(8, .ref a5), (7, .ref a1), (0, .ref o), (1, .int p1), (2, .int p2), (3, .int p3), (4, .int p4), (5, .long p5)]) hx hb dX10_make_43 hl (by decide) rfl (fun ls hl' => ?_)
            clear hl
            have hl := hl'
            clear hl'
            refine lv_aload hx hb dX10_make_45 (lv_at hl 0 rfl) ?_
            refine lv_ifnonnull (tgt := 53) hx hb dX10_make_47 (by decide) ?_
            refine lv_aload hx hb dX10_make_53 (lv_at hl 1 rfl) ?_
            refine lv_aload hx hb dX10_make_55 (lv_at hl 0 rfl) ?_
            refine lv_aload_n hx hb dX10_make_57 rfl (lv_at hl 2 rfl) ?_
            replace hf := o_gR_e hf
            obtain ⟨hk7, x6, hx6, hf⟩ := hf
            refine gf_X10_maker hX hJ hk7 hx6 qw128 dX10_make_58 ?_
            refine lv_aload hx hb dX10_make_61 (lv_at hl 1 rfl) ?_
            replace hf := o_cs_e hf
            rcases hf with ⟨hr5, hf⟩ | ⟨a6, hr5, hf⟩
            · subst hr5
              cases hf
            · subst hr5
              replace hf := o_ck_e hf
              obtain ⟨hk8, hf⟩ := hf
              replace hf := o_call_e hf
              obtain ⟨x7, S5, hq4, hf⟩ := hf
              refine jq_doS hX hJ (jq_okVN (As := [.ref a1]) (rest := [.ref a5, .ref a1]) hx hb hm ho ht hn (wJ.recv hX hJ (by rw [hk8]; decide) (wE_X3 hk8) rfl) qn437 qw439 qs31 qw440 qw4 hy_X3_bitsOf rfl hl.1 (Nat.le_of_ble_eq_true rfl) dX10_make_63) (c_X3_bitsOf hq4) (Nat.le_of_ble_eq_true rfl) (Nat.le_of_ble_eq_true rfl) (fun H locs hJ' => ?_)
              clear hJ
              have hJ := hJ'
              clear hJ'
              replace hf := o_ck_e hf
              obtain ⟨hk9, hf⟩ := hf
              replace hf := o_call_e hf
              obtain ⟨_, S6, hq5, hf⟩ := hf
              refine jq_doS hX hJ (jq_okVN (As := [.ref a5, .long x7]) (rest := []) hx hb hm ho ht hn (wJ.recv hX hJ (by rw [hk9]; decide) (wE_X0 hk9) rfl) qn442 qw444 qs32 qw445 qw13 hy_X0_settle rfl hl.1 (Nat.le_of_ble_eq_true rfl) dX10_make_66) (c_X0_settle hq5) (Nat.le_of_ble_eq_true rfl) (Nat.le_of_ble_eq_true rfl) (fun H locs hJ' => ?_)
              clear hJ
              have hJ := hJ'
              clear hJ'
              refine lv_aload_n hx hb dX10_make_69 rfl (lv_at hl 2 rfl) ?_
              replace hf := o_gR_e hf
              obtain ⟨hk10, x8, hx8, hf⟩ := hf
              refine gf_X10_handles hX hJ hk10 hx8 qw127 dX10_make_70 ?_
              refine lv_aload hx hb dX10_make_73 (lv_at hl 1 rfl) ?_
              replace hf := o_cs_e hf
              rcases hf with ⟨hr6, hf⟩ | ⟨a7, hr6, hf⟩
              · subst hr6
                cases hf
              · subst hr6
                replace hf := o_ck_e hf
                obtain ⟨hk11, hf⟩ := hf
                replace hf := o_call_e hf
                obtain ⟨x9, S7, hq6, hf⟩ := hf
                refine jq_doS hX hJ (jq_okVN (As := [.ref a1]) (rest := []) hx hb hm ho ht hn (wJ.recv hX hJ (by rw [hk11]; decide) (wE_X1 hk11) rfl) qn446 qw448 qs33 qw449 qw3 hy_X1_numberOf rfl hl.1 (Nat.le_of_ble_eq_true rfl) dX10_make_75) (c_X1_numberOf hq6) (Nat.le_of_ble_eq_true rfl) (Nat.le_of_ble_eq_true rfl) (fun H locs hJ' => ?_)
                clear hJ
                have hJ := hJ'
                clear hJ'
                obtain ⟨rfl, rfl⟩ := Prod.mk.inj (Option.some.inj hf)
                exact jq_iret hX hJ.2.2 dX10_make_78 ⟨rfl, rfl, rfl, hJ.1, hJ.2.1⟩
    · replace hf := o_t hf c1
      refine lv_iconst (v := (-1)) hx hb dX10_make_28 (by decide) ?_
      obtain ⟨rfl, rfl⟩ := Prod.mk.inj (Option.some.inj hf)
      exact jq_iret hX hJ.2.2 dX10_make_29 ⟨rfl, rfl, rfl, hJ.1, hJ.2.1⟩
theorem dX10_told_0 : decode cX10_told 0 = .ok (.aload_n 0, 1) := by decide +kernel
theorem dX10_told_1 : decode cX10_told 1 = .ok (.getfield 19, 3) := by decide +kernel
theorem dX10_told_4 : decode cX10_told 4 = .ok (.iload_n 1, 1) := by decide +kernel
theorem dX10_told_5 : decode cX10_told 5 = .ok (.invokevirtual 120, 3) := by decide +kernel
theorem dX10_told_8 : decode cX10_told 8 = .ok (.astore_n 3, 1) := by decide +kernel
theorem dX10_told_9 : decode cX10_told 9 = .ok (.aload_n 3, 1) := by decide +kernel
theorem dX10_told_10 : decode cX10_told 10 = .ok (.ifnull 7, 3) := by decide +kernel
theorem dX10_told_13 : decode cX10_told 13 = .ok (.iload_n 2, 1) := by decide +kernel
theorem dX10_told_14 : decode cX10_told 14 = .ok (.ifCond .ge 5, 3) := by decide +kernel
theorem dX10_told_19 : decode cX10_told 19 = .ok (.iload_n 2, 1) := by decide +kernel
theorem dX10_told_20 : decode cX10_told 20 = .ok (.tableswitch 49 0 2 #[28, 33, 41], 28) := by decide +kernel
theorem dX10_told_48 : decode cX10_told 48 = .ok (.aload_n 3, 1) := by decide +kernel
theorem dX10_told_49 : decode cX10_told 49 = .ok (.getfield 123, 3) := by decide +kernel
theorem dX10_told_52 : decode cX10_told 52 = .ok (.ireturn, 1) := by decide +kernel
theorem dX10_told_53 : decode cX10_told 53 = .ok (.aload_n 3, 1) := by decide +kernel
theorem dX10_told_54 : decode cX10_told 54 = .ok (.getfield 126, 3) := by decide +kernel
theorem dX10_told_57 : decode cX10_told 57 = .ok (.getfield 129, 3) := by decide +kernel
theorem dX10_told_60 : decode cX10_told 60 = .ok (.ireturn, 1) := by decide +kernel
theorem dX10_told_61 : decode cX10_told 61 = .ok (.aload_n 3, 1) := by decide +kernel
theorem dX10_told_62 : decode cX10_told 62 = .ok (.getfield 126, 3) := by decide +kernel
theorem dX10_told_65 : decode cX10_told 65 = .ok (.getfield 131, 3) := by decide +kernel
theorem dX10_told_68 : decode cX10_told 68 = .ok (.ireturn, 1) := by decide +kernel
theorem dX10_told_69 : decode cX10_told 69 = .ok (.aload_n 3, 1) := by decide +kernel
theorem dX10_told_70 : decode cX10_told 70 = .ok (.getfield 126, 3) := by decide +kernel
theorem dX10_told_73 : decode cX10_told 73 = .ok (.iload_n 2, 1) := by decide +kernel
theorem dX10_told_74 : decode cX10_told 74 = .ok (.iconst 3, 1) := by decide +kernel
theorem dX10_told_75 : decode cX10_told 75 = .ok (.isub, 1) := by decide +kernel
theorem dX10_told_76 : decode cX10_told 76 = .ok (.invokevirtual 134, 3) := by decide +kernel
theorem dX10_told_79 : decode cX10_told 79 = .ok (.istore 4, 2) := by decide +kernel
theorem dX10_told_81 : decode cX10_told 81 = .ok (.iload 4, 2) := by decide +kernel
theorem dX10_told_83 : decode cX10_told 83 = .ok (.iconst (-1), 1) := by decide +kernel
theorem dX10_told_84 : decode cX10_told 84 = .ok (.if_icmp .ne 7, 3) := by decide +kernel
theorem dX10_told_91 : decode cX10_told 91 = .ok (.iload 4, 2) := by decide +kernel
theorem dX10_told_93 : decode cX10_told 93 = .ok (.ireturn, 1) := by decide +kernel
theorem dX10_told_87 : decode cX10_told 87 = .ok (.iconst (-1), 1) := by decide +kernel
theorem dX10_told_88 : decode cX10_told 88 = .ok (.goto 5, 3) := by decide +kernel
theorem dX10_told_17 : decode cX10_told 17 = .ok (.iconst (-1), 1) := by decide +kernel
theorem dX10_told_18 : decode cX10_told 18 = .ok (.ireturn, 1) := by decide +kernel
theorem hy_X10_told : yX10_told.cls ≠ "java/lang/invoke/MethodHandle" ∧ yX10_told.cls ≠ "java/lang/invoke/VarHandle" ∧ (parseMethodDescriptor yX10_told.desc).map (fun d => d.parameters.length) = some 2 := ⟨by decide, by decide, by decide +kernel⟩
def f_X10_told (o : Nat) (p1 : Int32) (p2 : Int32) (S : wS) : Option ((Int32) × wS) :=
  o_gR 9 11 o S fun x1 =>
  o_cs x1 (none) (fun a1 =>
  o_ck (s_K S a1 = 2) (o_call (f_X1_at a1 p1 S) fun x2 S1 =>
  o_cs x2 (some ((-1), S1)) (fun a2 =>
  if 0 ≤ p2 then (
  if p2 = 0 then (
  o_gI 1 0 a2 S1 fun x3 =>
  some (x3, S1)) else (
  if p2 = 1 then (
  o_gR 1 0 a2 S1 fun x4 =>
  o_cs x4 (none) (fun a3 =>
  o_gI 8 13 a3 S1 fun x5 =>
  some (x5, S1))) else (
  if p2 = 2 then (
  o_gR 1 0 a2 S1 fun x6 =>
  o_cs x6 (none) (fun a4 =>
  o_gI 8 12 a4 S1 fun x7 =>
  some (x7, S1))) else (
  o_gR 1 0 a2 S1 fun x8 =>
  o_cs x8 (none) (fun a5 =>
  o_ck (s_K S1 a5 = 8) (o_call (f_X9_kind a5 (p2 - (3 : Int32)) S1) fun x9 S2 =>
  if x9 = (-1) then (
  some ((-1), S2)) else (
  some (x9, S2)))))))) else (
  some ((-1), S1)))))
set_option maxHeartbeats 4000000 in
set_option maxRecDepth 100000 in
theorem c_X10_told {l : Launch} {D : va_G} {Y : Nat → ClassId} {aR : Nat → Nat} {A : Nat → Prop} {o : Nat} {p1 : Int32} {p2 : Int32} {S S' : wS} {r : Int32} (hf : f_X10_told o p1 p2 S = some (r, S')) : jq_S l D Y aR A yX10_told cX10_told 5 (some .int) 1 22 [.ref o, .int p1, .int p2] S (some (.int r)) S' := by
  unfold f_X10_told at hf
  refine jq_enterS (by decide) (Nat.le_of_ble_eq_true rfl) fun p e s m args below meth c ls H locs hX hJ hl => ?_
  have hl : lv_has ls 5 [(0, .ref o), (1, .int p1), (2, .int p2)] := hl
  have hx := hX.1
  have hb := hX.2.1
  have hm := hX.2.2.1
  have ho := hX.2.2.2.1
  have ht := hX.2.2.2.2.1
  have hn := hX.2.2.2.2.2.1.2.1
  refine lv_aload_n hx hb dX10_told_0 rfl (lv_at hl 0 rfl) ?_
  replace hf := o_gR_e hf
  obtain ⟨hk1, x1, hx1, hf⟩ := hf
  refine gf_X10_handles hX hJ hk1 hx1 qw127 dX10_told_1 ?_
  refine lv_iload_n hx hb dX10_told_4 rfl (lv_at hl 1 rfl) ?_
  replace hf := o_cs_e hf
  rcases hf with ⟨hr1, hf⟩ | ⟨a1, hr1, hf⟩
  · subst hr1
    cases hf
  · subst hr1
    replace hf := o_ck_e hf
    obtain ⟨hk2, hf⟩ := hf
    replace hf := o_call_e hf
    obtain ⟨x2, S1, hq1, hf⟩ := hf
    refine jq_doS hX hJ (jq_okVN (As := [.int p1]) (rest := []) hx hb hm ho ht hn (wJ.recv hX hJ (by rw [hk2]; decide) (wE_X1 hk2) rfl) qn459 qw323 qs13 qw324 qw3 hy_X1_at rfl hl.1 (Nat.le_of_ble_eq_true rfl) dX10_told_5) (c_X1_at hq1) (Nat.le_of_ble_eq_true rfl) (Nat.le_of_ble_eq_true rfl) (fun H locs hJ' => ?_)
    clear hJ
    have hJ := hJ'
    clear hJ'
    replace hf := o_cs_e hf
    rcases hf with ⟨hr2, hf⟩ | ⟨a2, hr2, hf⟩
    · subst hr2
      refine lv_astore_nN (lv' := [(3, .null), (0, .ref o), (1, .int p1), (2, .int p2)]) hx hb dX10_told_8 rfl hl (by decide) rfl (fun ls hl' => ?_)
      clear hl
      have hl := hl'
      clear hl'
      refine lv_aload_nN hx hb dX10_told_9 rfl (lv_at hl 0 rfl) ?_
      refine lv_ifnullN (tgt := 17) hx hb dX10_told_10 (by decide) ?_
      refine lv_iconst (v := (-1)) hx hb dX10_told_17 (by decide) ?_
      obtain ⟨rfl, rfl⟩ := Prod.mk.inj (Option.some.inj hf)
      exact jq_iret hX hJ.2.2 dX10_told_18 ⟨rfl, rfl, rfl, hJ.1, hJ.2.1⟩
    · subst hr2
      refine lv_astore_n (lv' := [(3, .ref a2), (0, .ref o), (1, .int p1), (2, .int p2)]) hx hb dX10_told_8 rfl hl (by decide) rfl (fun ls hl' => ?_)
      clear hl
      have hl := hl'
      clear hl'
      refine lv_aload_n hx hb dX10_told_9 rfl (lv_at hl 0 rfl) ?_
      refine lv_ifnull hx hb dX10_told_10 ?_
      refine lv_iload_n hx hb dX10_told_13 rfl (lv_at hl 3 rfl) ?_
      refine lv_if_ge (tgt := 19) hx hb dX10_told_14 (by decide) (fun c1 => ?_) (fun c1 => ?_)
      · replace hf := o_t hf c1
        refine lv_iload_n hx hb dX10_told_19 rfl (lv_at hl 3 rfl) ?_
        by_cases c2 : p2 = 0
        · replace hf := o_t hf c2
          refine lv_tableIn (off := 28) (tgt := 48) hx hb dX10_told_20 (by rcases c2 with rfl <;> decide) (by rcases c2 with rfl <;> decide) (by rcases c2 with rfl <;> rfl) (by decide) ?_
          refine lv_aload_n hx hb dX10_told_48 rfl (lv_at hl 0 rfl) ?_
          replace hf := o_gI_e hf
          obtain ⟨hk3, x3, hx3, hf⟩ := hf
          refine gn_X0_sort hX hJ hk3 hx3 qn271 dX10_told_49 ?_
          obtain ⟨rfl, rfl⟩ := Prod.mk.inj (Option.some.inj hf)
          exact jq_iret hX hJ.2.2 dX10_told_52 ⟨rfl, rfl, rfl, hJ.1, hJ.2.1⟩
        replace hf := o_f hf c2
        by_cases c3 : p2 = 1
        · replace hf := o_t hf c3
          refine lv_tableIn (off := 33) (tgt := 53) hx hb dX10_told_20 (by rcases c3 with rfl <;> decide) (by rcases c3 with rfl <;> decide) (by rcases c3 with rfl <;> rfl) (by decide) ?_
          refine lv_aload_n hx hb dX10_told_53 rfl (lv_at hl 0 rfl) ?_
          replace hf := o_gR_e hf
          obtain ⟨hk4, x4, hx4, hf⟩ := hf
          refine gn_X0_type hX hJ hk4 hx4 qn287 dX10_told_54 ?_
          replace hf := o_cs_e hf
          rcases hf with ⟨hr3, hf⟩ | ⟨a3, hr3, hf⟩
          · subst hr3
            cases hf
          · subst hr3
            replace hf := o_gI_e hf
            obtain ⟨hk5, x5, hx5, hf⟩ := hf
            refine gn_X9_many hX hJ hk5 hx5 qn115 dX10_told_57 ?_
            obtain ⟨rfl, rfl⟩ := Prod.mk.inj (Option.some.inj hf)
            exact jq_iret hX hJ.2.2 dX10_told_60 ⟨rfl, rfl, rfl, hJ.1, hJ.2.1⟩
        replace hf := o_f hf c3
        by_cases c4 : p2 = 2
        · replace hf := o_t hf c4
          refine lv_tableIn (off := 41) (tgt := 61) hx hb dX10_told_20 (by rcases c4 with rfl <;> decide) (by rcases c4 with rfl <;> decide) (by rcases c4 with rfl <;> rfl) (by decide) ?_
          refine lv_aload_n hx hb dX10_told_61 rfl (lv_at hl 0 rfl) ?_
          replace hf := o_gR_e hf
          obtain ⟨hk6, x6, hx6, hf⟩ := hf
          refine gn_X0_type hX hJ hk6 hx6 qn287 dX10_told_62 ?_
          replace hf := o_cs_e hf
          rcases hf with ⟨hr4, hf⟩ | ⟨a4, hr4, hf⟩
          · subst hr4
            cases hf
          · subst hr4
            replace hf := o_gI_e hf
            obtain ⟨hk7, x7, hx7, hf⟩ := hf
            refine gn_X9_result hX hJ hk7 hx7 qn110 dX10_told_65 ?_
            obtain ⟨rfl, rfl⟩ := Prod.mk.inj (Option.some.inj hf)
            exact jq_iret hX hJ.2.2 dX10_told_68 ⟨rfl, rfl, rfl, hJ.1, hJ.2.1⟩
        replace hf := o_f hf c4
        refine lv_tableOut (tgt := 69) hx hb dX10_told_20 (by have e0 := sw_ne c2 (n := 0) (by decide); have e1 := sw_ne c3 (n := 1) (by decide); have e2 := sw_ne c4 (n := 2) (by decide); omega) (by decide) ?_
        refine lv_aload_n hx hb dX10_told_69 rfl (lv_at hl 0 rfl) ?_
        replace hf := o_gR_e hf
        obtain ⟨hk8, x8, hx8, hf⟩ := hf
        refine gn_X0_type hX hJ hk8 hx8 qn287 dX10_told_70 ?_
        refine lv_iload_n hx hb dX10_told_73 rfl (lv_at hl 3 rfl) ?_
        refine lv_iconst (v := 3) hx hb dX10_told_74 (by decide) ?_
        refine lv_isub hx hb dX10_told_75 ?_
        replace hf := o_cs_e hf
        rcases hf with ⟨hr5, hf⟩ | ⟨a5, hr5, hf⟩
        · subst hr5
          cases hf
        · subst hr5
          replace hf := o_ck_e hf
          obtain ⟨hk9, hf⟩ := hf
          replace hf := o_call_e hf
          obtain ⟨x9, S2, hq2, hf⟩ := hf
          refine jq_doS hX hJ (jq_okVN (As := [.int (p2 - (3 : Int32))]) (rest := []) hx hb hm ho ht hn (wJ.recv hX hJ (by rw [hk9]; decide) (wE_X9 hk9) rfl) qn460 qw351 qs19 qw352 qw6 hy_X9_kind rfl hl.1 (Nat.le_of_ble_eq_true rfl) dX10_told_76) (c_X9_kind hq2) (Nat.le_of_ble_eq_true rfl) (Nat.le_of_ble_eq_true rfl) (fun H locs hJ' => ?_)
          clear hJ
          have hJ := hJ'
          clear hJ'
          refine lv_istore (lv' := [(4, .int x9), (3, .ref a2), (0, .ref o), (1, .int p1), (2, .int p2)]) hx hb dX10_told_79 hl (by decide) rfl (fun ls hl' => ?_)
          clear hl
          have hl := hl'
          clear hl'
          refine lv_iload hx hb dX10_told_81 (lv_at hl 0 rfl) ?_
          refine lv_iconst (v := (-1)) hx hb dX10_told_83 (by decide) ?_
          refine lv_icmp_ne (tgt := 91) hx hb dX10_told_84 (by decide) (fun c5 => ?_) (fun c5 => ?_)
          · replace hf := o_f hf c5
            refine lv_iload hx hb dX10_told_91 (lv_at hl 0 rfl) ?_
            obtain ⟨rfl, rfl⟩ := Prod.mk.inj (Option.some.inj hf)
            exact jq_iret hX hJ.2.2 dX10_told_93 ⟨rfl, rfl, rfl, hJ.1, hJ.2.1⟩
          · replace hf := o_t hf c5
            refine lv_iconst (v := (-1)) hx hb dX10_told_87 (by decide) ?_
            refine lv_goto (tgt := 93) hx hb dX10_told_88 (by decide) ?_
            obtain ⟨rfl, rfl⟩ := Prod.mk.inj (Option.some.inj hf)
            exact jq_iret hX hJ.2.2 dX10_told_93 ⟨rfl, rfl, rfl, hJ.1, hJ.2.1⟩
      · replace hf := o_f hf c1
        refine lv_iconst (v := (-1)) hx hb dX10_told_17 (by decide) ?_
        obtain ⟨rfl, rfl⟩ := Prod.mk.inj (Option.some.inj hf)
        exact jq_iret hX hJ.2.2 dX10_told_18 ⟨rfl, rfl, rfl, hJ.1, hJ.2.1⟩
theorem dX10_fits_0 : decode cX10_fits 0 = .ok (.aload_n 0, 1) := by decide +kernel
theorem dX10_fits_1 : decode cX10_fits 1 = .ok (.getfield 19, 3) := by decide +kernel
theorem dX10_fits_4 : decode cX10_fits 4 = .ok (.iload_n 1, 1) := by decide +kernel
theorem dX10_fits_5 : decode cX10_fits 5 = .ok (.invokevirtual 120, 3) := by decide +kernel
theorem dX10_fits_8 : decode cX10_fits 8 = .ok (.astore_n 2, 1) := by decide +kernel
theorem dX10_fits_9 : decode cX10_fits 9 = .ok (.aload_n 2, 1) := by decide +kernel
theorem dX10_fits_10 : decode cX10_fits 10 = .ok (.ifnonnull 5, 3) := by decide +kernel
theorem dX10_fits_15 : decode cX10_fits 15 = .ok (.aload_n 0, 1) := by decide +kernel
theorem dX10_fits_16 : decode cX10_fits 16 = .ok (.getfield 50, 3) := by decide +kernel
theorem dX10_fits_19 : decode cX10_fits 19 = .ok (.aload_n 2, 1) := by decide +kernel
theorem dX10_fits_20 : decode cX10_fits 20 = .ok (.getfield 126, 3) := by decide +kernel
theorem dX10_fits_23 : decode cX10_fits 23 = .ok (.invokevirtual 138, 3) := by decide +kernel
theorem dX10_fits_26 : decode cX10_fits 26 = .ok (.ifCond .eq 5, 3) := by decide +kernel
theorem dX10_fits_31 : decode cX10_fits 31 = .ok (.aload_n 0, 1) := by decide +kernel
theorem dX10_fits_32 : decode cX10_fits 32 = .ok (.getfield 50, 3) := by decide +kernel
theorem dX10_fits_35 : decode cX10_fits 35 = .ok (.aload_n 2, 1) := by decide +kernel
theorem dX10_fits_36 : decode cX10_fits 36 = .ok (.getfield 126, 3) := by decide +kernel
theorem dX10_fits_39 : decode cX10_fits 39 = .ok (.invokevirtual 142, 3) := by decide +kernel
theorem dX10_fits_42 : decode cX10_fits 42 = .ok (.ifCond .eq 7, 3) := by decide +kernel
theorem dX10_fits_49 : decode cX10_fits 49 = .ok (.iconst 0, 1) := by decide +kernel
theorem dX10_fits_50 : decode cX10_fits 50 = .ok (.ireturn, 1) := by decide +kernel
theorem dX10_fits_45 : decode cX10_fits 45 = .ok (.iconst 1, 1) := by decide +kernel
theorem dX10_fits_46 : decode cX10_fits 46 = .ok (.goto 4, 3) := by decide +kernel
theorem dX10_fits_29 : decode cX10_fits 29 = .ok (.iconst 2, 1) := by decide +kernel
theorem dX10_fits_30 : decode cX10_fits 30 = .ok (.ireturn, 1) := by decide +kernel
theorem dX10_fits_13 : decode cX10_fits 13 = .ok (.iconst (-1), 1) := by decide +kernel
theorem dX10_fits_14 : decode cX10_fits 14 = .ok (.ireturn, 1) := by decide +kernel
theorem hy_X10_fits : yX10_fits.cls ≠ "java/lang/invoke/MethodHandle" ∧ yX10_fits.cls ≠ "java/lang/invoke/VarHandle" ∧ (parseMethodDescriptor yX10_fits.desc).map (fun d => d.parameters.length) = some 1 := ⟨by decide, by decide, by decide +kernel⟩
def f_X10_fits (o : Nat) (p1 : Int32) (S : wS) : Option ((Int32) × wS) :=
  o_gR 9 11 o S fun x1 =>
  o_cs x1 (none) (fun a1 =>
  o_ck (s_K S a1 = 2) (o_call (f_X1_at a1 p1 S) fun x2 S1 =>
  o_cs x2 (some ((-1), S1)) (fun a2 =>
  o_gR 9 15 o S1 fun x3 =>
  o_gR 1 0 a2 S1 fun x4 =>
  o_cs x4 (none) (fun a3 =>
  o_cs x3 (none) (fun a4 =>
  o_ck (s_K S1 a4 = 8) (o_call (f_X9_isSame a4 a3 S1) fun x5 S2 =>
  if x5 = 0 then (
  o_gR 9 15 o S2 fun x6 =>
  o_gR 1 0 a2 S2 fun x7 =>
  o_cs x7 (none) (fun a5 =>
  o_cs x6 (none) (fun a6 =>
  o_ck (s_K S2 a6 = 8) (o_call (f_X9_goesTo a6 a5 S2) fun x8 S3 =>
  if x8 = 0 then (
  some (0, S3)) else (
  some (1, S3)))))) else (
  some (2, S2))))))))
set_option maxHeartbeats 4000000 in
set_option maxRecDepth 100000 in
theorem c_X10_fits {l : Launch} {D : va_G} {Y : Nat → ClassId} {aR : Nat → Nat} {A : Nat → Prop} {o : Nat} {p1 : Int32} {S S' : wS} {r : Int32} (hf : f_X10_fits o p1 S = some (r, S')) : jq_S l D Y aR A yX10_fits cX10_fits 3 (some .int) 3 67 [.ref o, .int p1] S (some (.int r)) S' := by
  unfold f_X10_fits at hf
  refine jq_enterS (by decide) (Nat.le_of_ble_eq_true rfl) fun p e s m args below meth c ls H locs hX hJ hl => ?_
  have hl : lv_has ls 3 [(0, .ref o), (1, .int p1)] := hl
  have hx := hX.1
  have hb := hX.2.1
  have hm := hX.2.2.1
  have ho := hX.2.2.2.1
  have ht := hX.2.2.2.2.1
  have hn := hX.2.2.2.2.2.1.2.1
  refine lv_aload_n hx hb dX10_fits_0 rfl (lv_at hl 0 rfl) ?_
  replace hf := o_gR_e hf
  obtain ⟨hk1, x1, hx1, hf⟩ := hf
  refine gf_X10_handles hX hJ hk1 hx1 qw127 dX10_fits_1 ?_
  refine lv_iload_n hx hb dX10_fits_4 rfl (lv_at hl 1 rfl) ?_
  replace hf := o_cs_e hf
  rcases hf with ⟨hr1, hf⟩ | ⟨a1, hr1, hf⟩
  · subst hr1
    cases hf
  · subst hr1
    replace hf := o_ck_e hf
    obtain ⟨hk2, hf⟩ := hf
    replace hf := o_call_e hf
    obtain ⟨x2, S1, hq1, hf⟩ := hf
    refine jq_doS hX hJ (jq_okVN (As := [.int p1]) (rest := []) hx hb hm ho ht hn (wJ.recv hX hJ (by rw [hk2]; decide) (wE_X1 hk2) rfl) qn459 qw323 qs13 qw324 qw3 hy_X1_at rfl hl.1 (Nat.le_of_ble_eq_true rfl) dX10_fits_5) (c_X1_at hq1) (Nat.le_of_ble_eq_true rfl) (Nat.le_of_ble_eq_true rfl) (fun H locs hJ' => ?_)
    clear hJ
    have hJ := hJ'
    clear hJ'
    replace hf := o_cs_e hf
    rcases hf with ⟨hr2, hf⟩ | ⟨a2, hr2, hf⟩
    · subst hr2
      refine lv_astore_nN (lv' := [(2, .null), (0, .ref o), (1, .int p1)]) hx hb dX10_fits_8 rfl hl (by decide) rfl (fun ls hl' => ?_)
      clear hl
      have hl := hl'
      clear hl'
      refine lv_aload_nN hx hb dX10_fits_9 rfl (lv_at hl 0 rfl) ?_
      refine lv_ifnonnullN hx hb dX10_fits_10 ?_
      refine lv_iconst (v := (-1)) hx hb dX10_fits_13 (by decide) ?_
      obtain ⟨rfl, rfl⟩ := Prod.mk.inj (Option.some.inj hf)
      exact jq_iret hX hJ.2.2 dX10_fits_14 ⟨rfl, rfl, rfl, hJ.1, hJ.2.1⟩
    · subst hr2
      refine lv_astore_n (lv' := [(2, .ref a2), (0, .ref o), (1, .int p1)]) hx hb dX10_fits_8 rfl hl (by decide) rfl (fun ls hl' => ?_)
      clear hl
      have hl := hl'
      clear hl'
      refine lv_aload_n hx hb dX10_fits_9 rfl (lv_at hl 0 rfl) ?_
      refine lv_ifnonnull (tgt := 15) hx hb dX10_fits_10 (by decide) ?_
      refine lv_aload_n hx hb dX10_fits_15 rfl (lv_at hl 1 rfl) ?_
      replace hf := o_gR_e hf
      obtain ⟨hk3, x3, hx3, hf⟩ := hf
      refine gf_X10_atHand hX hJ hk3 hx3 qw131 dX10_fits_16 ?_
      refine lv_aload_n hx hb dX10_fits_19 rfl (lv_at hl 0 rfl) ?_
      replace hf := o_gR_e hf
      obtain ⟨hk4, x4, hx4, hf⟩ := hf
      refine gn_X0_type hX hJ hk4 hx4 qn287 dX10_fits_20 ?_
      replace hf := o_cs_e hf
      rcases hf with ⟨hr3, hf⟩ | ⟨a3, hr3, hf⟩
      · subst hr3
        cases hf
      · subst hr3
        replace hf := o_cs_e hf
        rcases hf with ⟨hr4, hf⟩ | ⟨a4, hr4, hf⟩
        · subst hr4
          cases hf
        · subst hr4
          replace hf := o_ck_e hf
          obtain ⟨hk5, hf⟩ := hf
          replace hf := o_call_e hf
          obtain ⟨x5, S2, hq2, hf⟩ := hf
          refine jq_doS hX hJ (jq_okVN (As := [.ref a3]) (rest := []) hx hb hm ho ht hn (wJ.recv hX hJ (by rw [hk5]; decide) (wE_X9 hk5) rfl) qn465 qw428 qs30 qw429 qw6 hy_X9_isSame rfl hl.1 (Nat.le_of_ble_eq_true rfl) dX10_fits_23) (c_X9_isSame hq2) (Nat.le_of_ble_eq_true rfl) (Nat.le_of_ble_eq_true rfl) (fun H locs hJ' => ?_)
          clear hJ
          have hJ := hJ'
          clear hJ'
          refine lv_if_eq (tgt := 31) hx hb dX10_fits_26 (by decide) (fun c1 => ?_) (fun c1 => ?_)
          · replace hf := o_t hf c1
            refine lv_aload_n hx hb dX10_fits_31 rfl (lv_at hl 1 rfl) ?_
            replace hf := o_gR_e hf
            obtain ⟨hk6, x6, hx6, hf⟩ := hf
            refine gf_X10_atHand hX hJ hk6 hx6 qw131 dX10_fits_32 ?_
            refine lv_aload_n hx hb dX10_fits_35 rfl (lv_at hl 0 rfl) ?_
            replace hf := o_gR_e hf
            obtain ⟨hk7, x7, hx7, hf⟩ := hf
            refine gn_X0_type hX hJ hk7 hx7 qn287 dX10_fits_36 ?_
            replace hf := o_cs_e hf
            rcases hf with ⟨hr5, hf⟩ | ⟨a5, hr5, hf⟩
            · subst hr5
              cases hf
            · subst hr5
              replace hf := o_cs_e hf
              rcases hf with ⟨hr6, hf⟩ | ⟨a6, hr6, hf⟩
              · subst hr6
                cases hf
              · subst hr6
                replace hf := o_ck_e hf
                obtain ⟨hk8, hf⟩ := hf
                replace hf := o_call_e hf
                obtain ⟨x8, S3, hq3, hf⟩ := hf
                refine jq_doS hX hJ (jq_okVN (As := [.ref a5]) (rest := []) hx hb hm ho ht hn (wJ.recv hX hJ (by rw [hk8]; decide) (wE_X9 hk8) rfl) qn466 qw395 qs26 qw396 qw6 hy_X9_goesTo rfl hl.1 (Nat.le_of_ble_eq_true rfl) dX10_fits_39) (c_X9_goesTo hq3) (Nat.le_of_ble_eq_true rfl) (Nat.le_of_ble_eq_true rfl) (fun H locs hJ' => ?_)
                clear hJ
                have hJ := hJ'
                clear hJ'
                refine lv_if_eq (tgt := 49) hx hb dX10_fits_42 (by decide) (fun c2 => ?_) (fun c2 => ?_)
                · replace hf := o_t hf c2
                  refine lv_iconst (v := 0) hx hb dX10_fits_49 (by decide) ?_
                  obtain ⟨rfl, rfl⟩ := Prod.mk.inj (Option.some.inj hf)
                  exact jq_iret hX hJ.2.2 dX10_fits_50 ⟨rfl, rfl, rfl, hJ.1, hJ.2.1⟩
                · replace hf := o_f hf c2
                  refine lv_iconst (v := 1) hx hb dX10_fits_45 (by decide) ?_
                  refine lv_goto (tgt := 50) hx hb dX10_fits_46 (by decide) ?_
                  obtain ⟨rfl, rfl⟩ := Prod.mk.inj (Option.some.inj hf)
                  exact jq_iret hX hJ.2.2 dX10_fits_50 ⟨rfl, rfl, rfl, hJ.1, hJ.2.1⟩
          · replace hf := o_f hf c1
            refine lv_iconst (v := 2) hx hb dX10_fits_29 (by decide) ?_
            obtain ⟨rfl, rfl⟩ := Prod.mk.inj (Option.some.inj hf)
            exact jq_iret hX hJ.2.2 dX10_fits_30 ⟨rfl, rfl, rfl, hJ.1, hJ.2.1⟩
theorem dX10_give_0 : decode cX10_give 0 = .ok (.iload_n 1, 1) := by decide +kernel
theorem dX10_give_1 : decode cX10_give 1 = .ok (.ifCond .lt 12, 3) := by decide +kernel
theorem dX10_give_13 : decode cX10_give 13 = .ok (.iconst (-1), 1) := by decide +kernel
theorem dX10_give_14 : decode cX10_give 14 = .ok (.ireturn, 1) := by decide +kernel
theorem dX10_give_4 : decode cX10_give 4 = .ok (.iload_n 1, 1) := by decide +kernel
theorem dX10_give_5 : decode cX10_give 5 = .ok (.aload_n 0, 1) := by decide +kernel
theorem dX10_give_6 : decode cX10_give 6 = .ok (.getfield 39, 3) := by decide +kernel
theorem dX10_give_9 : decode cX10_give 9 = .ok (.arraylength, 1) := by decide +kernel
theorem dX10_give_10 : decode cX10_give 10 = .ok (.if_icmp .lt 5, 3) := by decide +kernel
theorem dX10_give_15 : decode cX10_give 15 = .ok (.aload_n 0, 1) := by decide +kernel
theorem dX10_give_16 : decode cX10_give 16 = .ok (.getfield 39, 3) := by decide +kernel
theorem dX10_give_19 : decode cX10_give 19 = .ok (.iload_n 1, 1) := by decide +kernel
theorem dX10_give_20 : decode cX10_give 20 = .ok (.lload_n 2, 1) := by decide +kernel
theorem dX10_give_21 : decode cX10_give 21 = .ok (.lastore, 1) := by decide +kernel
theorem dX10_give_22 : decode cX10_give 22 = .ok (.iconst 1, 1) := by decide +kernel
theorem dX10_give_23 : decode cX10_give 23 = .ok (.ireturn, 1) := by decide +kernel
theorem hy_X10_give : yX10_give.cls ≠ "java/lang/invoke/MethodHandle" ∧ yX10_give.cls ≠ "java/lang/invoke/VarHandle" ∧ (parseMethodDescriptor yX10_give.desc).map (fun d => d.parameters.length) = some 2 := ⟨by decide, by decide, by decide +kernel⟩
def f_X10_give (o : Nat) (p1 : Int32) (p2 : Int64) (S : wS) : Option ((Int32) × wS) :=
  if p1 < 0 then (
  some ((-1), S)) else (
  o_gR 9 14 o S fun x1 =>
  o_cs x1 (none) (fun a1 =>
  o_len 22 a1 S fun x2 =>
  if p1 < x2 then (
  o_gR 9 14 o S fun x3 =>
  o_cs x3 (none) (fun a2 =>
  o_wL a2 p1 p2 S fun S1 =>
  some (1, S1))) else (
  some ((-1), S))))
set_option maxHeartbeats 4000000 in
set_option maxRecDepth 100000 in
theorem c_X10_give {l : Launch} {D : va_G} {Y : Nat → ClassId} {aR : Nat → Nat} {A : Nat → Prop} {o : Nat} {p1 : Int32} {p2 : Int64} {S S' : wS} {r : Int32} (hf : f_X10_give o p1 p2 S = some (r, S')) : jq_S l D Y aR A yX10_give cX10_give 4 (some .int) 0 0 [.ref o, .int p1, .long p2] S (some (.int r)) S' := by
  unfold f_X10_give at hf
  refine jq_enterS (by decide) (Nat.le_of_ble_eq_true rfl) fun p e s m args below meth c ls H locs hX hJ hl => ?_
  have hl : lv_has ls 4 [(0, .ref o), (1, .int p1), (2, .long p2)] := hl
  have hx := hX.1
  have hb := hX.2.1
  have hm := hX.2.2.1
  have ho := hX.2.2.2.1
  have ht := hX.2.2.2.2.1
  have hn := hX.2.2.2.2.2.1.2.1
  refine lv_iload_n hx hb dX10_give_0 rfl (lv_at hl 1 rfl) ?_
  refine lv_if_lt (tgt := 13) hx hb dX10_give_1 (by decide) (fun c1 => ?_) (fun c1 => ?_)
  · replace hf := o_t hf c1
    refine lv_iconst (v := (-1)) hx hb dX10_give_13 (by decide) ?_
    obtain ⟨rfl, rfl⟩ := Prod.mk.inj (Option.some.inj hf)
    exact jq_iret hX hJ.2.2 dX10_give_14 ⟨rfl, rfl, rfl, hJ.1, hJ.2.1⟩
  · replace hf := o_f hf c1
    refine lv_iload_n hx hb dX10_give_4 rfl (lv_at hl 1 rfl) ?_
    refine lv_aload_n hx hb dX10_give_5 rfl (lv_at hl 0 rfl) ?_
    replace hf := o_gR_e hf
    obtain ⟨hk1, x1, hx1, hf⟩ := hf
    refine gf_X10_numbers hX hJ hk1 hx1 qw130 dX10_give_6 ?_
    replace hf := o_cs_e hf
    rcases hf with ⟨hr1, hf⟩ | ⟨a1, hr1, hf⟩
    · subst hr1
      cases hf
    · subst hr1
      replace hf := o_len_e hf
      obtain ⟨hk2, x2, hx2, hf⟩ := hf
      refine gl_L hX hJ hk2 hx2 dX10_give_9 ?_
      refine lv_icmp_lt (tgt := 15) hx hb dX10_give_10 (by decide) (fun c2 => ?_) (fun c2 => ?_)
      · replace hf := o_t hf c2
        refine lv_aload_n hx hb dX10_give_15 rfl (lv_at hl 0 rfl) ?_
        replace hf := o_gR_e hf
        obtain ⟨hk3, x3, hx3, hf⟩ := hf
        refine gf_X10_numbers hX hJ hk3 hx3 qw130 dX10_give_16 ?_
        refine lv_iload_n hx hb dX10_give_19 rfl (lv_at hl 1 rfl) ?_
        refine lv_lload_n hx hb dX10_give_20 rfl (lv_at hl 2 rfl) ?_
        replace hf := o_cs_e hf
        rcases hf with ⟨hr2, hf⟩ | ⟨a2, hr2, hf⟩
        · subst hr2
          cases hf
        · subst hr2
          replace hf := o_wL_e hf
          obtain ⟨hk4, S1, hS1, hf⟩ := hf
          refine wa_L hX hJ hk4 hS1 dX10_give_21 (fun H locs hJ' => ?_)
          clear hJ
          have hJ := hJ'
          clear hJ'
          refine lv_iconst (v := 1) hx hb dX10_give_22 (by decide) ?_
          obtain ⟨rfl, rfl⟩ := Prod.mk.inj (Option.some.inj hf)
          exact jq_iret hX hJ.2.2 dX10_give_23 ⟨rfl, rfl, rfl, hJ.1, hJ.2.1⟩
      · replace hf := o_f hf c2
        refine lv_iconst (v := (-1)) hx hb dX10_give_13 (by decide) ?_
        obtain ⟨rfl, rfl⟩ := Prod.mk.inj (Option.some.inj hf)
        exact jq_iret hX hJ.2.2 dX10_give_14 ⟨rfl, rfl, rfl, hJ.1, hJ.2.1⟩
theorem dX10_givenRowsAreThere_0 : decode cX10_givenRowsAreThere 0 = .ok (.iconst 0, 1) := by decide +kernel
theorem dX10_givenRowsAreThere_1 : decode cX10_givenRowsAreThere 1 = .ok (.istore_n 1, 1) := by decide +kernel
theorem dX10_givenRowsAreThere_2 : decode cX10_givenRowsAreThere 2 = .ok (.iload_n 1, 1) := by decide +kernel
theorem dX10_givenRowsAreThere_3 : decode cX10_givenRowsAreThere 3 = .ok (.aload_n 0, 1) := by decide +kernel
theorem dX10_givenRowsAreThere_4 : decode cX10_givenRowsAreThere 4 = .ok (.getfield 50, 3) := by decide +kernel
theorem dX10_givenRowsAreThere_7 : decode cX10_givenRowsAreThere 7 = .ok (.getfield 129, 3) := by decide +kernel
theorem dX10_givenRowsAreThere_10 : decode cX10_givenRowsAreThere 10 = .ok (.if_icmp .ge 44, 3) := by decide +kernel
theorem dX10_givenRowsAreThere_54 : decode cX10_givenRowsAreThere 54 = .ok (.iconst 1, 1) := by decide +kernel
theorem dX10_givenRowsAreThere_55 : decode cX10_givenRowsAreThere 55 = .ok (.ireturn, 1) := by decide +kernel
theorem dX10_givenRowsAreThere_13 : decode cX10_givenRowsAreThere 13 = .ok (.iload_n 1, 1) := by decide +kernel
theorem dX10_givenRowsAreThere_14 : decode cX10_givenRowsAreThere 14 = .ok (.aload_n 0, 1) := by decide +kernel
theorem dX10_givenRowsAreThere_15 : decode cX10_givenRowsAreThere 15 = .ok (.getfield 39, 3) := by decide +kernel
theorem dX10_givenRowsAreThere_18 : decode cX10_givenRowsAreThere 18 = .ok (.arraylength, 1) := by decide +kernel
theorem dX10_givenRowsAreThere_19 : decode cX10_givenRowsAreThere 19 = .ok (.if_icmp .ge 35, 3) := by decide +kernel
theorem dX10_givenRowsAreThere_22 : decode cX10_givenRowsAreThere 22 = .ok (.aload_n 0, 1) := by decide +kernel
theorem dX10_givenRowsAreThere_23 : decode cX10_givenRowsAreThere 23 = .ok (.getfield 13, 3) := by decide +kernel
theorem dX10_givenRowsAreThere_26 : decode cX10_givenRowsAreThere 26 = .ok (.aload_n 0, 1) := by decide +kernel
theorem dX10_givenRowsAreThere_27 : decode cX10_givenRowsAreThere 27 = .ok (.getfield 50, 3) := by decide +kernel
theorem dX10_givenRowsAreThere_30 : decode cX10_givenRowsAreThere 30 = .ok (.iload_n 1, 1) := by decide +kernel
theorem dX10_givenRowsAreThere_31 : decode cX10_givenRowsAreThere 31 = .ok (.invokevirtual 134, 3) := by decide +kernel
theorem dX10_givenRowsAreThere_34 : decode cX10_givenRowsAreThere 34 = .ok (.aload_n 0, 1) := by decide +kernel
theorem dX10_givenRowsAreThere_35 : decode cX10_givenRowsAreThere 35 = .ok (.getfield 39, 3) := by decide +kernel
theorem dX10_givenRowsAreThere_38 : decode cX10_givenRowsAreThere 38 = .ok (.iload_n 1, 1) := by decide +kernel
theorem dX10_givenRowsAreThere_39 : decode cX10_givenRowsAreThere 39 = .ok (.laload, 1) := by decide +kernel
theorem dX10_givenRowsAreThere_40 : decode cX10_givenRowsAreThere 40 = .ok (.invokevirtual 184, 3) := by decide +kernel
theorem dX10_givenRowsAreThere_43 : decode cX10_givenRowsAreThere 43 = .ok (.ifCond .ne 5, 3) := by decide +kernel
theorem dX10_givenRowsAreThere_48 : decode cX10_givenRowsAreThere 48 = .ok (.iinc 1 1, 3) := by decide +kernel
theorem dX10_givenRowsAreThere_51 : decode cX10_givenRowsAreThere 51 = .ok (.goto (-49), 3) := by decide +kernel
theorem dX10_givenRowsAreThere_46 : decode cX10_givenRowsAreThere 46 = .ok (.iconst 0, 1) := by decide +kernel
theorem dX10_givenRowsAreThere_47 : decode cX10_givenRowsAreThere 47 = .ok (.ireturn, 1) := by decide +kernel
theorem hy_X10_givenRowsAreThere : yX10_givenRowsAreThere.cls ≠ "java/lang/invoke/MethodHandle" ∧ yX10_givenRowsAreThere.cls ≠ "java/lang/invoke/VarHandle" ∧ (parseMethodDescriptor yX10_givenRowsAreThere.desc).map (fun d => d.parameters.length) = some 0 := ⟨by decide, by decide, by decide +kernel⟩
def f_X10_givenRowsAreThere_b2 : Nat → Nat → Int32 → wS → Option ((Int32) × wS)
  | 0, _, _, _ => none
  | n + 1, l0, l1, S => 
  o_gR 9 15 l0 S fun x1 =>
  o_cs x1 (none) (fun a1 =>
  o_gI 8 13 a1 S fun x2 =>
  if x2 ≤ l1 then (
  some (1, S)) else (
  o_gR 9 14 l0 S fun x3 =>
  o_cs x3 (none) (fun a2 =>
  o_len 22 a2 S fun x4 =>
  if x4 ≤ l1 then (
  some (1, S)) else (
  o_gR 9 10 l0 S fun x5 =>
  o_gR 9 15 l0 S fun x6 =>
  o_cs x6 (o_cs x5 (none) (fun a7 =>
  none)) (fun a3 =>
  o_cs x5 (o_ck (s_K S a3 = 8) (o_call (f_X9_kind a3 l1 S) fun x12 S3 =>
  o_gR 9 14 l0 S3 fun x13 =>
  o_cs x13 (none) (fun a6 =>
  o_rL a6 l1 S3 fun x14 =>
  none))) (fun a4 =>
  o_ck (s_K S a3 = 8) (o_call (f_X9_kind a3 l1 S) fun x7 S1 =>
  o_gR 9 14 l0 S1 fun x8 =>
  o_cs x8 (none) (fun a5 =>
  o_rL a5 l1 S1 fun x9 =>
  o_ck (s_K S1 a4 = 6) (o_call (f_X6_mayBe a4 x7 x9 S1) fun x10 S2 =>
  if x10 = 0 then (
  some (0, S2)) else (
  o_let (l1 + 1) fun x11 =>
  f_X10_givenRowsAreThere_b2 n l0 x11 S2))))))))))
set_option maxHeartbeats 4000000 in
set_option maxRecDepth 100000 in
theorem w_X10_givenRowsAreThere_b2 {l : Launch} {D : va_G} {Y : Nat → ClassId} {aR : Nat → Nat} {A : Nat → Prop} {p : Program} {e : Env} {s : State} {m : MethodId} {args : Array Value} {below : List Frame} {meth : Method} {c : Code} {S0 : wS} : ∀ (n : Nat) (l0 : Nat) (l1 : Int32) (S S' : wS) (r : Int32) (H : Heap) (locs : List Loc) (ls : Array Slot), jq_X D Y aR A p s m args meth c cX10_givenRowsAreThere RX10 "givenRowsAreThere" 2 (some .boolean) → wJ D Y A s S0 S H locs → f_X10_givenRowsAreThere_b2 n l0 l1 S = some (r, S') → lv_has ls 2 [(0, .ref l0), (1, .int l1)] → W p l e { frames := 2, cells := s_lm S0 - s_nx S0, slots := s_sm S0 - s_sl S0, locals := 46 } s m args below meth c H locs (s_nx S - s_nx S0) (s_sl S - s_sl S0) (jq_Z below A (fun v k n H => v = (some (.int r)) ∧ k = s_nx S' - s_nx S0 ∧ n = s_sl S' - s_sl S0 ∧ wG S0 S' ∧ wH D Y A S' H) s) (F0 m 2 ls []) := by
  intro n
  induction n with
  | zero =>
    intro l0 l1 S S' r H locs ls hX hJ hf hl
    cases hf
  | succ n ih =>
    intro l0 l1 S S' r H locs ls hX hJ hf hl
    rw [f_X10_givenRowsAreThere_b2.eq_2] at hf
    have hx := hX.1
    have hb := hX.2.1
    have hm := hX.2.2.1
    have ho := hX.2.2.2.1
    have ht := hX.2.2.2.2.1
    have hn := hX.2.2.2.2.2.1.2.1
    refine lv_iload_n hx hb dX10_givenRowsAreThere_2 rfl (lv_at hl 1 rfl) ?_
    refine lv_aload_n hx hb dX10_givenRowsAreThere_3 rfl (lv_at hl 0 rfl) ?_
    replace hf := o_gR_e hf
    obtain ⟨hk1, x1, hx1, hf⟩ := hf
    refine gf_X10_atHand hX hJ hk1 hx1 qw131 dX10_givenRowsAreThere_4 ?_
    replace hf := o_cs_e hf
    rcases hf with ⟨hr1, hf⟩ | ⟨a1, hr1, hf⟩
    · subst hr1
      cases hf
    · subst hr1
      replace hf := o_gI_e hf
      obtain ⟨hk2, x2, hx2, hf⟩ := hf
      refine gn_X9_many hX hJ hk2 hx2 qn115 dX10_givenRowsAreThere_7 ?_
      refine lv_icmp_ge (tgt := 54) hx hb dX10_givenRowsAreThere_10 (by decide) (fun c1 => ?_) (fun c1 => ?_)
      · replace hf := o_t hf c1
        refine lv_iconst (v := 1) hx hb dX10_givenRowsAreThere_54 (by decide) ?_
        obtain ⟨rfl, rfl⟩ := Prod.mk.inj (Option.some.inj hf)
        exact jq_zret hX hJ.2.2 (by decide) dX10_givenRowsAreThere_55 ⟨rfl, rfl, rfl, hJ.1, hJ.2.1⟩
      · replace hf := o_f hf c1
        refine lv_iload_n hx hb dX10_givenRowsAreThere_13 rfl (lv_at hl 1 rfl) ?_
        refine lv_aload_n hx hb dX10_givenRowsAreThere_14 rfl (lv_at hl 0 rfl) ?_
        replace hf := o_gR_e hf
        obtain ⟨hk3, x3, hx3, hf⟩ := hf
        refine gf_X10_numbers hX hJ hk3 hx3 qw130 dX10_givenRowsAreThere_15 ?_
        replace hf := o_cs_e hf
        rcases hf with ⟨hr2, hf⟩ | ⟨a2, hr2, hf⟩
        · subst hr2
          cases hf
        · subst hr2
          replace hf := o_len_e hf
          obtain ⟨hk4, x4, hx4, hf⟩ := hf
          refine gl_L hX hJ hk4 hx4 dX10_givenRowsAreThere_18 ?_
          refine lv_icmp_ge (tgt := 54) hx hb dX10_givenRowsAreThere_19 (by decide) (fun c2 => ?_) (fun c2 => ?_)
          · replace hf := o_t hf c2
            refine lv_iconst (v := 1) hx hb dX10_givenRowsAreThere_54 (by decide) ?_
            obtain ⟨rfl, rfl⟩ := Prod.mk.inj (Option.some.inj hf)
            exact jq_zret hX hJ.2.2 (by decide) dX10_givenRowsAreThere_55 ⟨rfl, rfl, rfl, hJ.1, hJ.2.1⟩
          · replace hf := o_f hf c2
            refine lv_aload_n hx hb dX10_givenRowsAreThere_22 rfl (lv_at hl 0 rfl) ?_
            replace hf := o_gR_e hf
            obtain ⟨hk5, x5, hx5, hf⟩ := hf
            refine gf_X10_rows hX hJ hk5 hx5 qw126 dX10_givenRowsAreThere_23 ?_
            refine lv_aload_n hx hb dX10_givenRowsAreThere_26 rfl (lv_at hl 0 rfl) ?_
            replace hf := o_gR_e hf
            obtain ⟨hk6, x6, hx6, hf⟩ := hf
            refine gf_X10_atHand hX hJ hk6 hx6 qw131 dX10_givenRowsAreThere_27 ?_
            refine lv_iload_n hx hb dX10_givenRowsAreThere_30 rfl (lv_at hl 1 rfl) ?_
            replace hf := o_cs_e hf
            rcases hf with ⟨hr3, hf⟩ | ⟨a3, hr3, hf⟩
            · subst hr3
              replace hf := o_cs_e hf
              rcases hf with ⟨hr7, hf⟩ | ⟨a7, hr7, hf⟩
              · subst hr7
                cases hf
              · subst hr7
                cases hf
            · subst hr3
              replace hf := o_cs_e hf
              rcases hf with ⟨hr4, hf⟩ | ⟨a4, hr4, hf⟩
              · subst hr4
                replace hf := o_ck_e hf
                obtain ⟨hk11, hf⟩ := hf
                replace hf := o_call_e hf
                obtain ⟨x12, S3, hq3, hf⟩ := hf
                refine jq_doS hX hJ (jq_okVN (As := [.int l1]) (rest := [.null]) hx hb hm ho ht hn (wJ.recv hX hJ (by rw [hk11]; decide) (wE_X9 hk11) rfl) qn460 qw351 qs19 qw352 qw6 hy_X9_kind rfl hl.1 (Nat.le_of_ble_eq_true rfl) dX10_givenRowsAreThere_31) (c_X9_kind hq3) (Nat.le_of_ble_eq_true rfl) (Nat.le_of_ble_eq_true rfl) (fun H locs hJ' => ?_)
                clear hJ
                have hJ := hJ'
                clear hJ'
                refine lv_aload_n hx hb dX10_givenRowsAreThere_34 rfl (lv_at hl 0 rfl) ?_
                replace hf := o_gR_e hf
                obtain ⟨hk12, x13, hx13, hf⟩ := hf
                refine gf_X10_numbers hX hJ hk12 hx13 qw130 dX10_givenRowsAreThere_35 ?_
                refine lv_iload_n hx hb dX10_givenRowsAreThere_38 rfl (lv_at hl 1 rfl) ?_
                replace hf := o_cs_e hf
                rcases hf with ⟨hr6, hf⟩ | ⟨a6, hr6, hf⟩
                · subst hr6
                  cases hf
                · subst hr6
                  replace hf := o_rL_e hf
                  obtain ⟨hk13, x14, hx14, hf⟩ := hf
                  refine ga_L hX hJ hk13 hx14 dX10_givenRowsAreThere_39 ?_
                  cases hf
              · subst hr4
                replace hf := o_ck_e hf
                obtain ⟨hk7, hf⟩ := hf
                replace hf := o_call_e hf
                obtain ⟨x7, S1, hq1, hf⟩ := hf
                refine jq_doS hX hJ (jq_okVN (As := [.int l1]) (rest := [.ref a4]) hx hb hm ho ht hn (wJ.recv hX hJ (by rw [hk7]; decide) (wE_X9 hk7) rfl) qn460 qw351 qs19 qw352 qw6 hy_X9_kind rfl hl.1 (Nat.le_of_ble_eq_true rfl) dX10_givenRowsAreThere_31) (c_X9_kind hq1) (Nat.le_of_ble_eq_true rfl) (Nat.le_of_ble_eq_true rfl) (fun H locs hJ' => ?_)
                clear hJ
                have hJ := hJ'
                clear hJ'
                refine lv_aload_n hx hb dX10_givenRowsAreThere_34 rfl (lv_at hl 0 rfl) ?_
                replace hf := o_gR_e hf
                obtain ⟨hk8, x8, hx8, hf⟩ := hf
                refine gf_X10_numbers hX hJ hk8 hx8 qw130 dX10_givenRowsAreThere_35 ?_
                refine lv_iload_n hx hb dX10_givenRowsAreThere_38 rfl (lv_at hl 1 rfl) ?_
                replace hf := o_cs_e hf
                rcases hf with ⟨hr5, hf⟩ | ⟨a5, hr5, hf⟩
                · subst hr5
                  cases hf
                · subst hr5
                  replace hf := o_rL_e hf
                  obtain ⟨hk9, x9, hx9, hf⟩ := hf
                  refine ga_L hX hJ hk9 hx9 dX10_givenRowsAreThere_39 ?_
                  replace hf := o_ck_e hf
                  obtain ⟨hk10, hf⟩ := hf
                  replace hf := o_call_e hf
                  obtain ⟨x10, S2, hq2, hf⟩ := hf
                  refine jq_doS hX hJ (jq_okVN (As := [.int x7, .long x9]) (rest := []) hx hb hm ho ht hn (wJ.recv hX hJ (by rw [hk10]; decide) (wE_X6 hk10) rfl) qn479 qw355 qs20 qw356 qw2 hy_X6_mayBe rfl hl.1 (Nat.le_of_ble_eq_true rfl) dX10_givenRowsAreThere_40) (c_X6_mayBe hq2) (Nat.le_of_ble_eq_true rfl) (Nat.le_of_ble_eq_true rfl) (fun H locs hJ' => ?_)
                  clear hJ
                  have hJ := hJ'
                  clear hJ'
                  refine lv_if_ne (tgt := 48) hx hb dX10_givenRowsAreThere_43 (by decide) (fun c3 => ?_) (fun c3 => ?_)
                  · replace hf := o_f hf c3
                    replace hf := o_let_e hf
                    obtain ⟨x11, hx11, hf⟩ := hf
                    refine lv_iinc (v := x11) (lv' := [(1, .int x11), (0, .ref l0)]) hx hb dX10_givenRowsAreThere_48 hl (k := 1) rfl (by rw [← hx11]; rfl) (by decide) rfl (fun ls hl' => ?_)
                    clear hl
                    have hl := hl'
                    clear hl'
                    refine lv_goto (tgt := 2) hx hb dX10_givenRowsAreThere_51 (by decide) ?_
                    replace hl := lv_sub hl (l' := [(0, .ref l0), (1, .int x11)]) [1, 0] rfl
                    exact ih l0 x11 S2 S' r H locs ls hX hJ hf hl
                  · replace hf := o_t hf c3
                    refine lv_iconst (v := 0) hx hb dX10_givenRowsAreThere_46 (by decide) ?_
                    obtain ⟨rfl, rfl⟩ := Prod.mk.inj (Option.some.inj hf)
                    exact jq_zret hX hJ.2.2 (by decide) dX10_givenRowsAreThere_47 ⟨rfl, rfl, rfl, hJ.1, hJ.2.1⟩
def f_X10_givenRowsAreThere (o : Nat) (S : wS) : Option ((Int32) × wS) :=
  f_X10_givenRowsAreThere_b2 12 o 0 S
set_option maxHeartbeats 4000000 in
set_option maxRecDepth 100000 in
theorem c_X10_givenRowsAreThere {l : Launch} {D : va_G} {Y : Nat → ClassId} {aR : Nat → Nat} {A : Nat → Prop} {o : Nat} {S S' : wS} {r : Int32} (hf : f_X10_givenRowsAreThere o S = some (r, S')) : jq_S l D Y aR A yX10_givenRowsAreThere cX10_givenRowsAreThere 2 (some .boolean) 2 46 [.ref o] S (some (.int r)) S' := by
  unfold f_X10_givenRowsAreThere at hf
  refine jq_enterS (by decide) (Nat.le_of_ble_eq_true rfl) fun p e s m args below meth c ls H locs hX hJ hl => ?_
  have hl : lv_has ls 2 [(0, .ref o)] := hl
  have hx := hX.1
  have hb := hX.2.1
  have hm := hX.2.2.1
  have ho := hX.2.2.2.1
  have ht := hX.2.2.2.2.1
  have hn := hX.2.2.2.2.2.1.2.1
  refine lv_iconst (v := 0) hx hb dX10_givenRowsAreThere_0 (by decide) ?_
  refine lv_istore_n (lv' := [(1, .int 0), (0, .ref o)]) hx hb dX10_givenRowsAreThere_1 rfl hl (by decide) rfl (fun ls hl' => ?_)
  clear hl
  have hl := hl'
  clear hl'
  replace hl := lv_sub hl (l' := [(0, .ref o), (1, .int 0)]) [1, 0] rfl
  exact w_X10_givenRowsAreThere_b2 12 o 0 S S' r H locs ls hX hJ hf hl
theorem dX10_handOverNumbers_0 : decode cX10_handOverNumbers 0 = .ok (.iconst 0, 1) := by decide +kernel
theorem dX10_handOverNumbers_1 : decode cX10_handOverNumbers 1 = .ok (.istore_n 2, 1) := by decide +kernel
theorem dX10_handOverNumbers_2 : decode cX10_handOverNumbers 2 = .ok (.iload_n 2, 1) := by decide +kernel
theorem dX10_handOverNumbers_3 : decode cX10_handOverNumbers 3 = .ok (.aload_n 0, 1) := by decide +kernel
theorem dX10_handOverNumbers_4 : decode cX10_handOverNumbers 4 = .ok (.getfield 50, 3) := by decide +kernel
theorem dX10_handOverNumbers_7 : decode cX10_handOverNumbers 7 = .ok (.getfield 129, 3) := by decide +kernel
theorem dX10_handOverNumbers_10 : decode cX10_handOverNumbers 10 = .ok (.if_icmp .ge 59, 3) := by decide +kernel
theorem dX10_handOverNumbers_69 : decode cX10_handOverNumbers 69 = .ok (.return_, 1) := by decide +kernel
theorem dX10_handOverNumbers_13 : decode cX10_handOverNumbers 13 = .ok (.iload_n 2, 1) := by decide +kernel
theorem dX10_handOverNumbers_14 : decode cX10_handOverNumbers 14 = .ok (.aload_n 0, 1) := by decide +kernel
theorem dX10_handOverNumbers_15 : decode cX10_handOverNumbers 15 = .ok (.getfield 39, 3) := by decide +kernel
theorem dX10_handOverNumbers_18 : decode cX10_handOverNumbers 18 = .ok (.arraylength, 1) := by decide +kernel
theorem dX10_handOverNumbers_19 : decode cX10_handOverNumbers 19 = .ok (.if_icmp .ge 50, 3) := by decide +kernel
theorem dX10_handOverNumbers_22 : decode cX10_handOverNumbers 22 = .ok (.aload_n 0, 1) := by decide +kernel
theorem dX10_handOverNumbers_23 : decode cX10_handOverNumbers 23 = .ok (.getfield 50, 3) := by decide +kernel
theorem dX10_handOverNumbers_26 : decode cX10_handOverNumbers 26 = .ok (.iload_n 2, 1) := by decide +kernel
theorem dX10_handOverNumbers_27 : decode cX10_handOverNumbers 27 = .ok (.invokevirtual 134, 3) := by decide +kernel
theorem dX10_handOverNumbers_30 : decode cX10_handOverNumbers 30 = .ok (.istore_n 3, 1) := by decide +kernel
theorem dX10_handOverNumbers_31 : decode cX10_handOverNumbers 31 = .ok (.iload_n 3, 1) := by decide +kernel
theorem dX10_handOverNumbers_32 : decode cX10_handOverNumbers 32 = .ok (.aload_n 0, 1) := by decide +kernel
theorem dX10_handOverNumbers_33 : decode cX10_handOverNumbers 33 = .ok (.getfield 39, 3) := by decide +kernel
theorem dX10_handOverNumbers_36 : decode cX10_handOverNumbers 36 = .ok (.iload_n 2, 1) := by decide +kernel
theorem dX10_handOverNumbers_37 : decode cX10_handOverNumbers 37 = .ok (.laload, 1) := by decide +kernel
theorem dX10_handOverNumbers_38 : decode cX10_handOverNumbers 38 = .ok (.invokestatic 76, 3) := by decide +kernel
theorem dX10_handOverNumbers_41 : decode cX10_handOverNumbers 41 = .ok (.lstore 4, 2) := by decide +kernel
theorem dX10_handOverNumbers_43 : decode cX10_handOverNumbers 43 = .ok (.aload_n 0, 1) := by decide +kernel
theorem dX10_handOverNumbers_44 : decode cX10_handOverNumbers 44 = .ok (.getfield 35, 3) := by decide +kernel
theorem dX10_handOverNumbers_47 : decode cX10_handOverNumbers 47 = .ok (.iconst 0, 1) := by decide +kernel
theorem dX10_handOverNumbers_48 : decode cX10_handOverNumbers 48 = .ok (.iload_n 2, 1) := by decide +kernel
theorem dX10_handOverNumbers_49 : decode cX10_handOverNumbers 49 = .ok (.iload_n 3, 1) := by decide +kernel
theorem dX10_handOverNumbers_50 : decode cX10_handOverNumbers 50 = .ok (.aload_n 1, 1) := by decide +kernel
theorem dX10_handOverNumbers_51 : decode cX10_handOverNumbers 51 = .ok (.iload_n 2, 1) := by decide +kernel
theorem dX10_handOverNumbers_52 : decode cX10_handOverNumbers 52 = .ok (.invokevirtual 134, 3) := by decide +kernel
theorem dX10_handOverNumbers_55 : decode cX10_handOverNumbers 55 = .ok (.lload 4, 2) := by decide +kernel
theorem dX10_handOverNumbers_57 : decode cX10_handOverNumbers 57 = .ok (.invokestatic 166, 3) := by decide +kernel
theorem dX10_handOverNumbers_60 : decode cX10_handOverNumbers 60 = .ok (.invokevirtual 188, 3) := by decide +kernel
theorem dX10_handOverNumbers_63 : decode cX10_handOverNumbers 63 = .ok (.iinc 2 1, 3) := by decide +kernel
theorem dX10_handOverNumbers_66 : decode cX10_handOverNumbers 66 = .ok (.goto (-64), 3) := by decide +kernel
theorem hy_X10_handOverNumbers : yX10_handOverNumbers.cls ≠ "java/lang/invoke/MethodHandle" ∧ yX10_handOverNumbers.cls ≠ "java/lang/invoke/VarHandle" ∧ (parseMethodDescriptor yX10_handOverNumbers.desc).map (fun d => d.parameters.length) = some 1 := ⟨by decide, by decide, by decide +kernel⟩
def f_X10_handOverNumbers_b2 : Nat → Nat → Nat → Int32 → wS → Option ((Unit) × wS)
  | 0, _, _, _, _ => none
  | n + 1, l0, l1, l2, S => 
  o_gR 9 15 l0 S fun x1 =>
  o_cs x1 (none) (fun a1 =>
  o_gI 8 13 a1 S fun x2 =>
  if x2 ≤ l2 then (
  some ((), S)) else (
  o_gR 9 14 l0 S fun x3 =>
  o_cs x3 (none) (fun a2 =>
  o_len 22 a2 S fun x4 =>
  if x4 ≤ l2 then (
  some ((), S)) else (
  o_gR 9 15 l0 S fun x5 =>
  o_cs x5 (none) (fun a3 =>
  o_ck (s_K S a3 = 8) (o_call (f_X9_kind a3 l2 S) fun x6 S1 =>
  o_gR 9 14 l0 S1 fun x7 =>
  o_cs x7 (none) (fun a4 =>
  o_rL a4 l2 S1 fun x8 =>
  o_cP (f_X2_fromBits x6 x8) fun x9 =>
  o_gR 9 13 l0 S1 fun x10 =>
  o_cs x10 (o_ck (s_K S1 l1 = 8) (o_call (f_X9_kind l1 l2 S1) fun x14 S4 =>
  o_cP (f_X2_widened x6 x14 x9) fun x15 =>
  none)) (fun a5 =>
  o_ck (s_K S1 l1 = 8) (o_call (f_X9_kind l1 l2 S1) fun x11 S2 =>
  o_cP (f_X2_widened x6 x11 x9) fun x12 =>
  o_ck (s_K S2 a5 = 7) (o_call (f_X7_hand a5 0 l2 x12 S2) fun _ S3 =>
  o_let (l2 + 1) fun x13 =>
  f_X10_handOverNumbers_b2 n l0 l1 x13 S3))))))))))
set_option maxHeartbeats 4000000 in
set_option maxRecDepth 100000 in
theorem w_X10_handOverNumbers_b2 {l : Launch} {D : va_G} {Y : Nat → ClassId} {aR : Nat → Nat} {A : Nat → Prop} {p : Program} {e : Env} {s : State} {m : MethodId} {args : Array Value} {below : List Frame} {meth : Method} {c : Code} {S0 : wS} : ∀ (n : Nat) (l0 : Nat) (l1 : Nat) (l2 : Int32) (S S' : wS) (r : Unit) (H : Heap) (locs : List Loc) (ls : Array Slot), jq_X D Y aR A p s m args meth c cX10_handOverNumbers RX10 "handOverNumbers" 6 none → wJ D Y A s S0 S H locs → f_X10_handOverNumbers_b2 n l0 l1 l2 S = some (r, S') → lv_has ls 6 [(0, .ref l0), (1, .ref l1), (2, .int l2)] → W p l e { frames := 4, cells := s_lm S0 - s_nx S0, slots := s_sm S0 - s_sl S0, locals := 109 } s m args below meth c H locs (s_nx S - s_nx S0) (s_sl S - s_sl S0) (jq_Z below A (fun v k n H => v = none ∧ k = s_nx S' - s_nx S0 ∧ n = s_sl S' - s_sl S0 ∧ wG S0 S' ∧ wH D Y A S' H) s) (F0 m 2 ls []) := by
  intro n
  induction n with
  | zero =>
    intro l0 l1 l2 S S' r H locs ls hX hJ hf hl
    cases hf
  | succ n ih =>
    intro l0 l1 l2 S S' r H locs ls hX hJ hf hl
    rw [f_X10_handOverNumbers_b2.eq_2] at hf
    have hx := hX.1
    have hb := hX.2.1
    have hm := hX.2.2.1
    have ho := hX.2.2.2.1
    have ht := hX.2.2.2.2.1
    have hn := hX.2.2.2.2.2.1.2.1
    refine lv_iload_n hx hb dX10_handOverNumbers_2 rfl (lv_at hl 2 rfl) ?_
    refine lv_aload_n hx hb dX10_handOverNumbers_3 rfl (lv_at hl 0 rfl) ?_
    replace hf := o_gR_e hf
    obtain ⟨hk1, x1, hx1, hf⟩ := hf
    refine gf_X10_atHand hX hJ hk1 hx1 qw131 dX10_handOverNumbers_4 ?_
    replace hf := o_cs_e hf
    rcases hf with ⟨hr1, hf⟩ | ⟨a1, hr1, hf⟩
    · subst hr1
      cases hf
    · subst hr1
      replace hf := o_gI_e hf
      obtain ⟨hk2, x2, hx2, hf⟩ := hf
      refine gn_X9_many hX hJ hk2 hx2 qn115 dX10_handOverNumbers_7 ?_
      refine lv_icmp_ge (tgt := 69) hx hb dX10_handOverNumbers_10 (by decide) (fun c1 => ?_) (fun c1 => ?_)
      · replace hf := o_t hf c1
        obtain ⟨rfl, rfl⟩ := Prod.mk.inj (Option.some.inj hf)
        exact jq_vret hX hJ.2.2 dX10_handOverNumbers_69 ⟨rfl, rfl, rfl, hJ.1, hJ.2.1⟩
      · replace hf := o_f hf c1
        refine lv_iload_n hx hb dX10_handOverNumbers_13 rfl (lv_at hl 2 rfl) ?_
        refine lv_aload_n hx hb dX10_handOverNumbers_14 rfl (lv_at hl 0 rfl) ?_
        replace hf := o_gR_e hf
        obtain ⟨hk3, x3, hx3, hf⟩ := hf
        refine gf_X10_numbers hX hJ hk3 hx3 qw130 dX10_handOverNumbers_15 ?_
        replace hf := o_cs_e hf
        rcases hf with ⟨hr2, hf⟩ | ⟨a2, hr2, hf⟩
        · subst hr2
          cases hf
        · subst hr2
          replace hf := o_len_e hf
          obtain ⟨hk4, x4, hx4, hf⟩ := hf
          refine gl_L hX hJ hk4 hx4 dX10_handOverNumbers_18 ?_
          refine lv_icmp_ge (tgt := 69) hx hb dX10_handOverNumbers_19 (by decide) (fun c2 => ?_) (fun c2 => ?_)
          · replace hf := o_t hf c2
            obtain ⟨rfl, rfl⟩ := Prod.mk.inj (Option.some.inj hf)
            exact jq_vret hX hJ.2.2 dX10_handOverNumbers_69 ⟨rfl, rfl, rfl, hJ.1, hJ.2.1⟩
          · replace hf := o_f hf c2
            refine lv_aload_n hx hb dX10_handOverNumbers_22 rfl (lv_at hl 0 rfl) ?_
            replace hf := o_gR_e hf
            obtain ⟨hk5, x5, hx5, hf⟩ := hf
            refine gf_X10_atHand hX hJ hk5 hx5 qw131 dX10_handOverNumbers_23 ?_
            refine lv_iload_n hx hb dX10_handOverNumbers_26 rfl (lv_at hl 2 rfl) ?_
            replace hf := o_cs_e hf
            rcases hf with ⟨hr3, hf⟩ | ⟨a3, hr3, hf⟩
            · subst hr3
              cases hf
            · subst hr3
              replace hf := o_ck_e hf
              obtain ⟨hk6, hf⟩ := hf
              replace hf := o_call_e hf
              obtain ⟨x6, S1, hq1, hf⟩ := hf
              refine jq_doS hX hJ (jq_okVN (As := [.int l2]) (rest := []) hx hb hm ho ht hn (wJ.recv hX hJ (by rw [hk6]; decide) (wE_X9 hk6) rfl) qn460 qw351 qs19 qw352 qw6 hy_X9_kind rfl hl.1 (Nat.le_of_ble_eq_true rfl) dX10_handOverNumbers_27) (c_X9_kind hq1) (Nat.le_of_ble_eq_true rfl) (Nat.le_of_ble_eq_true rfl) (fun H locs hJ' => ?_)
              clear hJ
              have hJ := hJ'
              clear hJ'
              refine lv_istore_n (lv' := [(3, .int x6), (0, .ref l0), (1, .ref l1), (2, .int l2)]) hx hb dX10_handOverNumbers_30 rfl hl (by decide) rfl (fun ls hl' => ?_)
              clear hl
              have hl := hl'
              clear hl'
              refine lv_iload_n hx hb dX10_handOverNumbers_31 rfl (lv_at hl 0 rfl) ?_
              refine lv_aload_n hx hb dX10_handOverNumbers_32 rfl (lv_at hl 1 rfl) ?_
              replace hf := o_gR_e hf
              obtain ⟨hk7, x7, hx7, hf⟩ := hf
              refine gf_X10_numbers hX hJ hk7 hx7 qw130 dX10_handOverNumbers_33 ?_
              refine lv_iload_n hx hb dX10_handOverNumbers_36 rfl (lv_at hl 3 rfl) ?_
              replace hf := o_cs_e hf
              rcases hf with ⟨hr4, hf⟩ | ⟨a4, hr4, hf⟩
              · subst hr4
                cases hf
              · subst hr4
                replace hf := o_rL_e hf
                obtain ⟨hk8, x8, hx8, hf⟩ := hf
                refine ga_L hX hJ hk8 hx8 dX10_handOverNumbers_37 ?_
                replace hf := o_cP_e hf
                obtain ⟨x9, hq2, hf⟩ := hf
                refine jq_doPS hX hJ (jq_okSN (As := [.int x6, .long x8]) (rest := []) hx hb hm ho ht hn qn194 qw195 qw196 qw8 hy_X2_fromBits rfl hl.1 (Nat.le_of_ble_eq_true rfl) dX10_handOverNumbers_38) (c_X2_fromBits hq2) (Nat.le_of_ble_eq_true rfl) (Nat.le_of_ble_eq_true rfl) (fun locs hJ' => ?_)
                clear hJ
                have hJ := hJ'
                clear hJ'
                refine lv_lstore (lv' := [(4, .long x9), (3, .int x6), (0, .ref l0), (1, .ref l1), (2, .int l2)]) hx hb dX10_handOverNumbers_41 hl (by decide) rfl (fun ls hl' => ?_)
                clear hl
                have hl := hl'
                clear hl'
                refine lv_aload_n hx hb dX10_handOverNumbers_43 rfl (lv_at hl 2 rfl) ?_
                replace hf := o_gR_e hf
                obtain ⟨hk9, x10, hx10, hf⟩ := hf
                refine gf_X10_runner hX hJ hk9 hx10 qw129 dX10_handOverNumbers_44 ?_
                refine lv_iconst (v := 0) hx hb dX10_handOverNumbers_47 (by decide) ?_
                refine lv_iload_n hx hb dX10_handOverNumbers_48 rfl (lv_at hl 4 rfl) ?_
                refine lv_iload_n hx hb dX10_handOverNumbers_49 rfl (lv_at hl 1 rfl) ?_
                refine lv_aload_n hx hb dX10_handOverNumbers_50 rfl (lv_at hl 3 rfl) ?_
                refine lv_iload_n hx hb dX10_handOverNumbers_51 rfl (lv_at hl 4 rfl) ?_
                replace hf := o_cs_e hf
                rcases hf with ⟨hr5, hf⟩ | ⟨a5, hr5, hf⟩
                · subst hr5
                  replace hf := o_ck_e hf
                  obtain ⟨hk12, hf⟩ := hf
                  replace hf := o_call_e hf
                  obtain ⟨x14, S4, hq6, hf⟩ := hf
                  refine jq_doS hX hJ (jq_okVN (As := [.int l2]) (rest := [.int x6, .int l2, .int 0, .null]) hx hb hm ho ht hn (wJ.recv hX hJ (by rw [hk12]; decide) (wE_X9 hk12) rfl) qn460 qw351 qs19 qw352 qw6 hy_X9_kind rfl hl.1 (Nat.le_of_ble_eq_true rfl) dX10_handOverNumbers_52) (c_X9_kind hq6) (Nat.le_of_ble_eq_true rfl) (Nat.le_of_ble_eq_true rfl) (fun H locs hJ' => ?_)
                  clear hJ
                  have hJ := hJ'
                  clear hJ'
                  refine lv_lload hx hb dX10_handOverNumbers_55 (lv_at hl 0 rfl) ?_
                  replace hf := o_cP_e hf
                  obtain ⟨x15, hq7, hf⟩ := hf
                  refine jq_doPS hX hJ (jq_okSN (As := [.int x6, .int x14, .long x9]) (rest := [.int l2, .int 0, .null]) hx hb hm ho ht hn qn488 qw489 qw490 qw8 hy_X2_widened rfl hl.1 (Nat.le_of_ble_eq_true rfl) dX10_handOverNumbers_57) (c_X2_widened hq7) (Nat.le_of_ble_eq_true rfl) (Nat.le_of_ble_eq_true rfl) (fun locs hJ' => ?_)
                  clear hJ
                  have hJ := hJ'
                  clear hJ'
                  cases hf
                · subst hr5
                  replace hf := o_ck_e hf
                  obtain ⟨hk10, hf⟩ := hf
                  replace hf := o_call_e hf
                  obtain ⟨x11, S2, hq3, hf⟩ := hf
                  refine jq_doS hX hJ (jq_okVN (As := [.int l2]) (rest := [.int x6, .int l2, .int 0, .ref a5]) hx hb hm ho ht hn (wJ.recv hX hJ (by rw [hk10]; decide) (wE_X9 hk10) rfl) qn460 qw351 qs19 qw352 qw6 hy_X9_kind rfl hl.1 (Nat.le_of_ble_eq_true rfl) dX10_handOverNumbers_52) (c_X9_kind hq3) (Nat.le_of_ble_eq_true rfl) (Nat.le_of_ble_eq_true rfl) (fun H locs hJ' => ?_)
                  clear hJ
                  have hJ := hJ'
                  clear hJ'
                  refine lv_lload hx hb dX10_handOverNumbers_55 (lv_at hl 0 rfl) ?_
                  replace hf := o_cP_e hf
                  obtain ⟨x12, hq4, hf⟩ := hf
                  refine jq_doPS hX hJ (jq_okSN (As := [.int x6, .int x11, .long x9]) (rest := [.int l2, .int 0, .ref a5]) hx hb hm ho ht hn qn488 qw489 qw490 qw8 hy_X2_widened rfl hl.1 (Nat.le_of_ble_eq_true rfl) dX10_handOverNumbers_57) (c_X2_widened hq4) (Nat.le_of_ble_eq_true rfl) (Nat.le_of_ble_eq_true rfl) (fun locs hJ' => ?_)
                  clear hJ
                  have hJ := hJ'
                  clear hJ'
                  replace hf := o_ck_e hf
                  obtain ⟨hk11, hf⟩ := hf
                  replace hf := o_call_e hf
                  obtain ⟨_, S3, hq5, hf⟩ := hf
                  refine jq_doS hX hJ (jq_okVN (As := [.int 0, .int l2, .long x12]) (rest := []) hx hb hm ho ht hn (wJ.recv hX hJ (by rw [hk11]; decide) (wE_X7 hk11) rfl) qn524 qw526 qs44 qw527 qw5 hy_X7_hand rfl hl.1 (Nat.le_of_ble_eq_true rfl) dX10_handOverNumbers_60) (c_X7_hand hq5) (Nat.le_of_ble_eq_true rfl) (Nat.le_of_ble_eq_true rfl) (fun H locs hJ' => ?_)
                  clear hJ
                  have hJ := hJ'
                  clear hJ'
                  replace hf := o_let_e hf
                  obtain ⟨x13, hx13, hf⟩ := hf
                  refine lv_iinc (v := x13) (lv' := [(2, .int x13), (4, .long x9), (3, .int x6), (0, .ref l0), (1, .ref l1)]) hx hb dX10_handOverNumbers_63 hl (k := 4) rfl (by rw [← hx13]; rfl) (by decide) rfl (fun ls hl' => ?_)
                  clear hl
                  have hl := hl'
                  clear hl'
                  refine lv_goto (tgt := 2) hx hb dX10_handOverNumbers_66 (by decide) ?_
                  replace hl := lv_sub hl (l' := [(0, .ref l0), (1, .ref l1), (2, .int x13)]) [3, 4, 0] rfl
                  exact ih l0 l1 x13 S3 S' r H locs ls hX hJ hf hl
def f_X10_handOverNumbers (o : Nat) (p1 : Nat) (S : wS) : Option ((Unit) × wS) :=
  f_X10_handOverNumbers_b2 12 o p1 0 S
set_option maxHeartbeats 4000000 in
set_option maxRecDepth 100000 in
theorem c_X10_handOverNumbers {l : Launch} {D : va_G} {Y : Nat → ClassId} {aR : Nat → Nat} {A : Nat → Prop} {o : Nat} {p1 : Nat} {S S' : wS} {r : Unit} (hf : f_X10_handOverNumbers o p1 S = some (r, S')) : jq_S l D Y aR A yX10_handOverNumbers cX10_handOverNumbers 6 none 4 109 [.ref o, .ref p1] S none S' := by
  unfold f_X10_handOverNumbers at hf
  refine jq_enterS (by decide) (Nat.le_of_ble_eq_true rfl) fun p e s m args below meth c ls H locs hX hJ hl => ?_
  have hl : lv_has ls 6 [(0, .ref o), (1, .ref p1)] := hl
  have hx := hX.1
  have hb := hX.2.1
  have hm := hX.2.2.1
  have ho := hX.2.2.2.1
  have ht := hX.2.2.2.2.1
  have hn := hX.2.2.2.2.2.1.2.1
  refine lv_iconst (v := 0) hx hb dX10_handOverNumbers_0 (by decide) ?_
  refine lv_istore_n (lv' := [(2, .int 0), (0, .ref o), (1, .ref p1)]) hx hb dX10_handOverNumbers_1 rfl hl (by decide) rfl (fun ls hl' => ?_)
  clear hl
  have hl := hl'
  clear hl'
  replace hl := lv_sub hl (l' := [(0, .ref o), (1, .ref p1), (2, .int 0)]) [1, 2, 0] rfl
  exact w_X10_handOverNumbers_b2 12 o p1 0 S S' r H locs ls hX hJ hf hl
theorem dX10_run_0 : decode cX10_run 0 = .ok (.aload_n 0, 1) := by decide +kernel
theorem dX10_run_1 : decode cX10_run 1 = .ok (.getfield 19, 3) := by decide +kernel
theorem dX10_run_4 : decode cX10_run 4 = .ok (.iload_n 1, 1) := by decide +kernel
theorem dX10_run_5 : decode cX10_run 5 = .ok (.invokevirtual 120, 3) := by decide +kernel
theorem dX10_run_8 : decode cX10_run 8 = .ok (.astore_n 3, 1) := by decide +kernel
theorem dX10_run_9 : decode cX10_run 9 = .ok (.aload_n 3, 1) := by decide +kernel
theorem dX10_run_10 : decode cX10_run 10 = .ok (.ifnonnull 5, 3) := by decide +kernel
theorem dX10_run_15 : decode cX10_run 15 = .ok (.iload_n 2, 1) := by decide +kernel
theorem dX10_run_16 : decode cX10_run 16 = .ok (.ifCond .eq 20, 3) := by decide +kernel
theorem dX10_run_36 : decode cX10_run 36 = .ok (.aload_n 0, 1) := by decide +kernel
theorem dX10_run_37 : decode cX10_run 37 = .ok (.getfield 50, 3) := by decide +kernel
theorem dX10_run_40 : decode cX10_run 40 = .ok (.aload_n 3, 1) := by decide +kernel
theorem dX10_run_41 : decode cX10_run 41 = .ok (.getfield 126, 3) := by decide +kernel
theorem dX10_run_44 : decode cX10_run 44 = .ok (.invokevirtual 142, 3) := by decide +kernel
theorem dX10_run_47 : decode cX10_run 47 = .ok (.ifCond .ne 6, 3) := by decide +kernel
theorem dX10_run_50 : decode cX10_run 50 = .ok (.bipush (-4), 2) := by decide +kernel
theorem dX10_run_52 : decode cX10_run 52 = .ok (.ireturn, 1) := by decide +kernel
theorem dX10_run_19 : decode cX10_run 19 = .ok (.aload_n 0, 1) := by decide +kernel
theorem dX10_run_20 : decode cX10_run 20 = .ok (.getfield 50, 3) := by decide +kernel
theorem dX10_run_23 : decode cX10_run 23 = .ok (.aload_n 3, 1) := by decide +kernel
theorem dX10_run_24 : decode cX10_run 24 = .ok (.getfield 126, 3) := by decide +kernel
theorem dX10_run_27 : decode cX10_run 27 = .ok (.invokevirtual 138, 3) := by decide +kernel
theorem dX10_run_30 : decode cX10_run 30 = .ok (.ifCond .ne 23, 3) := by decide +kernel
theorem dX10_run_33 : decode cX10_run 33 = .ok (.goto 17, 3) := by decide +kernel
theorem dX10_run_13 : decode cX10_run 13 = .ok (.iconst (-1), 1) := by decide +kernel
theorem dX10_run_14 : decode cX10_run 14 = .ok (.ireturn, 1) := by decide +kernel
theorem dX10_run_53 : decode cX10_run 53 = .ok (.aload_n 0, 1) := by decide +kernel
theorem dX10_run_54 : decode cX10_run 54 = .ok (.invokevirtual 145, 3) := by decide +kernel
theorem dX10_run_57 : decode cX10_run 57 = .ok (.ifCond .ne 5, 3) := by decide +kernel
theorem dX10_run_62 : decode cX10_run 62 = .ok (.aload_n 0, 1) := by decide +kernel
theorem dX10_run_63 : decode cX10_run 63 = .ok (.dup, 1) := by decide +kernel
theorem dX10_run_64 : decode cX10_run 64 = .ok (.getfield 149, 3) := by decide +kernel
theorem dX10_run_67 : decode cX10_run 67 = .ok (.iconst 1, 1) := by decide +kernel
theorem dX10_run_68 : decode cX10_run 68 = .ok (.iadd, 1) := by decide +kernel
theorem dX10_run_69 : decode cX10_run 69 = .ok (.putfield 149, 3) := by decide +kernel
theorem dX10_run_72 : decode cX10_run 72 = .ok (.aload_n 0, 1) := by decide +kernel
theorem dX10_run_73 : decode cX10_run 73 = .ok (.getfield 35, 3) := by decide +kernel
theorem dX10_run_76 : decode cX10_run 76 = .ok (.invokevirtual 152, 3) := by decide +kernel
theorem dX10_run_79 : decode cX10_run 79 = .ok (.aload_n 0, 1) := by decide +kernel
theorem dX10_run_80 : decode cX10_run 80 = .ok (.aload_n 3, 1) := by decide +kernel
theorem dX10_run_81 : decode cX10_run 81 = .ok (.getfield 126, 3) := by decide +kernel
theorem dX10_run_84 : decode cX10_run 84 = .ok (.invokevirtual 155, 3) := by decide +kernel
theorem dX10_run_87 : decode cX10_run 87 = .ok (.aload_n 0, 1) := by decide +kernel
theorem dX10_run_88 : decode cX10_run 88 = .ok (.getfield 35, 3) := by decide +kernel
theorem dX10_run_91 : decode cX10_run 91 = .ok (.iload_n 1, 1) := by decide +kernel
theorem dX10_run_92 : decode cX10_run 92 = .ok (.iconst 0, 1) := by decide +kernel
theorem dX10_run_93 : decode cX10_run 93 = .ok (.invokevirtual 159, 3) := by decide +kernel
theorem dX10_run_96 : decode cX10_run 96 = .ok (.lstore 4, 2) := by decide +kernel
theorem dX10_run_98 : decode cX10_run 98 = .ok (.aload_n 0, 1) := by decide +kernel
theorem dX10_run_99 : decode cX10_run 99 = .ok (.getfield 35, 3) := by decide +kernel
theorem dX10_run_102 : decode cX10_run 102 = .ok (.getfield 163, 3) := by decide +kernel
theorem dX10_run_105 : decode cX10_run 105 = .ok (.ifCond .eq 14, 3) := by decide +kernel
theorem dX10_run_119 : decode cX10_run 119 = .ok (.aload_n 0, 1) := by decide +kernel
theorem dX10_run_120 : decode cX10_run 120 = .ok (.aload_n 3, 1) := by decide +kernel
theorem dX10_run_121 : decode cX10_run 121 = .ok (.getfield 126, 3) := by decide +kernel
theorem dX10_run_124 : decode cX10_run 124 = .ok (.getfield 131, 3) := by decide +kernel
theorem dX10_run_127 : decode cX10_run 127 = .ok (.aload_n 0, 1) := by decide +kernel
theorem dX10_run_128 : decode cX10_run 128 = .ok (.getfield 50, 3) := by decide +kernel
theorem dX10_run_131 : decode cX10_run 131 = .ok (.getfield 131, 3) := by decide +kernel
theorem dX10_run_134 : decode cX10_run 134 = .ok (.lload 4, 2) := by decide +kernel
theorem dX10_run_136 : decode cX10_run 136 = .ok (.invokestatic 166, 3) := by decide +kernel
theorem dX10_run_139 : decode cX10_run 139 = .ok (.putfield 170, 3) := by decide +kernel
theorem dX10_run_142 : decode cX10_run 142 = .ok (.iconst 1, 1) := by decide +kernel
theorem dX10_run_143 : decode cX10_run 143 = .ok (.ireturn, 1) := by decide +kernel
theorem dX10_run_108 : decode cX10_run 108 = .ok (.bipush (-10), 2) := by decide +kernel
theorem dX10_run_110 : decode cX10_run 110 = .ok (.aload_n 0, 1) := by decide +kernel
theorem dX10_run_111 : decode cX10_run 111 = .ok (.getfield 35, 3) := by decide +kernel
theorem dX10_run_114 : decode cX10_run 114 = .ok (.getfield 163, 3) := by decide +kernel
theorem dX10_run_117 : decode cX10_run 117 = .ok (.isub, 1) := by decide +kernel
theorem dX10_run_118 : decode cX10_run 118 = .ok (.ireturn, 1) := by decide +kernel
theorem dX10_run_60 : decode cX10_run 60 = .ok (.iconst (-1), 1) := by decide +kernel
theorem dX10_run_61 : decode cX10_run 61 = .ok (.ireturn, 1) := by decide +kernel
theorem hy_X10_run : yX10_run.cls ≠ "java/lang/invoke/MethodHandle" ∧ yX10_run.cls ≠ "java/lang/invoke/VarHandle" ∧ (parseMethodDescriptor yX10_run.desc).map (fun d => d.parameters.length) = some 2 := ⟨by decide, by decide, by decide +kernel⟩
def f_X10_run_b53 (l0 : Nat) (l1 : Int32) (l3 : Nat) (S : wS) : Option ((Int32) × wS) :=
  o_ck (s_K S l0 = 9) (o_call (f_X10_givenRowsAreThere l0 S) fun x1 S1 =>
  if x1 = 0 then (
  some ((-1), S1)) else (
  o_gI 9 14 l0 S1 fun x2 =>
  o_pI 9 14 l0 (x2 + (1 : Int32)) S1 fun S2 =>
  o_gR 9 13 l0 S2 fun x3 =>
  o_cs x3 (none) (fun a1 =>
  o_ck (s_K S2 a1 = 7) (o_call (f_X7_forget a1 S2) fun _ S3 =>
  o_gR 1 0 l3 S3 fun x4 =>
  o_cs x4 (none) (fun a2 =>
  o_ck (s_K S3 l0 = 9) (o_call (f_X10_handOverNumbers l0 a2 S3) fun _ S4 =>
  o_gR 9 13 l0 S4 fun x5 =>
  o_cs x5 (none) (fun a3 =>
  o_ck (s_K S4 a3 = 7) (o_call (f_X7_perform 42 a3 l1 0 S4) fun x6 S5 =>
  o_gR 9 13 l0 S5 fun x7 =>
  o_cs x7 (none) (fun a4 =>
  o_gI 7 11 a4 S5 fun x8 =>
  if x8 = 0 then (
  o_gR 1 0 l3 S5 fun x9 =>
  o_cs x9 (none) (fun a5 =>
  o_gI 8 12 a5 S5 fun x10 =>
  o_gR 9 15 l0 S5 fun x11 =>
  o_cs x11 (none) (fun a6 =>
  o_gI 8 12 a6 S5 fun x12 =>
  o_cP (f_X2_widened x10 x12 x6) fun x13 =>
  o_pL 9 1 l0 x13 S5 fun S6 =>
  some (1, S6)))) else (
  o_gR 9 13 l0 S5 fun x14 =>
  o_cs x14 (none) (fun a7 =>
  o_gI 7 11 a7 S5 fun x15 =>
  some ((-10 : Int32) - x15, S5))))))))))))
set_option maxHeartbeats 4000000 in
set_option maxRecDepth 100000 in
theorem w_X10_run_b53 {l : Launch} {D : va_G} {Y : Nat → ClassId} {aR : Nat → Nat} {A : Nat → Prop} {p : Program} {e : Env} {s : State} {m : MethodId} {args : Array Value} {below : List Frame} {meth : Method} {c : Code} {S0 : wS} : ∀ (l0 : Nat) (l1 : Int32) (l3 : Nat) (S S' : wS) (r : Int32) (H : Heap) (locs : List Loc) (ls : Array Slot), jq_X D Y aR A p s m args meth c cX10_run RX10 "run" 6 (some .int) → wJ D Y A s S0 S H locs → f_X10_run_b53 l0 l1 l3 S = some (r, S') → lv_has ls 6 [(0, .ref l0), (1, .int l1), (3, .ref l3)] → W p l e { frames := 125, cells := s_lm S0 - s_nx S0, slots := s_sm S0 - s_sl S0, locals := 5223 } s m args below meth c H locs (s_nx S - s_nx S0) (s_sl S - s_sl S0) (jq_Z below A (fun v k n H => v = (some (.int r)) ∧ k = s_nx S' - s_nx S0 ∧ n = s_sl S' - s_sl S0 ∧ wG S0 S' ∧ wH D Y A S' H) s) (F0 m 53 ls []) := by
  intro l0 l1 l3 S S' r H locs ls hX hJ hf hl
  unfold f_X10_run_b53 at hf
  have hx := hX.1
  have hb := hX.2.1
  have hm := hX.2.2.1
  have ho := hX.2.2.2.1
  have ht := hX.2.2.2.2.1
  have hn := hX.2.2.2.2.2.1.2.1
  refine lv_aload_n hx hb dX10_run_53 rfl (lv_at hl 0 rfl) ?_
  replace hf := o_ck_e hf
  obtain ⟨hk1, hf⟩ := hf
  replace hf := o_call_e hf
  obtain ⟨x1, S1, hq1, hf⟩ := hf
  refine jq_doS hX hJ (jq_okV (As := []) (rest := []) hx hb hm ho ht (wJ.recv hX hJ (by rw [hk1]; decide) (wE_X10 hk1) rfl) qw475 qw477 qs35 qw478 qw1 hy_X10_givenRowsAreThere rfl hl.1 (Nat.le_of_ble_eq_true rfl) dX10_run_54) (c_X10_givenRowsAreThere hq1) (Nat.le_of_ble_eq_true rfl) (Nat.le_of_ble_eq_true rfl) (fun H locs hJ' => ?_)
  clear hJ
  have hJ := hJ'
  clear hJ'
  refine lv_if_ne (tgt := 62) hx hb dX10_run_57 (by decide) (fun c1 => ?_) (fun c1 => ?_)
  · replace hf := o_f hf c1
    refine lv_aload_n hx hb dX10_run_62 rfl (lv_at hl 0 rfl) ?_
    refine lv_dup hx hb dX10_run_63 rfl ?_
    replace hf := o_gI_e hf
    obtain ⟨hk2, x2, hx2, hf⟩ := hf
    refine gf_X10_runs hX hJ hk2 hx2 qw133 dX10_run_64 ?_
    refine lv_iconst (v := 1) hx hb dX10_run_67 (by decide) ?_
    refine lv_iadd hx hb dX10_run_68 ?_
    replace hf := o_pI_e hf
    obtain ⟨hk18, S2, hS2, hf⟩ := hf
    refine pf_X10_runs hX hJ hk18 hS2 qw133 dX10_run_69 (fun H locs hJ' => ?_)
    clear hJ
    have hJ := hJ'
    clear hJ'
    refine lv_aload_n hx hb dX10_run_72 rfl (lv_at hl 0 rfl) ?_
    replace hf := o_gR_e hf
    obtain ⟨hk3, x3, hx3, hf⟩ := hf
    refine gf_X10_runner hX hJ hk3 hx3 qw129 dX10_run_73 ?_
    replace hf := o_cs_e hf
    rcases hf with ⟨hr1, hf⟩ | ⟨a1, hr1, hf⟩
    · subst hr1
      cases hf
    · subst hr1
      replace hf := o_ck_e hf
      obtain ⟨hk4, hf⟩ := hf
      replace hf := o_call_e hf
      obtain ⟨_, S3, hq2, hf⟩ := hf
      refine jq_doS hX hJ (jq_okVN (As := []) (rest := []) hx hb hm ho ht hn (wJ.recv hX hJ (by rw [hk4]; decide) (wE_X7 hk4) rfl) qn480 qw482 qs36 qw483 qw5 hy_X7_forget rfl hl.1 (Nat.le_of_ble_eq_true rfl) dX10_run_76) (c_X7_forget hq2) (Nat.le_of_ble_eq_true rfl) (Nat.le_of_ble_eq_true rfl) (fun H locs hJ' => ?_)
      clear hJ
      have hJ := hJ'
      clear hJ'
      refine lv_aload_n hx hb dX10_run_79 rfl (lv_at hl 0 rfl) ?_
      refine lv_aload_n hx hb dX10_run_80 rfl (lv_at hl 2 rfl) ?_
      replace hf := o_gR_e hf
      obtain ⟨hk5, x4, hx4, hf⟩ := hf
      refine gn_X0_type hX hJ hk5 hx4 qn287 dX10_run_81 ?_
      replace hf := o_cs_e hf
      rcases hf with ⟨hr2, hf⟩ | ⟨a2, hr2, hf⟩
      · subst hr2
        cases hf
      · subst hr2
        replace hf := o_ck_e hf
        obtain ⟨hk6, hf⟩ := hf
        replace hf := o_call_e hf
        obtain ⟨_, S4, hq3, hf⟩ := hf
        refine jq_doS hX hJ (jq_okV (As := [.ref a2]) (rest := []) hx hb hm ho ht (wJ.recv hX hJ (by rw [hk6]; decide) (wE_X10 hk6) rfl) qw484 qw486 qs37 qw487 qw1 hy_X10_handOverNumbers rfl hl.1 (Nat.le_of_ble_eq_true rfl) dX10_run_84) (c_X10_handOverNumbers hq3) (Nat.le_of_ble_eq_true rfl) (Nat.le_of_ble_eq_true rfl) (fun H locs hJ' => ?_)
        clear hJ
        have hJ := hJ'
        clear hJ'
        refine lv_aload_n hx hb dX10_run_87 rfl (lv_at hl 0 rfl) ?_
        replace hf := o_gR_e hf
        obtain ⟨hk7, x5, hx5, hf⟩ := hf
        refine gf_X10_runner hX hJ hk7 hx5 qw129 dX10_run_88 ?_
        refine lv_iload_n hx hb dX10_run_91 rfl (lv_at hl 1 rfl) ?_
        refine lv_iconst (v := 0) hx hb dX10_run_92 (by decide) ?_
        replace hf := o_cs_e hf
        rcases hf with ⟨hr3, hf⟩ | ⟨a3, hr3, hf⟩
        · subst hr3
          cases hf
        · subst hr3
          replace hf := o_ck_e hf
          obtain ⟨hk8, hf⟩ := hf
          replace hf := o_call_e hf
          obtain ⟨x6, S5, hq4, hf⟩ := hf
          refine jq_doS hX hJ (jq_okVN (As := [.int l1, .int 0]) (rest := []) hx hb hm ho ht hn (wJ.recv hX hJ (by rw [hk8]; decide) (wE_X7 hk8) rfl) qn531 qw533 qs45 qw534 qw5 hy_X7_perform rfl hl.1 (Nat.le_of_ble_eq_true rfl) dX10_run_93) (c_X7_perform 42 _ _ _ _ _ _ hq4) (Nat.le_of_ble_eq_true rfl) (Nat.le_of_ble_eq_true rfl) (fun H locs hJ' => ?_)
          clear hJ
          have hJ := hJ'
          clear hJ'
          refine lv_lstore (lv' := [(4, .long x6), (0, .ref l0), (1, .int l1), (3, .ref l3)]) hx hb dX10_run_96 hl (by decide) rfl (fun ls hl' => ?_)
          clear hl
          have hl := hl'
          clear hl'
          refine lv_aload_n hx hb dX10_run_98 rfl (lv_at hl 1 rfl) ?_
          replace hf := o_gR_e hf
          obtain ⟨hk9, x7, hx7, hf⟩ := hf
          refine gf_X10_runner hX hJ hk9 hx7 qw129 dX10_run_99 ?_
          replace hf := o_cs_e hf
          rcases hf with ⟨hr4, hf⟩ | ⟨a4, hr4, hf⟩
          · subst hr4
            cases hf
          · subst hr4
            replace hf := o_gI_e hf
            obtain ⟨hk10, x8, hx8, hf⟩ := hf
            refine gn_X7_failure hX hJ hk10 hx8 qn86 dX10_run_102 ?_
            refine lv_if_eq (tgt := 119) hx hb dX10_run_105 (by decide) (fun c2 => ?_) (fun c2 => ?_)
            · replace hf := o_t hf c2
              refine lv_aload_n hx hb dX10_run_119 rfl (lv_at hl 1 rfl) ?_
              refine lv_aload_n hx hb dX10_run_120 rfl (lv_at hl 3 rfl) ?_
              replace hf := o_gR_e hf
              obtain ⟨hk11, x9, hx9, hf⟩ := hf
              refine gn_X0_type hX hJ hk11 hx9 qn287 dX10_run_121 ?_
              replace hf := o_cs_e hf
              rcases hf with ⟨hr5, hf⟩ | ⟨a5, hr5, hf⟩
              · subst hr5
                cases hf
              · subst hr5
                replace hf := o_gI_e hf
                obtain ⟨hk12, x10, hx10, hf⟩ := hf
                refine gn_X9_result hX hJ hk12 hx10 qn110 dX10_run_124 ?_
                refine lv_aload_n hx hb dX10_run_127 rfl (lv_at hl 1 rfl) ?_
                replace hf := o_gR_e hf
                obtain ⟨hk13, x11, hx11, hf⟩ := hf
                refine gf_X10_atHand hX hJ hk13 hx11 qw131 dX10_run_128 ?_
                replace hf := o_cs_e hf
                rcases hf with ⟨hr6, hf⟩ | ⟨a6, hr6, hf⟩
                · subst hr6
                  cases hf
                · subst hr6
                  replace hf := o_gI_e hf
                  obtain ⟨hk14, x12, hx12, hf⟩ := hf
                  refine gn_X9_result hX hJ hk14 hx12 qn110 dX10_run_131 ?_
                  refine lv_lload hx hb dX10_run_134 (lv_at hl 0 rfl) ?_
                  replace hf := o_cP_e hf
                  obtain ⟨x13, hq5, hf⟩ := hf
                  refine jq_doPS hX hJ (jq_okSN (As := [.int x10, .int x12, .long x6]) (rest := [.ref l0]) hx hb hm ho ht hn qn488 qw489 qw490 qw8 hy_X2_widened rfl hl.1 (Nat.le_of_ble_eq_true rfl) dX10_run_136) (c_X2_widened hq5) (Nat.le_of_ble_eq_true rfl) (Nat.le_of_ble_eq_true rfl) (fun locs hJ' => ?_)
                  clear hJ
                  have hJ := hJ'
                  clear hJ'
                  replace hf := o_pL_e hf
                  obtain ⟨hk15, S6, hS6, hf⟩ := hf
                  refine pf_X10_result hX hJ hk15 hS6 qw132 dX10_run_139 (fun H locs hJ' => ?_)
                  clear hJ
                  have hJ := hJ'
                  clear hJ'
                  refine lv_iconst (v := 1) hx hb dX10_run_142 (by decide) ?_
                  obtain ⟨rfl, rfl⟩ := Prod.mk.inj (Option.some.inj hf)
                  exact jq_iret hX hJ.2.2 dX10_run_143 ⟨rfl, rfl, rfl, hJ.1, hJ.2.1⟩
            · replace hf := o_f hf c2
              refine lv_bipush (v := (-10)) hx hb dX10_run_108 (by decide) ?_
              refine lv_aload_n hx hb dX10_run_110 rfl (lv_at hl 1 rfl) ?_
              replace hf := o_gR_e hf
              obtain ⟨hk16, x14, hx14, hf⟩ := hf
              refine gf_X10_runner hX hJ hk16 hx14 qw129 dX10_run_111 ?_
              replace hf := o_cs_e hf
              rcases hf with ⟨hr7, hf⟩ | ⟨a7, hr7, hf⟩
              · subst hr7
                cases hf
              · subst hr7
                replace hf := o_gI_e hf
                obtain ⟨hk17, x15, hx15, hf⟩ := hf
                refine gn_X7_failure hX hJ hk17 hx15 qn86 dX10_run_114 ?_
                refine lv_isub hx hb dX10_run_117 ?_
                obtain ⟨rfl, rfl⟩ := Prod.mk.inj (Option.some.inj hf)
                exact jq_iret hX hJ.2.2 dX10_run_118 ⟨rfl, rfl, rfl, hJ.1, hJ.2.1⟩
  · replace hf := o_t hf c1
    refine lv_iconst (v := (-1)) hx hb dX10_run_60 (by decide) ?_
    obtain ⟨rfl, rfl⟩ := Prod.mk.inj (Option.some.inj hf)
    exact jq_iret hX hJ.2.2 dX10_run_61 ⟨rfl, rfl, rfl, hJ.1, hJ.2.1⟩
def f_X10_run (o : Nat) (p1 : Int32) (p2 : Int32) (S : wS) : Option ((Int32) × wS) :=
  o_gR 9 11 o S fun x1 =>
  o_cs x1 (none) (fun a1 =>
  o_ck (s_K S a1 = 2) (o_call (f_X1_at a1 p1 S) fun x2 S1 =>
  o_cs x2 (some ((-1), S1)) (fun a2 =>
  if p2 = 0 then (
  o_gR 9 15 o S1 fun x3 =>
  o_gR 1 0 a2 S1 fun x4 =>
  o_cs x4 (none) (fun a3 =>
  o_cs x3 (none) (fun a4 =>
  o_ck (s_K S1 a4 = 8) (o_call (f_X9_goesTo a4 a3 S1) fun x5 S2 =>
  if x5 = 0 then (
  some ((-4), S2)) else (
  f_X10_run_b53 o p1 a2 S2))))) else (
  o_gR 9 15 o S1 fun x6 =>
  o_gR 1 0 a2 S1 fun x7 =>
  o_cs x7 (none) (fun a5 =>
  o_cs x6 (none) (fun a6 =>
  o_ck (s_K S1 a6 = 8) (o_call (f_X9_isSame a6 a5 S1) fun x8 S3 =>
  if x8 = 0 then (
  some ((-4), S3)) else (
  f_X10_run_b53 o p1 a2 S3))))))))
set_option maxHeartbeats 4000000 in
set_option maxRecDepth 100000 in
theorem c_X10_run {l : Launch} {D : va_G} {Y : Nat → ClassId} {aR : Nat → Nat} {A : Nat → Prop} {o : Nat} {p1 : Int32} {p2 : Int32} {S S' : wS} {r : Int32} (hf : f_X10_run o p1 p2 S = some (r, S')) : jq_S l D Y aR A yX10_run cX10_run 6 (some .int) 125 5223 [.ref o, .int p1, .int p2] S (some (.int r)) S' := by
  unfold f_X10_run at hf
  refine jq_enterS (by decide) (Nat.le_of_ble_eq_true rfl) fun p e s m args below meth c ls H locs hX hJ hl => ?_
  have hl : lv_has ls 6 [(0, .ref o), (1, .int p1), (2, .int p2)] := hl
  have hx := hX.1
  have hb := hX.2.1
  have hm := hX.2.2.1
  have ho := hX.2.2.2.1
  have ht := hX.2.2.2.2.1
  have hn := hX.2.2.2.2.2.1.2.1
  refine lv_aload_n hx hb dX10_run_0 rfl (lv_at hl 0 rfl) ?_
  replace hf := o_gR_e hf
  obtain ⟨hk1, x1, hx1, hf⟩ := hf
  refine gf_X10_handles hX hJ hk1 hx1 qw127 dX10_run_1 ?_
  refine lv_iload_n hx hb dX10_run_4 rfl (lv_at hl 1 rfl) ?_
  replace hf := o_cs_e hf
  rcases hf with ⟨hr1, hf⟩ | ⟨a1, hr1, hf⟩
  · subst hr1
    cases hf
  · subst hr1
    replace hf := o_ck_e hf
    obtain ⟨hk2, hf⟩ := hf
    replace hf := o_call_e hf
    obtain ⟨x2, S1, hq1, hf⟩ := hf
    refine jq_doS hX hJ (jq_okVN (As := [.int p1]) (rest := []) hx hb hm ho ht hn (wJ.recv hX hJ (by rw [hk2]; decide) (wE_X1 hk2) rfl) qn459 qw323 qs13 qw324 qw3 hy_X1_at rfl hl.1 (Nat.le_of_ble_eq_true rfl) dX10_run_5) (c_X1_at hq1) (Nat.le_of_ble_eq_true rfl) (Nat.le_of_ble_eq_true rfl) (fun H locs hJ' => ?_)
    clear hJ
    have hJ := hJ'
    clear hJ'
    replace hf := o_cs_e hf
    rcases hf with ⟨hr2, hf⟩ | ⟨a2, hr2, hf⟩
    · subst hr2
      refine lv_astore_nN (lv' := [(3, .null), (0, .ref o), (1, .int p1), (2, .int p2)]) hx hb dX10_run_8 rfl hl (by decide) rfl (fun ls hl' => ?_)
      clear hl
      have hl := hl'
      clear hl'
      refine lv_aload_nN hx hb dX10_run_9 rfl (lv_at hl 0 rfl) ?_
      refine lv_ifnonnullN hx hb dX10_run_10 ?_
      refine lv_iconst (v := (-1)) hx hb dX10_run_13 (by decide) ?_
      obtain ⟨rfl, rfl⟩ := Prod.mk.inj (Option.some.inj hf)
      exact jq_iret hX hJ.2.2 dX10_run_14 ⟨rfl, rfl, rfl, hJ.1, hJ.2.1⟩
    · subst hr2
      refine lv_astore_n (lv' := [(3, .ref a2), (0, .ref o), (1, .int p1), (2, .int p2)]) hx hb dX10_run_8 rfl hl (by decide) rfl (fun ls hl' => ?_)
      clear hl
      have hl := hl'
      clear hl'
      refine lv_aload_n hx hb dX10_run_9 rfl (lv_at hl 0 rfl) ?_
      refine lv_ifnonnull (tgt := 15) hx hb dX10_run_10 (by decide) ?_
      refine lv_iload_n hx hb dX10_run_15 rfl (lv_at hl 3 rfl) ?_
      refine lv_if_eq (tgt := 36) hx hb dX10_run_16 (by decide) (fun c1 => ?_) (fun c1 => ?_)
      · replace hf := o_t hf c1
        refine lv_aload_n hx hb dX10_run_36 rfl (lv_at hl 1 rfl) ?_
        replace hf := o_gR_e hf
        obtain ⟨hk3, x3, hx3, hf⟩ := hf
        refine gf_X10_atHand hX hJ hk3 hx3 qw131 dX10_run_37 ?_
        refine lv_aload_n hx hb dX10_run_40 rfl (lv_at hl 0 rfl) ?_
        replace hf := o_gR_e hf
        obtain ⟨hk4, x4, hx4, hf⟩ := hf
        refine gn_X0_type hX hJ hk4 hx4 qn287 dX10_run_41 ?_
        replace hf := o_cs_e hf
        rcases hf with ⟨hr3, hf⟩ | ⟨a3, hr3, hf⟩
        · subst hr3
          cases hf
        · subst hr3
          replace hf := o_cs_e hf
          rcases hf with ⟨hr4, hf⟩ | ⟨a4, hr4, hf⟩
          · subst hr4
            cases hf
          · subst hr4
            replace hf := o_ck_e hf
            obtain ⟨hk5, hf⟩ := hf
            replace hf := o_call_e hf
            obtain ⟨x5, S2, hq2, hf⟩ := hf
            refine jq_doS hX hJ (jq_okVN (As := [.ref a3]) (rest := []) hx hb hm ho ht hn (wJ.recv hX hJ (by rw [hk5]; decide) (wE_X9 hk5) rfl) qn466 qw395 qs26 qw396 qw6 hy_X9_goesTo rfl hl.1 (Nat.le_of_ble_eq_true rfl) dX10_run_44) (c_X9_goesTo hq2) (Nat.le_of_ble_eq_true rfl) (Nat.le_of_ble_eq_true rfl) (fun H locs hJ' => ?_)
            clear hJ
            have hJ := hJ'
            clear hJ'
            refine lv_if_ne (tgt := 53) hx hb dX10_run_47 (by decide) (fun c2 => ?_) (fun c2 => ?_)
            · replace hf := o_f hf c2
              replace hl := lv_sub hl (l' := [(0, .ref o), (1, .int p1), (3, .ref a2)]) [1, 2, 0] rfl
              exact w_X10_run_b53 o p1 a2 S2 S' r H locs ls hX hJ hf hl
            · replace hf := o_t hf c2
              refine lv_bipush (v := (-4)) hx hb dX10_run_50 (by decide) ?_
              obtain ⟨rfl, rfl⟩ := Prod.mk.inj (Option.some.inj hf)
              exact jq_iret hX hJ.2.2 dX10_run_52 ⟨rfl, rfl, rfl, hJ.1, hJ.2.1⟩
      · replace hf := o_f hf c1
        refine lv_aload_n hx hb dX10_run_19 rfl (lv_at hl 1 rfl) ?_
        replace hf := o_gR_e hf
        obtain ⟨hk6, x6, hx6, hf⟩ := hf
        refine gf_X10_atHand hX hJ hk6 hx6 qw131 dX10_run_20 ?_
        refine lv_aload_n hx hb dX10_run_23 rfl (lv_at hl 0 rfl) ?_
        replace hf := o_gR_e hf
        obtain ⟨hk7, x7, hx7, hf⟩ := hf
        refine gn_X0_type hX hJ hk7 hx7 qn287 dX10_run_24 ?_
        replace hf := o_cs_e hf
        rcases hf with ⟨hr5, hf⟩ | ⟨a5, hr5, hf⟩
        · subst hr5
          cases hf
        · subst hr5
          replace hf := o_cs_e hf
          rcases hf with ⟨hr6, hf⟩ | ⟨a6, hr6, hf⟩
          · subst hr6
            cases hf
          · subst hr6
            replace hf := o_ck_e hf
            obtain ⟨hk8, hf⟩ := hf
            replace hf := o_call_e hf
            obtain ⟨x8, S3, hq3, hf⟩ := hf
            refine jq_doS hX hJ (jq_okVN (As := [.ref a5]) (rest := []) hx hb hm ho ht hn (wJ.recv hX hJ (by rw [hk8]; decide) (wE_X9 hk8) rfl) qn465 qw428 qs30 qw429 qw6 hy_X9_isSame rfl hl.1 (Nat.le_of_ble_eq_true rfl) dX10_run_27) (c_X9_isSame hq3) (Nat.le_of_ble_eq_true rfl) (Nat.le_of_ble_eq_true rfl) (fun H locs hJ' => ?_)
            clear hJ
            have hJ := hJ'
            clear hJ'
            refine lv_if_ne (tgt := 53) hx hb dX10_run_30 (by decide) (fun c3 => ?_) (fun c3 => ?_)
            · replace hf := o_f hf c3
              replace hl := lv_sub hl (l' := [(0, .ref o), (1, .int p1), (3, .ref a2)]) [1, 2, 0] rfl
              exact w_X10_run_b53 o p1 a2 S3 S' r H locs ls hX hJ hf hl
            · replace hf := o_t hf c3
              refine lv_goto (tgt := 50) hx hb dX10_run_33 (by decide) ?_
              refine lv_bipush (v := (-4)) hx hb dX10_run_50 (by decide) ?_
              obtain ⟨rfl, rfl⟩ := Prod.mk.inj (Option.some.inj hf)
              exact jq_iret hX hJ.2.2 dX10_run_52 ⟨rfl, rfl, rfl, hJ.1, hJ.2.1⟩
theorem dX10_value_0 : decode cX10_value 0 = .ok (.aload_n 0, 1) := by decide +kernel
theorem dX10_value_1 : decode cX10_value 1 = .ok (.getfield 170, 3) := by decide +kernel
theorem dX10_value_4 : decode cX10_value 4 = .ok (.lreturn, 1) := by decide +kernel
theorem hy_X10_value : yX10_value.cls ≠ "java/lang/invoke/MethodHandle" ∧ yX10_value.cls ≠ "java/lang/invoke/VarHandle" ∧ (parseMethodDescriptor yX10_value.desc).map (fun d => d.parameters.length) = some 0 := ⟨by decide, by decide, by decide +kernel⟩
def f_X10_value (o : Nat) (S : wS) : Option ((Int64) × wS) :=
  o_gL 9 1 o S fun x1 =>
  some (x1, S)
set_option maxHeartbeats 4000000 in
set_option maxRecDepth 100000 in
theorem c_X10_value {l : Launch} {D : va_G} {Y : Nat → ClassId} {aR : Nat → Nat} {A : Nat → Prop} {o : Nat} {S S' : wS} {r : Int64} (hf : f_X10_value o S = some (r, S')) : jq_S l D Y aR A yX10_value cX10_value 1 (some .long) 0 0 [.ref o] S (some (.long r)) S' := by
  unfold f_X10_value at hf
  refine jq_enterS (by decide) (Nat.le_of_ble_eq_true rfl) fun p e s m args below meth c ls H locs hX hJ hl => ?_
  have hl : lv_has ls 1 [(0, .ref o)] := hl
  have hx := hX.1
  have hb := hX.2.1
  have hm := hX.2.2.1
  have ho := hX.2.2.2.1
  have ht := hX.2.2.2.2.1
  have hn := hX.2.2.2.2.2.1.2.1
  refine lv_aload_n hx hb dX10_value_0 rfl (lv_at hl 0 rfl) ?_
  replace hf := o_gL_e hf
  obtain ⟨hk1, x1, hx1, hf⟩ := hf
  refine gf_X10_result hX hJ hk1 hx1 qw132 dX10_value_1 ?_
  obtain ⟨rfl, rfl⟩ := Prod.mk.inj (Option.some.inj hf)
  exact jq_lret hX hJ.2.2 dX10_value_4 ⟨rfl, rfl, rfl, hJ.1, hJ.2.1⟩
theorem dX10_last_0 : decode cX10_last 0 = .ok (.iload_n 1, 1) := by decide +kernel
theorem dX10_last_1 : decode cX10_last 1 = .ok (.tableswitch 51 0 2 #[27, 35, 43], 27) := by decide +kernel
theorem dX10_last_28 : decode cX10_last 28 = .ok (.aload_n 0, 1) := by decide +kernel
theorem dX10_last_29 : decode cX10_last 29 = .ok (.getfield 35, 3) := by decide +kernel
theorem dX10_last_32 : decode cX10_last 32 = .ok (.getfield 173, 3) := by decide +kernel
theorem dX10_last_35 : decode cX10_last 35 = .ok (.ireturn, 1) := by decide +kernel
theorem dX10_last_36 : decode cX10_last 36 = .ok (.aload_n 0, 1) := by decide +kernel
theorem dX10_last_37 : decode cX10_last 37 = .ok (.getfield 35, 3) := by decide +kernel
theorem dX10_last_40 : decode cX10_last 40 = .ok (.getfield 176, 3) := by decide +kernel
theorem dX10_last_43 : decode cX10_last 43 = .ok (.ireturn, 1) := by decide +kernel
theorem dX10_last_44 : decode cX10_last 44 = .ok (.aload_n 0, 1) := by decide +kernel
theorem dX10_last_45 : decode cX10_last 45 = .ok (.getfield 35, 3) := by decide +kernel
theorem dX10_last_48 : decode cX10_last 48 = .ok (.getfield 179, 3) := by decide +kernel
theorem dX10_last_51 : decode cX10_last 51 = .ok (.ireturn, 1) := by decide +kernel
theorem dX10_last_52 : decode cX10_last 52 = .ok (.iconst (-1), 1) := by decide +kernel
theorem dX10_last_53 : decode cX10_last 53 = .ok (.ireturn, 1) := by decide +kernel
theorem hy_X10_last : yX10_last.cls ≠ "java/lang/invoke/MethodHandle" ∧ yX10_last.cls ≠ "java/lang/invoke/VarHandle" ∧ (parseMethodDescriptor yX10_last.desc).map (fun d => d.parameters.length) = some 1 := ⟨by decide, by decide, by decide +kernel⟩
def f_X10_last (o : Nat) (p1 : Int32) (S : wS) : Option ((Int32) × wS) :=
  if p1 = 0 then (
  o_gR 9 13 o S fun x1 =>
  o_cs x1 (none) (fun a1 =>
  o_gI 7 8 a1 S fun x2 =>
  some (x2, S))) else (
  if p1 = 1 then (
  o_gR 9 13 o S fun x3 =>
  o_cs x3 (none) (fun a2 =>
  o_gI 7 9 a2 S fun x4 =>
  some (x4, S))) else (
  if p1 = 2 then (
  o_gR 9 13 o S fun x5 =>
  o_cs x5 (none) (fun a3 =>
  o_gI 7 10 a3 S fun x6 =>
  some (x6, S))) else (
  some ((-1), S))))
set_option maxHeartbeats 4000000 in
set_option maxRecDepth 100000 in
theorem c_X10_last {l : Launch} {D : va_G} {Y : Nat → ClassId} {aR : Nat → Nat} {A : Nat → Prop} {o : Nat} {p1 : Int32} {S S' : wS} {r : Int32} (hf : f_X10_last o p1 S = some (r, S')) : jq_S l D Y aR A yX10_last cX10_last 2 (some .int) 0 0 [.ref o, .int p1] S (some (.int r)) S' := by
  unfold f_X10_last at hf
  refine jq_enterS (by decide) (Nat.le_of_ble_eq_true rfl) fun p e s m args below meth c ls H locs hX hJ hl => ?_
  have hl : lv_has ls 2 [(0, .ref o), (1, .int p1)] := hl
  have hx := hX.1
  have hb := hX.2.1
  have hm := hX.2.2.1
  have ho := hX.2.2.2.1
  have ht := hX.2.2.2.2.1
  have hn := hX.2.2.2.2.2.1.2.1
  refine lv_iload_n hx hb dX10_last_0 rfl (lv_at hl 1 rfl) ?_
  by_cases c1 : p1 = 0
  · replace hf := o_t hf c1
    refine lv_tableIn (off := 27) (tgt := 28) hx hb dX10_last_1 (by rcases c1 with rfl <;> decide) (by rcases c1 with rfl <;> decide) (by rcases c1 with rfl <;> rfl) (by decide) ?_
    refine lv_aload_n hx hb dX10_last_28 rfl (lv_at hl 0 rfl) ?_
    replace hf := o_gR_e hf
    obtain ⟨hk1, x1, hx1, hf⟩ := hf
    refine gf_X10_runner hX hJ hk1 hx1 qw129 dX10_last_29 ?_
    replace hf := o_cs_e hf
    rcases hf with ⟨hr1, hf⟩ | ⟨a1, hr1, hf⟩
    · subst hr1
      cases hf
    · subst hr1
      replace hf := o_gI_e hf
      obtain ⟨hk2, x2, hx2, hf⟩ := hf
      refine gn_X7_steps hX hJ hk2 hx2 qn80 dX10_last_32 ?_
      obtain ⟨rfl, rfl⟩ := Prod.mk.inj (Option.some.inj hf)
      exact jq_iret hX hJ.2.2 dX10_last_35 ⟨rfl, rfl, rfl, hJ.1, hJ.2.1⟩
  replace hf := o_f hf c1
  by_cases c2 : p1 = 1
  · replace hf := o_t hf c2
    refine lv_tableIn (off := 35) (tgt := 36) hx hb dX10_last_1 (by rcases c2 with rfl <;> decide) (by rcases c2 with rfl <;> decide) (by rcases c2 with rfl <;> rfl) (by decide) ?_
    refine lv_aload_n hx hb dX10_last_36 rfl (lv_at hl 0 rfl) ?_
    replace hf := o_gR_e hf
    obtain ⟨hk3, x3, hx3, hf⟩ := hf
    refine gf_X10_runner hX hJ hk3 hx3 qw129 dX10_last_37 ?_
    replace hf := o_cs_e hf
    rcases hf with ⟨hr2, hf⟩ | ⟨a2, hr2, hf⟩
    · subst hr2
      cases hf
    · subst hr2
      replace hf := o_gI_e hf
      obtain ⟨hk4, x4, hx4, hf⟩ := hf
      refine gn_X7_failures hX hJ hk4 hx4 qn82 dX10_last_40 ?_
      obtain ⟨rfl, rfl⟩ := Prod.mk.inj (Option.some.inj hf)
      exact jq_iret hX hJ.2.2 dX10_last_43 ⟨rfl, rfl, rfl, hJ.1, hJ.2.1⟩
  replace hf := o_f hf c2
  by_cases c3 : p1 = 2
  · replace hf := o_t hf c3
    refine lv_tableIn (off := 43) (tgt := 44) hx hb dX10_last_1 (by rcases c3 with rfl <;> decide) (by rcases c3 with rfl <;> decide) (by rcases c3 with rfl <;> rfl) (by decide) ?_
    refine lv_aload_n hx hb dX10_last_44 rfl (lv_at hl 0 rfl) ?_
    replace hf := o_gR_e hf
    obtain ⟨hk5, x5, hx5, hf⟩ := hf
    refine gf_X10_runner hX hJ hk5 hx5 qw129 dX10_last_45 ?_
    replace hf := o_cs_e hf
    rcases hf with ⟨hr3, hf⟩ | ⟨a3, hr3, hf⟩
    · subst hr3
      cases hf
    · subst hr3
      replace hf := o_gI_e hf
      obtain ⟨hk6, x6, hx6, hf⟩ := hf
      refine gn_X7_failedLast hX hJ hk6 hx6 qn84 dX10_last_48 ?_
      obtain ⟨rfl, rfl⟩ := Prod.mk.inj (Option.some.inj hf)
      exact jq_iret hX hJ.2.2 dX10_last_51 ⟨rfl, rfl, rfl, hJ.1, hJ.2.1⟩
  replace hf := o_f hf c3
  refine lv_tableOut (tgt := 52) hx hb dX10_last_1 (by have e0 := sw_ne c1 (n := 0) (by decide); have e1 := sw_ne c2 (n := 1) (by decide); have e2 := sw_ne c3 (n := 2) (by decide); omega) (by decide) ?_
  refine lv_iconst (v := (-1)) hx hb dX10_last_52 (by decide) ?_
  obtain ⟨rfl, rfl⟩ := Prod.mk.inj (Option.some.inj hf)
  exact jq_iret hX hJ.2.2 dX10_last_53 ⟨rfl, rfl, rfl, hJ.1, hJ.2.1⟩
theorem dX10_count_0 : decode cX10_count 0 = .ok (.iload_n 1, 1) := by decide +kernel
theorem dX10_count_1 : decode cX10_count 1 = .ok (.tableswitch 48 0 2 #[27, 35, 43], 27) := by decide +kernel
theorem dX10_count_28 : decode cX10_count 28 = .ok (.aload_n 0, 1) := by decide +kernel
theorem dX10_count_29 : decode cX10_count 29 = .ok (.getfield 13, 3) := by decide +kernel
theorem dX10_count_32 : decode cX10_count 32 = .ok (.getfield 182, 3) := by decide +kernel
theorem dX10_count_35 : decode cX10_count 35 = .ok (.ireturn, 1) := by decide +kernel
theorem dX10_count_36 : decode cX10_count 36 = .ok (.aload_n 0, 1) := by decide +kernel
theorem dX10_count_37 : decode cX10_count 37 = .ok (.getfield 19, 3) := by decide +kernel
theorem dX10_count_40 : decode cX10_count 40 = .ok (.getfield 183, 3) := by decide +kernel
theorem dX10_count_43 : decode cX10_count 43 = .ok (.ireturn, 1) := by decide +kernel
theorem dX10_count_44 : decode cX10_count 44 = .ok (.aload_n 0, 1) := by decide +kernel
theorem dX10_count_45 : decode cX10_count 45 = .ok (.getfield 149, 3) := by decide +kernel
theorem dX10_count_48 : decode cX10_count 48 = .ok (.ireturn, 1) := by decide +kernel
theorem dX10_count_49 : decode cX10_count 49 = .ok (.iconst (-1), 1) := by decide +kernel
theorem dX10_count_50 : decode cX10_count 50 = .ok (.ireturn, 1) := by decide +kernel
theorem hy_X10_count : yX10_count.cls ≠ "java/lang/invoke/MethodHandle" ∧ yX10_count.cls ≠ "java/lang/invoke/VarHandle" ∧ (parseMethodDescriptor yX10_count.desc).map (fun d => d.parameters.length) = some 1 := ⟨by decide, by decide, by decide +kernel⟩
def f_X10_count (o : Nat) (p1 : Int32) (S : wS) : Option ((Int32) × wS) :=
  if p1 = 0 then (
  o_gR 9 10 o S fun x1 =>
  o_cs x1 (none) (fun a1 =>
  o_gI 6 7 a1 S fun x2 =>
  some (x2, S))) else (
  if p1 = 1 then (
  o_gR 9 11 o S fun x3 =>
  o_cs x3 (none) (fun a2 =>
  o_gI 2 5 a2 S fun x4 =>
  some (x4, S))) else (
  if p1 = 2 then (
  o_gI 9 14 o S fun x5 =>
  some (x5, S)) else (
  some ((-1), S))))
set_option maxHeartbeats 4000000 in
set_option maxRecDepth 100000 in
theorem c_X10_count {l : Launch} {D : va_G} {Y : Nat → ClassId} {aR : Nat → Nat} {A : Nat → Prop} {o : Nat} {p1 : Int32} {S S' : wS} {r : Int32} (hf : f_X10_count o p1 S = some (r, S')) : jq_S l D Y aR A yX10_count cX10_count 2 (some .int) 0 0 [.ref o, .int p1] S (some (.int r)) S' := by
  unfold f_X10_count at hf
  refine jq_enterS (by decide) (Nat.le_of_ble_eq_true rfl) fun p e s m args below meth c ls H locs hX hJ hl => ?_
  have hl : lv_has ls 2 [(0, .ref o), (1, .int p1)] := hl
  have hx := hX.1
  have hb := hX.2.1
  have hm := hX.2.2.1
  have ho := hX.2.2.2.1
  have ht := hX.2.2.2.2.1
  have hn := hX.2.2.2.2.2.1.2.1
  refine lv_iload_n hx hb dX10_count_0 rfl (lv_at hl 1 rfl) ?_
  by_cases c1 : p1 = 0
  · replace hf := o_t hf c1
    refine lv_tableIn (off := 27) (tgt := 28) hx hb dX10_count_1 (by rcases c1 with rfl <;> decide) (by rcases c1 with rfl <;> decide) (by rcases c1 with rfl <;> rfl) (by decide) ?_
    refine lv_aload_n hx hb dX10_count_28 rfl (lv_at hl 0 rfl) ?_
    replace hf := o_gR_e hf
    obtain ⟨hk1, x1, hx1, hf⟩ := hf
    refine gf_X10_rows hX hJ hk1 hx1 qw126 dX10_count_29 ?_
    replace hf := o_cs_e hf
    rcases hf with ⟨hr1, hf⟩ | ⟨a1, hr1, hf⟩
    · subst hr1
      cases hf
    · subst hr1
      replace hf := o_gI_e hf
      obtain ⟨hk2, x2, hx2, hf⟩ := hf
      refine gn_X6_many hX hJ hk2 hx2 qn35 dX10_count_32 ?_
      obtain ⟨rfl, rfl⟩ := Prod.mk.inj (Option.some.inj hf)
      exact jq_iret hX hJ.2.2 dX10_count_35 ⟨rfl, rfl, rfl, hJ.1, hJ.2.1⟩
  replace hf := o_f hf c1
  by_cases c2 : p1 = 1
  · replace hf := o_t hf c2
    refine lv_tableIn (off := 35) (tgt := 36) hx hb dX10_count_1 (by rcases c2 with rfl <;> decide) (by rcases c2 with rfl <;> decide) (by rcases c2 with rfl <;> rfl) (by decide) ?_
    refine lv_aload_n hx hb dX10_count_36 rfl (lv_at hl 0 rfl) ?_
    replace hf := o_gR_e hf
    obtain ⟨hk3, x3, hx3, hf⟩ := hf
    refine gf_X10_handles hX hJ hk3 hx3 qw127 dX10_count_37 ?_
    replace hf := o_cs_e hf
    rcases hf with ⟨hr2, hf⟩ | ⟨a2, hr2, hf⟩
    · subst hr2
      cases hf
    · subst hr2
      replace hf := o_gI_e hf
      obtain ⟨hk4, x4, hx4, hf⟩ := hf
      refine gn_X1_many hX hJ hk4 hx4 qn51 dX10_count_40 ?_
      obtain ⟨rfl, rfl⟩ := Prod.mk.inj (Option.some.inj hf)
      exact jq_iret hX hJ.2.2 dX10_count_43 ⟨rfl, rfl, rfl, hJ.1, hJ.2.1⟩
  replace hf := o_f hf c2
  by_cases c3 : p1 = 2
  · replace hf := o_t hf c3
    refine lv_tableIn (off := 43) (tgt := 44) hx hb dX10_count_1 (by rcases c3 with rfl <;> decide) (by rcases c3 with rfl <;> decide) (by rcases c3 with rfl <;> rfl) (by decide) ?_
    refine lv_aload_n hx hb dX10_count_44 rfl (lv_at hl 0 rfl) ?_
    replace hf := o_gI_e hf
    obtain ⟨hk5, x5, hx5, hf⟩ := hf
    refine gf_X10_runs hX hJ hk5 hx5 qw133 dX10_count_45 ?_
    obtain ⟨rfl, rfl⟩ := Prod.mk.inj (Option.some.inj hf)
    exact jq_iret hX hJ.2.2 dX10_count_48 ⟨rfl, rfl, rfl, hJ.1, hJ.2.1⟩
  replace hf := o_f hf c3
  refine lv_tableOut (tgt := 49) hx hb dX10_count_1 (by have e0 := sw_ne c1 (n := 0) (by decide); have e1 := sw_ne c2 (n := 1) (by decide); have e2 := sw_ne c3 (n := 2) (by decide); omega) (by decide) ?_
  refine lv_iconst (v := (-1)) hx hb dX10_count_49 (by decide) ?_
  obtain ⟨rfl, rfl⟩ := Prod.mk.inj (Option.some.inj hf)
  exact jq_iret hX hJ.2.2 dX10_count_50 ⟨rfl, rfl, rfl, hJ.1, hJ.2.1⟩
