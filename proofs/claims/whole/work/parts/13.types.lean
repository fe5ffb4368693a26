theorem dX6_init_0 : decode cX6_init 0 = .ok (.aload_n 0, 1) := by decide +kernel
theorem dX6_init_1 : decode cX6_init 1 = .ok (.invokespecial 3, 3) := by decide +kernel
theorem dX6_init_4 : decode cX6_init 4 = .ok (.aload_n 0, 1) := by decide +kernel
theorem dX6_init_5 : decode cX6_init 5 = .ok (.bipush 16, 2) := by decide +kernel
theorem dX6_init_7 : decode cX6_init 7 = .ok (.anewarray 9, 3) := by decide +kernel
theorem dX6_init_10 : decode cX6_init 10 = .ok (.putfield 11, 3) := by decide +kernel
theorem dX6_init_13 : decode cX6_init 13 = .ok (.return_, 1) := by decide +kernel
theorem hy_X6_init : yX6_init.cls ≠ "java/lang/invoke/MethodHandle" ∧ yX6_init.cls ≠ "java/lang/invoke/VarHandle" ∧ (parseMethodDescriptor yX6_init.desc).map (fun d => d.parameters.length) = some 0 := ⟨by decide, by decide, by decide +kernel⟩
def f_X6_init (o : Nat) (S : wS) : Option ((Unit) × wS) :=
  o_newA 24 16 S fun a1 S1 =>
  o_pR 6 5 o (some a1) S1 fun S2 =>
  some ((), S2)
set_option maxHeartbeats 4000000 in
set_option maxRecDepth 100000 in
theorem c_X6_init {l : Launch} {D : va_G} {Y : Nat → ClassId} {aR : Nat → Nat} {A : Nat → Prop} {o : Nat} {S S' : wS} {r : Unit} (hf : f_X6_init o S = some (r, S')) : jq_S l D Y aR A yX6_init cX6_init 1 none 1 12 [.ref o] S none S' := by
  unfold f_X6_init at hf
  refine jq_enterS (by decide) (Nat.le_of_ble_eq_true rfl) fun p e s m args below meth c ls H locs hX hJ hl => ?_
  have hl : lv_has ls 1 [(0, .ref o)] := hl
  have hx := hX.1
  have hb := hX.2.1
  have hm := hX.2.2.1
  have ho := hX.2.2.2.1
  have ht := hX.2.2.2.2.1
  have hn := hX.2.2.2.2.2.1.2.1
  refine lv_aload_n hx hb dX6_init_0 rfl (lv_at hl 0 rfl) ?_
  refine W.objInit hx hb ho (ht _ qw30) (ht _ qw23) (ht _ qw24) rfl (hl.1.trans hm.symm) rfl dX6_init_1 (Nat.le_of_ble_eq_true rfl) (Nat.le_of_ble_eq_true rfl) ?_
  refine W.eq (g2 := F0 m 4 ls []) rfl ?_
  refine lv_aload_n hx hb dX6_init_4 rfl (lv_at hl 0 rfl) ?_
  refine lv_bipush (v := 16) hx hb dX6_init_5 (by decide) ?_
  replace hf := o_newA_e hf
  obtain ⟨hk1, a1, S1, ha1, hS1, hf⟩ := hf
  refine na_W hX hJ hk1 ha1 hS1 qw31 dX6_init_7 (fun H hJ' => ?_)
  clear hJ
  have hJ := hJ'
  clear hJ'
  replace hf := o_pR_e hf
  obtain ⟨hk2, S2, hS2, hf⟩ := hf
  refine pf_X6_kept hX hJ hk2 hS2 rfl rfl qw33 dX6_init_10 (fun H locs hJ' => ?_)
  clear hJ
  have hJ := hJ'
  clear hJ'
  obtain ⟨rfl, rfl⟩ := Prod.mk.inj (Option.some.inj hf)
  exact jq_vret hX hJ.2.2 dX6_init_13 ⟨rfl, rfl, rfl, hJ.1, hJ.2.1⟩
theorem dX1_init_0 : decode cX1_init 0 = .ok (.aload_n 0, 1) := by decide +kernel
theorem dX1_init_1 : decode cX1_init 1 = .ok (.invokespecial 3, 3) := by decide +kernel
theorem dX1_init_4 : decode cX1_init 4 = .ok (.aload_n 0, 1) := by decide +kernel
theorem dX1_init_5 : decode cX1_init 5 = .ok (.bipush 32, 2) := by decide +kernel
theorem dX1_init_7 : decode cX1_init 7 = .ok (.anewarray 9, 3) := by decide +kernel
theorem dX1_init_10 : decode cX1_init 10 = .ok (.putfield 11, 3) := by decide +kernel
theorem dX1_init_13 : decode cX1_init 13 = .ok (.return_, 1) := by decide +kernel
theorem hy_X1_init : yX1_init.cls ≠ "java/lang/invoke/MethodHandle" ∧ yX1_init.cls ≠ "java/lang/invoke/VarHandle" ∧ (parseMethodDescriptor yX1_init.desc).map (fun d => d.parameters.length) = some 0 := ⟨by decide, by decide, by decide +kernel⟩
def f_X1_init (o : Nat) (S : wS) : Option ((Unit) × wS) :=
  o_newA 23 32 S fun a1 S1 =>
  o_pR 2 1 o (some a1) S1 fun S2 =>
  some ((), S2)
set_option maxHeartbeats 4000000 in
set_option maxRecDepth 100000 in
theorem c_X1_init {l : Launch} {D : va_G} {Y : Nat → ClassId} {aR : Nat → Nat} {A : Nat → Prop} {o : Nat} {S S' : wS} {r : Unit} (hf : f_X1_init o S = some (r, S')) : jq_S l D Y aR A yX1_init cX1_init 1 none 1 12 [.ref o] S none S' := by
  unfold f_X1_init at hf
  refine jq_enterS (by decide) (Nat.le_of_ble_eq_true rfl) fun p e s m args below meth c ls H locs hX hJ hl => ?_
  have hl : lv_has ls 1 [(0, .ref o)] := hl
  have hx := hX.1
  have hb := hX.2.1
  have hm := hX.2.2.1
  have ho := hX.2.2.2.1
  have ht := hX.2.2.2.2.1
  have hn := hX.2.2.2.2.2.1.2.1
  refine lv_aload_n hx hb dX1_init_0 rfl (lv_at hl 0 rfl) ?_
  refine W.objInit hx hb ho (ht _ qw46) (ht _ qw23) (ht _ qw24) rfl (hl.1.trans hm.symm) rfl dX1_init_1 (Nat.le_of_ble_eq_true rfl) (Nat.le_of_ble_eq_true rfl) ?_
  refine W.eq (g2 := F0 m 4 ls []) rfl ?_
  refine lv_aload_n hx hb dX1_init_4 rfl (lv_at hl 0 rfl) ?_
  refine lv_bipush (v := 32) hx hb dX1_init_5 (by decide) ?_
  replace hf := o_newA_e hf
  obtain ⟨hk1, a1, S1, ha1, hS1, hf⟩ := hf
  refine na_H hX hJ hk1 ha1 hS1 qw47 dX1_init_7 (fun H hJ' => ?_)
  clear hJ
  have hJ := hJ'
  clear hJ'
  replace hf := o_pR_e hf
  obtain ⟨hk2, S2, hS2, hf⟩ := hf
  refine pf_X1_kept hX hJ hk2 hS2 rfl rfl qw49 dX1_init_10 (fun H locs hJ' => ?_)
  clear hJ
  have hJ := hJ'
  clear hJ'
  obtain ⟨rfl, rfl⟩ := Prod.mk.inj (Option.some.inj hf)
  exact jq_vret hX hJ.2.2 dX1_init_13 ⟨rfl, rfl, rfl, hJ.1, hJ.2.1⟩
theorem dX9_init_0 : decode cX9_init 0 = .ok (.aload_n 0, 1) := by decide +kernel
theorem dX9_init_1 : decode cX9_init 1 = .ok (.invokespecial 3, 3) := by decide +kernel
theorem dX9_init_4 : decode cX9_init 4 = .ok (.aload_n 0, 1) := by decide +kernel
theorem dX9_init_5 : decode cX9_init 5 = .ok (.iload_n 1, 1) := by decide +kernel
theorem dX9_init_6 : decode cX9_init 6 = .ok (.putfield 9, 3) := by decide +kernel
theorem dX9_init_9 : decode cX9_init 9 = .ok (.aload_n 0, 1) := by decide +kernel
theorem dX9_init_10 : decode cX9_init 10 = .ok (.iload_n 2, 1) := by decide +kernel
theorem dX9_init_11 : decode cX9_init 11 = .ok (.putfield 15, 3) := by decide +kernel
theorem dX9_init_14 : decode cX9_init 14 = .ok (.aload_n 0, 1) := by decide +kernel
theorem dX9_init_15 : decode cX9_init 15 = .ok (.aload_n 3, 1) := by decide +kernel
theorem dX9_init_16 : decode cX9_init 16 = .ok (.putfield 18, 3) := by decide +kernel
theorem dX9_init_19 : decode cX9_init 19 = .ok (.return_, 1) := by decide +kernel
theorem hy_X9_init : yX9_init.cls ≠ "java/lang/invoke/MethodHandle" ∧ yX9_init.cls ≠ "java/lang/invoke/VarHandle" ∧ (parseMethodDescriptor yX9_init.desc).map (fun d => d.parameters.length) = some 3 := ⟨by decide, by decide, by decide +kernel⟩
def f_X9_init (o : Nat) (p1 : Int32) (p2 : Int32) (p3 : Nat) (S : wS) : Option ((Unit) × wS) :=
  o_pI 8 12 o p1 S fun S1 =>
  o_pI 8 13 o p2 S1 fun S2 =>
  o_pR 8 9 o (some p3) S2 fun S3 =>
  some ((), S3)
set_option maxHeartbeats 4000000 in
set_option maxRecDepth 100000 in
theorem c_X9_init {l : Launch} {D : va_G} {Y : Nat → ClassId} {aR : Nat → Nat} {A : Nat → Prop} {o : Nat} {p1 : Int32} {p2 : Int32} {p3 : Nat} {S S' : wS} {r : Unit} (hf : f_X9_init o p1 p2 p3 S = some (r, S')) : jq_S l D Y aR A yX9_init cX9_init 4 none 1 12 [.ref o, .int p1, .int p2, .ref p3] S none S' := by
  unfold f_X9_init at hf
  refine jq_enterS (by decide) (Nat.le_of_ble_eq_true rfl) fun p e s m args below meth c ls H locs hX hJ hl => ?_
  have hl : lv_has ls 4 [(0, .ref o), (1, .int p1), (2, .int p2), (3, .ref p3)] := hl
  have hx := hX.1
  have hb := hX.2.1
  have hm := hX.2.2.1
  have ho := hX.2.2.2.1
  have ht := hX.2.2.2.2.1
  have hn := hX.2.2.2.2.2.1.2.1
  refine lv_aload_n hx hb dX9_init_0 rfl (lv_at hl 0 rfl) ?_
  refine W.objInit hx hb ho (ht _ qw108) (ht _ qw23) (ht _ qw24) rfl (hl.1.trans hm.symm) rfl dX9_init_1 (Nat.le_of_ble_eq_true rfl) (Nat.le_of_ble_eq_true rfl) ?_
  refine W.eq (g2 := F0 m 4 ls []) rfl ?_
  refine lv_aload_n hx hb dX9_init_4 rfl (lv_at hl 0 rfl) ?_
  refine lv_iload_n hx hb dX9_init_5 rfl (lv_at hl 1 rfl) ?_
  replace hf := o_pI_e hf
  obtain ⟨hk3, S1, hS1, hf⟩ := hf
  refine pf_X9_result hX hJ hk3 hS1 rfl rfl qw109 dX9_init_6 (fun H locs hJ' => ?_)
  clear hJ
  have hJ := hJ'
  clear hJ'
  refine lv_aload_n hx hb dX9_init_9 rfl (lv_at hl 0 rfl) ?_
  refine lv_iload_n hx hb dX9_init_10 rfl (lv_at hl 2 rfl) ?_
  replace hf := o_pI_e hf
  obtain ⟨hk2, S2, hS2, hf⟩ := hf
  refine pf_X9_many hX hJ hk2 hS2 rfl rfl qw113 dX9_init_11 (fun H locs hJ' => ?_)
  clear hJ
  have hJ := hJ'
  clear hJ'
  refine lv_aload_n hx hb dX9_init_14 rfl (lv_at hl 0 rfl) ?_
  refine lv_aload_n hx hb dX9_init_15 rfl (lv_at hl 3 rfl) ?_
  replace hf := o_pR_e hf
  obtain ⟨hk1, S3, hS3, hf⟩ := hf
  refine pf_X9_kinds hX hJ hk1 hS3 rfl rfl qw117 dX9_init_16 (fun H locs hJ' => ?_)
  clear hJ
  have hJ := hJ'
  clear hJ'
  obtain ⟨rfl, rfl⟩ := Prod.mk.inj (Option.some.inj hf)
  exact jq_vret hX hJ.2.2 dX9_init_19 ⟨rfl, rfl, rfl, hJ.1, hJ.2.1⟩
theorem dX5_init_0 : decode cX5_init 0 = .ok (.aload_n 0, 1) := by decide +kernel
theorem dX5_init_1 : decode cX5_init 1 = .ok (.invokespecial 3, 3) := by decide +kernel
theorem dX5_init_4 : decode cX5_init 4 = .ok (.aload_n 0, 1) := by decide +kernel
theorem dX5_init_5 : decode cX5_init 5 = .ok (.iload_n 1, 1) := by decide +kernel
theorem dX5_init_6 : decode cX5_init 6 = .ok (.putfield 9, 3) := by decide +kernel
theorem dX5_init_9 : decode cX5_init 9 = .ok (.aload_n 0, 1) := by decide +kernel
theorem dX5_init_10 : decode cX5_init 10 = .ok (.iconst 0, 1) := by decide +kernel
theorem dX5_init_11 : decode cX5_init 11 = .ok (.iload_n 2, 1) := by decide +kernel
theorem dX5_init_12 : decode cX5_init 12 = .ok (.bipush 8, 2) := by decide +kernel
theorem dX5_init_14 : decode cX5_init 14 = .ok (.invokestatic 15, 3) := by decide +kernel
theorem dX5_init_17 : decode cX5_init 17 = .ok (.invokestatic 21, 3) := by decide +kernel
theorem dX5_init_20 : decode cX5_init 20 = .ok (.newarray .long, 2) := by decide +kernel
theorem dX5_init_22 : decode cX5_init 22 = .ok (.putfield 24, 3) := by decide +kernel
theorem dX5_init_25 : decode cX5_init 25 = .ok (.return_, 1) := by decide +kernel
theorem hy_X5_init : yX5_init.cls ≠ "java/lang/invoke/MethodHandle" ∧ yX5_init.cls ≠ "java/lang/invoke/VarHandle" ∧ (parseMethodDescriptor yX5_init.desc).map (fun d => d.parameters.length) = some 2 := ⟨by decide, by decide, by decide +kernel⟩
def f_X5_init (o : Nat) (p1 : Int32) (p2 : Int32) (S : wS) : Option ((Unit) × wS) :=
  o_pI 5 6 o p1 S fun S1 =>
  o_newA 22 (if 0 < (if 8 < p2 then 8 else p2) then (if 8 < p2 then 8 else p2) else 0) S1 fun a1 S2 =>
  o_pR 5 4 o (some a1) S2 fun S3 =>
  some ((), S3)
set_option maxHeartbeats 4000000 in
set_option maxRecDepth 100000 in
theorem c_X5_init {l : Launch} {D : va_G} {Y : Nat → ClassId} {aR : Nat → Nat} {A : Nat → Prop} {o : Nat} {p1 : Int32} {p2 : Int32} {S S' : wS} {r : Unit} (hf : f_X5_init o p1 p2 S = some (r, S')) : jq_S l D Y aR A yX5_init cX5_init 3 none 1 17 [.ref o, .int p1, .int p2] S none S' := by
  unfold f_X5_init at hf
  refine jq_enterS (by decide) (Nat.le_of_ble_eq_true rfl) fun p e s m args below meth c ls H locs hX hJ hl => ?_
  have hl : lv_has ls 3 [(0, .ref o), (1, .int p1), (2, .int p2)] := hl
  have hx := hX.1
  have hb := hX.2.1
  have hm := hX.2.2.1
  have ho := hX.2.2.2.1
  have ht := hX.2.2.2.2.1
  have hn := hX.2.2.2.2.2.1.2.1
  refine lv_aload_n hx hb dX5_init_0 rfl (lv_at hl 0 rfl) ?_
  refine W.objInit hx hb ho (ht _ qw166) (ht _ qw23) (ht _ qw24) rfl (hl.1.trans hm.symm) rfl dX5_init_1 (Nat.le_of_ble_eq_true rfl) (Nat.le_of_ble_eq_true rfl) ?_
  refine W.eq (g2 := F0 m 4 ls []) rfl ?_
  refine lv_aload_n hx hb dX5_init_4 rfl (lv_at hl 0 rfl) ?_
  refine lv_iload_n hx hb dX5_init_5 rfl (lv_at hl 1 rfl) ?_
  replace hf := o_pI_e hf
  obtain ⟨hk3, S1, hS1, hf⟩ := hf
  refine pf_X5_lane hX hJ hk3 hS1 rfl rfl qw173 dX5_init_6 (fun H locs hJ' => ?_)
  clear hJ
  have hJ := hJ'
  clear hJ'
  refine lv_aload_n hx hb dX5_init_9 rfl (lv_at hl 0 rfl) ?_
  refine lv_iconst (v := 0) hx hb dX5_init_10 (by decide) ?_
  refine lv_iload_n hx hb dX5_init_11 rfl (lv_at hl 2 rfl) ?_
  refine lv_bipush (v := 8) hx hb dX5_init_12 (by decide) ?_
  refine va_mmin hx hb (hm.trans hl.1.symm) ho (ht _ qw167) (ht _ qw168) (ht _ qw10) (ht _ qm_min) (Nat.le_of_ble_eq_true rfl) (Nat.le_of_ble_eq_true rfl) (wJ.cl hJ) (wJ.sl hJ) dX5_init_14 ?_
  refine va_mmax hx hb (hm.trans hl.1.symm) ho (ht _ qw170) (ht _ qw171) (ht _ qw10) (ht _ qm_max) (Nat.le_of_ble_eq_true rfl) (Nat.le_of_ble_eq_true rfl) (wJ.cl hJ) (wJ.sl hJ) dX5_init_17 ?_
  replace hf := o_newA_e hf
  obtain ⟨hk1, a1, S2, ha1, hS2, hf⟩ := hf
  refine na_L hX hJ hk1 ha1 hS2 dX5_init_20 (fun H hJ' => ?_)
  clear hJ
  have hJ := hJ'
  clear hJ'
  replace hf := o_pR_e hf
  obtain ⟨hk2, S3, hS3, hf⟩ := hf
  refine pf_X5_items hX hJ hk2 hS3 rfl rfl qw176 dX5_init_22 (fun H locs hJ' => ?_)
  clear hJ
  have hJ := hJ'
  clear hJ'
  obtain ⟨rfl, rfl⟩ := Prod.mk.inj (Option.some.inj hf)
  exact jq_vret hX hJ.2.2 dX5_init_25 ⟨rfl, rfl, rfl, hJ.1, hJ.2.1⟩
theorem dX6_added_0 : decode cX6_added 0 = .ok (.aload_n 0, 1) := by decide +kernel
theorem dX6_added_1 : decode cX6_added 1 = .ok (.getfield 17, 3) := by decide +kernel
theorem dX6_added_4 : decode cX6_added 4 = .ok (.aload_n 0, 1) := by decide +kernel
theorem dX6_added_5 : decode cX6_added 5 = .ok (.getfield 11, 3) := by decide +kernel
theorem dX6_added_8 : decode cX6_added 8 = .ok (.arraylength, 1) := by decide +kernel
theorem dX6_added_9 : decode cX6_added 9 = .ok (.if_icmp .lt 6, 3) := by decide +kernel
theorem dX6_added_15 : decode cX6_added 15 = .ok (.aload_n 0, 1) := by decide +kernel
theorem dX6_added_16 : decode cX6_added 16 = .ok (.getfield 11, 3) := by decide +kernel
theorem dX6_added_19 : decode cX6_added 19 = .ok (.aload_n 0, 1) := by decide +kernel
theorem dX6_added_20 : decode cX6_added 20 = .ok (.getfield 17, 3) := by decide +kernel
theorem dX6_added_23 : decode cX6_added 23 = .ok (.new 9, 3) := by decide +kernel
theorem dX6_added_26 : decode cX6_added 26 = .ok (.dup, 1) := by decide +kernel
theorem dX6_added_27 : decode cX6_added 27 = .ok (.iload_n 1, 1) := by decide +kernel
theorem dX6_added_28 : decode cX6_added 28 = .ok (.iload_n 2, 1) := by decide +kernel
theorem dX6_added_29 : decode cX6_added 29 = .ok (.invokespecial 21, 3) := by decide +kernel
theorem dX6_added_32 : decode cX6_added 32 = .ok (.aastore, 1) := by decide +kernel
theorem dX6_added_33 : decode cX6_added 33 = .ok (.aload_n 0, 1) := by decide +kernel
theorem dX6_added_34 : decode cX6_added 34 = .ok (.dup, 1) := by decide +kernel
theorem dX6_added_35 : decode cX6_added 35 = .ok (.getfield 17, 3) := by decide +kernel
theorem dX6_added_38 : decode cX6_added 38 = .ok (.iconst 1, 1) := by decide +kernel
theorem dX6_added_39 : decode cX6_added 39 = .ok (.iadd, 1) := by decide +kernel
theorem dX6_added_40 : decode cX6_added 40 = .ok (.putfield 17, 3) := by decide +kernel
theorem dX6_added_43 : decode cX6_added 43 = .ok (.aload_n 0, 1) := by decide +kernel
theorem dX6_added_44 : decode cX6_added 44 = .ok (.getfield 17, 3) := by decide +kernel
theorem dX6_added_47 : decode cX6_added 47 = .ok (.iconst 1, 1) := by decide +kernel
theorem dX6_added_48 : decode cX6_added 48 = .ok (.isub, 1) := by decide +kernel
theorem dX6_added_49 : decode cX6_added 49 = .ok (.ireturn, 1) := by decide +kernel
theorem dX6_added_12 : decode cX6_added 12 = .ok (.bipush (-2), 2) := by decide +kernel
theorem dX6_added_14 : decode cX6_added 14 = .ok (.ireturn, 1) := by decide +kernel
theorem hy_X6_added : yX6_added.cls ≠ "java/lang/invoke/MethodHandle" ∧ yX6_added.cls ≠ "java/lang/invoke/VarHandle" ∧ (parseMethodDescriptor yX6_added.desc).map (fun d => d.parameters.length) = some 2 := ⟨by decide, by decide, by decide +kernel⟩
def f_X6_added (o : Nat) (p1 : Int32) (p2 : Int32) (S : wS) : Option ((Int32) × wS) :=
  o_gI 6 7 o S fun x1 =>
  o_gR 6 5 o S fun x2 =>
  o_cs x2 (none) (fun a1 =>
  o_len 24 a1 S fun x3 =>
  if x1 < x3 then (
  o_gR 6 5 o S fun x4 =>
  o_gI 6 7 o S fun x5 =>
  o_new 5 2 S fun a2 S1 =>
  o_cs x4 (o_call (f_X5_init a2 p1 p2 S1) fun _ S5 =>
  none) (fun a3 =>
  o_call (f_X5_init a2 p1 p2 S1) fun _ S2 =>
  o_wR 24 5 a3 x5 a2 S2 fun S3 =>
  o_gI 6 7 o S3 fun x6 =>
  o_pI 6 7 o (x6 + (1 : Int32)) S3 fun S4 =>
  o_gI 6 7 o S4 fun x7 =>
  some (x7 - (1 : Int32), S4))) else (
  some ((-2), S)))
set_option maxHeartbeats 4000000 in
set_option maxRecDepth 100000 in
theorem c_X6_added {l : Launch} {D : va_G} {Y : Nat → ClassId} {aR : Nat → Nat} {A : Nat → Prop} {o : Nat} {p1 : Int32} {p2 : Int32} {S S' : wS} {r : Int32} (hf : f_X6_added o p1 p2 S = some (r, S')) : jq_S l D Y aR A yX6_added cX6_added 3 (some .int) 2 39 [.ref o, .int p1, .int p2] S (some (.int r)) S' := by
  unfold f_X6_added at hf
  refine jq_enterS (by decide) (Nat.le_of_ble_eq_true rfl) fun p e s m args below meth c ls H locs hX hJ hl => ?_
  have hl : lv_has ls 3 [(0, .ref o), (1, .int p1), (2, .int p2)] := hl
  have hx := hX.1
  have hb := hX.2.1
  have hm := hX.2.2.1
  have ho := hX.2.2.2.1
  have ht := hX.2.2.2.2.1
  have hn := hX.2.2.2.2.2.1.2.1
  refine lv_aload_n hx hb dX6_added_0 rfl (lv_at hl 0 rfl) ?_
  replace hf := o_gI_e hf
  obtain ⟨hk1, x1, hx1, hf⟩ := hf
  refine gf_X6_many hX hJ hk1 hx1 qw34 dX6_added_1 ?_
  refine lv_aload_n hx hb dX6_added_4 rfl (lv_at hl 0 rfl) ?_
  replace hf := o_gR_e hf
  obtain ⟨hk2, x2, hx2, hf⟩ := hf
  refine gf_X6_kept hX hJ hk2 hx2 qw33 dX6_added_5 ?_
  replace hf := o_cs_e hf
  rcases hf with ⟨hr1, hf⟩ | ⟨a1, hr1, hf⟩
  · subst hr1
    cases hf
  · subst hr1
    replace hf := o_len_e hf
    obtain ⟨hk3, x3, hx3, hf⟩ := hf
    refine gl_W hX hJ hk3 hx3 dX6_added_8 ?_
    refine lv_icmp_lt (tgt := 15) hx hb dX6_added_9 (by decide) (fun c1 => ?_) (fun c1 => ?_)
    · replace hf := o_t hf c1
      refine lv_aload_n hx hb dX6_added_15 rfl (lv_at hl 0 rfl) ?_
      replace hf := o_gR_e hf
      obtain ⟨hk4, x4, hx4, hf⟩ := hf
      refine gf_X6_kept hX hJ hk4 hx4 qw33 dX6_added_16 ?_
      refine lv_aload_n hx hb dX6_added_19 rfl (lv_at hl 0 rfl) ?_
      replace hf := o_gI_e hf
      obtain ⟨hk5, x5, hx5, hf⟩ := hf
      refine gf_X6_many hX hJ hk5 hx5 qw34 dX6_added_20 ?_
      replace hf := o_new_e hf
      obtain ⟨hk6, a2, S1, ha2, hS1, hf⟩ := hf
      refine nw_X5 hX hJ hk6 ha2 hS1 qw31 dX6_added_23 (fun H hJ' => ?_)
      clear hJ
      have hJ := hJ'
      clear hJ'
      refine lv_dup hx hb dX6_added_26 rfl ?_
      refine lv_iload_n hx hb dX6_added_27 rfl (lv_at hl 1 rfl) ?_
      refine lv_iload_n hx hb dX6_added_28 rfl (lv_at hl 2 rfl) ?_
      replace hf := o_cs_e hf
      rcases hf with ⟨hr2, hf⟩ | ⟨a3, hr2, hf⟩
      · subst hr2
        replace hf := o_call_e hf
        obtain ⟨_, S5, hq2, hf⟩ := hf
        refine jq_doS hX hJ (jq_okIN (As := [.int p1, .int p2]) (rest := [.ref a2, .int x5, .null]) hx hb hm ho ht hn qn163 qw164 qw165 qw9 rfl hy_X5_init rfl hl.1 (Nat.le_of_ble_eq_true rfl) dX6_added_29) (c_X5_init hq2) (Nat.le_of_ble_eq_true rfl) (Nat.le_of_ble_eq_true rfl) (fun H locs hJ' => ?_)
        clear hJ
        have hJ := hJ'
        clear hJ'
        cases hf
      · subst hr2
        replace hf := o_call_e hf
        obtain ⟨_, S2, hq1, hf⟩ := hf
        refine jq_doS hX hJ (jq_okIN (As := [.int p1, .int p2]) (rest := [.ref a2, .int x5, .ref a3]) hx hb hm ho ht hn qn163 qw164 qw165 qw9 rfl hy_X5_init rfl hl.1 (Nat.le_of_ble_eq_true rfl) dX6_added_29) (c_X5_init hq1) (Nat.le_of_ble_eq_true rfl) (Nat.le_of_ble_eq_true rfl) (fun H locs hJ' => ?_)
        clear hJ
        have hJ := hJ'
        clear hJ'
        replace hf := o_wR_e hf
        obtain ⟨hk7, S3, hS3, hf⟩ := hf
        refine wa_W hX hJ hk7 hS3 dX6_added_32 (fun H locs hJ' => ?_)
        clear hJ
        have hJ := hJ'
        clear hJ'
        refine lv_aload_n hx hb dX6_added_33 rfl (lv_at hl 0 rfl) ?_
        refine lv_dup hx hb dX6_added_34 rfl ?_
        replace hf := o_gI_e hf
        obtain ⟨hk8, x6, hx6, hf⟩ := hf
        refine gf_X6_many hX hJ hk8 hx6 qw34 dX6_added_35 ?_
        refine lv_iconst (v := 1) hx hb dX6_added_38 (by decide) ?_
        refine lv_iadd hx hb dX6_added_39 ?_
        replace hf := o_pI_e hf
        obtain ⟨hk10, S4, hS4, hf⟩ := hf
        refine pf_X6_many hX hJ hk10 hS4 qw34 dX6_added_40 (fun H locs hJ' => ?_)
        clear hJ
        have hJ := hJ'
        clear hJ'
        refine lv_aload_n hx hb dX6_added_43 rfl (lv_at hl 0 rfl) ?_
        replace hf := o_gI_e hf
        obtain ⟨hk9, x7, hx7, hf⟩ := hf
        refine gf_X6_many hX hJ hk9 hx7 qw34 dX6_added_44 ?_
        refine lv_iconst (v := 1) hx hb dX6_added_47 (by decide) ?_
        refine lv_isub hx hb dX6_added_48 ?_
        obtain ⟨rfl, rfl⟩ := Prod.mk.inj (Option.some.inj hf)
        exact jq_iret hX hJ.2.2 dX6_added_49 ⟨rfl, rfl, rfl, hJ.1, hJ.2.1⟩
    · replace hf := o_f hf c1
      refine lv_bipush (v := (-2)) hx hb dX6_added_12 (by decide) ?_
      obtain ⟨rfl, rfl⟩ := Prod.mk.inj (Option.some.inj hf)
      exact jq_iret hX hJ.2.2 dX6_added_14 ⟨rfl, rfl, rfl, hJ.1, hJ.2.1⟩
theorem dX6_at_0 : decode cX6_at 0 = .ok (.lload_n 1, 1) := by decide +kernel
theorem dX6_at_1 : decode cX6_at 1 = .ok (.lconst 0, 1) := by decide +kernel
theorem dX6_at_2 : decode cX6_at 2 = .ok (.lcmp, 1) := by decide +kernel
theorem dX6_at_37 : decode cX6_at 37 = .ok (.aconst_null, 1) := by decide +kernel
theorem dX6_at_38 : decode cX6_at 38 = .ok (.areturn, 1) := by decide +kernel
theorem dX6_at_6 : decode cX6_at 6 = .ok (.lload_n 1, 1) := by decide +kernel
theorem dX6_at_7 : decode cX6_at 7 = .ok (.aload_n 0, 1) := by decide +kernel
theorem dX6_at_8 : decode cX6_at 8 = .ok (.getfield 17, 3) := by decide +kernel
theorem dX6_at_11 : decode cX6_at 11 = .ok (.i2l, 1) := by decide +kernel
theorem dX6_at_12 : decode cX6_at 12 = .ok (.lcmp, 1) := by decide +kernel
theorem dX6_at_16 : decode cX6_at 16 = .ok (.lload_n 1, 1) := by decide +kernel
theorem dX6_at_17 : decode cX6_at 17 = .ok (.aload_n 0, 1) := by decide +kernel
theorem dX6_at_18 : decode cX6_at 18 = .ok (.getfield 11, 3) := by decide +kernel
theorem dX6_at_21 : decode cX6_at 21 = .ok (.arraylength, 1) := by decide +kernel
theorem dX6_at_22 : decode cX6_at 22 = .ok (.i2l, 1) := by decide +kernel
theorem dX6_at_23 : decode cX6_at 23 = .ok (.lcmp, 1) := by decide +kernel
theorem dX6_at_27 : decode cX6_at 27 = .ok (.aload_n 0, 1) := by decide +kernel
theorem dX6_at_28 : decode cX6_at 28 = .ok (.getfield 11, 3) := by decide +kernel
theorem dX6_at_31 : decode cX6_at 31 = .ok (.lload_n 1, 1) := by decide +kernel
theorem dX6_at_32 : decode cX6_at 32 = .ok (.l2i, 1) := by decide +kernel
theorem dX6_at_33 : decode cX6_at 33 = .ok (.aaload, 1) := by decide +kernel
theorem dX6_at_34 : decode cX6_at 34 = .ok (.goto 4, 3) := by decide +kernel
theorem dX6_at_24 : decode cX6_at 24 = .ok (.ifCond .ge 13, 3) := by decide +kernel
theorem dX6_at_13 : decode cX6_at 13 = .ok (.ifCond .ge 24, 3) := by decide +kernel
theorem dX6_at_3 : decode cX6_at 3 = .ok (.ifCond .lt 34, 3) := by decide +kernel
theorem hy_X6_at : yX6_at.cls ≠ "java/lang/invoke/MethodHandle" ∧ yX6_at.cls ≠ "java/lang/invoke/VarHandle" ∧ (parseMethodDescriptor yX6_at.desc).map (fun d => d.parameters.length) = some 1 := ⟨by decide, by decide, by decide +kernel⟩
def f_X6_at (o : Nat) (p1 : Int64) (S : wS) : Option ((Option Nat) × wS) :=
  if p1 < 0 then (
  some (none, S)) else (
  o_gI 6 7 o S fun x1 =>
  if ((x1).toInt64) ≤ p1 then (
  some (none, S)) else (
  o_gR 6 5 o S fun x2 =>
  o_cs x2 (none) (fun a1 =>
  o_len 24 a1 S fun x3 =>
  if ((x3).toInt64) ≤ p1 then (
  some (none, S)) else (
  o_gR 6 5 o S fun x4 =>
  o_cs x4 (none) (fun a2 =>
  o_rR 24 a2 ((p1).toInt32) S fun x5 =>
  some (x5, S))))))
set_option maxHeartbeats 4000000 in
set_option maxRecDepth 100000 in
theorem c_X6_at {l : Launch} {D : va_G} {Y : Nat → ClassId} {aR : Nat → Nat} {A : Nat → Prop} {o : Nat} {p1 : Int64} {S S' : wS} {r : Option Nat} (hf : f_X6_at o p1 S = some (r, S')) : jq_S l D Y aR A yX6_at cX6_at 3 (some (.object "ScoreHandles$Row")) 0 0 [.ref o, .long p1] S (some (va_rf r)) S' := by
  unfold f_X6_at at hf
  refine jq_enterS (by decide) (Nat.le_of_ble_eq_true rfl) fun p e s m args below meth c ls H locs hX hJ hl => ?_
  have hl : lv_has ls 3 [(0, .ref o), (1, .long p1)] := hl
  have hx := hX.1
  have hb := hX.2.1
  have hm := hX.2.2.1
  have ho := hX.2.2.2.1
  have ht := hX.2.2.2.2.1
  have hn := hX.2.2.2.2.2.1.2.1
  refine lv_lload_n hx hb dX6_at_0 rfl (lv_at hl 1 rfl) ?_
  refine lv_lconst (v := 0) hx hb dX6_at_1 (by decide) ?_
  refine W.lcmp hx hb dX6_at_2 ?_
  refine lv_if_lt (tgt := 37) hx hb dX6_at_3 (by decide) (fun c1 => ?_) (fun c1 => ?_)
  · replace hf := o_t hf (qc_lt.mp c1)
    refine lv_null hx hb dX6_at_37 ?_
    obtain ⟨rfl, rfl⟩ := Prod.mk.inj (Option.some.inj hf)
    exact jq_aret (r := none) hX hJ.2.2 dX6_at_38 ⟨rfl, rfl, rfl, hJ.1, hJ.2.1⟩
  · replace hf := o_f hf (fun z => c1 (qc_lt.mpr z))
    refine lv_lload_n hx hb dX6_at_6 rfl (lv_at hl 1 rfl) ?_
    refine lv_aload_n hx hb dX6_at_7 rfl (lv_at hl 0 rfl) ?_
    replace hf := o_gI_e hf
    obtain ⟨hk1, x1, hx1, hf⟩ := hf
    refine gf_X6_many hX hJ hk1 hx1 qw34 dX6_at_8 ?_
    refine lv_i2l hx hb dX6_at_11 rfl ?_
    refine W.lcmp hx hb dX6_at_12 ?_
    refine lv_if_ge (tgt := 37) hx hb dX6_at_13 (by decide) (fun c2 => ?_) (fun c2 => ?_)
    · replace hf := o_t hf (qc_ge.mp c2)
      refine lv_null hx hb dX6_at_37 ?_
      obtain ⟨rfl, rfl⟩ := Prod.mk.inj (Option.some.inj hf)
      exact jq_aret (r := none) hX hJ.2.2 dX6_at_38 ⟨rfl, rfl, rfl, hJ.1, hJ.2.1⟩
    · replace hf := o_f hf (fun z => c2 (qc_ge.mpr z))
      refine lv_lload_n hx hb dX6_at_16 rfl (lv_at hl 1 rfl) ?_
      refine lv_aload_n hx hb dX6_at_17 rfl (lv_at hl 0 rfl) ?_
      replace hf := o_gR_e hf
      obtain ⟨hk2, x2, hx2, hf⟩ := hf
      refine gf_X6_kept hX hJ hk2 hx2 qw33 dX6_at_18 ?_
      replace hf := o_cs_e hf
      rcases hf with ⟨hr1, hf⟩ | ⟨a1, hr1, hf⟩
      · subst hr1
        cases hf
      · subst hr1
        replace hf := o_len_e hf
        obtain ⟨hk3, x3, hx3, hf⟩ := hf
        refine gl_W hX hJ hk3 hx3 dX6_at_21 ?_
        refine lv_i2l hx hb dX6_at_22 rfl ?_
        refine W.lcmp hx hb dX6_at_23 ?_
        refine lv_if_ge (tgt := 37) hx hb dX6_at_24 (by decide) (fun c3 => ?_) (fun c3 => ?_)
        · replace hf := o_t hf (qc_ge.mp c3)
          refine lv_null hx hb dX6_at_37 ?_
          obtain ⟨rfl, rfl⟩ := Prod.mk.inj (Option.some.inj hf)
          exact jq_aret (r := none) hX hJ.2.2 dX6_at_38 ⟨rfl, rfl, rfl, hJ.1, hJ.2.1⟩
        · replace hf := o_f hf (fun z => c3 (qc_ge.mpr z))
          refine lv_aload_n hx hb dX6_at_27 rfl (lv_at hl 0 rfl) ?_
          replace hf := o_gR_e hf
          obtain ⟨hk4, x4, hx4, hf⟩ := hf
          refine gf_X6_kept hX hJ hk4 hx4 qw33 dX6_at_28 ?_
          refine lv_lload_n hx hb dX6_at_31 rfl (lv_at hl 1 rfl) ?_
          refine lv_l2i hx hb dX6_at_32 rfl ?_
          replace hf := o_cs_e hf
          rcases hf with ⟨hr2, hf⟩ | ⟨a2, hr2, hf⟩
          · subst hr2
            cases hf
          · subst hr2
            replace hf := o_rR_e hf
            obtain ⟨hk5, x5, hx5, hf⟩ := hf
            refine ga_W hX hJ hk5 hx5 dX6_at_33 ?_
            refine lv_goto (tgt := 38) hx hb dX6_at_34 (by decide) ?_
            obtain ⟨rfl, rfl⟩ := Prod.mk.inj (Option.some.inj hf)
            exact jq_aret hX hJ.2.2 dX6_at_38 ⟨rfl, rfl, rfl, hJ.1, hJ.2.1⟩
theorem dX5_has_0 : decode cX5_has 0 = .ok (.lload_n 1, 1) := by decide +kernel
theorem dX5_has_1 : decode cX5_has 1 = .ok (.lconst 0, 1) := by decide +kernel
theorem dX5_has_2 : decode cX5_has 2 = .ok (.lcmp, 1) := by decide +kernel
theorem dX5_has_21 : decode cX5_has 21 = .ok (.iconst 0, 1) := by decide +kernel
theorem dX5_has_22 : decode cX5_has 22 = .ok (.ireturn, 1) := by decide +kernel
theorem dX5_has_6 : decode cX5_has 6 = .ok (.lload_n 1, 1) := by decide +kernel
theorem dX5_has_7 : decode cX5_has 7 = .ok (.aload_n 0, 1) := by decide +kernel
theorem dX5_has_8 : decode cX5_has 8 = .ok (.getfield 24, 3) := by decide +kernel
theorem dX5_has_11 : decode cX5_has 11 = .ok (.arraylength, 1) := by decide +kernel
theorem dX5_has_12 : decode cX5_has 12 = .ok (.i2l, 1) := by decide +kernel
theorem dX5_has_13 : decode cX5_has 13 = .ok (.lcmp, 1) := by decide +kernel
theorem dX5_has_17 : decode cX5_has 17 = .ok (.iconst 1, 1) := by decide +kernel
theorem dX5_has_18 : decode cX5_has 18 = .ok (.goto 4, 3) := by decide +kernel
theorem dX5_has_14 : decode cX5_has 14 = .ok (.ifCond .ge 7, 3) := by decide +kernel
theorem dX5_has_3 : decode cX5_has 3 = .ok (.ifCond .lt 18, 3) := by decide +kernel
theorem hy_X5_has : yX5_has.cls ≠ "java/lang/invoke/MethodHandle" ∧ yX5_has.cls ≠ "java/lang/invoke/VarHandle" ∧ (parseMethodDescriptor yX5_has.desc).map (fun d => d.parameters.length) = some 1 := ⟨by decide, by decide, by decide +kernel⟩
def f_X5_has (o : Nat) (p1 : Int64) (S : wS) : Option ((Int32) × wS) :=
  if p1 < 0 then (
  some (0, S)) else (
  o_gR 5 4 o S fun x1 =>
  o_cs x1 (none) (fun a1 =>
  o_len 22 a1 S fun x2 =>
  if ((x2).toInt64) ≤ p1 then (
  some (0, S)) else (
  some (1, S))))
set_option maxHeartbeats 4000000 in
set_option maxRecDepth 100000 in
theorem c_X5_has {l : Launch} {D : va_G} {Y : Nat → ClassId} {aR : Nat → Nat} {A : Nat → Prop} {o : Nat} {p1 : Int64} {S S' : wS} {r : Int32} (hf : f_X5_has o p1 S = some (r, S')) : jq_S l D Y aR A yX5_has cX5_has 3 (some .boolean) 0 0 [.ref o, .long p1] S (some (.int r)) S' := by
  unfold f_X5_has at hf
  refine jq_enterS (by decide) (Nat.le_of_ble_eq_true rfl) fun p e s m args below meth c ls H locs hX hJ hl => ?_
  have hl : lv_has ls 3 [(0, .ref o), (1, .long p1)] := hl
  have hx := hX.1
  have hb := hX.2.1
  have hm := hX.2.2.1
  have ho := hX.2.2.2.1
  have ht := hX.2.2.2.2.1
  have hn := hX.2.2.2.2.2.1.2.1
  refine lv_lload_n hx hb dX5_has_0 rfl (lv_at hl 1 rfl) ?_
  refine lv_lconst (v := 0) hx hb dX5_has_1 (by decide) ?_
  refine W.lcmp hx hb dX5_has_2 ?_
  refine lv_if_lt (tgt := 21) hx hb dX5_has_3 (by decide) (fun c1 => ?_) (fun c1 => ?_)
  · replace hf := o_t hf (qc_lt.mp c1)
    refine lv_iconst (v := 0) hx hb dX5_has_21 (by decide) ?_
    obtain ⟨rfl, rfl⟩ := Prod.mk.inj (Option.some.inj hf)
    exact jq_zret hX hJ.2.2 (by decide) dX5_has_22 ⟨rfl, rfl, rfl, hJ.1, hJ.2.1⟩
  · replace hf := o_f hf (fun z => c1 (qc_lt.mpr z))
    refine lv_lload_n hx hb dX5_has_6 rfl (lv_at hl 1 rfl) ?_
    refine lv_aload_n hx hb dX5_has_7 rfl (lv_at hl 0 rfl) ?_
    replace hf := o_gR_e hf
    obtain ⟨hk1, x1, hx1, hf⟩ := hf
    refine gf_X5_items hX hJ hk1 hx1 qw176 dX5_has_8 ?_
    replace hf := o_cs_e hf
    rcases hf with ⟨hr1, hf⟩ | ⟨a1, hr1, hf⟩
    · subst hr1
      cases hf
    · subst hr1
      replace hf := o_len_e hf
      obtain ⟨hk2, x2, hx2, hf⟩ := hf
      refine gl_L hX hJ hk2 hx2 dX5_has_11 ?_
      refine lv_i2l hx hb dX5_has_12 rfl ?_
      refine W.lcmp hx hb dX5_has_13 ?_
      refine lv_if_ge (tgt := 21) hx hb dX5_has_14 (by decide) (fun c2 => ?_) (fun c2 => ?_)
      · replace hf := o_t hf (qc_ge.mp c2)
        refine lv_iconst (v := 0) hx hb dX5_has_21 (by decide) ?_
        obtain ⟨rfl, rfl⟩ := Prod.mk.inj (Option.some.inj hf)
        exact jq_zret hX hJ.2.2 (by decide) dX5_has_22 ⟨rfl, rfl, rfl, hJ.1, hJ.2.1⟩
      · replace hf := o_f hf (fun z => c2 (qc_ge.mpr z))
        refine lv_iconst (v := 1) hx hb dX5_has_17 (by decide) ?_
        refine lv_goto (tgt := 22) hx hb dX5_has_18 (by decide) ?_
        obtain ⟨rfl, rfl⟩ := Prod.mk.inj (Option.some.inj hf)
        exact jq_zret hX hJ.2.2 (by decide) dX5_has_22 ⟨rfl, rfl, rfl, hJ.1, hJ.2.1⟩
theorem dX5_set_0 : decode cX5_set 0 = .ok (.aload_n 0, 1) := by decide +kernel
theorem dX5_set_1 : decode cX5_set 1 = .ok (.lload_n 1, 1) := by decide +kernel
theorem dX5_set_2 : decode cX5_set 2 = .ok (.invokevirtual 28, 3) := by decide +kernel
theorem dX5_set_5 : decode cX5_set 5 = .ok (.ifCond .eq 11, 3) := by decide +kernel
theorem dX5_set_16 : decode cX5_set 16 = .ok (.return_, 1) := by decide +kernel
theorem dX5_set_8 : decode cX5_set 8 = .ok (.aload_n 0, 1) := by decide +kernel
theorem dX5_set_9 : decode cX5_set 9 = .ok (.getfield 24, 3) := by decide +kernel
theorem dX5_set_12 : decode cX5_set 12 = .ok (.lload_n 1, 1) := by decide +kernel
theorem dX5_set_13 : decode cX5_set 13 = .ok (.l2i, 1) := by decide +kernel
theorem dX5_set_14 : decode cX5_set 14 = .ok (.lload_n 3, 1) := by decide +kernel
theorem dX5_set_15 : decode cX5_set 15 = .ok (.lastore, 1) := by decide +kernel
theorem hy_X5_set : yX5_set.cls ≠ "java/lang/invoke/MethodHandle" ∧ yX5_set.cls ≠ "java/lang/invoke/VarHandle" ∧ (parseMethodDescriptor yX5_set.desc).map (fun d => d.parameters.length) = some 2 := ⟨by decide, by decide, by decide +kernel⟩
def f_X5_set (o : Nat) (p1 : Int64) (p2 : Int64) (S : wS) : Option ((Unit) × wS) :=
  o_ck (s_K S o = 5) (o_call (f_X5_has o p1 S) fun x1 S1 =>
  if x1 = 0 then (
  some ((), S1)) else (
  o_gR 5 4 o S1 fun x2 =>
  o_cs x2 (none) (fun a1 =>
  o_wL a1 ((p1).toInt32) p2 S1 fun S2 =>
  some ((), S2))))
set_option maxHeartbeats 4000000 in
set_option maxRecDepth 100000 in
theorem c_X5_set {l : Launch} {D : va_G} {Y : Nat → ClassId} {aR : Nat → Nat} {A : Nat → Prop} {o : Nat} {p1 : Int64} {p2 : Int64} {S S' : wS} {r : Unit} (hf : f_X5_set o p1 p2 S = some (r, S')) : jq_S l D Y aR A yX5_set cX5_set 5 none 1 22 [.ref o, .long p1, .long p2] S none S' := by
  unfold f_X5_set at hf
  refine jq_enterS (by decide) (Nat.le_of_ble_eq_true rfl) fun p e s m args below meth c ls H locs hX hJ hl => ?_
  have hl : lv_has ls 5 [(0, .ref o), (1, .long p1), (3, .long p2)] := hl
  have hx := hX.1
  have hb := hX.2.1
  have hm := hX.2.2.1
  have ho := hX.2.2.2.1
  have ht := hX.2.2.2.2.1
  have hn := hX.2.2.2.2.2.1.2.1
  refine lv_aload_n hx hb dX5_set_0 rfl (lv_at hl 0 rfl) ?_
  refine lv_lload_n hx hb dX5_set_1 rfl (lv_at hl 1 rfl) ?_
  replace hf := o_ck_e hf
  obtain ⟨hk1, hf⟩ := hf
  replace hf := o_call_e hf
  obtain ⟨x1, S1, hq1, hf⟩ := hf
  refine jq_doS hX hJ (jq_okV (As := [.long p1]) (rest := []) hx hb hm ho ht (wJ.recv hX hJ (by rw [hk1]; decide) (wE_X5 hk1) rfl) qw227 qw192 qs2 qw193 qw9 hy_X5_has rfl hl.1 (Nat.le_of_ble_eq_true rfl) dX5_set_2) (c_X5_has hq1) (Nat.le_of_ble_eq_true rfl) (Nat.le_of_ble_eq_true rfl) (fun H locs hJ' => ?_)
  clear hJ
  have hJ := hJ'
  clear hJ'
  refine lv_if_eq (tgt := 16) hx hb dX5_set_5 (by decide) (fun c1 => ?_) (fun c1 => ?_)
  · replace hf := o_t hf c1
    obtain ⟨rfl, rfl⟩ := Prod.mk.inj (Option.some.inj hf)
    exact jq_vret hX hJ.2.2 dX5_set_16 ⟨rfl, rfl, rfl, hJ.1, hJ.2.1⟩
  · replace hf := o_f hf c1
    refine lv_aload_n hx hb dX5_set_8 rfl (lv_at hl 0 rfl) ?_
    replace hf := o_gR_e hf
    obtain ⟨hk2, x2, hx2, hf⟩ := hf
    refine gf_X5_items hX hJ hk2 hx2 qw176 dX5_set_9 ?_
    refine lv_lload_n hx hb dX5_set_12 rfl (lv_at hl 1 rfl) ?_
    refine lv_l2i hx hb dX5_set_13 rfl ?_
    refine lv_lload_n hx hb dX5_set_14 rfl (lv_at hl 2 rfl) ?_
    replace hf := o_cs_e hf
    rcases hf with ⟨hr1, hf⟩ | ⟨a1, hr1, hf⟩
    · subst hr1
      cases hf
    · subst hr1
      replace hf := o_wL_e hf
      obtain ⟨hk3, S2, hS2, hf⟩ := hf
      refine wa_L hX hJ hk3 hS2 dX5_set_15 (fun H locs hJ' => ?_)
      clear hJ
      have hJ := hJ'
      clear hJ'
      obtain ⟨rfl, rfl⟩ := Prod.mk.inj (Option.some.inj hf)
      exact jq_vret hX hJ.2.2 dX5_set_16 ⟨rfl, rfl, rfl, hJ.1, hJ.2.1⟩
theorem dX5_get_0 : decode cX5_get 0 = .ok (.aload_n 0, 1) := by decide +kernel
theorem dX5_get_1 : decode cX5_get 1 = .ok (.lload_n 1, 1) := by decide +kernel
theorem dX5_get_2 : decode cX5_get 2 = .ok (.invokevirtual 28, 3) := by decide +kernel
theorem dX5_get_5 : decode cX5_get 5 = .ok (.ifCond .eq 13, 3) := by decide +kernel
theorem dX5_get_18 : decode cX5_get 18 = .ok (.lconst 0, 1) := by decide +kernel
theorem dX5_get_19 : decode cX5_get 19 = .ok (.lreturn, 1) := by decide +kernel
theorem dX5_get_8 : decode cX5_get 8 = .ok (.aload_n 0, 1) := by decide +kernel
theorem dX5_get_9 : decode cX5_get 9 = .ok (.getfield 24, 3) := by decide +kernel
theorem dX5_get_12 : decode cX5_get 12 = .ok (.lload_n 1, 1) := by decide +kernel
theorem dX5_get_13 : decode cX5_get 13 = .ok (.l2i, 1) := by decide +kernel
theorem dX5_get_14 : decode cX5_get 14 = .ok (.laload, 1) := by decide +kernel
theorem dX5_get_15 : decode cX5_get 15 = .ok (.goto 4, 3) := by decide +kernel
theorem hy_X5_get : yX5_get.cls ≠ "java/lang/invoke/MethodHandle" ∧ yX5_get.cls ≠ "java/lang/invoke/VarHandle" ∧ (parseMethodDescriptor yX5_get.desc).map (fun d => d.parameters.length) = some 1 := ⟨by decide, by decide, by decide +kernel⟩
def f_X5_get (o : Nat) (p1 : Int64) (S : wS) : Option ((Int64) × wS) :=
  o_ck (s_K S o = 5) (o_call (f_X5_has o p1 S) fun x1 S1 =>
  if x1 = 0 then (
  some (0, S1)) else (
  o_gR 5 4 o S1 fun x2 =>
  o_cs x2 (none) (fun a1 =>
  o_rL a1 ((p1).toInt32) S1 fun x3 =>
  some (x3, S1))))
set_option maxHeartbeats 4000000 in
set_option maxRecDepth 100000 in
theorem c_X5_get {l : Launch} {D : va_G} {Y : Nat → ClassId} {aR : Nat → Nat} {A : Nat → Prop} {o : Nat} {p1 : Int64} {S S' : wS} {r : Int64} (hf : f_X5_get o p1 S = some (r, S')) : jq_S l D Y aR A yX5_get cX5_get 3 (some .long) 1 22 [.ref o, .long p1] S (some (.long r)) S' := by
  unfold f_X5_get at hf
  refine jq_enterS (by decide) (Nat.le_of_ble_eq_true rfl) fun p e s m args below meth c ls H locs hX hJ hl => ?_
  have hl : lv_has ls 3 [(0, .ref o), (1, .long p1)] := hl
  have hx := hX.1
  have hb := hX.2.1
  have hm := hX.2.2.1
  have ho := hX.2.2.2.1
  have ht := hX.2.2.2.2.1
  have hn := hX.2.2.2.2.2.1.2.1
  refine lv_aload_n hx hb dX5_get_0 rfl (lv_at hl 0 rfl) ?_
  refine lv_lload_n hx hb dX5_get_1 rfl (lv_at hl 1 rfl) ?_
  replace hf := o_ck_e hf
  obtain ⟨hk1, hf⟩ := hf
  replace hf := o_call_e hf
  obtain ⟨x1, S1, hq1, hf⟩ := hf
  refine jq_doS hX hJ (jq_okV (As := [.long p1]) (rest := []) hx hb hm ho ht (wJ.recv hX hJ (by rw [hk1]; decide) (wE_X5 hk1) rfl) qw227 qw192 qs2 qw193 qw9 hy_X5_has rfl hl.1 (Nat.le_of_ble_eq_true rfl) dX5_get_2) (c_X5_has hq1) (Nat.le_of_ble_eq_true rfl) (Nat.le_of_ble_eq_true rfl) (fun H locs hJ' => ?_)
  clear hJ
  have hJ := hJ'
  clear hJ'
  refine lv_if_eq (tgt := 18) hx hb dX5_get_5 (by decide) (fun c1 => ?_) (fun c1 => ?_)
  · replace hf := o_t hf c1
    refine lv_lconst (v := 0) hx hb dX5_get_18 (by decide) ?_
    obtain ⟨rfl, rfl⟩ := Prod.mk.inj (Option.some.inj hf)
    exact jq_lret hX hJ.2.2 dX5_get_19 ⟨rfl, rfl, rfl, hJ.1, hJ.2.1⟩
  · replace hf := o_f hf c1
    refine lv_aload_n hx hb dX5_get_8 rfl (lv_at hl 0 rfl) ?_
    replace hf := o_gR_e hf
    obtain ⟨hk2, x2, hx2, hf⟩ := hf
    refine gf_X5_items hX hJ hk2 hx2 qw176 dX5_get_9 ?_
    refine lv_lload_n hx hb dX5_get_12 rfl (lv_at hl 1 rfl) ?_
    refine lv_l2i hx hb dX5_get_13 rfl ?_
    replace hf := o_cs_e hf
    rcases hf with ⟨hr1, hf⟩ | ⟨a1, hr1, hf⟩
    · subst hr1
      cases hf
    · subst hr1
      replace hf := o_rL_e hf
      obtain ⟨hk3, x3, hx3, hf⟩ := hf
      refine ga_L hX hJ hk3 hx3 dX5_get_14 ?_
      refine lv_goto (tgt := 19) hx hb dX5_get_15 (by decide) ?_
      obtain ⟨rfl, rfl⟩ := Prod.mk.inj (Option.some.inj hf)
      exact jq_lret hX hJ.2.2 dX5_get_19 ⟨rfl, rfl, rfl, hJ.1, hJ.2.1⟩
theorem dX5_many_0 : decode cX5_many 0 = .ok (.aload_n 0, 1) := by decide +kernel
theorem dX5_many_1 : decode cX5_many 1 = .ok (.getfield 24, 3) := by decide +kernel
theorem dX5_many_4 : decode cX5_many 4 = .ok (.arraylength, 1) := by decide +kernel
theorem dX5_many_5 : decode cX5_many 5 = .ok (.ireturn, 1) := by decide +kernel
theorem hy_X5_many : yX5_many.cls ≠ "java/lang/invoke/MethodHandle" ∧ yX5_many.cls ≠ "java/lang/invoke/VarHandle" ∧ (parseMethodDescriptor yX5_many.desc).map (fun d => d.parameters.length) = some 0 := ⟨by decide, by decide, by decide +kernel⟩
def f_X5_many (o : Nat) (S : wS) : Option ((Int32) × wS) :=
  o_gR 5 4 o S fun x1 =>
  o_cs x1 (none) (fun a1 =>
  o_len 22 a1 S fun x2 =>
  some (x2, S))
set_option maxHeartbeats 4000000 in
set_option maxRecDepth 100000 in
theorem c_X5_many {l : Launch} {D : va_G} {Y : Nat → ClassId} {aR : Nat → Nat} {A : Nat → Prop} {o : Nat} {S S' : wS} {r : Int32} (hf : f_X5_many o S = some (r, S')) : jq_S l D Y aR A yX5_many cX5_many 1 (some .int) 0 0 [.ref o] S (some (.int r)) S' := by
  unfold f_X5_many at hf
  refine jq_enterS (by decide) (Nat.le_of_ble_eq_true rfl) fun p e s m args below meth c ls H locs hX hJ hl => ?_
  have hl : lv_has ls 1 [(0, .ref o)] := hl
  have hx := hX.1
  have hb := hX.2.1
  have hm := hX.2.2.1
  have ho := hX.2.2.2.1
  have ht := hX.2.2.2.2.1
  have hn := hX.2.2.2.2.2.1.2.1
  refine lv_aload_n hx hb dX5_many_0 rfl (lv_at hl 0 rfl) ?_
  replace hf := o_gR_e hf
  obtain ⟨hk1, x1, hx1, hf⟩ := hf
  refine gf_X5_items hX hJ hk1 hx1 qw176 dX5_many_1 ?_
  replace hf := o_cs_e hf
  rcases hf with ⟨hr1, hf⟩ | ⟨a1, hr1, hf⟩
  · subst hr1
    cases hf
  · subst hr1
    replace hf := o_len_e hf
    obtain ⟨hk2, x2, hx2, hf⟩ := hf
    refine gl_L hX hJ hk2 hx2 dX5_many_4 ?_
    obtain ⟨rfl, rfl⟩ := Prod.mk.inj (Option.some.inj hf)
    exact jq_iret hX hJ.2.2 dX5_many_5 ⟨rfl, rfl, rfl, hJ.1, hJ.2.1⟩
theorem dX0_init_0 : decode cX0_init 0 = .ok (.aload_n 0, 1) := by decide +kernel
theorem dX0_init_1 : decode cX0_init 1 = .ok (.invokespecial 3, 3) := by decide +kernel
theorem dX0_init_4 : decode cX0_init 4 = .ok (.aload_n 0, 1) := by decide +kernel
theorem dX0_init_5 : decode cX0_init 5 = .ok (.iload_n 1, 1) := by decide +kernel
theorem dX0_init_6 : decode cX0_init 6 = .ok (.putfield 9, 3) := by decide +kernel
theorem dX0_init_9 : decode cX0_init 9 = .ok (.aload_n 0, 1) := by decide +kernel
theorem dX0_init_10 : decode cX0_init 10 = .ok (.iload_n 2, 1) := by decide +kernel
theorem dX0_init_11 : decode cX0_init 11 = .ok (.putfield 15, 3) := by decide +kernel
theorem dX0_init_14 : decode cX0_init 14 = .ok (.aload_n 0, 1) := by decide +kernel
theorem dX0_init_15 : decode cX0_init 15 = .ok (.iload_n 1, 1) := by decide +kernel
theorem dX0_init_16 : decode cX0_init 16 = .ok (.ldc 20, 2) := by decide +kernel
theorem dX0_init_18 : decode cX0_init 18 = .ok (.invokestatic 21, 3) := by decide +kernel
theorem dX0_init_21 : decode cX0_init 21 = .ok (.ifCond .eq 7, 3) := by decide +kernel
theorem dX0_init_28 : decode cX0_init 28 = .ok (.iconst 0, 1) := by decide +kernel
theorem dX0_init_29 : decode cX0_init 29 = .ok (.putfield 25, 3) := by decide +kernel
theorem dX0_init_32 : decode cX0_init 32 = .ok (.aload_n 0, 1) := by decide +kernel
theorem dX0_init_33 : decode cX0_init 33 = .ok (.iload_n 1, 1) := by decide +kernel
theorem dX0_init_34 : decode cX0_init 34 = .ok (.ldc 28, 2) := by decide +kernel
theorem dX0_init_36 : decode cX0_init 36 = .ok (.invokestatic 21, 3) := by decide +kernel
theorem dX0_init_39 : decode cX0_init 39 = .ok (.ifCond .eq 8, 3) := by decide +kernel
theorem dX0_init_47 : decode cX0_init 47 = .ok (.iconst 0, 1) := by decide +kernel
theorem dX0_init_42 : decode cX0_init 42 = .ok (.iload 4, 2) := by decide +kernel
theorem dX0_init_44 : decode cX0_init 44 = .ok (.goto 4, 3) := by decide +kernel
theorem dX0_init_24 : decode cX0_init 24 = .ok (.iload_n 3, 1) := by decide +kernel
theorem dX0_init_25 : decode cX0_init 25 = .ok (.goto 4, 3) := by decide +kernel
theorem dX0_init_48 : decode cX0_init 48 = .ok (.putfield 29, 3) := by decide +kernel
theorem dX0_init_51 : decode cX0_init 51 = .ok (.aload_n 0, 1) := by decide +kernel
theorem dX0_init_52 : decode cX0_init 52 = .ok (.iload_n 1, 1) := by decide +kernel
theorem dX0_init_53 : decode cX0_init 53 = .ok (.sipush 16385, 3) := by decide +kernel
theorem dX0_init_56 : decode cX0_init 56 = .ok (.invokestatic 21, 3) := by decide +kernel
theorem dX0_init_59 : decode cX0_init 59 = .ok (.ifCond .eq 8, 3) := by decide +kernel
theorem dX0_init_67 : decode cX0_init 67 = .ok (.lconst 0, 1) := by decide +kernel
theorem dX0_init_68 : decode cX0_init 68 = .ok (.putfield 32, 3) := by decide +kernel
theorem dX0_init_71 : decode cX0_init 71 = .ok (.aload_n 0, 1) := by decide +kernel
theorem dX0_init_72 : decode cX0_init 72 = .ok (.iconst (-1), 1) := by decide +kernel
theorem dX0_init_73 : decode cX0_init 73 = .ok (.putfield 36, 3) := by decide +kernel
theorem dX0_init_76 : decode cX0_init 76 = .ok (.return_, 1) := by decide +kernel
theorem dX0_init_62 : decode cX0_init 62 = .ok (.lload 5, 2) := by decide +kernel
theorem dX0_init_64 : decode cX0_init 64 = .ok (.goto 4, 3) := by decide +kernel
theorem hy_X0_init : yX0_init.cls ≠ "java/lang/invoke/MethodHandle" ∧ yX0_init.cls ≠ "java/lang/invoke/VarHandle" ∧ (parseMethodDescriptor yX0_init.desc).map (fun d => d.parameters.length) = some 5 := ⟨by decide, by decide, by decide +kernel⟩
def f_X0_init_b48 (l0 : Nat) (l1 : Int32) (l5 : Int64) (t0 : Int32) (t1 : Nat) (S : wS) : Option ((Unit) × wS) :=
  o_pI 1 3 t1 t0 S fun S1 =>
  o_cP (f_X8_isAmong l1 16385) fun x1 =>
  if x1 = 0 then (
  o_pL 1 0 l0 0 S1 fun S2 =>
  o_pI 1 4 l0 (-1) S2 fun S3 =>
  some ((), S3)) else (
  o_pL 1 0 l0 l5 S1 fun S4 =>
  o_pI 1 4 l0 (-1) S4 fun S5 =>
  some ((), S5))
set_option maxHeartbeats 4000000 in
set_option maxRecDepth 100000 in
theorem w_X0_init_b48 {l : Launch} {D : va_G} {Y : Nat → ClassId} {aR : Nat → Nat} {A : Nat → Prop} {p : Program} {e : Env} {s : State} {m : MethodId} {args : Array Value} {below : List Frame} {meth : Method} {c : Code} {S0 : wS} : ∀ (l0 : Nat) (l1 : Int32) (l5 : Int64) (t0 : Int32) (t1 : Nat) (S S' : wS) (r : Unit) (H : Heap) (locs : List Loc) (ls : Array Slot), jq_X D Y aR A p s m args meth c cX0_init RX0 "<init>" 7 none → wJ D Y A s S0 S H locs → f_X0_init_b48 l0 l1 l5 t0 t1 S = some (r, S') → lv_has ls 7 [(0, .ref l0), (1, .int l1), (5, .long l5)] → W p l e { frames := 2, cells := s_lm S0 - s_nx S0, slots := s_sm S0 - s_sl S0, locals := 41 } s m args below meth c H locs (s_nx S - s_nx S0) (s_sl S - s_sl S0) (jq_Z below A (fun v k n H => v = none ∧ k = s_nx S' - s_nx S0 ∧ n = s_sl S' - s_sl S0 ∧ wG S0 S' ∧ wH D Y A S' H) s) (F0 m 48 ls [.int t0, .ref t1]) := by
  intro l0 l1 l5 t0 t1 S S' r H locs ls hX hJ hf hl
  unfold f_X0_init_b48 at hf
  have hx := hX.1
  have hb := hX.2.1
  have hm := hX.2.2.1
  have ho := hX.2.2.2.1
  have ht := hX.2.2.2.2.1
  have hn := hX.2.2.2.2.2.1.2.1
  replace hf := o_pI_e hf
  obtain ⟨hk5, S1, hS1, hf⟩ := hf
  refine pf_X0_c hX hJ hk5 hS1 rfl rfl qw279 dX0_init_48 (fun H locs hJ' => ?_)
  clear hJ
  have hJ := hJ'
  clear hJ'
  refine lv_aload_n hx hb dX0_init_51 rfl (lv_at hl 0 rfl) ?_
  refine lv_iload_n hx hb dX0_init_52 rfl (lv_at hl 1 rfl) ?_
  refine lv_sipush (v := 16385) hx hb dX0_init_53 (by decide) ?_
  replace hf := o_cP_e hf
  obtain ⟨x1, hq1, hf⟩ := hf
  refine jq_doPS hX hJ (jq_okSN (As := [.int l1, .int 16385]) (rest := [.ref l0]) hx hb hm ho ht hn qn262 qw263 qw264 qw14 hy_X8_isAmong rfl hl.1 (Nat.le_of_ble_eq_true rfl) dX0_init_56) (c_X8_isAmong hq1) (Nat.le_of_ble_eq_true rfl) (Nat.le_of_ble_eq_true rfl) (fun locs hJ' => ?_)
  clear hJ
  have hJ := hJ'
  clear hJ'
  refine lv_if_eq (tgt := 67) hx hb dX0_init_59 (by decide) (fun c1 => ?_) (fun c1 => ?_)
  · replace hf := o_t hf c1
    refine lv_lconst (v := 0) hx hb dX0_init_67 (by decide) ?_
    replace hf := o_pL_e hf
    obtain ⟨hk2, S2, hS2, hf⟩ := hf
    refine pf_X0_v hX hJ hk2 hS2 qw282 dX0_init_68 (fun H locs hJ' => ?_)
    clear hJ
    have hJ := hJ'
    clear hJ'
    refine lv_aload_n hx hb dX0_init_71 rfl (lv_at hl 0 rfl) ?_
    refine lv_iconst (v := (-1)) hx hb dX0_init_72 (by decide) ?_
    replace hf := o_pI_e hf
    obtain ⟨hk1, S3, hS3, hf⟩ := hf
    refine pf_X0_number hX hJ hk1 hS3 qw289 dX0_init_73 (fun H locs hJ' => ?_)
    clear hJ
    have hJ := hJ'
    clear hJ'
    obtain ⟨rfl, rfl⟩ := Prod.mk.inj (Option.some.inj hf)
    exact jq_vret hX hJ.2.2 dX0_init_76 ⟨rfl, rfl, rfl, hJ.1, hJ.2.1⟩
  · replace hf := o_f hf c1
    refine lv_lload hx hb dX0_init_62 (lv_at hl 2 rfl) ?_
    refine lv_goto (tgt := 68) hx hb dX0_init_64 (by decide) ?_
    replace hf := o_pL_e hf
    obtain ⟨hk4, S4, hS4, hf⟩ := hf
    refine pf_X0_v hX hJ hk4 hS4 qw282 dX0_init_68 (fun H locs hJ' => ?_)
    clear hJ
    have hJ := hJ'
    clear hJ'
    refine lv_aload_n hx hb dX0_init_71 rfl (lv_at hl 0 rfl) ?_
    refine lv_iconst (v := (-1)) hx hb dX0_init_72 (by decide) ?_
    replace hf := o_pI_e hf
    obtain ⟨hk3, S5, hS5, hf⟩ := hf
    refine pf_X0_number hX hJ hk3 hS5 qw289 dX0_init_73 (fun H locs hJ' => ?_)
    clear hJ
    have hJ := hJ'
    clear hJ'
    obtain ⟨rfl, rfl⟩ := Prod.mk.inj (Option.some.inj hf)
    exact jq_vret hX hJ.2.2 dX0_init_76 ⟨rfl, rfl, rfl, hJ.1, hJ.2.1⟩
def f_X0_init (o : Nat) (p1 : Int32) (p2 : Int32) (p3 : Int32) (p4 : Int32) (p5 : Int64) (S : wS) : Option ((Unit) × wS) :=
  o_pI 1 0 o p1 S fun S1 =>
  o_pI 1 1 o p2 S1 fun S2 =>
  o_cP (f_X8_isAmong p1 2071040) fun x1 =>
  if x1 = 0 then (
  o_pI 1 2 o 0 S2 fun S3 =>
  o_cP (f_X8_isAmong p1 821248) fun x2 =>
  if x2 = 0 then (
  f_X0_init_b48 o p1 p5 0 o S3) else (
  f_X0_init_b48 o p1 p5 p4 o S3)) else (
  o_pI 1 2 o p3 S2 fun S4 =>
  o_cP (f_X8_isAmong p1 821248) fun x3 =>
  if x3 = 0 then (
  f_X0_init_b48 o p1 p5 0 o S4) else (
  f_X0_init_b48 o p1 p5 p4 o S4))
set_option maxHeartbeats 4000000 in
set_option maxRecDepth 100000 in
theorem c_X0_init {l : Launch} {D : va_G} {Y : Nat → ClassId} {aR : Nat → Nat} {A : Nat → Prop} {o : Nat} {p1 : Int32} {p2 : Int32} {p3 : Int32} {p4 : Int32} {p5 : Int64} {S S' : wS} {r : Unit} (hf : f_X0_init o p1 p2 p3 p4 p5 S = some (r, S')) : jq_S l D Y aR A yX0_init cX0_init 7 none 2 41 [.ref o, .int p1, .int p2, .int p3, .int p4, .long p5] S none S' := by
  unfold f_X0_init at hf
  refine jq_enterS (by decide) (Nat.le_of_ble_eq_true rfl) fun p e s m args below meth c ls H locs hX hJ hl => ?_
  have hl : lv_has ls 7 [(0, .ref o), (1, .int p1), (2, .int p2), (3, .int p3), (4, .int p4), (5, .long p5)] := hl
  have hx := hX.1
  have hb := hX.2.1
  have hm := hX.2.2.1
  have ho := hX.2.2.2.1
  have ht := hX.2.2.2.2.1
  have hn := hX.2.2.2.2.2.1.2.1
  refine lv_aload_n hx hb dX0_init_0 rfl (lv_at hl 0 rfl) ?_
  refine W.objInit hx hb ho (ht _ qw260) (ht _ qw23) (ht _ qw24) rfl (hl.1.trans hm.symm) rfl dX0_init_1 (Nat.le_of_ble_eq_true rfl) (Nat.le_of_ble_eq_true rfl) ?_
  refine W.eq (g2 := F0 m 4 ls []) rfl ?_
  refine lv_aload_n hx hb dX0_init_4 rfl (lv_at hl 0 rfl) ?_
  refine lv_iload_n hx hb dX0_init_5 rfl (lv_at hl 1 rfl) ?_
  replace hf := o_pI_e hf
  obtain ⟨hk4, S1, hS1, hf⟩ := hf
  refine pf_X0_sort hX hJ hk4 hS1 rfl rfl qw269 dX0_init_6 (fun H locs hJ' => ?_)
  clear hJ
  have hJ := hJ'
  clear hJ'
  refine lv_aload_n hx hb dX0_init_9 rfl (lv_at hl 0 rfl) ?_
  refine lv_iload_n hx hb dX0_init_10 rfl (lv_at hl 2 rfl) ?_
  replace hf := o_pI_e hf
  obtain ⟨hk3, S2, hS2, hf⟩ := hf
  refine pf_X0_a hX hJ hk3 hS2 rfl rfl qw273 dX0_init_11 (fun H locs hJ' => ?_)
  clear hJ
  have hJ := hJ'
  clear hJ'
  refine lv_aload_n hx hb dX0_init_14 rfl (lv_at hl 0 rfl) ?_
  refine lv_iload_n hx hb dX0_init_15 rfl (lv_at hl 1 rfl) ?_
  refine lv_ldc (v := 2071040) hx hb ho (ht _ qw261) dX0_init_16 ?_
  replace hf := o_cP_e hf
  obtain ⟨x1, hq1, hf⟩ := hf
  refine jq_doPS hX hJ (jq_okSN (As := [.int p1, .int 2071040]) (rest := [.ref o]) hx hb hm ho ht hn qn262 qw263 qw264 qw14 hy_X8_isAmong rfl hl.1 (Nat.le_of_ble_eq_true rfl) dX0_init_18) (c_X8_isAmong hq1) (Nat.le_of_ble_eq_true rfl) (Nat.le_of_ble_eq_true rfl) (fun locs hJ' => ?_)
  clear hJ
  have hJ := hJ'
  clear hJ'
  refine lv_if_eq (tgt := 28) hx hb dX0_init_21 (by decide) (fun c1 => ?_) (fun c1 => ?_)
  · replace hf := o_t hf c1
    refine lv_iconst (v := 0) hx hb dX0_init_28 (by decide) ?_
    replace hf := o_pI_e hf
    obtain ⟨hk1, S3, hS3, hf⟩ := hf
    refine pf_X0_b hX hJ hk1 hS3 rfl rfl qw276 dX0_init_29 (fun H locs hJ' => ?_)
    clear hJ
    have hJ := hJ'
    clear hJ'
    refine lv_aload_n hx hb dX0_init_32 rfl (lv_at hl 0 rfl) ?_
    refine lv_iload_n hx hb dX0_init_33 rfl (lv_at hl 1 rfl) ?_
    refine lv_ldc (v := 821248) hx hb ho (ht _ qw268) dX0_init_34 ?_
    replace hf := o_cP_e hf
    obtain ⟨x2, hq2, hf⟩ := hf
    refine jq_doPS hX hJ (jq_okSN (As := [.int p1, .int 821248]) (rest := [.ref o]) hx hb hm ho ht hn qn262 qw263 qw264 qw14 hy_X8_isAmong rfl hl.1 (Nat.le_of_ble_eq_true rfl) dX0_init_36) (c_X8_isAmong hq2) (Nat.le_of_ble_eq_true rfl) (Nat.le_of_ble_eq_true rfl) (fun locs hJ' => ?_)
    clear hJ
    have hJ := hJ'
    clear hJ'
    refine lv_if_eq (tgt := 47) hx hb dX0_init_39 (by decide) (fun c2 => ?_) (fun c2 => ?_)
    · replace hf := o_t hf c2
      refine lv_iconst (v := 0) hx hb dX0_init_47 (by decide) ?_
      replace hl := lv_sub hl (l' := [(0, .ref o), (1, .int p1), (5, .long p5)]) [0, 1, 5] rfl
      exact w_X0_init_b48 o p1 p5 0 o S3 S' r H locs ls hX hJ hf hl
    · replace hf := o_f hf c2
      refine lv_iload hx hb dX0_init_42 (lv_at hl 4 rfl) ?_
      refine lv_goto (tgt := 48) hx hb dX0_init_44 (by decide) ?_
      replace hl := lv_sub hl (l' := [(0, .ref o), (1, .int p1), (5, .long p5)]) [0, 1, 5] rfl
      exact w_X0_init_b48 o p1 p5 p4 o S3 S' r H locs ls hX hJ hf hl
  · replace hf := o_f hf c1
    refine lv_iload_n hx hb dX0_init_24 rfl (lv_at hl 3 rfl) ?_
    refine lv_goto (tgt := 29) hx hb dX0_init_25 (by decide) ?_
    replace hf := o_pI_e hf
    obtain ⟨hk2, S4, hS4, hf⟩ := hf
    refine pf_X0_b hX hJ hk2 hS4 rfl rfl qw276 dX0_init_29 (fun H locs hJ' => ?_)
    clear hJ
    have hJ := hJ'
    clear hJ'
    refine lv_aload_n hx hb dX0_init_32 rfl (lv_at hl 0 rfl) ?_
    refine lv_iload_n hx hb dX0_init_33 rfl (lv_at hl 1 rfl) ?_
    refine lv_ldc (v := 821248) hx hb ho (ht _ qw268) dX0_init_34 ?_
    replace hf := o_cP_e hf
    obtain ⟨x3, hq3, hf⟩ := hf
    refine jq_doPS hX hJ (jq_okSN (As := [.int p1, .int 821248]) (rest := [.ref o]) hx hb hm ho ht hn qn262 qw263 qw264 qw14 hy_X8_isAmong rfl hl.1 (Nat.le_of_ble_eq_true rfl) dX0_init_36) (c_X8_isAmong hq3) (Nat.le_of_ble_eq_true rfl) (Nat.le_of_ble_eq_true rfl) (fun locs hJ' => ?_)
    clear hJ
    have hJ := hJ'
    clear hJ'
    refine lv_if_eq (tgt := 47) hx hb dX0_init_39 (by decide) (fun c3 => ?_) (fun c3 => ?_)
    · replace hf := o_t hf c3
      refine lv_iconst (v := 0) hx hb dX0_init_47 (by decide) ?_
      replace hl := lv_sub hl (l' := [(0, .ref o), (1, .int p1), (5, .long p5)]) [0, 1, 5] rfl
      exact w_X0_init_b48 o p1 p5 0 o S4 S' r H locs ls hX hJ hf hl
    · replace hf := o_f hf c3
      refine lv_iload hx hb dX0_init_42 (lv_at hl 4 rfl) ?_
      refine lv_goto (tgt := 48) hx hb dX0_init_44 (by decide) ?_
      replace hl := lv_sub hl (l' := [(0, .ref o), (1, .int p1), (5, .long p5)]) [0, 1, 5] rfl
      exact w_X0_init_b48 o p1 p5 p4 o S4 S' r H locs ls hX hJ hf hl
theorem dX1_at_0 : decode cX1_at 0 = .ok (.iload_n 1, 1) := by decide +kernel
theorem dX1_at_1 : decode cX1_at 1 = .ok (.ifCond .lt 29, 3) := by decide +kernel
theorem dX1_at_30 : decode cX1_at 30 = .ok (.aconst_null, 1) := by decide +kernel
theorem dX1_at_31 : decode cX1_at 31 = .ok (.areturn, 1) := by decide +kernel
theorem dX1_at_4 : decode cX1_at 4 = .ok (.iload_n 1, 1) := by decide +kernel
theorem dX1_at_5 : decode cX1_at 5 = .ok (.aload_n 0, 1) := by decide +kernel
theorem dX1_at_6 : decode cX1_at 6 = .ok (.getfield 17, 3) := by decide +kernel
theorem dX1_at_9 : decode cX1_at 9 = .ok (.if_icmp .ge 21, 3) := by decide +kernel
theorem dX1_at_12 : decode cX1_at 12 = .ok (.iload_n 1, 1) := by decide +kernel
theorem dX1_at_13 : decode cX1_at 13 = .ok (.aload_n 0, 1) := by decide +kernel
theorem dX1_at_14 : decode cX1_at 14 = .ok (.getfield 11, 3) := by decide +kernel
theorem dX1_at_17 : decode cX1_at 17 = .ok (.arraylength, 1) := by decide +kernel
theorem dX1_at_18 : decode cX1_at 18 = .ok (.if_icmp .ge 12, 3) := by decide +kernel
theorem dX1_at_21 : decode cX1_at 21 = .ok (.aload_n 0, 1) := by decide +kernel
theorem dX1_at_22 : decode cX1_at 22 = .ok (.getfield 11, 3) := by decide +kernel
theorem dX1_at_25 : decode cX1_at 25 = .ok (.iload_n 1, 1) := by decide +kernel
theorem dX1_at_26 : decode cX1_at 26 = .ok (.aaload, 1) := by decide +kernel
theorem dX1_at_27 : decode cX1_at 27 = .ok (.goto 4, 3) := by decide +kernel
theorem hy_X1_at : yX1_at.cls ≠ "java/lang/invoke/MethodHandle" ∧ yX1_at.cls ≠ "java/lang/invoke/VarHandle" ∧ (parseMethodDescriptor yX1_at.desc).map (fun d => d.parameters.length) = some 1 := ⟨by decide, by decide, by decide +kernel⟩
def f_X1_at (o : Nat) (p1 : Int32) (S : wS) : Option ((Option Nat) × wS) :=
  if p1 < 0 then (
  some (none, S)) else (
  o_gI 2 5 o S fun x1 =>
  if x1 ≤ p1 then (
  some (none, S)) else (
  o_gR 2 1 o S fun x2 =>
  o_cs x2 (none) (fun a1 =>
  o_len 23 a1 S fun x3 =>
  if x3 ≤ p1 then (
  some (none, S)) else (
  o_gR 2 1 o S fun x4 =>
  o_cs x4 (none) (fun a2 =>
  o_rR 23 a2 p1 S fun x5 =>
  some (x5, S))))))
set_option maxHeartbeats 4000000 in
set_option maxRecDepth 100000 in
theorem c_X1_at {l : Launch} {D : va_G} {Y : Nat → ClassId} {aR : Nat → Nat} {A : Nat → Prop} {o : Nat} {p1 : Int32} {S S' : wS} {r : Option Nat} (hf : f_X1_at o p1 S = some (r, S')) : jq_S l D Y aR A yX1_at cX1_at 2 (some (.object "ScoreHandles$Handle")) 0 0 [.ref o, .int p1] S (some (va_rf r)) S' := by
  unfold f_X1_at at hf
  refine jq_enterS (by decide) (Nat.le_of_ble_eq_true rfl) fun p e s m args below meth c ls H locs hX hJ hl => ?_
  have hl : lv_has ls 2 [(0, .ref o), (1, .int p1)] := hl
  have hx := hX.1
  have hb := hX.2.1
  have hm := hX.2.2.1
  have ho := hX.2.2.2.1
  have ht := hX.2.2.2.2.1
  have hn := hX.2.2.2.2.2.1.2.1
  refine lv_iload_n hx hb dX1_at_0 rfl (lv_at hl 1 rfl) ?_
  refine lv_if_lt (tgt := 30) hx hb dX1_at_1 (by decide) (fun c1 => ?_) (fun c1 => ?_)
  · replace hf := o_t hf c1
    refine lv_null hx hb dX1_at_30 ?_
    obtain ⟨rfl, rfl⟩ := Prod.mk.inj (Option.some.inj hf)
    exact jq_aret (r := none) hX hJ.2.2 dX1_at_31 ⟨rfl, rfl, rfl, hJ.1, hJ.2.1⟩
  · replace hf := o_f hf c1
    refine lv_iload_n hx hb dX1_at_4 rfl (lv_at hl 1 rfl) ?_
    refine lv_aload_n hx hb dX1_at_5 rfl (lv_at hl 0 rfl) ?_
    replace hf := o_gI_e hf
    obtain ⟨hk1, x1, hx1, hf⟩ := hf
    refine gf_X1_many hX hJ hk1 hx1 qw50 dX1_at_6 ?_
    refine lv_icmp_ge (tgt := 30) hx hb dX1_at_9 (by decide) (fun c2 => ?_) (fun c2 => ?_)
    · replace hf := o_t hf c2
      refine lv_null hx hb dX1_at_30 ?_
      obtain ⟨rfl, rfl⟩ := Prod.mk.inj (Option.some.inj hf)
      exact jq_aret (r := none) hX hJ.2.2 dX1_at_31 ⟨rfl, rfl, rfl, hJ.1, hJ.2.1⟩
    · replace hf := o_f hf c2
      refine lv_iload_n hx hb dX1_at_12 rfl (lv_at hl 1 rfl) ?_
      refine lv_aload_n hx hb dX1_at_13 rfl (lv_at hl 0 rfl) ?_
      replace hf := o_gR_e hf
      obtain ⟨hk2, x2, hx2, hf⟩ := hf
      refine gf_X1_kept hX hJ hk2 hx2 qw49 dX1_at_14 ?_
      replace hf := o_cs_e hf
      rcases hf with ⟨hr1, hf⟩ | ⟨a1, hr1, hf⟩
      · subst hr1
        cases hf
      · subst hr1
        replace hf := o_len_e hf
        obtain ⟨hk3, x3, hx3, hf⟩ := hf
        refine gl_H hX hJ hk3 hx3 dX1_at_17 ?_
        refine lv_icmp_ge (tgt := 30) hx hb dX1_at_18 (by decide) (fun c3 => ?_) (fun c3 => ?_)
        · replace hf := o_t hf c3
          refine lv_null hx hb dX1_at_30 ?_
          obtain ⟨rfl, rfl⟩ := Prod.mk.inj (Option.some.inj hf)
          exact jq_aret (r := none) hX hJ.2.2 dX1_at_31 ⟨rfl, rfl, rfl, hJ.1, hJ.2.1⟩
        · replace hf := o_f hf c3
          refine lv_aload_n hx hb dX1_at_21 rfl (lv_at hl 0 rfl) ?_
          replace hf := o_gR_e hf
          obtain ⟨hk4, x4, hx4, hf⟩ := hf
          refine gf_X1_kept hX hJ hk4 hx4 qw49 dX1_at_22 ?_
          refine lv_iload_n hx hb dX1_at_25 rfl (lv_at hl 1 rfl) ?_
          replace hf := o_cs_e hf
          rcases hf with ⟨hr2, hf⟩ | ⟨a2, hr2, hf⟩
          · subst hr2
            cases hf
          · subst hr2
            replace hf := o_rR_e hf
            obtain ⟨hk5, x5, hx5, hf⟩ := hf
            refine ga_H hX hJ hk5 hx5 dX1_at_26 ?_
            refine lv_goto (tgt := 31) hx hb dX1_at_27 (by decide) ?_
            obtain ⟨rfl, rfl⟩ := Prod.mk.inj (Option.some.inj hf)
            exact jq_aret hX hJ.2.2 dX1_at_31 ⟨rfl, rfl, rfl, hJ.1, hJ.2.1⟩
theorem dX1_typeAt_0 : decode cX1_typeAt 0 = .ok (.aload_n 0, 1) := by decide +kernel
theorem dX1_typeAt_1 : decode cX1_typeAt 1 = .ok (.iload_n 1, 1) := by decide +kernel
theorem dX1_typeAt_2 : decode cX1_typeAt 2 = .ok (.invokevirtual 21, 3) := by decide +kernel
theorem dX1_typeAt_5 : decode cX1_typeAt 5 = .ok (.astore_n 2, 1) := by decide +kernel
theorem dX1_typeAt_6 : decode cX1_typeAt 6 = .ok (.aload_n 2, 1) := by decide +kernel
theorem dX1_typeAt_7 : decode cX1_typeAt 7 = .ok (.ifnonnull 7, 3) := by decide +kernel
theorem dX1_typeAt_14 : decode cX1_typeAt 14 = .ok (.aload_n 2, 1) := by decide +kernel
theorem dX1_typeAt_15 : decode cX1_typeAt 15 = .ok (.getfield 25, 3) := by decide +kernel
theorem dX1_typeAt_18 : decode cX1_typeAt 18 = .ok (.areturn, 1) := by decide +kernel
theorem dX1_typeAt_10 : decode cX1_typeAt 10 = .ok (.aconst_null, 1) := by decide +kernel
theorem dX1_typeAt_11 : decode cX1_typeAt 11 = .ok (.goto 7, 3) := by decide +kernel
theorem hy_X1_typeAt : yX1_typeAt.cls ≠ "java/lang/invoke/MethodHandle" ∧ yX1_typeAt.cls ≠ "java/lang/invoke/VarHandle" ∧ (parseMethodDescriptor yX1_typeAt.desc).map (fun d => d.parameters.length) = some 1 := ⟨by decide, by decide, by decide +kernel⟩
def f_X1_typeAt (o : Nat) (p1 : Int32) (S : wS) : Option ((Option Nat) × wS) :=
  o_ck (s_K S o = 2) (o_call (f_X1_at o p1 S) fun x1 S1 =>
  o_cs x1 (some (none, S1)) (fun a1 =>
  o_gR 1 0 a1 S1 fun x2 =>
  some (x2, S1)))
set_option maxHeartbeats 4000000 in
set_option maxRecDepth 100000 in
theorem c_X1_typeAt {l : Launch} {D : va_G} {Y : Nat → ClassId} {aR : Nat → Nat} {A : Nat → Prop} {o : Nat} {p1 : Int32} {S S' : wS} {r : Option Nat} (hf : f_X1_typeAt o p1 S = some (r, S')) : jq_S l D Y aR A yX1_typeAt cX1_typeAt 3 (some (.object "ScoreHandles$Type")) 1 21 [.ref o, .int p1] S (some (va_rf r)) S' := by
  unfold f_X1_typeAt at hf
  refine jq_enterS (by decide) (Nat.le_of_ble_eq_true rfl) fun p e s m args below meth c ls H locs hX hJ hl => ?_
  have hl : lv_has ls 3 [(0, .ref o), (1, .int p1)] := hl
  have hx := hX.1
  have hb := hX.2.1
  have hm := hX.2.2.1
  have ho := hX.2.2.2.1
  have ht := hX.2.2.2.2.1
  have hn := hX.2.2.2.2.2.1.2.1
  refine lv_aload_n hx hb dX1_typeAt_0 rfl (lv_at hl 0 rfl) ?_
  refine lv_iload_n hx hb dX1_typeAt_1 rfl (lv_at hl 1 rfl) ?_
  replace hf := o_ck_e hf
  obtain ⟨hk1, hf⟩ := hf
  replace hf := o_call_e hf
  obtain ⟨x1, S1, hq1, hf⟩ := hf
  refine jq_doS hX hJ (jq_okV (As := [.int p1]) (rest := []) hx hb hm ho ht (wJ.recv hX hJ (by rw [hk1]; decide) (wE_X1 hk1) rfl) qw337 qw323 qs13 qw324 qw3 hy_X1_at rfl hl.1 (Nat.le_of_ble_eq_true rfl) dX1_typeAt_2) (c_X1_at hq1) (Nat.le_of_ble_eq_true rfl) (Nat.le_of_ble_eq_true rfl) (fun H locs hJ' => ?_)
  clear hJ
  have hJ := hJ'
  clear hJ'
  replace hf := o_cs_e hf
  rcases hf with ⟨hr1, hf⟩ | ⟨a1, hr1, hf⟩
  · subst hr1
    refine lv_astore_nN (lv' := [(2, .null), (0, .ref o), (1, .int p1)]) hx hb dX1_typeAt_5 rfl hl (by decide) rfl (fun ls hl' => ?_)
    clear hl
    have hl := hl'
    clear hl'
    refine lv_aload_nN hx hb dX1_typeAt_6 rfl (lv_at hl 0 rfl) ?_
    refine lv_ifnonnullN hx hb dX1_typeAt_7 ?_
    refine lv_null hx hb dX1_typeAt_10 ?_
    refine lv_goto (tgt := 18) hx hb dX1_typeAt_11 (by decide) ?_
    obtain ⟨rfl, rfl⟩ := Prod.mk.inj (Option.some.inj hf)
    exact jq_aret (r := none) hX hJ.2.2 dX1_typeAt_18 ⟨rfl, rfl, rfl, hJ.1, hJ.2.1⟩
  · subst hr1
    refine lv_astore_n (lv' := [(2, .ref a1), (0, .ref o), (1, .int p1)]) hx hb dX1_typeAt_5 rfl hl (by decide) rfl (fun ls hl' => ?_)
    clear hl
    have hl := hl'
    clear hl'
    refine lv_aload_n hx hb dX1_typeAt_6 rfl (lv_at hl 0 rfl) ?_
    refine lv_ifnonnull (tgt := 14) hx hb dX1_typeAt_7 (by decide) ?_
    refine lv_aload_n hx hb dX1_typeAt_14 rfl (lv_at hl 0 rfl) ?_
    replace hf := o_gR_e hf
    obtain ⟨hk2, x2, hx2, hf⟩ := hf
    refine gn_X0_type hX hJ hk2 hx2 qn286 dX1_typeAt_15 ?_
    obtain ⟨rfl, rfl⟩ := Prod.mk.inj (Option.some.inj hf)
    exact jq_aret hX hJ.2.2 dX1_typeAt_18 ⟨rfl, rfl, rfl, hJ.1, hJ.2.1⟩
theorem dX9_kind_0 : decode cX9_kind 0 = .ok (.iload_n 1, 1) := by decide +kernel
theorem dX9_kind_1 : decode cX9_kind 1 = .ok (.ifCond .lt 24, 3) := by decide +kernel
theorem dX9_kind_25 : decode cX9_kind 25 = .ok (.iconst 0, 1) := by decide +kernel
theorem dX9_kind_26 : decode cX9_kind 26 = .ok (.istore_n 2, 1) := by decide +kernel
theorem dX9_kind_27 : decode cX9_kind 27 = .ok (.iload_n 2, 1) := by decide +kernel
theorem dX9_kind_28 : decode cX9_kind 28 = .ok (.ifCond .eq 12, 3) := by decide +kernel
theorem dX9_kind_40 : decode cX9_kind 40 = .ok (.iconst (-1), 1) := by decide +kernel
theorem dX9_kind_41 : decode cX9_kind 41 = .ok (.ireturn, 1) := by decide +kernel
theorem dX9_kind_4 : decode cX9_kind 4 = .ok (.iload_n 1, 1) := by decide +kernel
theorem dX9_kind_5 : decode cX9_kind 5 = .ok (.aload_n 0, 1) := by decide +kernel
theorem dX9_kind_6 : decode cX9_kind 6 = .ok (.getfield 15, 3) := by decide +kernel
theorem dX9_kind_9 : decode cX9_kind 9 = .ok (.if_icmp .ge 16, 3) := by decide +kernel
theorem dX9_kind_12 : decode cX9_kind 12 = .ok (.iload_n 1, 1) := by decide +kernel
theorem dX9_kind_13 : decode cX9_kind 13 = .ok (.aload_n 0, 1) := by decide +kernel
theorem dX9_kind_14 : decode cX9_kind 14 = .ok (.getfield 18, 3) := by decide +kernel
theorem dX9_kind_17 : decode cX9_kind 17 = .ok (.arraylength, 1) := by decide +kernel
theorem dX9_kind_18 : decode cX9_kind 18 = .ok (.if_icmp .ge 7, 3) := by decide +kernel
theorem dX9_kind_21 : decode cX9_kind 21 = .ok (.iconst 1, 1) := by decide +kernel
theorem dX9_kind_22 : decode cX9_kind 22 = .ok (.goto 4, 3) := by decide +kernel
theorem dX9_kind_31 : decode cX9_kind 31 = .ok (.aload_n 0, 1) := by decide +kernel
theorem dX9_kind_32 : decode cX9_kind 32 = .ok (.getfield 18, 3) := by decide +kernel
theorem dX9_kind_35 : decode cX9_kind 35 = .ok (.iload_n 1, 1) := by decide +kernel
theorem dX9_kind_36 : decode cX9_kind 36 = .ok (.iaload, 1) := by decide +kernel
theorem dX9_kind_37 : decode cX9_kind 37 = .ok (.goto 4, 3) := by decide +kernel
theorem hy_X9_kind : yX9_kind.cls ≠ "java/lang/invoke/MethodHandle" ∧ yX9_kind.cls ≠ "java/lang/invoke/VarHandle" ∧ (parseMethodDescriptor yX9_kind.desc).map (fun d => d.parameters.length) = some 1 := ⟨by decide, by decide, by decide +kernel⟩
def f_X9_kind (o : Nat) (p1 : Int32) (S : wS) : Option ((Int32) × wS) :=
  if p1 < 0 then (
  some ((-1), S)) else (
  o_gI 8 13 o S fun x1 =>
  if x1 ≤ p1 then (
  some ((-1), S)) else (
  o_gR 8 9 o S fun x2 =>
  o_cs x2 (none) (fun a1 =>
  o_len 21 a1 S fun x3 =>
  if x3 ≤ p1 then (
  some ((-1), S)) else (
  o_gR 8 9 o S fun x4 =>
  o_cs x4 (none) (fun a2 =>
  o_rI a2 p1 S fun x5 =>
  some (x5, S))))))
set_option maxHeartbeats 4000000 in
set_option maxRecDepth 100000 in
theorem c_X9_kind {l : Launch} {D : va_G} {Y : Nat → ClassId} {aR : Nat → Nat} {A : Nat → Prop} {o : Nat} {p1 : Int32} {S S' : wS} {r : Int32} (hf : f_X9_kind o p1 S = some (r, S')) : jq_S l D Y aR A yX9_kind cX9_kind 3 (some .int) 0 0 [.ref o, .int p1] S (some (.int r)) S' := by
  unfold f_X9_kind at hf
  refine jq_enterS (by decide) (Nat.le_of_ble_eq_true rfl) fun p e s m args below meth c ls H locs hX hJ hl => ?_
  have hl : lv_has ls 3 [(0, .ref o), (1, .int p1)] := hl
  have hx := hX.1
  have hb := hX.2.1
  have hm := hX.2.2.1
  have ho := hX.2.2.2.1
  have ht := hX.2.2.2.2.1
  have hn := hX.2.2.2.2.2.1.2.1
  refine lv_iload_n hx hb dX9_kind_0 rfl (lv_at hl 1 rfl) ?_
  refine lv_if_lt (tgt := 25) hx hb dX9_kind_1 (by decide) (fun c1 => ?_) (fun c1 => ?_)
  · replace hf := o_t hf c1
    refine lv_iconst (v := 0) hx hb dX9_kind_25 (by decide) ?_
    refine lv_istore_n (lv' := [(2, .int 0), (0, .ref o), (1, .int p1)]) hx hb dX9_kind_26 rfl hl (by decide) rfl (fun ls hl' => ?_)
    clear hl
    have hl := hl'
    clear hl'
    refine lv_iload_n hx hb dX9_kind_27 rfl (lv_at hl 0 rfl) ?_
    refine lv_if_eq (tgt := 40) hx hb dX9_kind_28 (by decide) (fun _ => ?_) (fun z => absurd (by decide) z)
    refine lv_iconst (v := (-1)) hx hb dX9_kind_40 (by decide) ?_
    obtain ⟨rfl, rfl⟩ := Prod.mk.inj (Option.some.inj hf)
    exact jq_iret hX hJ.2.2 dX9_kind_41 ⟨rfl, rfl, rfl, hJ.1, hJ.2.1⟩
  · replace hf := o_f hf c1
    refine lv_iload_n hx hb dX9_kind_4 rfl (lv_at hl 1 rfl) ?_
    refine lv_aload_n hx hb dX9_kind_5 rfl (lv_at hl 0 rfl) ?_
    replace hf := o_gI_e hf
    obtain ⟨hk1, x1, hx1, hf⟩ := hf
    refine gf_X9_many hX hJ hk1 hx1 qw113 dX9_kind_6 ?_
    refine lv_icmp_ge (tgt := 25) hx hb dX9_kind_9 (by decide) (fun c2 => ?_) (fun c2 => ?_)
    · replace hf := o_t hf c2
      refine lv_iconst (v := 0) hx hb dX9_kind_25 (by decide) ?_
      refine lv_istore_n (lv' := [(2, .int 0), (0, .ref o), (1, .int p1)]) hx hb dX9_kind_26 rfl hl (by decide) rfl (fun ls hl' => ?_)
      clear hl
      have hl := hl'
      clear hl'
      refine lv_iload_n hx hb dX9_kind_27 rfl (lv_at hl 0 rfl) ?_
      refine lv_if_eq (tgt := 40) hx hb dX9_kind_28 (by decide) (fun _ => ?_) (fun z => absurd (by decide) z)
      refine lv_iconst (v := (-1)) hx hb dX9_kind_40 (by decide) ?_
      obtain ⟨rfl, rfl⟩ := Prod.mk.inj (Option.some.inj hf)
      exact jq_iret hX hJ.2.2 dX9_kind_41 ⟨rfl, rfl, rfl, hJ.1, hJ.2.1⟩
    · replace hf := o_f hf c2
      refine lv_iload_n hx hb dX9_kind_12 rfl (lv_at hl 1 rfl) ?_
      refine lv_aload_n hx hb dX9_kind_13 rfl (lv_at hl 0 rfl) ?_
      replace hf := o_gR_e hf
      obtain ⟨hk2, x2, hx2, hf⟩ := hf
      refine gf_X9_kinds hX hJ hk2 hx2 qw117 dX9_kind_14 ?_
      replace hf := o_cs_e hf
      rcases hf with ⟨hr1, hf⟩ | ⟨a1, hr1, hf⟩
      · subst hr1
        cases hf
      · subst hr1
        replace hf := o_len_e hf
        obtain ⟨hk3, x3, hx3, hf⟩ := hf
        refine gl_I hX hJ hk3 hx3 dX9_kind_17 ?_
        refine lv_icmp_ge (tgt := 25) hx hb dX9_kind_18 (by decide) (fun c3 => ?_) (fun c3 => ?_)
        · replace hf := o_t hf c3
          refine lv_iconst (v := 0) hx hb dX9_kind_25 (by decide) ?_
          refine lv_istore_n (lv' := [(2, .int 0), (0, .ref o), (1, .int p1)]) hx hb dX9_kind_26 rfl hl (by decide) rfl (fun ls hl' => ?_)
          clear hl
          have hl := hl'
          clear hl'
          refine lv_iload_n hx hb dX9_kind_27 rfl (lv_at hl 0 rfl) ?_
          refine lv_if_eq (tgt := 40) hx hb dX9_kind_28 (by decide) (fun _ => ?_) (fun z => absurd (by decide) z)
          refine lv_iconst (v := (-1)) hx hb dX9_kind_40 (by decide) ?_
          obtain ⟨rfl, rfl⟩ := Prod.mk.inj (Option.some.inj hf)
          exact jq_iret hX hJ.2.2 dX9_kind_41 ⟨rfl, rfl, rfl, hJ.1, hJ.2.1⟩
        · replace hf := o_f hf c3
          refine lv_iconst (v := 1) hx hb dX9_kind_21 (by decide) ?_
          refine lv_goto (tgt := 26) hx hb dX9_kind_22 (by decide) ?_
          refine lv_istore_n (lv' := [(2, .int 1), (0, .ref o), (1, .int p1)]) hx hb dX9_kind_26 rfl hl (by decide) rfl (fun ls hl' => ?_)
          clear hl
          have hl := hl'
          clear hl'
          refine lv_iload_n hx hb dX9_kind_27 rfl (lv_at hl 0 rfl) ?_
          refine lv_if_eq (tgt := 40) hx hb dX9_kind_28 (by decide) (fun z => absurd z (by decide)) (fun _ => ?_)
          refine lv_aload_n hx hb dX9_kind_31 rfl (lv_at hl 1 rfl) ?_
          replace hf := o_gR_e hf
          obtain ⟨hk4, x4, hx4, hf⟩ := hf
          refine gf_X9_kinds hX hJ hk4 hx4 qw117 dX9_kind_32 ?_
          refine lv_iload_n hx hb dX9_kind_35 rfl (lv_at hl 2 rfl) ?_
          replace hf := o_cs_e hf
          rcases hf with ⟨hr2, hf⟩ | ⟨a2, hr2, hf⟩
          · subst hr2
            cases hf
          · subst hr2
            replace hf := o_rI_e hf
            obtain ⟨hk5, x5, hx5, hf⟩ := hf
            refine ga_I hX hJ hk5 hx5 dX9_kind_36 ?_
            refine lv_goto (tgt := 41) hx hb dX9_kind_37 (by decide) ?_
            obtain ⟨rfl, rfl⟩ := Prod.mk.inj (Option.some.inj hf)
            exact jq_iret hX hJ.2.2 dX9_kind_41 ⟨rfl, rfl, rfl, hJ.1, hJ.2.1⟩
theorem dX6_mayBe_0 : decode cX6_mayBe 0 = .ok (.iload_n 1, 1) := by decide +kernel
theorem dX6_mayBe_1 : decode cX6_mayBe 1 = .ok (.invokestatic 24, 3) := by decide +kernel
theorem dX6_mayBe_4 : decode cX6_mayBe 4 = .ok (.ifCond .eq 11, 3) := by decide +kernel
theorem dX6_mayBe_15 : decode cX6_mayBe 15 = .ok (.iconst 1, 1) := by decide +kernel
theorem dX6_mayBe_16 : decode cX6_mayBe 16 = .ok (.ireturn, 1) := by decide +kernel
theorem dX6_mayBe_7 : decode cX6_mayBe 7 = .ok (.lload_n 2, 1) := by decide +kernel
theorem dX6_mayBe_8 : decode cX6_mayBe 8 = .ok (.ldc2_w 30, 3) := by decide +kernel
theorem dX6_mayBe_11 : decode cX6_mayBe 11 = .ok (.lcmp, 1) := by decide +kernel
theorem dX6_mayBe_17 : decode cX6_mayBe 17 = .ok (.aload_n 0, 1) := by decide +kernel
theorem dX6_mayBe_18 : decode cX6_mayBe 18 = .ok (.lload_n 2, 1) := by decide +kernel
theorem dX6_mayBe_19 : decode cX6_mayBe 19 = .ok (.invokevirtual 32, 3) := by decide +kernel
theorem dX6_mayBe_22 : decode cX6_mayBe 22 = .ok (.astore 4, 2) := by decide +kernel
theorem dX6_mayBe_24 : decode cX6_mayBe 24 = .ok (.aload 4, 2) := by decide +kernel
theorem dX6_mayBe_26 : decode cX6_mayBe 26 = .ok (.ifnull 25, 3) := by decide +kernel
theorem dX6_mayBe_29 : decode cX6_mayBe 29 = .ok (.iload_n 1, 1) := by decide +kernel
theorem dX6_mayBe_30 : decode cX6_mayBe 30 = .ok (.bipush 16, 2) := by decide +kernel
theorem dX6_mayBe_32 : decode cX6_mayBe 32 = .ok (.if_icmp .eq 15, 3) := by decide +kernel
theorem dX6_mayBe_47 : decode cX6_mayBe 47 = .ok (.iconst 1, 1) := by decide +kernel
theorem dX6_mayBe_48 : decode cX6_mayBe 48 = .ok (.goto 4, 3) := by decide +kernel
theorem dX6_mayBe_52 : decode cX6_mayBe 52 = .ok (.ireturn, 1) := by decide +kernel
theorem dX6_mayBe_35 : decode cX6_mayBe 35 = .ok (.aload 4, 2) := by decide +kernel
theorem dX6_mayBe_37 : decode cX6_mayBe 37 = .ok (.getfield 36, 3) := by decide +kernel
theorem dX6_mayBe_40 : decode cX6_mayBe 40 = .ok (.iload_n 1, 1) := by decide +kernel
theorem dX6_mayBe_41 : decode cX6_mayBe 41 = .ok (.bipush 8, 2) := by decide +kernel
theorem dX6_mayBe_43 : decode cX6_mayBe 43 = .ok (.isub, 1) := by decide +kernel
theorem dX6_mayBe_44 : decode cX6_mayBe 44 = .ok (.if_icmp .ne 7, 3) := by decide +kernel
theorem dX6_mayBe_51 : decode cX6_mayBe 51 = .ok (.iconst 0, 1) := by decide +kernel
theorem dX6_mayBe_12 : decode cX6_mayBe 12 = .ok (.ifCond .ne 5, 3) := by decide +kernel
theorem hy_X6_mayBe : yX6_mayBe.cls ≠ "java/lang/invoke/MethodHandle" ∧ yX6_mayBe.cls ≠ "java/lang/invoke/VarHandle" ∧ (parseMethodDescriptor yX6_mayBe.desc).map (fun d => d.parameters.length) = some 2 := ⟨by decide, by decide, by decide +kernel⟩
def f_X6_mayBe (o : Nat) (p1 : Int32) (p2 : Int64) (S : wS) : Option ((Int32) × wS) :=
  o_cP (f_X2_isRow p1) fun x1 =>
  if x1 = 0 then (
  some (1, S)) else (
  if p2 = (-1) then (
  some (1, S)) else (
  o_ck (s_K S o = 6) (o_call (f_X6_at o p2 S) fun x2 S1 =>
  o_cs x2 (some (0, S1)) (fun a1 =>
  if p1 = 16 then (
  some (1, S1)) else (
  o_gI 5 6 a1 S1 fun x3 =>
  if x3 = (p1 - (8 : Int32)) then (
  some (1, S1)) else (
  some (0, S1)))))))
set_option maxHeartbeats 4000000 in
set_option maxRecDepth 100000 in
theorem c_X6_mayBe {l : Launch} {D : va_G} {Y : Nat → ClassId} {aR : Nat → Nat} {A : Nat → Prop} {o : Nat} {p1 : Int32} {p2 : Int64} {S S' : wS} {r : Int32} (hf : f_X6_mayBe o p1 p2 S = some (r, S')) : jq_S l D Y aR A yX6_mayBe cX6_mayBe 5 (some .boolean) 1 22 [.ref o, .int p1, .long p2] S (some (.int r)) S' := by
  unfold f_X6_mayBe at hf
  refine jq_enterS (by decide) (Nat.le_of_ble_eq_true rfl) fun p e s m args below meth c ls H locs hX hJ hl => ?_
  have hl : lv_has ls 5 [(0, .ref o), (1, .int p1), (2, .long p2)] := hl
  have hx := hX.1
  have hb := hX.2.1
  have hm := hX.2.2.1
  have ho := hX.2.2.2.1
  have ht := hX.2.2.2.2.1
  have hn := hX.2.2.2.2.2.1.2.1
  refine lv_iload_n hx hb dX6_mayBe_0 rfl (lv_at hl 1 rfl) ?_
  replace hf := o_cP_e hf
  obtain ⟨x1, hq1, hf⟩ := hf
  refine jq_doPS hX hJ (jq_okSN (As := [.int p1]) (rest := []) hx hb hm ho ht hn qn357 qw358 qw359 qw8 hy_X2_isRow rfl hl.1 (Nat.le_of_ble_eq_true rfl) dX6_mayBe_1) (c_X2_isRow hq1) (Nat.le_of_ble_eq_true rfl) (Nat.le_of_ble_eq_true rfl) (fun locs hJ' => ?_)
  clear hJ
  have hJ := hJ'
  clear hJ'
  refine lv_if_eq (tgt := 15) hx hb dX6_mayBe_4 (by decide) (fun c1 => ?_) (fun c1 => ?_)
  · replace hf := o_t hf c1
    refine lv_iconst (v := 1) hx hb dX6_mayBe_15 (by decide) ?_
    obtain ⟨rfl, rfl⟩ := Prod.mk.inj (Option.some.inj hf)
    exact jq_zret hX hJ.2.2 (by decide) dX6_mayBe_16 ⟨rfl, rfl, rfl, hJ.1, hJ.2.1⟩
  · replace hf := o_f hf c1
    refine lv_lload_n hx hb dX6_mayBe_7 rfl (lv_at hl 2 rfl) ?_
    refine lv_ldc2 (v := (-1)) hx hb ho (ht _ qw360) dX6_mayBe_8 ?_
    refine W.lcmp hx hb dX6_mayBe_11 ?_
    refine lv_if_ne (tgt := 17) hx hb dX6_mayBe_12 (by decide) (fun c2 => ?_) (fun c2 => ?_)
    · replace hf := o_f hf (fun z => c2 (qc_eq.mpr z))
      refine lv_aload_n hx hb dX6_mayBe_17 rfl (lv_at hl 0 rfl) ?_
      refine lv_lload_n hx hb dX6_mayBe_18 rfl (lv_at hl 2 rfl) ?_
      replace hf := o_ck_e hf
      obtain ⟨hk1, hf⟩ := hf
      replace hf := o_call_e hf
      obtain ⟨x2, S1, hq2, hf⟩ := hf
      refine jq_doS hX hJ (jq_okV (As := [.long p2]) (rest := []) hx hb hm ho ht (wJ.recv hX hJ (by rw [hk1]; decide) (wE_X6 hk1) rfl) qw361 qw188 qs1 qw189 qw2 hy_X6_at rfl hl.1 (Nat.le_of_ble_eq_true rfl) dX6_mayBe_19) (c_X6_at hq2) (Nat.le_of_ble_eq_true rfl) (Nat.le_of_ble_eq_true rfl) (fun H locs hJ' => ?_)
      clear hJ
      have hJ := hJ'
      clear hJ'
      replace hf := o_cs_e hf
      rcases hf with ⟨hr1, hf⟩ | ⟨a1, hr1, hf⟩
      · subst hr1
        refine lv_astoreN (lv' := [(4, .null), (0, .ref o), (1, .int p1), (2, .long p2)]) hx hb dX6_mayBe_22 hl (by decide) rfl (fun ls hl' => ?_)
        clear hl
        have hl := hl'
        clear hl'
        refine lv_aloadN hx hb dX6_mayBe_24 (lv_at hl 0 rfl) ?_
        refine lv_ifnullN (tgt := 51) hx hb dX6_mayBe_26 (by decide) ?_
        refine lv_iconst (v := 0) hx hb dX6_mayBe_51 (by decide) ?_
        obtain ⟨rfl, rfl⟩ := Prod.mk.inj (Option.some.inj hf)
        exact jq_zret hX hJ.2.2 (by decide) dX6_mayBe_52 ⟨rfl, rfl, rfl, hJ.1, hJ.2.1⟩
      · subst hr1
        refine lv_astore (lv' := [(4, .ref a1), (0, .ref o), (1, .int p1), (2, .long p2)]) hx hb dX6_mayBe_22 hl (by decide) rfl (fun ls hl' => ?_)
        clear hl
        have hl := hl'
        clear hl'
        refine lv_aload hx hb dX6_mayBe_24 (lv_at hl 0 rfl) ?_
        refine lv_ifnull hx hb dX6_mayBe_26 ?_
        refine lv_iload_n hx hb dX6_mayBe_29 rfl (lv_at hl 2 rfl) ?_
        refine lv_bipush (v := 16) hx hb dX6_mayBe_30 (by decide) ?_
        refine lv_icmp_eq (tgt := 47) hx hb dX6_mayBe_32 (by decide) (fun c3 => ?_) (fun c3 => ?_)
        · replace hf := o_t hf c3
          refine lv_iconst (v := 1) hx hb dX6_mayBe_47 (by decide) ?_
          refine lv_goto (tgt := 52) hx hb dX6_mayBe_48 (by decide) ?_
          obtain ⟨rfl, rfl⟩ := Prod.mk.inj (Option.some.inj hf)
          exact jq_zret hX hJ.2.2 (by decide) dX6_mayBe_52 ⟨rfl, rfl, rfl, hJ.1, hJ.2.1⟩
        · replace hf := o_f hf c3
          refine lv_aload hx hb dX6_mayBe_35 (lv_at hl 0 rfl) ?_
          replace hf := o_gI_e hf
          obtain ⟨hk2, x3, hx3, hf⟩ := hf
          refine gn_X5_lane hX hJ hk2 hx3 qn175 dX6_mayBe_37 ?_
          refine lv_iload_n hx hb dX6_mayBe_40 rfl (lv_at hl 2 rfl) ?_
          refine lv_bipush (v := 8) hx hb dX6_mayBe_41 (by decide) ?_
          refine lv_isub hx hb dX6_mayBe_43 ?_
          refine lv_icmp_ne (tgt := 51) hx hb dX6_mayBe_44 (by decide) (fun c4 => ?_) (fun c4 => ?_)
          · replace hf := o_f hf c4
            refine lv_iconst (v := 0) hx hb dX6_mayBe_51 (by decide) ?_
            obtain ⟨rfl, rfl⟩ := Prod.mk.inj (Option.some.inj hf)
            exact jq_zret hX hJ.2.2 (by decide) dX6_mayBe_52 ⟨rfl, rfl, rfl, hJ.1, hJ.2.1⟩
          · replace hf := o_t hf c4
            refine lv_iconst (v := 1) hx hb dX6_mayBe_47 (by decide) ?_
            refine lv_goto (tgt := 52) hx hb dX6_mayBe_48 (by decide) ?_
            obtain ⟨rfl, rfl⟩ := Prod.mk.inj (Option.some.inj hf)
            exact jq_zret hX hJ.2.2 (by decide) dX6_mayBe_52 ⟨rfl, rfl, rfl, hJ.1, hJ.2.1⟩
    · replace hf := o_t hf (qc_eq.mp c2)
      refine lv_iconst (v := 1) hx hb dX6_mayBe_15 (by decide) ?_
      obtain ⟨rfl, rfl⟩ := Prod.mk.inj (Option.some.inj hf)
      exact jq_zret hX hJ.2.2 (by decide) dX6_mayBe_16 ⟨rfl, rfl, rfl, hJ.1, hJ.2.1⟩
theorem dX9_of_0 : decode cX9_of 0 = .ok (.iconst 4, 1) := by decide +kernel
theorem dX9_of_1 : decode cX9_of 1 = .ok (.newarray .int, 2) := by decide +kernel
theorem dX9_of_3 : decode cX9_of 3 = .ok (.dup, 1) := by decide +kernel
theorem dX9_of_4 : decode cX9_of 4 = .ok (.iconst 0, 1) := by decide +kernel
theorem dX9_of_5 : decode cX9_of 5 = .ok (.iload_n 2, 1) := by decide +kernel
theorem dX9_of_6 : decode cX9_of 6 = .ok (.iastore, 1) := by decide +kernel
theorem dX9_of_7 : decode cX9_of 7 = .ok (.dup, 1) := by decide +kernel
theorem dX9_of_8 : decode cX9_of 8 = .ok (.iconst 1, 1) := by decide +kernel
theorem dX9_of_9 : decode cX9_of 9 = .ok (.iload_n 3, 1) := by decide +kernel
theorem dX9_of_10 : decode cX9_of 10 = .ok (.iastore, 1) := by decide +kernel
theorem dX9_of_11 : decode cX9_of 11 = .ok (.dup, 1) := by decide +kernel
theorem dX9_of_12 : decode cX9_of 12 = .ok (.iconst 2, 1) := by decide +kernel
theorem dX9_of_13 : decode cX9_of 13 = .ok (.iload 4, 2) := by decide +kernel
theorem dX9_of_15 : decode cX9_of 15 = .ok (.iastore, 1) := by decide +kernel
theorem dX9_of_16 : decode cX9_of 16 = .ok (.dup, 1) := by decide +kernel
theorem dX9_of_17 : decode cX9_of 17 = .ok (.iconst 3, 1) := by decide +kernel
theorem dX9_of_18 : decode cX9_of 18 = .ok (.iconst 0, 1) := by decide +kernel
theorem dX9_of_19 : decode cX9_of 19 = .ok (.iastore, 1) := by decide +kernel
theorem dX9_of_20 : decode cX9_of 20 = .ok (.astore 5, 2) := by decide +kernel
theorem dX9_of_22 : decode cX9_of 22 = .ok (.new 10, 3) := by decide +kernel
theorem dX9_of_25 : decode cX9_of 25 = .ok (.dup, 1) := by decide +kernel
theorem dX9_of_26 : decode cX9_of 26 = .ok (.iload_n 0, 1) := by decide +kernel
theorem dX9_of_27 : decode cX9_of 27 = .ok (.iload_n 1, 1) := by decide +kernel
theorem dX9_of_28 : decode cX9_of 28 = .ok (.aload 5, 2) := by decide +kernel
theorem dX9_of_30 : decode cX9_of 30 = .ok (.invokespecial 22, 3) := by decide +kernel
theorem dX9_of_33 : decode cX9_of 33 = .ok (.areturn, 1) := by decide +kernel
theorem hy_X9_of : yX9_of.cls ≠ "java/lang/invoke/MethodHandle" ∧ yX9_of.cls ≠ "java/lang/invoke/VarHandle" ∧ (parseMethodDescriptor yX9_of.desc).map (fun d => d.parameters.length) = some 5 := ⟨by decide, by decide, by decide +kernel⟩
def f_X9_of (p1 : Int32) (p2 : Int32) (p3 : Int32) (p4 : Int32) (p5 : Int32) (S : wS) : Option ((Option Nat) × wS) :=
  o_newA 21 4 S fun a1 S1 =>
  o_wI a1 0 p3 S1 fun S2 =>
  o_wI a1 1 p4 S2 fun S3 =>
  o_wI a1 2 p5 S3 fun S4 =>
  o_wI a1 3 0 S4 fun S5 =>
  o_new 8 3 S5 fun a2 S6 =>
  o_call (f_X9_init a2 p1 p2 a1 S6) fun _ S7 =>
  some ((some a2), S7)
set_option maxHeartbeats 4000000 in
set_option maxRecDepth 100000 in
theorem c_X9_of {l : Launch} {D : va_G} {Y : Nat → ClassId} {aR : Nat → Nat} {A : Nat → Prop} {p1 : Int32} {p2 : Int32} {p3 : Int32} {p4 : Int32} {p5 : Int32} {S S' : wS} {r : Option Nat} (hf : f_X9_of p1 p2 p3 p4 p5 S = some (r, S')) : jq_S l D Y aR A yX9_of cX9_of 6 (some (.object "ScoreHandles$Type")) 2 35 [.int p1, .int p2, .int p3, .int p4, .int p5] S (some (va_rf r)) S' := by
  unfold f_X9_of at hf
  refine jq_enterS (by decide) (Nat.le_of_ble_eq_true rfl) fun p e s m args below meth c ls H locs hX hJ hl => ?_
  have hl : lv_has ls 6 [(0, .int p1), (1, .int p2), (2, .int p3), (3, .int p4), (4, .int p5)] := hl
  have hx := hX.1
  have hb := hX.2.1
  have hm := hX.2.2.1
  have ho := hX.2.2.2.1
  have ht := hX.2.2.2.2.1
  have hn := hX.2.2.2.2.2.1.2.1
  refine lv_iconst (v := 4) hx hb dX9_of_0 (by decide) ?_
  replace hf := o_newA_e hf
  obtain ⟨hk1, a1, S1, ha1, hS1, hf⟩ := hf
  refine na_I hX hJ hk1 ha1 hS1 dX9_of_1 (fun H hJ' => ?_)
  clear hJ
  have hJ := hJ'
  clear hJ'
  refine lv_dup hx hb dX9_of_3 rfl ?_
  refine lv_iconst (v := 0) hx hb dX9_of_4 (by decide) ?_
  refine lv_iload_n hx hb dX9_of_5 rfl (lv_at hl 2 rfl) ?_
  replace hf := o_wI_e hf
  obtain ⟨hk2, S2, hS2, hf⟩ := hf
  refine wa_I hX hJ hk2 hS2 dX9_of_6 (fun H locs hJ' => ?_)
  clear hJ
  have hJ := hJ'
  clear hJ'
  refine lv_dup hx hb dX9_of_7 rfl ?_
  refine lv_iconst (v := 1) hx hb dX9_of_8 (by decide) ?_
  refine lv_iload_n hx hb dX9_of_9 rfl (lv_at hl 3 rfl) ?_
  replace hf := o_wI_e hf
  obtain ⟨hk3, S3, hS3, hf⟩ := hf
  refine wa_I hX hJ hk3 hS3 dX9_of_10 (fun H locs hJ' => ?_)
  clear hJ
  have hJ := hJ'
  clear hJ'
  refine lv_dup hx hb dX9_of_11 rfl ?_
  refine lv_iconst (v := 2) hx hb dX9_of_12 (by decide) ?_
  refine lv_iload hx hb dX9_of_13 (lv_at hl 4 rfl) ?_
  replace hf := o_wI_e hf
  obtain ⟨hk4, S4, hS4, hf⟩ := hf
  refine wa_I hX hJ hk4 hS4 dX9_of_15 (fun H locs hJ' => ?_)
  clear hJ
  have hJ := hJ'
  clear hJ'
  refine lv_dup hx hb dX9_of_16 rfl ?_
  refine lv_iconst (v := 3) hx hb dX9_of_17 (by decide) ?_
  refine lv_iconst (v := 0) hx hb dX9_of_18 (by decide) ?_
  replace hf := o_wI_e hf
  obtain ⟨hk5, S5, hS5, hf⟩ := hf
  refine wa_I hX hJ hk5 hS5 dX9_of_19 (fun H locs hJ' => ?_)
  clear hJ
  have hJ := hJ'
  clear hJ'
  refine lv_astore (lv' := [(5, .ref a1), (0, .int p1), (1, .int p2), (2, .int p3), (3, .int p4), (4, .int p5)]) hx hb dX9_of_20 hl (by decide) rfl (fun ls hl' => ?_)
  clear hl
  have hl := hl'
  clear hl'
  replace hf := o_new_e hf
  obtain ⟨hk6, a2, S6, ha2, hS6, hf⟩ := hf
  refine nw_X9 hX hJ hk6 ha2 hS6 qw372 dX9_of_22 (fun H hJ' => ?_)
  clear hJ
  have hJ := hJ'
  clear hJ'
  refine lv_dup hx hb dX9_of_25 rfl ?_
  refine lv_iload_n hx hb dX9_of_26 rfl (lv_at hl 1 rfl) ?_
  refine lv_iload_n hx hb dX9_of_27 rfl (lv_at hl 2 rfl) ?_
  refine lv_aload hx hb dX9_of_28 (lv_at hl 0 rfl) ?_
  replace hf := o_call_e hf
  obtain ⟨_, S7, hq1, hf⟩ := hf
  refine jq_doS hX hJ (jq_okI (As := [.int p1, .int p2, .ref a1]) (rest := [.ref a2]) hx hb hm ho ht qw373 qw106 qw107 qw6 rfl hy_X9_init rfl hl.1 (Nat.le_of_ble_eq_true rfl) dX9_of_30) (c_X9_init hq1) (Nat.le_of_ble_eq_true rfl) (Nat.le_of_ble_eq_true rfl) (fun H locs hJ' => ?_)
  clear hJ
  have hJ := hJ'
  clear hJ'
  obtain ⟨rfl, rfl⟩ := Prod.mk.inj (Option.some.inj hf)
  exact jq_aret (r := (some a2)) hX hJ.2.2 dX9_of_33 ⟨rfl, rfl, rfl, hJ.1, hJ.2.1⟩
theorem dX9_longer_0 : decode cX9_longer 0 = .ok (.iconst 4, 1) := by decide +kernel
theorem dX9_longer_1 : decode cX9_longer 1 = .ok (.newarray .int, 2) := by decide +kernel
theorem dX9_longer_3 : decode cX9_longer 3 = .ok (.astore_n 3, 1) := by decide +kernel
theorem dX9_longer_4 : decode cX9_longer 4 = .ok (.iconst 0, 1) := by decide +kernel
theorem dX9_longer_5 : decode cX9_longer 5 = .ok (.istore 4, 2) := by decide +kernel
theorem dX9_longer_7 : decode cX9_longer 7 = .ok (.iload 4, 2) := by decide +kernel
theorem dX9_longer_9 : decode cX9_longer 9 = .ok (.aload_n 3, 1) := by decide +kernel
theorem dX9_longer_10 : decode cX9_longer 10 = .ok (.arraylength, 1) := by decide +kernel
theorem dX9_longer_11 : decode cX9_longer 11 = .ok (.if_icmp .ge 46, 3) := by decide +kernel
theorem dX9_longer_57 : decode cX9_longer 57 = .ok (.new 10, 3) := by decide +kernel
theorem dX9_longer_60 : decode cX9_longer 60 = .ok (.dup, 1) := by decide +kernel
theorem dX9_longer_61 : decode cX9_longer 61 = .ok (.aload_n 0, 1) := by decide +kernel
theorem dX9_longer_62 : decode cX9_longer 62 = .ok (.getfield 9, 3) := by decide +kernel
theorem dX9_longer_65 : decode cX9_longer 65 = .ok (.aload_n 0, 1) := by decide +kernel
theorem dX9_longer_66 : decode cX9_longer 66 = .ok (.getfield 15, 3) := by decide +kernel
theorem dX9_longer_69 : decode cX9_longer 69 = .ok (.iconst 1, 1) := by decide +kernel
theorem dX9_longer_70 : decode cX9_longer 70 = .ok (.iadd, 1) := by decide +kernel
theorem dX9_longer_71 : decode cX9_longer 71 = .ok (.iconst 4, 1) := by decide +kernel
theorem dX9_longer_72 : decode cX9_longer 72 = .ok (.invokestatic 43, 3) := by decide +kernel
theorem dX9_longer_75 : decode cX9_longer 75 = .ok (.aload_n 3, 1) := by decide +kernel
theorem dX9_longer_76 : decode cX9_longer 76 = .ok (.invokespecial 22, 3) := by decide +kernel
theorem dX9_longer_79 : decode cX9_longer 79 = .ok (.areturn, 1) := by decide +kernel
theorem dX9_longer_14 : decode cX9_longer 14 = .ok (.aload_n 3, 1) := by decide +kernel
theorem dX9_longer_15 : decode cX9_longer 15 = .ok (.iload 4, 2) := by decide +kernel
theorem dX9_longer_17 : decode cX9_longer 17 = .ok (.iload 4, 2) := by decide +kernel
theorem dX9_longer_19 : decode cX9_longer 19 = .ok (.iload_n 1, 1) := by decide +kernel
theorem dX9_longer_20 : decode cX9_longer 20 = .ok (.if_icmp .ge 12, 3) := by decide +kernel
theorem dX9_longer_32 : decode cX9_longer 32 = .ok (.iload 4, 2) := by decide +kernel
theorem dX9_longer_34 : decode cX9_longer 34 = .ok (.iload_n 1, 1) := by decide +kernel
theorem dX9_longer_35 : decode cX9_longer 35 = .ok (.if_icmp .ne 7, 3) := by decide +kernel
theorem dX9_longer_42 : decode cX9_longer 42 = .ok (.aload_n 0, 1) := by decide +kernel
theorem dX9_longer_43 : decode cX9_longer 43 = .ok (.iload 4, 2) := by decide +kernel
theorem dX9_longer_45 : decode cX9_longer 45 = .ok (.iconst 1, 1) := by decide +kernel
theorem dX9_longer_46 : decode cX9_longer 46 = .ok (.isub, 1) := by decide +kernel
theorem dX9_longer_47 : decode cX9_longer 47 = .ok (.invokevirtual 35, 3) := by decide +kernel
theorem dX9_longer_50 : decode cX9_longer 50 = .ok (.iastore, 1) := by decide +kernel
theorem dX9_longer_51 : decode cX9_longer 51 = .ok (.iinc 4 1, 3) := by decide +kernel
theorem dX9_longer_54 : decode cX9_longer 54 = .ok (.goto (-47), 3) := by decide +kernel
theorem dX9_longer_38 : decode cX9_longer 38 = .ok (.iload_n 2, 1) := by decide +kernel
theorem dX9_longer_39 : decode cX9_longer 39 = .ok (.goto 11, 3) := by decide +kernel
theorem dX9_longer_23 : decode cX9_longer 23 = .ok (.aload_n 0, 1) := by decide +kernel
theorem dX9_longer_24 : decode cX9_longer 24 = .ok (.iload 4, 2) := by decide +kernel
theorem dX9_longer_26 : decode cX9_longer 26 = .ok (.invokevirtual 35, 3) := by decide +kernel
theorem dX9_longer_29 : decode cX9_longer 29 = .ok (.goto 21, 3) := by decide +kernel
theorem hy_X9_longer : yX9_longer.cls ≠ "java/lang/invoke/MethodHandle" ∧ yX9_longer.cls ≠ "java/lang/invoke/VarHandle" ∧ (parseMethodDescriptor yX9_longer.desc).map (fun d => d.parameters.length) = some 2 := ⟨by decide, by decide, by decide +kernel⟩
def f_X9_longer_b7 : Nat → Nat → Int32 → Int32 → Nat → Int32 → wS → Option ((Option Nat) × wS)
  | 0, _, _, _, _, _, _ => none
  | n + 1, l0, l1, l2, l3, l4, S => 
  o_len 21 l3 S fun x1 =>
  if x1 ≤ l4 then (
  o_new 8 3 S fun a1 S1 =>
  o_gI 8 12 l0 S1 fun x2 =>
  o_gI 8 13 l0 S1 fun x3 =>
  o_call (f_X9_init a1 x2 (if 4 < (x3 + (1 : Int32)) then 4 else (x3 + (1 : Int32))) l3 S1) fun _ S2 =>
  some ((some a1), S2)) else (
  if l1 ≤ l4 then (
  if l4 = l1 then (
  o_wI l3 l4 l2 S fun S5 =>
  o_let (l4 + 1) fun x6 =>
  f_X9_longer_b7 n l0 l1 l2 l3 x6 S5) else (
  o_ck (s_K S l0 = 8) (o_call (f_X9_kind l0 (l4 - (1 : Int32)) S) fun x4 S3 =>
  o_wI l3 l4 x4 S3 fun S4 =>
  o_let (l4 + 1) fun x5 =>
  f_X9_longer_b7 n l0 l1 l2 l3 x5 S4))) else (
  o_ck (s_K S l0 = 8) (o_call (f_X9_kind l0 l4 S) fun x7 S6 =>
  o_wI l3 l4 x7 S6 fun S7 =>
  o_let (l4 + 1) fun x8 =>
  f_X9_longer_b7 n l0 l1 l2 l3 x8 S7)))
set_option maxHeartbeats 4000000 in
set_option maxRecDepth 100000 in
theorem w_X9_longer_b7 {l : Launch} {D : va_G} {Y : Nat → ClassId} {aR : Nat → Nat} {A : Nat → Prop} {p : Program} {e : Env} {s : State} {m : MethodId} {args : Array Value} {below : List Frame} {meth : Method} {c : Code} {S0 : wS} : ∀ (n : Nat) (l0 : Nat) (l1 : Int32) (l2 : Int32) (l3 : Nat) (l4 : Int32) (S S' : wS) (r : Option Nat) (H : Heap) (locs : List Loc) (ls : Array Slot), jq_X D Y aR A p s m args meth c cX9_longer RX9 "longer" 5 (some (.object "ScoreHandles$Type")) → wJ D Y A s S0 S H locs → f_X9_longer_b7 n l0 l1 l2 l3 l4 S = some (r, S') → lv_has ls 5 [(0, .ref l0), (1, .int l1), (2, .int l2), (3, .ref l3), (4, .int l4)] → W p l e { frames := 2, cells := s_lm S0 - s_nx S0, slots := s_sm S0 - s_sl S0, locals := 35 } s m args below meth c H locs (s_nx S - s_nx S0) (s_sl S - s_sl S0) (jq_Z below A (fun v k n H => v = (some (va_rf r)) ∧ k = s_nx S' - s_nx S0 ∧ n = s_sl S' - s_sl S0 ∧ wG S0 S' ∧ wH D Y A S' H) s) (F0 m 7 ls []) := by
  intro n
  induction n with
  | zero =>
    intro l0 l1 l2 l3 l4 S S' r H locs ls hX hJ hf hl
    cases hf
  | succ n ih =>
    intro l0 l1 l2 l3 l4 S S' r H locs ls hX hJ hf hl
    rw [f_X9_longer_b7.eq_2] at hf
    have hx := hX.1
    have hb := hX.2.1
    have hm := hX.2.2.1
    have ho := hX.2.2.2.1
    have ht := hX.2.2.2.2.1
    have hn := hX.2.2.2.2.2.1.2.1
    refine lv_iload hx hb dX9_longer_7 (lv_at hl 4 rfl) ?_
    refine lv_aload_n hx hb dX9_longer_9 rfl (lv_at hl 3 rfl) ?_
    replace hf := o_len_e hf
    obtain ⟨hk1, x1, hx1, hf⟩ := hf
    refine gl_I hX hJ hk1 hx1 dX9_longer_10 ?_
    refine lv_icmp_ge (tgt := 57) hx hb dX9_longer_11 (by decide) (fun c1 => ?_) (fun c1 => ?_)
    · replace hf := o_t hf c1
      replace hf := o_new_e hf
      obtain ⟨hk2, a1, S1, ha1, hS1, hf⟩ := hf
      refine nw_X9 hX hJ hk2 ha1 hS1 qw372 dX9_longer_57 (fun H hJ' => ?_)
      clear hJ
      have hJ := hJ'
      clear hJ'
      refine lv_dup hx hb dX9_longer_60 rfl ?_
      refine lv_aload_n hx hb dX9_longer_61 rfl (lv_at hl 0 rfl) ?_
      replace hf := o_gI_e hf
      obtain ⟨hk3, x2, hx2, hf⟩ := hf
      refine gf_X9_result hX hJ hk3 hx2 qw109 dX9_longer_62 ?_
      refine lv_aload_n hx hb dX9_longer_65 rfl (lv_at hl 0 rfl) ?_
      replace hf := o_gI_e hf
      obtain ⟨hk4, x3, hx3, hf⟩ := hf
      refine gf_X9_many hX hJ hk4 hx3 qw113 dX9_longer_66 ?_
      refine lv_iconst (v := 1) hx hb dX9_longer_69 (by decide) ?_
      refine lv_iadd hx hb dX9_longer_70 ?_
      refine lv_iconst (v := 4) hx hb dX9_longer_71 (by decide) ?_
      refine va_mmin hx hb (hm.trans hl.1.symm) ho (ht _ qw379) (ht _ qw168) (ht _ qw10) (ht _ qm_min) (Nat.le_of_ble_eq_true rfl) (Nat.le_of_ble_eq_true rfl) (wJ.cl hJ) (wJ.sl hJ) dX9_longer_72 ?_
      refine lv_aload_n hx hb dX9_longer_75 rfl (lv_at hl 3 rfl) ?_
      replace hf := o_call_e hf
      obtain ⟨_, S2, hq1, hf⟩ := hf
      refine jq_doS hX hJ (jq_okI (As := [.int x2, .int (if 4 < (x3 + (1 : Int32)) then 4 else (x3 + (1 : Int32))), .ref l3]) (rest := [.ref a1]) hx hb hm ho ht qw373 qw106 qw107 qw6 rfl hy_X9_init rfl hl.1 (Nat.le_of_ble_eq_true rfl) dX9_longer_76) (c_X9_init hq1) (Nat.le_of_ble_eq_true rfl) (Nat.le_of_ble_eq_true rfl) (fun H locs hJ' => ?_)
      clear hJ
      have hJ := hJ'
      clear hJ'
      obtain ⟨rfl, rfl⟩ := Prod.mk.inj (Option.some.inj hf)
      exact jq_aret (r := (some a1)) hX hJ.2.2 dX9_longer_79 ⟨rfl, rfl, rfl, hJ.1, hJ.2.1⟩
    · replace hf := o_f hf c1
      refine lv_aload_n hx hb dX9_longer_14 rfl (lv_at hl 3 rfl) ?_
      refine lv_iload hx hb dX9_longer_15 (lv_at hl 4 rfl) ?_
      refine lv_iload hx hb dX9_longer_17 (lv_at hl 4 rfl) ?_
      refine lv_iload_n hx hb dX9_longer_19 rfl (lv_at hl 1 rfl) ?_
      refine lv_icmp_ge (tgt := 32) hx hb dX9_longer_20 (by decide) (fun c2 => ?_) (fun c2 => ?_)
      · replace hf := o_t hf c2
        refine lv_iload hx hb dX9_longer_32 (lv_at hl 4 rfl) ?_
        refine lv_iload_n hx hb dX9_longer_34 rfl (lv_at hl 1 rfl) ?_
        refine lv_icmp_ne (tgt := 42) hx hb dX9_longer_35 (by decide) (fun c3 => ?_) (fun c3 => ?_)
        · replace hf := o_f hf c3
          refine lv_aload_n hx hb dX9_longer_42 rfl (lv_at hl 0 rfl) ?_
          refine lv_iload hx hb dX9_longer_43 (lv_at hl 4 rfl) ?_
          refine lv_iconst (v := 1) hx hb dX9_longer_45 (by decide) ?_
          refine lv_isub hx hb dX9_longer_46 ?_
          replace hf := o_ck_e hf
          obtain ⟨hk5, hf⟩ := hf
          replace hf := o_call_e hf
          obtain ⟨x4, S3, hq2, hf⟩ := hf
          refine jq_doS hX hJ (jq_okV (As := [.int (l4 - (1 : Int32))]) (rest := [.int l4, .ref l3]) hx hb hm ho ht (wJ.recv hX hJ (by rw [hk5]; decide) (wE_X9 hk5) rfl) qw378 qw351 qs19 qw352 qw6 hy_X9_kind rfl hl.1 (Nat.le_of_ble_eq_true rfl) dX9_longer_47) (c_X9_kind hq2) (Nat.le_of_ble_eq_true rfl) (Nat.le_of_ble_eq_true rfl) (fun H locs hJ' => ?_)
          clear hJ
          have hJ := hJ'
          clear hJ'
          replace hf := o_wI_e hf
          obtain ⟨hk6, S4, hS4, hf⟩ := hf
          refine wa_I hX hJ hk6 hS4 dX9_longer_50 (fun H locs hJ' => ?_)
          clear hJ
          have hJ := hJ'
          clear hJ'
          replace hf := o_let_e hf
          obtain ⟨x5, hx5, hf⟩ := hf
          refine lv_iinc (v := x5) (lv' := [(4, .int x5), (0, .ref l0), (1, .int l1), (2, .int l2), (3, .ref l3)]) hx hb dX9_longer_51 hl (k := 4) rfl (by rw [← hx5]; rfl) (by decide) rfl (fun ls hl' => ?_)
          clear hl
          have hl := hl'
          clear hl'
          refine lv_goto (tgt := 7) hx hb dX9_longer_54 (by decide) ?_
          replace hl := lv_sub hl (l' := [(0, .ref l0), (1, .int l1), (2, .int l2), (3, .ref l3), (4, .int x5)]) [1, 2, 3, 4, 0] rfl
          exact ih l0 l1 l2 l3 x5 S4 S' r H locs ls hX hJ hf hl
        · replace hf := o_t hf c3
          refine lv_iload_n hx hb dX9_longer_38 rfl (lv_at hl 2 rfl) ?_
          refine lv_goto (tgt := 50) hx hb dX9_longer_39 (by decide) ?_
          replace hf := o_wI_e hf
          obtain ⟨hk7, S5, hS5, hf⟩ := hf
          refine wa_I hX hJ hk7 hS5 dX9_longer_50 (fun H locs hJ' => ?_)
          clear hJ
          have hJ := hJ'
          clear hJ'
          replace hf := o_let_e hf
          obtain ⟨x6, hx6, hf⟩ := hf
          refine lv_iinc (v := x6) (lv' := [(4, .int x6), (0, .ref l0), (1, .int l1), (2, .int l2), (3, .ref l3)]) hx hb dX9_longer_51 hl (k := 4) rfl (by rw [← hx6]; rfl) (by decide) rfl (fun ls hl' => ?_)
          clear hl
          have hl := hl'
          clear hl'
          refine lv_goto (tgt := 7) hx hb dX9_longer_54 (by decide) ?_
          replace hl := lv_sub hl (l' := [(0, .ref l0), (1, .int l1), (2, .int l2), (3, .ref l3), (4, .int x6)]) [1, 2, 3, 4, 0] rfl
          exact ih l0 l1 l2 l3 x6 S5 S' r H locs ls hX hJ hf hl
      · replace hf := o_f hf c2
        refine lv_aload_n hx hb dX9_longer_23 rfl (lv_at hl 0 rfl) ?_
        refine lv_iload hx hb dX9_longer_24 (lv_at hl 4 rfl) ?_
        replace hf := o_ck_e hf
        obtain ⟨hk8, hf⟩ := hf
        replace hf := o_call_e hf
        obtain ⟨x7, S6, hq3, hf⟩ := hf
        refine jq_doS hX hJ (jq_okV (As := [.int l4]) (rest := [.int l4, .ref l3]) hx hb hm ho ht (wJ.recv hX hJ (by rw [hk8]; decide) (wE_X9 hk8) rfl) qw378 qw351 qs19 qw352 qw6 hy_X9_kind rfl hl.1 (Nat.le_of_ble_eq_true rfl) dX9_longer_26) (c_X9_kind hq3) (Nat.le_of_ble_eq_true rfl) (Nat.le_of_ble_eq_true rfl) (fun H locs hJ' => ?_)
        clear hJ
        have hJ := hJ'
        clear hJ'
        refine lv_goto (tgt := 50) hx hb dX9_longer_29 (by decide) ?_
        replace hf := o_wI_e hf
        obtain ⟨hk9, S7, hS7, hf⟩ := hf
        refine wa_I hX hJ hk9 hS7 dX9_longer_50 (fun H locs hJ' => ?_)
        clear hJ
        have hJ := hJ'
        clear hJ'
        replace hf := o_let_e hf
        obtain ⟨x8, hx8, hf⟩ := hf
        refine lv_iinc (v := x8) (lv' := [(4, .int x8), (0, .ref l0), (1, .int l1), (2, .int l2), (3, .ref l3)]) hx hb dX9_longer_51 hl (k := 4) rfl (by rw [← hx8]; rfl) (by decide) rfl (fun ls hl' => ?_)
        clear hl
        have hl := hl'
        clear hl'
        refine lv_goto (tgt := 7) hx hb dX9_longer_54 (by decide) ?_
        replace hl := lv_sub hl (l' := [(0, .ref l0), (1, .int l1), (2, .int l2), (3, .ref l3), (4, .int x8)]) [1, 2, 3, 4, 0] rfl
        exact ih l0 l1 l2 l3 x8 S7 S' r H locs ls hX hJ hf hl
def f_X9_longer (o : Nat) (p1 : Int32) (p2 : Int32) (S : wS) : Option ((Option Nat) × wS) :=
  o_newA 21 4 S fun a1 S1 =>
  f_X9_longer_b7 12 o p1 p2 a1 0 S1
set_option maxHeartbeats 4000000 in
set_option maxRecDepth 100000 in
theorem c_X9_longer {l : Launch} {D : va_G} {Y : Nat → ClassId} {aR : Nat → Nat} {A : Nat → Prop} {o : Nat} {p1 : Int32} {p2 : Int32} {S S' : wS} {r : Option Nat} (hf : f_X9_longer o p1 p2 S = some (r, S')) : jq_S l D Y aR A yX9_longer cX9_longer 5 (some (.object "ScoreHandles$Type")) 2 35 [.ref o, .int p1, .int p2] S (some (va_rf r)) S' := by
  unfold f_X9_longer at hf
  refine jq_enterS (by decide) (Nat.le_of_ble_eq_true rfl) fun p e s m args below meth c ls H locs hX hJ hl => ?_
  have hl : lv_has ls 5 [(0, .ref o), (1, .int p1), (2, .int p2)] := hl
  have hx := hX.1
  have hb := hX.2.1
  have hm := hX.2.2.1
  have ho := hX.2.2.2.1
  have ht := hX.2.2.2.2.1
  have hn := hX.2.2.2.2.2.1.2.1
  refine lv_iconst (v := 4) hx hb dX9_longer_0 (by decide) ?_
  replace hf := o_newA_e hf
  obtain ⟨hk1, a1, S1, ha1, hS1, hf⟩ := hf
  refine na_I hX hJ hk1 ha1 hS1 dX9_longer_1 (fun H hJ' => ?_)
  clear hJ
  have hJ := hJ'
  clear hJ'
  refine lv_astore_n (lv' := [(3, .ref a1), (0, .ref o), (1, .int p1), (2, .int p2)]) hx hb dX9_longer_3 rfl hl (by decide) rfl (fun ls hl' => ?_)
  clear hl
  have hl := hl'
  clear hl'
  refine lv_iconst (v := 0) hx hb dX9_longer_4 (by decide) ?_
  refine lv_istore (lv' := [(4, .int 0), (3, .ref a1), (0, .ref o), (1, .int p1), (2, .int p2)]) hx hb dX9_longer_5 hl (by decide) rfl (fun ls hl' => ?_)
  clear hl
  have hl := hl'
  clear hl'
  replace hl := lv_sub hl (l' := [(0, .ref o), (1, .int p1), (2, .int p2), (3, .ref a1), (4, .int 0)]) [2, 3, 4, 1, 0] rfl
  exact w_X9_longer_b7 12 o p1 p2 a1 0 S1 S' r H locs ls hX hJ hf hl
theorem dX9_changed_0 : decode cX9_changed 0 = .ok (.iconst 4, 1) := by decide +kernel
theorem dX9_changed_1 : decode cX9_changed 1 = .ok (.newarray .int, 2) := by decide +kernel
theorem dX9_changed_3 : decode cX9_changed 3 = .ok (.astore_n 3, 1) := by decide +kernel
theorem dX9_changed_4 : decode cX9_changed 4 = .ok (.iconst 0, 1) := by decide +kernel
theorem dX9_changed_5 : decode cX9_changed 5 = .ok (.istore 4, 2) := by decide +kernel
theorem dX9_changed_7 : decode cX9_changed 7 = .ok (.iload 4, 2) := by decide +kernel
theorem dX9_changed_9 : decode cX9_changed 9 = .ok (.aload_n 3, 1) := by decide +kernel
theorem dX9_changed_10 : decode cX9_changed 10 = .ok (.arraylength, 1) := by decide +kernel
theorem dX9_changed_11 : decode cX9_changed 11 = .ok (.if_icmp .ge 29, 3) := by decide +kernel
theorem dX9_changed_40 : decode cX9_changed 40 = .ok (.new 10, 3) := by decide +kernel
theorem dX9_changed_43 : decode cX9_changed 43 = .ok (.dup, 1) := by decide +kernel
theorem dX9_changed_44 : decode cX9_changed 44 = .ok (.aload_n 0, 1) := by decide +kernel
theorem dX9_changed_45 : decode cX9_changed 45 = .ok (.getfield 9, 3) := by decide +kernel
theorem dX9_changed_48 : decode cX9_changed 48 = .ok (.aload_n 0, 1) := by decide +kernel
theorem dX9_changed_49 : decode cX9_changed 49 = .ok (.getfield 15, 3) := by decide +kernel
theorem dX9_changed_52 : decode cX9_changed 52 = .ok (.aload_n 3, 1) := by decide +kernel
theorem dX9_changed_53 : decode cX9_changed 53 = .ok (.invokespecial 22, 3) := by decide +kernel
theorem dX9_changed_56 : decode cX9_changed 56 = .ok (.areturn, 1) := by decide +kernel
theorem dX9_changed_14 : decode cX9_changed 14 = .ok (.aload_n 3, 1) := by decide +kernel
theorem dX9_changed_15 : decode cX9_changed 15 = .ok (.iload 4, 2) := by decide +kernel
theorem dX9_changed_17 : decode cX9_changed 17 = .ok (.iload 4, 2) := by decide +kernel
theorem dX9_changed_19 : decode cX9_changed 19 = .ok (.iload_n 1, 1) := by decide +kernel
theorem dX9_changed_20 : decode cX9_changed 20 = .ok (.if_icmp .ne 7, 3) := by decide +kernel
theorem dX9_changed_27 : decode cX9_changed 27 = .ok (.aload_n 0, 1) := by decide +kernel
theorem dX9_changed_28 : decode cX9_changed 28 = .ok (.iload 4, 2) := by decide +kernel
theorem dX9_changed_30 : decode cX9_changed 30 = .ok (.invokevirtual 35, 3) := by decide +kernel
theorem dX9_changed_33 : decode cX9_changed 33 = .ok (.iastore, 1) := by decide +kernel
theorem dX9_changed_34 : decode cX9_changed 34 = .ok (.iinc 4 1, 3) := by decide +kernel
theorem dX9_changed_37 : decode cX9_changed 37 = .ok (.goto (-30), 3) := by decide +kernel
theorem dX9_changed_23 : decode cX9_changed 23 = .ok (.iload_n 2, 1) := by decide +kernel
theorem dX9_changed_24 : decode cX9_changed 24 = .ok (.goto 9, 3) := by decide +kernel
theorem hy_X9_changed : yX9_changed.cls ≠ "java/lang/invoke/MethodHandle" ∧ yX9_changed.cls ≠ "java/lang/invoke/VarHandle" ∧ (parseMethodDescriptor yX9_changed.desc).map (fun d => d.parameters.length) = some 2 := ⟨by decide, by decide, by decide +kernel⟩
def f_X9_changed_b7 : Nat → Nat → Int32 → Int32 → Nat → Int32 → wS → Option ((Option Nat) × wS)
  | 0, _, _, _, _, _, _ => none
  | n + 1, l0, l1, l2, l3, l4, S => 
  o_len 21 l3 S fun x1 =>
  if x1 ≤ l4 then (
  o_new 8 3 S fun a1 S1 =>
  o_gI 8 12 l0 S1 fun x2 =>
  o_gI 8 13 l0 S1 fun x3 =>
  o_call (f_X9_init a1 x2 x3 l3 S1) fun _ S2 =>
  some ((some a1), S2)) else (
  if l4 = l1 then (
  o_wI l3 l4 l2 S fun S5 =>
  o_let (l4 + 1) fun x6 =>
  f_X9_changed_b7 n l0 l1 l2 l3 x6 S5) else (
  o_ck (s_K S l0 = 8) (o_call (f_X9_kind l0 l4 S) fun x4 S3 =>
  o_wI l3 l4 x4 S3 fun S4 =>
  o_let (l4 + 1) fun x5 =>
  f_X9_changed_b7 n l0 l1 l2 l3 x5 S4)))
set_option maxHeartbeats 4000000 in
set_option maxRecDepth 100000 in
theorem w_X9_changed_b7 {l : Launch} {D : va_G} {Y : Nat → ClassId} {aR : Nat → Nat} {A : Nat → Prop} {p : Program} {e : Env} {s : State} {m : MethodId} {args : Array Value} {below : List Frame} {meth : Method} {c : Code} {S0 : wS} : ∀ (n : Nat) (l0 : Nat) (l1 : Int32) (l2 : Int32) (l3 : Nat) (l4 : Int32) (S S' : wS) (r : Option Nat) (H : Heap) (locs : List Loc) (ls : Array Slot), jq_X D Y aR A p s m args meth c cX9_changed RX9 "changed" 5 (some (.object "ScoreHandles$Type")) → wJ D Y A s S0 S H locs → f_X9_changed_b7 n l0 l1 l2 l3 l4 S = some (r, S') → lv_has ls 5 [(0, .ref l0), (1, .int l1), (2, .int l2), (3, .ref l3), (4, .int l4)] → W p l e { frames := 2, cells := s_lm S0 - s_nx S0, slots := s_sm S0 - s_sl S0, locals := 35 } s m args below meth c H locs (s_nx S - s_nx S0) (s_sl S - s_sl S0) (jq_Z below A (fun v k n H => v = (some (va_rf r)) ∧ k = s_nx S' - s_nx S0 ∧ n = s_sl S' - s_sl S0 ∧ wG S0 S' ∧ wH D Y A S' H) s) (F0 m 7 ls []) := by
  intro n
  induction n with
  | zero =>
    intro l0 l1 l2 l3 l4 S S' r H locs ls hX hJ hf hl
    cases hf
  | succ n ih =>
    intro l0 l1 l2 l3 l4 S S' r H locs ls hX hJ hf hl
    rw [f_X9_changed_b7.eq_2] at hf
    have hx := hX.1
    have hb := hX.2.1
    have hm := hX.2.2.1
    have ho := hX.2.2.2.1
    have ht := hX.2.2.2.2.1
    have hn := hX.2.2.2.2.2.1.2.1
    refine lv_iload hx hb dX9_changed_7 (lv_at hl 4 rfl) ?_
    refine lv_aload_n hx hb dX9_changed_9 rfl (lv_at hl 3 rfl) ?_
    replace hf := o_len_e hf
    obtain ⟨hk1, x1, hx1, hf⟩ := hf
    refine gl_I hX hJ hk1 hx1 dX9_changed_10 ?_
    refine lv_icmp_ge (tgt := 40) hx hb dX9_changed_11 (by decide) (fun c1 => ?_) (fun c1 => ?_)
    · replace hf := o_t hf c1
      replace hf := o_new_e hf
      obtain ⟨hk2, a1, S1, ha1, hS1, hf⟩ := hf
      refine nw_X9 hX hJ hk2 ha1 hS1 qw372 dX9_changed_40 (fun H hJ' => ?_)
      clear hJ
      have hJ := hJ'
      clear hJ'
      refine lv_dup hx hb dX9_changed_43 rfl ?_
      refine lv_aload_n hx hb dX9_changed_44 rfl (lv_at hl 0 rfl) ?_
      replace hf := o_gI_e hf
      obtain ⟨hk3, x2, hx2, hf⟩ := hf
      refine gf_X9_result hX hJ hk3 hx2 qw109 dX9_changed_45 ?_
      refine lv_aload_n hx hb dX9_changed_48 rfl (lv_at hl 0 rfl) ?_
      replace hf := o_gI_e hf
      obtain ⟨hk4, x3, hx3, hf⟩ := hf
      refine gf_X9_many hX hJ hk4 hx3 qw113 dX9_changed_49 ?_
      refine lv_aload_n hx hb dX9_changed_52 rfl (lv_at hl 3 rfl) ?_
      replace hf := o_call_e hf
      obtain ⟨_, S2, hq1, hf⟩ := hf
      refine jq_doS hX hJ (jq_okI (As := [.int x2, .int x3, .ref l3]) (rest := [.ref a1]) hx hb hm ho ht qw373 qw106 qw107 qw6 rfl hy_X9_init rfl hl.1 (Nat.le_of_ble_eq_true rfl) dX9_changed_53) (c_X9_init hq1) (Nat.le_of_ble_eq_true rfl) (Nat.le_of_ble_eq_true rfl) (fun H locs hJ' => ?_)
      clear hJ
      have hJ := hJ'
      clear hJ'
      obtain ⟨rfl, rfl⟩ := Prod.mk.inj (Option.some.inj hf)
      exact jq_aret (r := (some a1)) hX hJ.2.2 dX9_changed_56 ⟨rfl, rfl, rfl, hJ.1, hJ.2.1⟩
    · replace hf := o_f hf c1
      refine lv_aload_n hx hb dX9_changed_14 rfl (lv_at hl 3 rfl) ?_
      refine lv_iload hx hb dX9_changed_15 (lv_at hl 4 rfl) ?_
      refine lv_iload hx hb dX9_changed_17 (lv_at hl 4 rfl) ?_
      refine lv_iload_n hx hb dX9_changed_19 rfl (lv_at hl 1 rfl) ?_
      refine lv_icmp_ne (tgt := 27) hx hb dX9_changed_20 (by decide) (fun c2 => ?_) (fun c2 => ?_)
      · replace hf := o_f hf c2
        refine lv_aload_n hx hb dX9_changed_27 rfl (lv_at hl 0 rfl) ?_
        refine lv_iload hx hb dX9_changed_28 (lv_at hl 4 rfl) ?_
        replace hf := o_ck_e hf
        obtain ⟨hk5, hf⟩ := hf
        replace hf := o_call_e hf
        obtain ⟨x4, S3, hq2, hf⟩ := hf
        refine jq_doS hX hJ (jq_okV (As := [.int l4]) (rest := [.int l4, .ref l3]) hx hb hm ho ht (wJ.recv hX hJ (by rw [hk5]; decide) (wE_X9 hk5) rfl) qw378 qw351 qs19 qw352 qw6 hy_X9_kind rfl hl.1 (Nat.le_of_ble_eq_true rfl) dX9_changed_30) (c_X9_kind hq2) (Nat.le_of_ble_eq_true rfl) (Nat.le_of_ble_eq_true rfl) (fun H locs hJ' => ?_)
        clear hJ
        have hJ := hJ'
        clear hJ'
        replace hf := o_wI_e hf
        obtain ⟨hk6, S4, hS4, hf⟩ := hf
        refine wa_I hX hJ hk6 hS4 dX9_changed_33 (fun H locs hJ' => ?_)
        clear hJ
        have hJ := hJ'
        clear hJ'
        replace hf := o_let_e hf
        obtain ⟨x5, hx5, hf⟩ := hf
        refine lv_iinc (v := x5) (lv' := [(4, .int x5), (0, .ref l0), (1, .int l1), (2, .int l2), (3, .ref l3)]) hx hb dX9_changed_34 hl (k := 4) rfl (by rw [← hx5]; rfl) (by decide) rfl (fun ls hl' => ?_)
        clear hl
        have hl := hl'
        clear hl'
        refine lv_goto (tgt := 7) hx hb dX9_changed_37 (by decide) ?_
        replace hl := lv_sub hl (l' := [(0, .ref l0), (1, .int l1), (2, .int l2), (3, .ref l3), (4, .int x5)]) [1, 2, 3, 4, 0] rfl
        exact ih l0 l1 l2 l3 x5 S4 S' r H locs ls hX hJ hf hl
      · replace hf := o_t hf c2
        refine lv_iload_n hx hb dX9_changed_23 rfl (lv_at hl 2 rfl) ?_
        refine lv_goto (tgt := 33) hx hb dX9_changed_24 (by decide) ?_
        replace hf := o_wI_e hf
        obtain ⟨hk7, S5, hS5, hf⟩ := hf
        refine wa_I hX hJ hk7 hS5 dX9_changed_33 (fun H locs hJ' => ?_)
        clear hJ
        have hJ := hJ'
        clear hJ'
        replace hf := o_let_e hf
        obtain ⟨x6, hx6, hf⟩ := hf
        refine lv_iinc (v := x6) (lv' := [(4, .int x6), (0, .ref l0), (1, .int l1), (2, .int l2), (3, .ref l3)]) hx hb dX9_changed_34 hl (k := 4) rfl (by rw [← hx6]; rfl) (by decide) rfl (fun ls hl' => ?_)
        clear hl
        have hl := hl'
        clear hl'
        refine lv_goto (tgt := 7) hx hb dX9_changed_37 (by decide) ?_
        replace hl := lv_sub hl (l' := [(0, .ref l0), (1, .int l1), (2, .int l2), (3, .ref l3), (4, .int x6)]) [1, 2, 3, 4, 0] rfl
        exact ih l0 l1 l2 l3 x6 S5 S' r H locs ls hX hJ hf hl
def f_X9_changed (o : Nat) (p1 : Int32) (p2 : Int32) (S : wS) : Option ((Option Nat) × wS) :=
  o_newA 21 4 S fun a1 S1 =>
  f_X9_changed_b7 12 o p1 p2 a1 0 S1
set_option maxHeartbeats 4000000 in
set_option maxRecDepth 100000 in
theorem c_X9_changed {l : Launch} {D : va_G} {Y : Nat → ClassId} {aR : Nat → Nat} {A : Nat → Prop} {o : Nat} {p1 : Int32} {p2 : Int32} {S S' : wS} {r : Option Nat} (hf : f_X9_changed o p1 p2 S = some (r, S')) : jq_S l D Y aR A yX9_changed cX9_changed 5 (some (.object "ScoreHandles$Type")) 2 35 [.ref o, .int p1, .int p2] S (some (va_rf r)) S' := by
  unfold f_X9_changed at hf
  refine jq_enterS (by decide) (Nat.le_of_ble_eq_true rfl) fun p e s m args below meth c ls H locs hX hJ hl => ?_
  have hl : lv_has ls 5 [(0, .ref o), (1, .int p1), (2, .int p2)] := hl
  have hx := hX.1
  have hb := hX.2.1
  have hm := hX.2.2.1
  have ho := hX.2.2.2.1
  have ht := hX.2.2.2.2.1
  have hn := hX.2.2.2.2.2.1.2.1
  refine lv_iconst (v := 4) hx hb dX9_changed_0 (by decide) ?_
  replace hf := o_newA_e hf
  obtain ⟨hk1, a1, S1, ha1, hS1, hf⟩ := hf
  refine na_I hX hJ hk1 ha1 hS1 dX9_changed_1 (fun H hJ' => ?_)
  clear hJ
  have hJ := hJ'
  clear hJ'
  refine lv_astore_n (lv' := [(3, .ref a1), (0, .ref o), (1, .int p1), (2, .int p2)]) hx hb dX9_changed_3 rfl hl (by decide) rfl (fun ls hl' => ?_)
  clear hl
  have hl := hl'
  clear hl'
  refine lv_iconst (v := 0) hx hb dX9_changed_4 (by decide) ?_
  refine lv_istore (lv' := [(4, .int 0), (3, .ref a1), (0, .ref o), (1, .int p1), (2, .int p2)]) hx hb dX9_changed_5 hl (by decide) rfl (fun ls hl' => ?_)
  clear hl
  have hl := hl'
  clear hl'
  replace hl := lv_sub hl (l' := [(0, .ref o), (1, .int p1), (2, .int p2), (3, .ref a1), (4, .int 0)]) [2, 3, 4, 1, 0] rfl
  exact w_X9_changed_b7 12 o p1 p2 a1 0 S1 S' r H locs ls hX hJ hf hl
theorem dX9_swapped_0 : decode cX9_swapped 0 = .ok (.aload_n 0, 1) := by decide +kernel
theorem dX9_swapped_1 : decode cX9_swapped 1 = .ok (.iload_n 1, 1) := by decide +kernel
theorem dX9_swapped_2 : decode cX9_swapped 2 = .ok (.aload_n 0, 1) := by decide +kernel
theorem dX9_swapped_3 : decode cX9_swapped 3 = .ok (.iload_n 1, 1) := by decide +kernel
theorem dX9_swapped_4 : decode cX9_swapped 4 = .ok (.iconst 1, 1) := by decide +kernel
theorem dX9_swapped_5 : decode cX9_swapped 5 = .ok (.iadd, 1) := by decide +kernel
theorem dX9_swapped_6 : decode cX9_swapped 6 = .ok (.invokevirtual 35, 3) := by decide +kernel
theorem dX9_swapped_9 : decode cX9_swapped 9 = .ok (.invokevirtual 39, 3) := by decide +kernel
theorem dX9_swapped_12 : decode cX9_swapped 12 = .ok (.iload_n 1, 1) := by decide +kernel
theorem dX9_swapped_13 : decode cX9_swapped 13 = .ok (.iconst 1, 1) := by decide +kernel
theorem dX9_swapped_14 : decode cX9_swapped 14 = .ok (.iadd, 1) := by decide +kernel
theorem dX9_swapped_15 : decode cX9_swapped 15 = .ok (.aload_n 0, 1) := by decide +kernel
theorem dX9_swapped_16 : decode cX9_swapped 16 = .ok (.iload_n 1, 1) := by decide +kernel
theorem dX9_swapped_17 : decode cX9_swapped 17 = .ok (.invokevirtual 35, 3) := by decide +kernel
theorem dX9_swapped_20 : decode cX9_swapped 20 = .ok (.invokevirtual 39, 3) := by decide +kernel
theorem dX9_swapped_23 : decode cX9_swapped 23 = .ok (.areturn, 1) := by decide +kernel
theorem hy_X9_swapped : yX9_swapped.cls ≠ "java/lang/invoke/MethodHandle" ∧ yX9_swapped.cls ≠ "java/lang/invoke/VarHandle" ∧ (parseMethodDescriptor yX9_swapped.desc).map (fun d => d.parameters.length) = some 1 := ⟨by decide, by decide, by decide +kernel⟩
def f_X9_swapped (o : Nat) (p1 : Int32) (S : wS) : Option ((Option Nat) × wS) :=
  o_ck (s_K S o = 8) (o_call (f_X9_kind o (p1 + (1 : Int32)) S) fun x1 S1 =>
  o_ck (s_K S1 o = 8) (o_call (f_X9_changed o p1 x1 S1) fun x2 S2 =>
  o_cs x2 (o_ck (s_K S2 o = 8) (o_call (f_X9_kind o p1 S2) fun x5 S5 =>
  none)) (fun a1 =>
  o_ck (s_K S2 o = 8) (o_call (f_X9_kind o p1 S2) fun x3 S3 =>
  o_ck (s_K S3 a1 = 8) (o_call (f_X9_changed a1 (p1 + (1 : Int32)) x3 S3) fun x4 S4 =>
  some (x4, S4))))))
set_option maxHeartbeats 4000000 in
set_option maxRecDepth 100000 in
theorem c_X9_swapped {l : Launch} {D : va_G} {Y : Nat → ClassId} {aR : Nat → Nat} {A : Nat → Prop} {o : Nat} {p1 : Int32} {S S' : wS} {r : Option Nat} (hf : f_X9_swapped o p1 S = some (r, S')) : jq_S l D Y aR A yX9_swapped cX9_swapped 2 (some (.object "ScoreHandles$Type")) 3 59 [.ref o, .int p1] S (some (va_rf r)) S' := by
  unfold f_X9_swapped at hf
  refine jq_enterS (by decide) (Nat.le_of_ble_eq_true rfl) fun p e s m args below meth c ls H locs hX hJ hl => ?_
  have hl : lv_has ls 2 [(0, .ref o), (1, .int p1)] := hl
  have hx := hX.1
  have hb := hX.2.1
  have hm := hX.2.2.1
  have ho := hX.2.2.2.1
  have ht := hX.2.2.2.2.1
  have hn := hX.2.2.2.2.2.1.2.1
  refine lv_aload_n hx hb dX9_swapped_0 rfl (lv_at hl 0 rfl) ?_
  refine lv_iload_n hx hb dX9_swapped_1 rfl (lv_at hl 1 rfl) ?_
  refine lv_aload_n hx hb dX9_swapped_2 rfl (lv_at hl 0 rfl) ?_
  refine lv_iload_n hx hb dX9_swapped_3 rfl (lv_at hl 1 rfl) ?_
  refine lv_iconst (v := 1) hx hb dX9_swapped_4 (by decide) ?_
  refine lv_iadd hx hb dX9_swapped_5 ?_
  replace hf := o_ck_e hf
  obtain ⟨hk1, hf⟩ := hf
  replace hf := o_call_e hf
  obtain ⟨x1, S1, hq1, hf⟩ := hf
  refine jq_doS hX hJ (jq_okV (As := [.int (p1 + (1 : Int32))]) (rest := [.int p1, .ref o]) hx hb hm ho ht (wJ.recv hX hJ (by rw [hk1]; decide) (wE_X9 hk1) rfl) qw378 qw351 qs19 qw352 qw6 hy_X9_kind rfl hl.1 (Nat.le_of_ble_eq_true rfl) dX9_swapped_6) (c_X9_kind hq1) (Nat.le_of_ble_eq_true rfl) (Nat.le_of_ble_eq_true rfl) (fun H locs hJ' => ?_)
  clear hJ
  have hJ := hJ'
  clear hJ'
  replace hf := o_ck_e hf
  obtain ⟨hk2, hf⟩ := hf
  replace hf := o_call_e hf
  obtain ⟨x2, S2, hq2, hf⟩ := hf
  refine jq_doS hX hJ (jq_okV (As := [.int p1, .int x1]) (rest := []) hx hb hm ho ht (wJ.recv hX hJ (by rw [hk2]; decide) (wE_X9 hk2) rfl) qw384 qw386 qs24 qw387 qw6 hy_X9_changed rfl hl.1 (Nat.le_of_ble_eq_true rfl) dX9_swapped_9) (c_X9_changed hq2) (Nat.le_of_ble_eq_true rfl) (Nat.le_of_ble_eq_true rfl) (fun H locs hJ' => ?_)
  clear hJ
  have hJ := hJ'
  clear hJ'
  refine lv_iload_n hx hb dX9_swapped_12 rfl (lv_at hl 1 rfl) ?_
  refine lv_iconst (v := 1) hx hb dX9_swapped_13 (by decide) ?_
  refine lv_iadd hx hb dX9_swapped_14 ?_
  refine lv_aload_n hx hb dX9_swapped_15 rfl (lv_at hl 0 rfl) ?_
  refine lv_iload_n hx hb dX9_swapped_16 rfl (lv_at hl 1 rfl) ?_
  replace hf := o_cs_e hf
  rcases hf with ⟨hr1, hf⟩ | ⟨a1, hr1, hf⟩
  · subst hr1
    replace hf := o_ck_e hf
    obtain ⟨hk5, hf⟩ := hf
    replace hf := o_call_e hf
    obtain ⟨x5, S5, hq5, hf⟩ := hf
    refine jq_doS hX hJ (jq_okV (As := [.int p1]) (rest := [.int (p1 + (1 : Int32)), .null]) hx hb hm ho ht (wJ.recv hX hJ (by rw [hk5]; decide) (wE_X9 hk5) rfl) qw378 qw351 qs19 qw352 qw6 hy_X9_kind rfl hl.1 (Nat.le_of_ble_eq_true rfl) dX9_swapped_17) (c_X9_kind hq5) (Nat.le_of_ble_eq_true rfl) (Nat.le_of_ble_eq_true rfl) (fun H locs hJ' => ?_)
    clear hJ
    have hJ := hJ'
    clear hJ'
    cases hf
  · subst hr1
    replace hf := o_ck_e hf
    obtain ⟨hk3, hf⟩ := hf
    replace hf := o_call_e hf
    obtain ⟨x3, S3, hq3, hf⟩ := hf
    refine jq_doS hX hJ (jq_okV (As := [.int p1]) (rest := [.int (p1 + (1 : Int32)), .ref a1]) hx hb hm ho ht (wJ.recv hX hJ (by rw [hk3]; decide) (wE_X9 hk3) rfl) qw378 qw351 qs19 qw352 qw6 hy_X9_kind rfl hl.1 (Nat.le_of_ble_eq_true rfl) dX9_swapped_17) (c_X9_kind hq3) (Nat.le_of_ble_eq_true rfl) (Nat.le_of_ble_eq_true rfl) (fun H locs hJ' => ?_)
    clear hJ
    have hJ := hJ'
    clear hJ'
    replace hf := o_ck_e hf
    obtain ⟨hk4, hf⟩ := hf
    replace hf := o_call_e hf
    obtain ⟨x4, S4, hq4, hf⟩ := hf
    refine jq_doS hX hJ (jq_okV (As := [.int (p1 + (1 : Int32)), .int x3]) (rest := []) hx hb hm ho ht (wJ.recv hX hJ (by rw [hk4]; decide) (wE_X9 hk4) rfl) qw384 qw386 qs24 qw387 qw6 hy_X9_changed rfl hl.1 (Nat.le_of_ble_eq_true rfl) dX9_swapped_20) (c_X9_changed hq4) (Nat.le_of_ble_eq_true rfl) (Nat.le_of_ble_eq_true rfl) (fun H locs hJ' => ?_)
    clear hJ
    have hJ := hJ'
    clear hJ'
    obtain ⟨rfl, rfl⟩ := Prod.mk.inj (Option.some.inj hf)
    exact jq_aret hX hJ.2.2 dX9_swapped_23 ⟨rfl, rfl, rfl, hJ.1, hJ.2.1⟩
theorem dX9_withoutFirst_0 : decode cX9_withoutFirst 0 = .ok (.iconst 4, 1) := by decide +kernel
theorem dX9_withoutFirst_1 : decode cX9_withoutFirst 1 = .ok (.newarray .int, 2) := by decide +kernel
theorem dX9_withoutFirst_3 : decode cX9_withoutFirst 3 = .ok (.astore_n 1, 1) := by decide +kernel
theorem dX9_withoutFirst_4 : decode cX9_withoutFirst 4 = .ok (.iconst 0, 1) := by decide +kernel
theorem dX9_withoutFirst_5 : decode cX9_withoutFirst 5 = .ok (.istore_n 2, 1) := by decide +kernel
theorem dX9_withoutFirst_6 : decode cX9_withoutFirst 6 = .ok (.iload_n 2, 1) := by decide +kernel
theorem dX9_withoutFirst_7 : decode cX9_withoutFirst 7 = .ok (.aload_n 1, 1) := by decide +kernel
theorem dX9_withoutFirst_8 : decode cX9_withoutFirst 8 = .ok (.arraylength, 1) := by decide +kernel
theorem dX9_withoutFirst_9 : decode cX9_withoutFirst 9 = .ok (.if_icmp .ge 19, 3) := by decide +kernel
theorem dX9_withoutFirst_28 : decode cX9_withoutFirst 28 = .ok (.new 10, 3) := by decide +kernel
theorem dX9_withoutFirst_31 : decode cX9_withoutFirst 31 = .ok (.dup, 1) := by decide +kernel
theorem dX9_withoutFirst_32 : decode cX9_withoutFirst 32 = .ok (.aload_n 0, 1) := by decide +kernel
theorem dX9_withoutFirst_33 : decode cX9_withoutFirst 33 = .ok (.getfield 9, 3) := by decide +kernel
theorem dX9_withoutFirst_36 : decode cX9_withoutFirst 36 = .ok (.aload_n 0, 1) := by decide +kernel
theorem dX9_withoutFirst_37 : decode cX9_withoutFirst 37 = .ok (.getfield 15, 3) := by decide +kernel
theorem dX9_withoutFirst_40 : decode cX9_withoutFirst 40 = .ok (.iconst 1, 1) := by decide +kernel
theorem dX9_withoutFirst_41 : decode cX9_withoutFirst 41 = .ok (.isub, 1) := by decide +kernel
theorem dX9_withoutFirst_42 : decode cX9_withoutFirst 42 = .ok (.iconst 0, 1) := by decide +kernel
theorem dX9_withoutFirst_43 : decode cX9_withoutFirst 43 = .ok (.invokestatic 49, 3) := by decide +kernel
theorem dX9_withoutFirst_46 : decode cX9_withoutFirst 46 = .ok (.aload_n 1, 1) := by decide +kernel
theorem dX9_withoutFirst_47 : decode cX9_withoutFirst 47 = .ok (.invokespecial 22, 3) := by decide +kernel
theorem dX9_withoutFirst_50 : decode cX9_withoutFirst 50 = .ok (.areturn, 1) := by decide +kernel
theorem dX9_withoutFirst_12 : decode cX9_withoutFirst 12 = .ok (.aload_n 1, 1) := by decide +kernel
theorem dX9_withoutFirst_13 : decode cX9_withoutFirst 13 = .ok (.iload_n 2, 1) := by decide +kernel
theorem dX9_withoutFirst_14 : decode cX9_withoutFirst 14 = .ok (.aload_n 0, 1) := by decide +kernel
theorem dX9_withoutFirst_15 : decode cX9_withoutFirst 15 = .ok (.iload_n 2, 1) := by decide +kernel
theorem dX9_withoutFirst_16 : decode cX9_withoutFirst 16 = .ok (.iconst 1, 1) := by decide +kernel
theorem dX9_withoutFirst_17 : decode cX9_withoutFirst 17 = .ok (.iadd, 1) := by decide +kernel
theorem dX9_withoutFirst_18 : decode cX9_withoutFirst 18 = .ok (.invokevirtual 35, 3) := by decide +kernel
theorem dX9_withoutFirst_21 : decode cX9_withoutFirst 21 = .ok (.iastore, 1) := by decide +kernel
theorem dX9_withoutFirst_22 : decode cX9_withoutFirst 22 = .ok (.iinc 2 1, 3) := by decide +kernel
theorem dX9_withoutFirst_25 : decode cX9_withoutFirst 25 = .ok (.goto (-19), 3) := by decide +kernel
theorem hy_X9_withoutFirst : yX9_withoutFirst.cls ≠ "java/lang/invoke/MethodHandle" ∧ yX9_withoutFirst.cls ≠ "java/lang/invoke/VarHandle" ∧ (parseMethodDescriptor yX9_withoutFirst.desc).map (fun d => d.parameters.length) = some 0 := ⟨by decide, by decide, by decide +kernel⟩
def f_X9_withoutFirst_b6 : Nat → Nat → Nat → Int32 → wS → Option ((Option Nat) × wS)
  | 0, _, _, _, _ => none
  | n + 1, l0, l1, l2, S => 
  o_len 21 l1 S fun x1 =>
  if x1 ≤ l2 then (
  o_new 8 3 S fun a1 S1 =>
  o_gI 8 12 l0 S1 fun x2 =>
  o_gI 8 13 l0 S1 fun x3 =>
  o_call (f_X9_init a1 x2 (if (x3 - (1 : Int32)) < 0 then 0 else (x3 - (1 : Int32))) l1 S1) fun _ S2 =>
  some ((some a1), S2)) else (
  o_ck (s_K S l0 = 8) (o_call (f_X9_kind l0 (l2 + (1 : Int32)) S) fun x4 S3 =>
  o_wI l1 l2 x4 S3 fun S4 =>
  o_let (l2 + 1) fun x5 =>
  f_X9_withoutFirst_b6 n l0 l1 x5 S4))
set_option maxHeartbeats 4000000 in
set_option maxRecDepth 100000 in
theorem w_X9_withoutFirst_b6 {l : Launch} {D : va_G} {Y : Nat → ClassId} {aR : Nat → Nat} {A : Nat → Prop} {p : Program} {e : Env} {s : State} {m : MethodId} {args : Array Value} {below : List Frame} {meth : Method} {c : Code} {S0 : wS} : ∀ (n : Nat) (l0 : Nat) (l1 : Nat) (l2 : Int32) (S S' : wS) (r : Option Nat) (H : Heap) (locs : List Loc) (ls : Array Slot), jq_X D Y aR A p s m args meth c cX9_withoutFirst RX9 "withoutFirst" 3 (some (.object "ScoreHandles$Type")) → wJ D Y A s S0 S H locs → f_X9_withoutFirst_b6 n l0 l1 l2 S = some (r, S') → lv_has ls 3 [(0, .ref l0), (1, .ref l1), (2, .int l2)] → W p l e { frames := 2, cells := s_lm S0 - s_nx S0, slots := s_sm S0 - s_sl S0, locals := 35 } s m args below meth c H locs (s_nx S - s_nx S0) (s_sl S - s_sl S0) (jq_Z below A (fun v k n H => v = (some (va_rf r)) ∧ k = s_nx S' - s_nx S0 ∧ n = s_sl S' - s_sl S0 ∧ wG S0 S' ∧ wH D Y A S' H) s) (F0 m 6 ls []) := by
  intro n
  induction n with
  | zero =>
    intro l0 l1 l2 S S' r H locs ls hX hJ hf hl
    cases hf
  | succ n ih =>
    intro l0 l1 l2 S S' r H locs ls hX hJ hf hl
    rw [f_X9_withoutFirst_b6.eq_2] at hf
    have hx := hX.1
    have hb := hX.2.1
    have hm := hX.2.2.1
    have ho := hX.2.2.2.1
    have ht := hX.2.2.2.2.1
    have hn := hX.2.2.2.2.2.1.2.1
    refine lv_iload_n hx hb dX9_withoutFirst_6 rfl (lv_at hl 2 rfl) ?_
    refine lv_aload_n hx hb dX9_withoutFirst_7 rfl (lv_at hl 1 rfl) ?_
    replace hf := o_len_e hf
    obtain ⟨hk1, x1, hx1, hf⟩ := hf
    refine gl_I hX hJ hk1 hx1 dX9_withoutFirst_8 ?_
    refine lv_icmp_ge (tgt := 28) hx hb dX9_withoutFirst_9 (by decide) (fun c1 => ?_) (fun c1 => ?_)
    · replace hf := o_t hf c1
      replace hf := o_new_e hf
      obtain ⟨hk2, a1, S1, ha1, hS1, hf⟩ := hf
      refine nw_X9 hX hJ hk2 ha1 hS1 qw372 dX9_withoutFirst_28 (fun H hJ' => ?_)
      clear hJ
      have hJ := hJ'
      clear hJ'
      refine lv_dup hx hb dX9_withoutFirst_31 rfl ?_
      refine lv_aload_n hx hb dX9_withoutFirst_32 rfl (lv_at hl 0 rfl) ?_
      replace hf := o_gI_e hf
      obtain ⟨hk3, x2, hx2, hf⟩ := hf
      refine gf_X9_result hX hJ hk3 hx2 qw109 dX9_withoutFirst_33 ?_
      refine lv_aload_n hx hb dX9_withoutFirst_36 rfl (lv_at hl 0 rfl) ?_
      replace hf := o_gI_e hf
      obtain ⟨hk4, x3, hx3, hf⟩ := hf
      refine gf_X9_many hX hJ hk4 hx3 qw113 dX9_withoutFirst_37 ?_
      refine lv_iconst (v := 1) hx hb dX9_withoutFirst_40 (by decide) ?_
      refine lv_isub hx hb dX9_withoutFirst_41 ?_
      refine lv_iconst (v := 0) hx hb dX9_withoutFirst_42 (by decide) ?_
      refine va_mmax hx hb (hm.trans hl.1.symm) ho (ht _ qw392) (ht _ qw171) (ht _ qw10) (ht _ qm_max) (Nat.le_of_ble_eq_true rfl) (Nat.le_of_ble_eq_true rfl) (wJ.cl hJ) (wJ.sl hJ) dX9_withoutFirst_43 ?_
      refine lv_aload_n hx hb dX9_withoutFirst_46 rfl (lv_at hl 1 rfl) ?_
      replace hf := o_call_e hf
      obtain ⟨_, S2, hq1, hf⟩ := hf
      refine jq_doS hX hJ (jq_okI (As := [.int x2, .int (if (x3 - (1 : Int32)) < 0 then 0 else (x3 - (1 : Int32))), .ref l1]) (rest := [.ref a1]) hx hb hm ho ht qw373 qw106 qw107 qw6 rfl hy_X9_init rfl hl.1 (Nat.le_of_ble_eq_true rfl) dX9_withoutFirst_47) (c_X9_init hq1) (Nat.le_of_ble_eq_true rfl) (Nat.le_of_ble_eq_true rfl) (fun H locs hJ' => ?_)
      clear hJ
      have hJ := hJ'
      clear hJ'
      obtain ⟨rfl, rfl⟩ := Prod.mk.inj (Option.some.inj hf)
      exact jq_aret (r := (some a1)) hX hJ.2.2 dX9_withoutFirst_50 ⟨rfl, rfl, rfl, hJ.1, hJ.2.1⟩
    · replace hf := o_f hf c1
      refine lv_aload_n hx hb dX9_withoutFirst_12 rfl (lv_at hl 1 rfl) ?_
      refine lv_iload_n hx hb dX9_withoutFirst_13 rfl (lv_at hl 2 rfl) ?_
      refine lv_aload_n hx hb dX9_withoutFirst_14 rfl (lv_at hl 0 rfl) ?_
      refine lv_iload_n hx hb dX9_withoutFirst_15 rfl (lv_at hl 2 rfl) ?_
      refine lv_iconst (v := 1) hx hb dX9_withoutFirst_16 (by decide) ?_
      refine lv_iadd hx hb dX9_withoutFirst_17 ?_
      replace hf := o_ck_e hf
      obtain ⟨hk5, hf⟩ := hf
      replace hf := o_call_e hf
      obtain ⟨x4, S3, hq2, hf⟩ := hf
      refine jq_doS hX hJ (jq_okV (As := [.int (l2 + (1 : Int32))]) (rest := [.int l2, .ref l1]) hx hb hm ho ht (wJ.recv hX hJ (by rw [hk5]; decide) (wE_X9 hk5) rfl) qw378 qw351 qs19 qw352 qw6 hy_X9_kind rfl hl.1 (Nat.le_of_ble_eq_true rfl) dX9_withoutFirst_18) (c_X9_kind hq2) (Nat.le_of_ble_eq_true rfl) (Nat.le_of_ble_eq_true rfl) (fun H locs hJ' => ?_)
      clear hJ
      have hJ := hJ'
      clear hJ'
      replace hf := o_wI_e hf
      obtain ⟨hk6, S4, hS4, hf⟩ := hf
      refine wa_I hX hJ hk6 hS4 dX9_withoutFirst_21 (fun H locs hJ' => ?_)
      clear hJ
      have hJ := hJ'
      clear hJ'
      replace hf := o_let_e hf
      obtain ⟨x5, hx5, hf⟩ := hf
      refine lv_iinc (v := x5) (lv' := [(2, .int x5), (0, .ref l0), (1, .ref l1)]) hx hb dX9_withoutFirst_22 hl (k := 2) rfl (by rw [← hx5]; rfl) (by decide) rfl (fun ls hl' => ?_)
      clear hl
      have hl := hl'
      clear hl'
      refine lv_goto (tgt := 6) hx hb dX9_withoutFirst_25 (by decide) ?_
      replace hl := lv_sub hl (l' := [(0, .ref l0), (1, .ref l1), (2, .int x5)]) [1, 2, 0] rfl
      exact ih l0 l1 x5 S4 S' r H locs ls hX hJ hf hl
def f_X9_withoutFirst (o : Nat) (S : wS) : Option ((Option Nat) × wS) :=
  o_newA 21 4 S fun a1 S1 =>
  f_X9_withoutFirst_b6 12 o a1 0 S1
set_option maxHeartbeats 4000000 in
set_option maxRecDepth 100000 in
theorem c_X9_withoutFirst {l : Launch} {D : va_G} {Y : Nat → ClassId} {aR : Nat → Nat} {A : Nat → Prop} {o : Nat} {S S' : wS} {r : Option Nat} (hf : f_X9_withoutFirst o S = some (r, S')) : jq_S l D Y aR A yX9_withoutFirst cX9_withoutFirst 3 (some (.object "ScoreHandles$Type")) 2 35 [.ref o] S (some (va_rf r)) S' := by
  unfold f_X9_withoutFirst at hf
  refine jq_enterS (by decide) (Nat.le_of_ble_eq_true rfl) fun p e s m args below meth c ls H locs hX hJ hl => ?_
  have hl : lv_has ls 3 [(0, .ref o)] := hl
  have hx := hX.1
  have hb := hX.2.1
  have hm := hX.2.2.1
  have ho := hX.2.2.2.1
  have ht := hX.2.2.2.2.1
  have hn := hX.2.2.2.2.2.1.2.1
  refine lv_iconst (v := 4) hx hb dX9_withoutFirst_0 (by decide) ?_
  replace hf := o_newA_e hf
  obtain ⟨hk1, a1, S1, ha1, hS1, hf⟩ := hf
  refine na_I hX hJ hk1 ha1 hS1 dX9_withoutFirst_1 (fun H hJ' => ?_)
  clear hJ
  have hJ := hJ'
  clear hJ'
  refine lv_astore_n (lv' := [(1, .ref a1), (0, .ref o)]) hx hb dX9_withoutFirst_3 rfl hl (by decide) rfl (fun ls hl' => ?_)
  clear hl
  have hl := hl'
  clear hl'
  refine lv_iconst (v := 0) hx hb dX9_withoutFirst_4 (by decide) ?_
  refine lv_istore_n (lv' := [(2, .int 0), (1, .ref a1), (0, .ref o)]) hx hb dX9_withoutFirst_5 rfl hl (by decide) rfl (fun ls hl' => ?_)
  clear hl
  have hl := hl'
  clear hl'
  replace hl := lv_sub hl (l' := [(0, .ref o), (1, .ref a1), (2, .int 0)]) [2, 1, 0] rfl
  exact w_X9_withoutFirst_b6 12 o a1 0 S1 S' r H locs ls hX hJ hf hl
theorem dX9_goesTo_0 : decode cX9_goesTo 0 = .ok (.aload_n 0, 1) := by decide +kernel
theorem dX9_goesTo_1 : decode cX9_goesTo 1 = .ok (.getfield 15, 3) := by decide +kernel
theorem dX9_goesTo_4 : decode cX9_goesTo 4 = .ok (.aload_n 1, 1) := by decide +kernel
theorem dX9_goesTo_5 : decode cX9_goesTo 5 = .ok (.getfield 15, 3) := by decide +kernel
theorem dX9_goesTo_8 : decode cX9_goesTo 8 = .ok (.if_icmp .ne 17, 3) := by decide +kernel
theorem dX9_goesTo_25 : decode cX9_goesTo 25 = .ok (.iconst 0, 1) := by decide +kernel
theorem dX9_goesTo_26 : decode cX9_goesTo 26 = .ok (.ireturn, 1) := by decide +kernel
theorem dX9_goesTo_11 : decode cX9_goesTo 11 = .ok (.aload_n 1, 1) := by decide +kernel
theorem dX9_goesTo_12 : decode cX9_goesTo 12 = .ok (.getfield 9, 3) := by decide +kernel
theorem dX9_goesTo_15 : decode cX9_goesTo 15 = .ok (.aload_n 0, 1) := by decide +kernel
theorem dX9_goesTo_16 : decode cX9_goesTo 16 = .ok (.getfield 9, 3) := by decide +kernel
theorem dX9_goesTo_19 : decode cX9_goesTo 19 = .ok (.invokestatic 31, 3) := by decide +kernel
theorem dX9_goesTo_22 : decode cX9_goesTo 22 = .ok (.ifCond .ne 5, 3) := by decide +kernel
theorem dX9_goesTo_27 : decode cX9_goesTo 27 = .ok (.iconst 0, 1) := by decide +kernel
theorem dX9_goesTo_28 : decode cX9_goesTo 28 = .ok (.istore_n 2, 1) := by decide +kernel
theorem dX9_goesTo_29 : decode cX9_goesTo 29 = .ok (.iload_n 2, 1) := by decide +kernel
theorem dX9_goesTo_30 : decode cX9_goesTo 30 = .ok (.aload_n 0, 1) := by decide +kernel
theorem dX9_goesTo_31 : decode cX9_goesTo 31 = .ok (.getfield 15, 3) := by decide +kernel
theorem dX9_goesTo_34 : decode cX9_goesTo 34 = .ok (.if_icmp .ge 27, 3) := by decide +kernel
theorem dX9_goesTo_61 : decode cX9_goesTo 61 = .ok (.iconst 1, 1) := by decide +kernel
theorem dX9_goesTo_62 : decode cX9_goesTo 62 = .ok (.ireturn, 1) := by decide +kernel
theorem dX9_goesTo_37 : decode cX9_goesTo 37 = .ok (.aload_n 0, 1) := by decide +kernel
theorem dX9_goesTo_38 : decode cX9_goesTo 38 = .ok (.iload_n 2, 1) := by decide +kernel
theorem dX9_goesTo_39 : decode cX9_goesTo 39 = .ok (.invokevirtual 35, 3) := by decide +kernel
theorem dX9_goesTo_42 : decode cX9_goesTo 42 = .ok (.aload_n 1, 1) := by decide +kernel
theorem dX9_goesTo_43 : decode cX9_goesTo 43 = .ok (.iload_n 2, 1) := by decide +kernel
theorem dX9_goesTo_44 : decode cX9_goesTo 44 = .ok (.invokevirtual 35, 3) := by decide +kernel
theorem dX9_goesTo_47 : decode cX9_goesTo 47 = .ok (.invokestatic 31, 3) := by decide +kernel
theorem dX9_goesTo_50 : decode cX9_goesTo 50 = .ok (.ifCond .ne 5, 3) := by decide +kernel
theorem dX9_goesTo_55 : decode cX9_goesTo 55 = .ok (.iinc 2 1, 3) := by decide +kernel
theorem dX9_goesTo_58 : decode cX9_goesTo 58 = .ok (.goto (-29), 3) := by decide +kernel
theorem dX9_goesTo_53 : decode cX9_goesTo 53 = .ok (.iconst 0, 1) := by decide +kernel
theorem dX9_goesTo_54 : decode cX9_goesTo 54 = .ok (.ireturn, 1) := by decide +kernel
theorem hy_X9_goesTo : yX9_goesTo.cls ≠ "java/lang/invoke/MethodHandle" ∧ yX9_goesTo.cls ≠ "java/lang/invoke/VarHandle" ∧ (parseMethodDescriptor yX9_goesTo.desc).map (fun d => d.parameters.length) = some 1 := ⟨by decide, by decide, by decide +kernel⟩
def f_X9_goesTo_b29 : Nat → Nat → Nat → Int32 → wS → Option ((Int32) × wS)
  | 0, _, _, _, _ => none
  | n + 1, l0, l1, l2, S => 
  o_gI 8 13 l0 S fun x1 =>
  if x1 ≤ l2 then (
  some (1, S)) else (
  o_ck (s_K S l0 = 8) (o_call (f_X9_kind l0 l2 S) fun x2 S1 =>
  o_ck (s_K S1 l1 = 8) (o_call (f_X9_kind l1 l2 S1) fun x3 S2 =>
  o_cP (f_X2_goes x2 x3) fun x4 =>
  if x4 = 0 then (
  some (0, S2)) else (
  o_let (l2 + 1) fun x5 =>
  f_X9_goesTo_b29 n l0 l1 x5 S2))))
set_option maxHeartbeats 4000000 in
set_option maxRecDepth 100000 in
theorem w_X9_goesTo_b29 {l : Launch} {D : va_G} {Y : Nat → ClassId} {aR : Nat → Nat} {A : Nat → Prop} {p : Program} {e : Env} {s : State} {m : MethodId} {args : Array Value} {below : List Frame} {meth : Method} {c : Code} {S0 : wS} : ∀ (n : Nat) (l0 : Nat) (l1 : Nat) (l2 : Int32) (S S' : wS) (r : Int32) (H : Heap) (locs : List Loc) (ls : Array Slot), jq_X D Y aR A p s m args meth c cX9_goesTo RX9 "goesTo" 3 (some .boolean) → wJ D Y A s S0 S H locs → f_X9_goesTo_b29 n l0 l1 l2 S = some (r, S') → lv_has ls 3 [(0, .ref l0), (1, .ref l1), (2, .int l2)] → W p l e { frames := 2, cells := s_lm S0 - s_nx S0, slots := s_sm S0 - s_sl S0, locals := 41 } s m args below meth c H locs (s_nx S - s_nx S0) (s_sl S - s_sl S0) (jq_Z below A (fun v k n H => v = (some (.int r)) ∧ k = s_nx S' - s_nx S0 ∧ n = s_sl S' - s_sl S0 ∧ wG S0 S' ∧ wH D Y A S' H) s) (F0 m 29 ls []) := by
  intro n
  induction n with
  | zero =>
    intro l0 l1 l2 S S' r H locs ls hX hJ hf hl
    cases hf
  | succ n ih =>
    intro l0 l1 l2 S S' r H locs ls hX hJ hf hl
    rw [f_X9_goesTo_b29.eq_2] at hf
    have hx := hX.1
    have hb := hX.2.1
    have hm := hX.2.2.1
    have ho := hX.2.2.2.1
    have ht := hX.2.2.2.2.1
    have hn := hX.2.2.2.2.2.1.2.1
    refine lv_iload_n hx hb dX9_goesTo_29 rfl (lv_at hl 2 rfl) ?_
    refine lv_aload_n hx hb dX9_goesTo_30 rfl (lv_at hl 0 rfl) ?_
    replace hf := o_gI_e hf
    obtain ⟨hk1, x1, hx1, hf⟩ := hf
    refine gf_X9_many hX hJ hk1 hx1 qw113 dX9_goesTo_31 ?_
    refine lv_icmp_ge (tgt := 61) hx hb dX9_goesTo_34 (by decide) (fun c1 => ?_) (fun c1 => ?_)
    · replace hf := o_t hf c1
      refine lv_iconst (v := 1) hx hb dX9_goesTo_61 (by decide) ?_
      obtain ⟨rfl, rfl⟩ := Prod.mk.inj (Option.some.inj hf)
      exact jq_zret hX hJ.2.2 (by decide) dX9_goesTo_62 ⟨rfl, rfl, rfl, hJ.1, hJ.2.1⟩
    · replace hf := o_f hf c1
      refine lv_aload_n hx hb dX9_goesTo_37 rfl (lv_at hl 0 rfl) ?_
      refine lv_iload_n hx hb dX9_goesTo_38 rfl (lv_at hl 2 rfl) ?_
      replace hf := o_ck_e hf
      obtain ⟨hk2, hf⟩ := hf
      replace hf := o_call_e hf
      obtain ⟨x2, S1, hq1, hf⟩ := hf
      refine jq_doS hX hJ (jq_okV (As := [.int l2]) (rest := []) hx hb hm ho ht (wJ.recv hX hJ (by rw [hk2]; decide) (wE_X9 hk2) rfl) qw378 qw351 qs19 qw352 qw6 hy_X9_kind rfl hl.1 (Nat.le_of_ble_eq_true rfl) dX9_goesTo_39) (c_X9_kind hq1) (Nat.le_of_ble_eq_true rfl) (Nat.le_of_ble_eq_true rfl) (fun H locs hJ' => ?_)
      clear hJ
      have hJ := hJ'
      clear hJ'
      refine lv_aload_n hx hb dX9_goesTo_42 rfl (lv_at hl 1 rfl) ?_
      refine lv_iload_n hx hb dX9_goesTo_43 rfl (lv_at hl 2 rfl) ?_
      replace hf := o_ck_e hf
      obtain ⟨hk3, hf⟩ := hf
      replace hf := o_call_e hf
      obtain ⟨x3, S2, hq2, hf⟩ := hf
      refine jq_doS hX hJ (jq_okV (As := [.int l2]) (rest := [.int x2]) hx hb hm ho ht (wJ.recv hX hJ (by rw [hk3]; decide) (wE_X9 hk3) rfl) qw378 qw351 qs19 qw352 qw6 hy_X9_kind rfl hl.1 (Nat.le_of_ble_eq_true rfl) dX9_goesTo_44) (c_X9_kind hq2) (Nat.le_of_ble_eq_true rfl) (Nat.le_of_ble_eq_true rfl) (fun H locs hJ' => ?_)
      clear hJ
      have hJ := hJ'
      clear hJ'
      replace hf := o_cP_e hf
      obtain ⟨x4, hq3, hf⟩ := hf
      refine jq_doPS hX hJ (jq_okSN (As := [.int x2, .int x3]) (rest := []) hx hb hm ho ht hn qn397 qw398 qw399 qw8 hy_X2_goes rfl hl.1 (Nat.le_of_ble_eq_true rfl) dX9_goesTo_47) (c_X2_goes hq3) (Nat.le_of_ble_eq_true rfl) (Nat.le_of_ble_eq_true rfl) (fun locs hJ' => ?_)
      clear hJ
      have hJ := hJ'
      clear hJ'
      refine lv_if_ne (tgt := 55) hx hb dX9_goesTo_50 (by decide) (fun c2 => ?_) (fun c2 => ?_)
      · replace hf := o_f hf c2
        replace hf := o_let_e hf
        obtain ⟨x5, hx5, hf⟩ := hf
        refine lv_iinc (v := x5) (lv' := [(2, .int x5), (0, .ref l0), (1, .ref l1)]) hx hb dX9_goesTo_55 hl (k := 2) rfl (by rw [← hx5]; rfl) (by decide) rfl (fun ls hl' => ?_)
        clear hl
        have hl := hl'
        clear hl'
        refine lv_goto (tgt := 29) hx hb dX9_goesTo_58 (by decide) ?_
        replace hl := lv_sub hl (l' := [(0, .ref l0), (1, .ref l1), (2, .int x5)]) [1, 2, 0] rfl
        exact ih l0 l1 x5 S2 S' r H locs ls hX hJ hf hl
      · replace hf := o_t hf c2
        refine lv_iconst (v := 0) hx hb dX9_goesTo_53 (by decide) ?_
        obtain ⟨rfl, rfl⟩ := Prod.mk.inj (Option.some.inj hf)
        exact jq_zret hX hJ.2.2 (by decide) dX9_goesTo_54 ⟨rfl, rfl, rfl, hJ.1, hJ.2.1⟩
def f_X9_goesTo (o : Nat) (p1 : Nat) (S : wS) : Option ((Int32) × wS) :=
  o_gI 8 13 o S fun x1 =>
  o_gI 8 13 p1 S fun x2 =>
  if x1 = x2 then (
  o_gI 8 12 p1 S fun x3 =>
  o_gI 8 12 o S fun x4 =>
  o_cP (f_X2_goes x3 x4) fun x5 =>
  if x5 = 0 then (
  some (0, S)) else (
  f_X9_goesTo_b29 12 o p1 0 S)) else (
  some (0, S))
set_option maxHeartbeats 4000000 in
set_option maxRecDepth 100000 in
theorem c_X9_goesTo {l : Launch} {D : va_G} {Y : Nat → ClassId} {aR : Nat → Nat} {A : Nat → Prop} {o : Nat} {p1 : Nat} {S S' : wS} {r : Int32} (hf : f_X9_goesTo o p1 S = some (r, S')) : jq_S l D Y aR A yX9_goesTo cX9_goesTo 3 (some .boolean) 2 41 [.ref o, .ref p1] S (some (.int r)) S' := by
  unfold f_X9_goesTo at hf
  refine jq_enterS (by decide) (Nat.le_of_ble_eq_true rfl) fun p e s m args below meth c ls H locs hX hJ hl => ?_
  have hl : lv_has ls 3 [(0, .ref o), (1, .ref p1)] := hl
  have hx := hX.1
  have hb := hX.2.1
  have hm := hX.2.2.1
  have ho := hX.2.2.2.1
  have ht := hX.2.2.2.2.1
  have hn := hX.2.2.2.2.2.1.2.1
  refine lv_aload_n hx hb dX9_goesTo_0 rfl (lv_at hl 0 rfl) ?_
  replace hf := o_gI_e hf
  obtain ⟨hk1, x1, hx1, hf⟩ := hf
  refine gf_X9_many hX hJ hk1 hx1 qw113 dX9_goesTo_1 ?_
  refine lv_aload_n hx hb dX9_goesTo_4 rfl (lv_at hl 1 rfl) ?_
  replace hf := o_gI_e hf
  obtain ⟨hk2, x2, hx2, hf⟩ := hf
  refine gf_X9_many hX hJ hk2 hx2 qw113 dX9_goesTo_5 ?_
  refine lv_icmp_ne (tgt := 25) hx hb dX9_goesTo_8 (by decide) (fun c1 => ?_) (fun c1 => ?_)
  · replace hf := o_f hf c1
    refine lv_iconst (v := 0) hx hb dX9_goesTo_25 (by decide) ?_
    obtain ⟨rfl, rfl⟩ := Prod.mk.inj (Option.some.inj hf)
    exact jq_zret hX hJ.2.2 (by decide) dX9_goesTo_26 ⟨rfl, rfl, rfl, hJ.1, hJ.2.1⟩
  · replace hf := o_t hf c1
    refine lv_aload_n hx hb dX9_goesTo_11 rfl (lv_at hl 1 rfl) ?_
    replace hf := o_gI_e hf
    obtain ⟨hk3, x3, hx3, hf⟩ := hf
    refine gf_X9_result hX hJ hk3 hx3 qw109 dX9_goesTo_12 ?_
    refine lv_aload_n hx hb dX9_goesTo_15 rfl (lv_at hl 0 rfl) ?_
    replace hf := o_gI_e hf
    obtain ⟨hk4, x4, hx4, hf⟩ := hf
    refine gf_X9_result hX hJ hk4 hx4 qw109 dX9_goesTo_16 ?_
    replace hf := o_cP_e hf
    obtain ⟨x5, hq1, hf⟩ := hf
    refine jq_doPS hX hJ (jq_okSN (As := [.int x3, .int x4]) (rest := []) hx hb hm ho ht hn qn397 qw398 qw399 qw8 hy_X2_goes rfl hl.1 (Nat.le_of_ble_eq_true rfl) dX9_goesTo_19) (c_X2_goes hq1) (Nat.le_of_ble_eq_true rfl) (Nat.le_of_ble_eq_true rfl) (fun locs hJ' => ?_)
    clear hJ
    have hJ := hJ'
    clear hJ'
    refine lv_if_ne (tgt := 27) hx hb dX9_goesTo_22 (by decide) (fun c2 => ?_) (fun c2 => ?_)
    · replace hf := o_f hf c2
      refine lv_iconst (v := 0) hx hb dX9_goesTo_27 (by decide) ?_
      refine lv_istore_n (lv' := [(2, .int 0), (0, .ref o), (1, .ref p1)]) hx hb dX9_goesTo_28 rfl hl (by decide) rfl (fun ls hl' => ?_)
      clear hl
      have hl := hl'
      clear hl'
      replace hl := lv_sub hl (l' := [(0, .ref o), (1, .ref p1), (2, .int 0)]) [1, 2, 0] rfl
      exact w_X9_goesTo_b29 12 o p1 0 S S' r H locs ls hX hJ hf hl
    · replace hf := o_t hf c2
      refine lv_iconst (v := 0) hx hb dX9_goesTo_25 (by decide) ?_
      obtain ⟨rfl, rfl⟩ := Prod.mk.inj (Option.some.inj hf)
      exact jq_zret hX hJ.2.2 (by decide) dX9_goesTo_26 ⟨rfl, rfl, rfl, hJ.1, hJ.2.1⟩
theorem dX9_isFirstOf_0 : decode cX9_isFirstOf 0 = .ok (.iload_n 2, 1) := by decide +kernel
theorem dX9_isFirstOf_1 : decode cX9_isFirstOf 1 = .ok (.istore 4, 2) := by decide +kernel
theorem dX9_isFirstOf_3 : decode cX9_isFirstOf 3 = .ok (.iload 4, 2) := by decide +kernel
theorem dX9_isFirstOf_5 : decode cX9_isFirstOf 5 = .ok (.aload_n 0, 1) := by decide +kernel
theorem dX9_isFirstOf_6 : decode cX9_isFirstOf 6 = .ok (.getfield 15, 3) := by decide +kernel
theorem dX9_isFirstOf_9 : decode cX9_isFirstOf 9 = .ok (.if_icmp .ge 30, 3) := by decide +kernel
theorem dX9_isFirstOf_39 : decode cX9_isFirstOf 39 = .ok (.iconst 1, 1) := by decide +kernel
theorem dX9_isFirstOf_40 : decode cX9_isFirstOf 40 = .ok (.ireturn, 1) := by decide +kernel
theorem dX9_isFirstOf_12 : decode cX9_isFirstOf 12 = .ok (.aload_n 0, 1) := by decide +kernel
theorem dX9_isFirstOf_13 : decode cX9_isFirstOf 13 = .ok (.iload 4, 2) := by decide +kernel
theorem dX9_isFirstOf_15 : decode cX9_isFirstOf 15 = .ok (.invokevirtual 35, 3) := by decide +kernel
theorem dX9_isFirstOf_18 : decode cX9_isFirstOf 18 = .ok (.aload_n 1, 1) := by decide +kernel
theorem dX9_isFirstOf_19 : decode cX9_isFirstOf 19 = .ok (.iload_n 3, 1) := by decide +kernel
theorem dX9_isFirstOf_20 : decode cX9_isFirstOf 20 = .ok (.iload 4, 2) := by decide +kernel
theorem dX9_isFirstOf_22 : decode cX9_isFirstOf 22 = .ok (.iadd, 1) := by decide +kernel
theorem dX9_isFirstOf_23 : decode cX9_isFirstOf 23 = .ok (.iload_n 2, 1) := by decide +kernel
theorem dX9_isFirstOf_24 : decode cX9_isFirstOf 24 = .ok (.isub, 1) := by decide +kernel
theorem dX9_isFirstOf_25 : decode cX9_isFirstOf 25 = .ok (.invokevirtual 35, 3) := by decide +kernel
theorem dX9_isFirstOf_28 : decode cX9_isFirstOf 28 = .ok (.if_icmp .eq 5, 3) := by decide +kernel
theorem dX9_isFirstOf_33 : decode cX9_isFirstOf 33 = .ok (.iinc 4 1, 3) := by decide +kernel
theorem dX9_isFirstOf_36 : decode cX9_isFirstOf 36 = .ok (.goto (-33), 3) := by decide +kernel
theorem dX9_isFirstOf_31 : decode cX9_isFirstOf 31 = .ok (.iconst 0, 1) := by decide +kernel
theorem dX9_isFirstOf_32 : decode cX9_isFirstOf 32 = .ok (.ireturn, 1) := by decide +kernel
theorem hy_X9_isFirstOf : yX9_isFirstOf.cls ≠ "java/lang/invoke/MethodHandle" ∧ yX9_isFirstOf.cls ≠ "java/lang/invoke/VarHandle" ∧ (parseMethodDescriptor yX9_isFirstOf.desc).map (fun d => d.parameters.length) = some 3 := ⟨by decide, by decide, by decide +kernel⟩
def f_X9_isFirstOf_b3 : Nat → Nat → Nat → Int32 → Int32 → Int32 → wS → Option ((Int32) × wS)
  | 0, _, _, _, _, _, _ => none
  | n + 1, l0, l1, l2, l3, l4, S => 
  o_gI 8 13 l0 S fun x1 =>
  if x1 ≤ l4 then (
  some (1, S)) else (
  o_ck (s_K S l0 = 8) (o_call (f_X9_kind l0 l4 S) fun x2 S1 =>
  o_ck (s_K S1 l1 = 8) (o_call (f_X9_kind l1 ((l3 + l4) - l2) S1) fun x3 S2 =>
  if x2 = x3 then (
  o_let (l4 + 1) fun x4 =>
  f_X9_isFirstOf_b3 n l0 l1 l2 l3 x4 S2) else (
  some (0, S2)))))
set_option maxHeartbeats 4000000 in
set_option maxRecDepth 100000 in
theorem w_X9_isFirstOf_b3 {l : Launch} {D : va_G} {Y : Nat → ClassId} {aR : Nat → Nat} {A : Nat → Prop} {p : Program} {e : Env} {s : State} {m : MethodId} {args : Array Value} {below : List Frame} {meth : Method} {c : Code} {S0 : wS} : ∀ (n : Nat) (l0 : Nat) (l1 : Nat) (l2 : Int32) (l3 : Int32) (l4 : Int32) (S S' : wS) (r : Int32) (H : Heap) (locs : List Loc) (ls : Array Slot), jq_X D Y aR A p s m args meth c cX9_isFirstOf RX9 "isFirstOf" 5 (some .boolean) → wJ D Y A s S0 S H locs → f_X9_isFirstOf_b3 n l0 l1 l2 l3 l4 S = some (r, S') → lv_has ls 5 [(0, .ref l0), (1, .ref l1), (2, .int l2), (3, .int l3), (4, .int l4)] → W p l e { frames := 1, cells := s_lm S0 - s_nx S0, slots := s_sm S0 - s_sl S0, locals := 22 } s m args below meth c H locs (s_nx S - s_nx S0) (s_sl S - s_sl S0) (jq_Z below A (fun v k n H => v = (some (.int r)) ∧ k = s_nx S' - s_nx S0 ∧ n = s_sl S' - s_sl S0 ∧ wG S0 S' ∧ wH D Y A S' H) s) (F0 m 3 ls []) := by
  intro n
  induction n with
  | zero =>
    intro l0 l1 l2 l3 l4 S S' r H locs ls hX hJ hf hl
    cases hf
  | succ n ih =>
    intro l0 l1 l2 l3 l4 S S' r H locs ls hX hJ hf hl
    rw [f_X9_isFirstOf_b3.eq_2] at hf
    have hx := hX.1
    have hb := hX.2.1
    have hm := hX.2.2.1
    have ho := hX.2.2.2.1
    have ht := hX.2.2.2.2.1
    have hn := hX.2.2.2.2.2.1.2.1
    refine lv_iload hx hb dX9_isFirstOf_3 (lv_at hl 4 rfl) ?_
    refine lv_aload_n hx hb dX9_isFirstOf_5 rfl (lv_at hl 0 rfl) ?_
    replace hf := o_gI_e hf
    obtain ⟨hk1, x1, hx1, hf⟩ := hf
    refine gf_X9_many hX hJ hk1 hx1 qw113 dX9_isFirstOf_6 ?_
    refine lv_icmp_ge (tgt := 39) hx hb dX9_isFirstOf_9 (by decide) (fun c1 => ?_) (fun c1 => ?_)
    · replace hf := o_t hf c1
      refine lv_iconst (v := 1) hx hb dX9_isFirstOf_39 (by decide) ?_
      obtain ⟨rfl, rfl⟩ := Prod.mk.inj (Option.some.inj hf)
      exact jq_zret hX hJ.2.2 (by decide) dX9_isFirstOf_40 ⟨rfl, rfl, rfl, hJ.1, hJ.2.1⟩
    · replace hf := o_f hf c1
      refine lv_aload_n hx hb dX9_isFirstOf_12 rfl (lv_at hl 0 rfl) ?_
      refine lv_iload hx hb dX9_isFirstOf_13 (lv_at hl 4 rfl) ?_
      replace hf := o_ck_e hf
      obtain ⟨hk2, hf⟩ := hf
      replace hf := o_call_e hf
      obtain ⟨x2, S1, hq1, hf⟩ := hf
      refine jq_doS hX hJ (jq_okV (As := [.int l4]) (rest := []) hx hb hm ho ht (wJ.recv hX hJ (by rw [hk2]; decide) (wE_X9 hk2) rfl) qw378 qw351 qs19 qw352 qw6 hy_X9_kind rfl hl.1 (Nat.le_of_ble_eq_true rfl) dX9_isFirstOf_15) (c_X9_kind hq1) (Nat.le_of_ble_eq_true rfl) (Nat.le_of_ble_eq_true rfl) (fun H locs hJ' => ?_)
      clear hJ
      have hJ := hJ'
      clear hJ'
      refine lv_aload_n hx hb dX9_isFirstOf_18 rfl (lv_at hl 1 rfl) ?_
      refine lv_iload_n hx hb dX9_isFirstOf_19 rfl (lv_at hl 3 rfl) ?_
      refine lv_iload hx hb dX9_isFirstOf_20 (lv_at hl 4 rfl) ?_
      refine lv_iadd hx hb dX9_isFirstOf_22 ?_
      refine lv_iload_n hx hb dX9_isFirstOf_23 rfl (lv_at hl 2 rfl) ?_
      refine lv_isub hx hb dX9_isFirstOf_24 ?_
      replace hf := o_ck_e hf
      obtain ⟨hk3, hf⟩ := hf
      replace hf := o_call_e hf
      obtain ⟨x3, S2, hq2, hf⟩ := hf
      refine jq_doS hX hJ (jq_okV (As := [.int ((l3 + l4) - l2)]) (rest := [.int x2]) hx hb hm ho ht (wJ.recv hX hJ (by rw [hk3]; decide) (wE_X9 hk3) rfl) qw378 qw351 qs19 qw352 qw6 hy_X9_kind rfl hl.1 (Nat.le_of_ble_eq_true rfl) dX9_isFirstOf_25) (c_X9_kind hq2) (Nat.le_of_ble_eq_true rfl) (Nat.le_of_ble_eq_true rfl) (fun H locs hJ' => ?_)
      clear hJ
      have hJ := hJ'
      clear hJ'
      refine lv_icmp_eq (tgt := 33) hx hb dX9_isFirstOf_28 (by decide) (fun c2 => ?_) (fun c2 => ?_)
      · replace hf := o_t hf c2
        replace hf := o_let_e hf
        obtain ⟨x4, hx4, hf⟩ := hf
        refine lv_iinc (v := x4) (lv' := [(4, .int x4), (0, .ref l0), (1, .ref l1), (2, .int l2), (3, .int l3)]) hx hb dX9_isFirstOf_33 hl (k := 4) rfl (by rw [← hx4]; rfl) (by decide) rfl (fun ls hl' => ?_)
        clear hl
        have hl := hl'
        clear hl'
        refine lv_goto (tgt := 3) hx hb dX9_isFirstOf_36 (by decide) ?_
        replace hl := lv_sub hl (l' := [(0, .ref l0), (1, .ref l1), (2, .int l2), (3, .int l3), (4, .int x4)]) [1, 2, 3, 4, 0] rfl
        exact ih l0 l1 l2 l3 x4 S2 S' r H locs ls hX hJ hf hl
      · replace hf := o_f hf c2
        refine lv_iconst (v := 0) hx hb dX9_isFirstOf_31 (by decide) ?_
        obtain ⟨rfl, rfl⟩ := Prod.mk.inj (Option.some.inj hf)
        exact jq_zret hX hJ.2.2 (by decide) dX9_isFirstOf_32 ⟨rfl, rfl, rfl, hJ.1, hJ.2.1⟩
def f_X9_isFirstOf (o : Nat) (p1 : Nat) (p2 : Int32) (p3 : Int32) (S : wS) : Option ((Int32) × wS) :=
  f_X9_isFirstOf_b3 12 o p1 p2 p3 p2 S
set_option maxHeartbeats 4000000 in
set_option maxRecDepth 100000 in
theorem c_X9_isFirstOf {l : Launch} {D : va_G} {Y : Nat → ClassId} {aR : Nat → Nat} {A : Nat → Prop} {o : Nat} {p1 : Nat} {p2 : Int32} {p3 : Int32} {S S' : wS} {r : Int32} (hf : f_X9_isFirstOf o p1 p2 p3 S = some (r, S')) : jq_S l D Y aR A yX9_isFirstOf cX9_isFirstOf 5 (some .boolean) 1 22 [.ref o, .ref p1, .int p2, .int p3] S (some (.int r)) S' := by
  unfold f_X9_isFirstOf at hf
  refine jq_enterS (by decide) (Nat.le_of_ble_eq_true rfl) fun p e s m args below meth c ls H locs hX hJ hl => ?_
  have hl : lv_has ls 5 [(0, .ref o), (1, .ref p1), (2, .int p2), (3, .int p3)] := hl
  have hx := hX.1
  have hb := hX.2.1
  have hm := hX.2.2.1
  have ho := hX.2.2.2.1
  have ht := hX.2.2.2.2.1
  have hn := hX.2.2.2.2.2.1.2.1
  refine lv_iload_n hx hb dX9_isFirstOf_0 rfl (lv_at hl 2 rfl) ?_
  refine lv_istore (lv' := [(4, .int p2), (0, .ref o), (1, .ref p1), (2, .int p2), (3, .int p3)]) hx hb dX9_isFirstOf_1 hl (by decide) rfl (fun ls hl' => ?_)
  clear hl
  have hl := hl'
  clear hl'
  replace hl := lv_sub hl (l' := [(0, .ref o), (1, .ref p1), (2, .int p2), (3, .int p3), (4, .int p2)]) [1, 2, 3, 4, 0] rfl
  exact w_X9_isFirstOf_b3 12 o p1 p2 p3 p2 S S' r H locs ls hX hJ hf hl
theorem dX9_giving_0 : decode cX9_giving 0 = .ok (.new 10, 3) := by decide +kernel
theorem dX9_giving_3 : decode cX9_giving 3 = .ok (.dup, 1) := by decide +kernel
theorem dX9_giving_4 : decode cX9_giving 4 = .ok (.iload_n 1, 1) := by decide +kernel
theorem dX9_giving_5 : decode cX9_giving 5 = .ok (.aload_n 0, 1) := by decide +kernel
theorem dX9_giving_6 : decode cX9_giving 6 = .ok (.getfield 15, 3) := by decide +kernel
theorem dX9_giving_9 : decode cX9_giving 9 = .ok (.aload_n 0, 1) := by decide +kernel
theorem dX9_giving_10 : decode cX9_giving 10 = .ok (.getfield 18, 3) := by decide +kernel
theorem dX9_giving_13 : decode cX9_giving 13 = .ok (.invokespecial 22, 3) := by decide +kernel
theorem dX9_giving_16 : decode cX9_giving 16 = .ok (.areturn, 1) := by decide +kernel
theorem hy_X9_giving : yX9_giving.cls ≠ "java/lang/invoke/MethodHandle" ∧ yX9_giving.cls ≠ "java/lang/invoke/VarHandle" ∧ (parseMethodDescriptor yX9_giving.desc).map (fun d => d.parameters.length) = some 1 := ⟨by decide, by decide, by decide +kernel⟩
def f_X9_giving (o : Nat) (p1 : Int32) (S : wS) : Option ((Option Nat) × wS) :=
  o_new 8 3 S fun a1 S1 =>
  o_gI 8 13 o S1 fun x1 =>
  o_gR 8 9 o S1 fun x2 =>
  o_cs x2 (none) (fun a2 =>
  o_call (f_X9_init a1 p1 x1 a2 S1) fun _ S2 =>
  some ((some a1), S2))
set_option maxHeartbeats 4000000 in
set_option maxRecDepth 100000 in
theorem c_X9_giving {l : Launch} {D : va_G} {Y : Nat → ClassId} {aR : Nat → Nat} {A : Nat → Prop} {o : Nat} {p1 : Int32} {S S' : wS} {r : Option Nat} (hf : f_X9_giving o p1 S = some (r, S')) : jq_S l D Y aR A yX9_giving cX9_giving 2 (some (.object "ScoreHandles$Type")) 2 35 [.ref o, .int p1] S (some (va_rf r)) S' := by
  unfold f_X9_giving at hf
  refine jq_enterS (by decide) (Nat.le_of_ble_eq_true rfl) fun p e s m args below meth c ls H locs hX hJ hl => ?_
  have hl : lv_has ls 2 [(0, .ref o), (1, .int p1)] := hl
  have hx := hX.1
  have hb := hX.2.1
  have hm := hX.2.2.1
  have ho := hX.2.2.2.1
  have ht := hX.2.2.2.2.1
  have hn := hX.2.2.2.2.2.1.2.1
  replace hf := o_new_e hf
  obtain ⟨hk1, a1, S1, ha1, hS1, hf⟩ := hf
  refine nw_X9 hX hJ hk1 ha1 hS1 qw372 dX9_giving_0 (fun H hJ' => ?_)
  clear hJ
  have hJ := hJ'
  clear hJ'
  refine lv_dup hx hb dX9_giving_3 rfl ?_
  refine lv_iload_n hx hb dX9_giving_4 rfl (lv_at hl 1 rfl) ?_
  refine lv_aload_n hx hb dX9_giving_5 rfl (lv_at hl 0 rfl) ?_
  replace hf := o_gI_e hf
  obtain ⟨hk2, x1, hx1, hf⟩ := hf
  refine gf_X9_many hX hJ hk2 hx1 qw113 dX9_giving_6 ?_
  refine lv_aload_n hx hb dX9_giving_9 rfl (lv_at hl 0 rfl) ?_
  replace hf := o_gR_e hf
  obtain ⟨hk3, x2, hx2, hf⟩ := hf
  refine gf_X9_kinds hX hJ hk3 hx2 qw117 dX9_giving_10 ?_
  replace hf := o_cs_e hf
  rcases hf with ⟨hr1, hf⟩ | ⟨a2, hr1, hf⟩
  · subst hr1
    cases hf
  · subst hr1
    replace hf := o_call_e hf
    obtain ⟨_, S2, hq1, hf⟩ := hf
    refine jq_doS hX hJ (jq_okI (As := [.int p1, .int x1, .ref a2]) (rest := [.ref a1]) hx hb hm ho ht qw373 qw106 qw107 qw6 rfl hy_X9_init rfl hl.1 (Nat.le_of_ble_eq_true rfl) dX9_giving_13) (c_X9_init hq1) (Nat.le_of_ble_eq_true rfl) (Nat.le_of_ble_eq_true rfl) (fun H locs hJ' => ?_)
    clear hJ
    have hJ := hJ'
    clear hJ'
    obtain ⟨rfl, rfl⟩ := Prod.mk.inj (Option.some.inj hf)
    exact jq_aret (r := (some a1)) hX hJ.2.2 dX9_giving_16 ⟨rfl, rfl, rfl, hJ.1, hJ.2.1⟩
theorem dX9_isSame_0 : decode cX9_isSame 0 = .ok (.aload_n 0, 1) := by decide +kernel
theorem dX9_isSame_1 : decode cX9_isSame 1 = .ok (.getfield 9, 3) := by decide +kernel
theorem dX9_isSame_4 : decode cX9_isSame 4 = .ok (.aload_n 1, 1) := by decide +kernel
theorem dX9_isSame_5 : decode cX9_isSame 5 = .ok (.getfield 9, 3) := by decide +kernel
theorem dX9_isSame_8 : decode cX9_isSame 8 = .ok (.if_icmp .ne 28, 3) := by decide +kernel
theorem dX9_isSame_36 : decode cX9_isSame 36 = .ok (.iconst 0, 1) := by decide +kernel
theorem dX9_isSame_37 : decode cX9_isSame 37 = .ok (.ireturn, 1) := by decide +kernel
theorem dX9_isSame_11 : decode cX9_isSame 11 = .ok (.aload_n 0, 1) := by decide +kernel
theorem dX9_isSame_12 : decode cX9_isSame 12 = .ok (.getfield 15, 3) := by decide +kernel
theorem dX9_isSame_15 : decode cX9_isSame 15 = .ok (.aload_n 1, 1) := by decide +kernel
theorem dX9_isSame_16 : decode cX9_isSame 16 = .ok (.getfield 15, 3) := by decide +kernel
theorem dX9_isSame_19 : decode cX9_isSame 19 = .ok (.if_icmp .ne 17, 3) := by decide +kernel
theorem dX9_isSame_22 : decode cX9_isSame 22 = .ok (.aload_n 0, 1) := by decide +kernel
theorem dX9_isSame_23 : decode cX9_isSame 23 = .ok (.aload_n 1, 1) := by decide +kernel
theorem dX9_isSame_24 : decode cX9_isSame 24 = .ok (.iconst 0, 1) := by decide +kernel
theorem dX9_isSame_25 : decode cX9_isSame 25 = .ok (.iconst 0, 1) := by decide +kernel
theorem dX9_isSame_26 : decode cX9_isSame 26 = .ok (.invokevirtual 27, 3) := by decide +kernel
theorem dX9_isSame_29 : decode cX9_isSame 29 = .ok (.ifCond .eq 7, 3) := by decide +kernel
theorem dX9_isSame_32 : decode cX9_isSame 32 = .ok (.iconst 1, 1) := by decide +kernel
theorem dX9_isSame_33 : decode cX9_isSame 33 = .ok (.goto 4, 3) := by decide +kernel
theorem hy_X9_isSame : yX9_isSame.cls ≠ "java/lang/invoke/MethodHandle" ∧ yX9_isSame.cls ≠ "java/lang/invoke/VarHandle" ∧ (parseMethodDescriptor yX9_isSame.desc).map (fun d => d.parameters.length) = some 1 := ⟨by decide, by decide, by decide +kernel⟩
def f_X9_isSame (o : Nat) (p1 : Nat) (S : wS) : Option ((Int32) × wS) :=
  o_gI 8 12 o S fun x1 =>
  o_gI 8 12 p1 S fun x2 =>
  if x1 = x2 then (
  o_gI 8 13 o S fun x3 =>
  o_gI 8 13 p1 S fun x4 =>
  if x3 = x4 then (
  o_ck (s_K S o = 8) (o_call (f_X9_isFirstOf o p1 0 0 S) fun x5 S1 =>
  if x5 = 0 then (
  some (0, S1)) else (
  some (1, S1)))) else (
  some (0, S))) else (
  some (0, S))
set_option maxHeartbeats 4000000 in
set_option maxRecDepth 100000 in
theorem c_X9_isSame {l : Launch} {D : va_G} {Y : Nat → ClassId} {aR : Nat → Nat} {A : Nat → Prop} {o : Nat} {p1 : Nat} {S S' : wS} {r : Int32} (hf : f_X9_isSame o p1 S = some (r, S')) : jq_S l D Y aR A yX9_isSame cX9_isSame 2 (some .boolean) 2 46 [.ref o, .ref p1] S (some (.int r)) S' := by
  unfold f_X9_isSame at hf
  refine jq_enterS (by decide) (Nat.le_of_ble_eq_true rfl) fun p e s m args below meth c ls H locs hX hJ hl => ?_
  have hl : lv_has ls 2 [(0, .ref o), (1, .ref p1)] := hl
  have hx := hX.1
  have hb := hX.2.1
  have hm := hX.2.2.1
  have ho := hX.2.2.2.1
  have ht := hX.2.2.2.2.1
  have hn := hX.2.2.2.2.2.1.2.1
  refine lv_aload_n hx hb dX9_isSame_0 rfl (lv_at hl 0 rfl) ?_
  replace hf := o_gI_e hf
  obtain ⟨hk1, x1, hx1, hf⟩ := hf
  refine gf_X9_result hX hJ hk1 hx1 qw109 dX9_isSame_1 ?_
  refine lv_aload_n hx hb dX9_isSame_4 rfl (lv_at hl 1 rfl) ?_
  replace hf := o_gI_e hf
  obtain ⟨hk2, x2, hx2, hf⟩ := hf
  refine gf_X9_result hX hJ hk2 hx2 qw109 dX9_isSame_5 ?_
  refine lv_icmp_ne (tgt := 36) hx hb dX9_isSame_8 (by decide) (fun c1 => ?_) (fun c1 => ?_)
  · replace hf := o_f hf c1
    refine lv_iconst (v := 0) hx hb dX9_isSame_36 (by decide) ?_
    obtain ⟨rfl, rfl⟩ := Prod.mk.inj (Option.some.inj hf)
    exact jq_zret hX hJ.2.2 (by decide) dX9_isSame_37 ⟨rfl, rfl, rfl, hJ.1, hJ.2.1⟩
  · replace hf := o_t hf c1
    refine lv_aload_n hx hb dX9_isSame_11 rfl (lv_at hl 0 rfl) ?_
    replace hf := o_gI_e hf
    obtain ⟨hk3, x3, hx3, hf⟩ := hf
    refine gf_X9_many hX hJ hk3 hx3 qw113 dX9_isSame_12 ?_
    refine lv_aload_n hx hb dX9_isSame_15 rfl (lv_at hl 1 rfl) ?_
    replace hf := o_gI_e hf
    obtain ⟨hk4, x4, hx4, hf⟩ := hf
    refine gf_X9_many hX hJ hk4 hx4 qw113 dX9_isSame_16 ?_
    refine lv_icmp_ne (tgt := 36) hx hb dX9_isSame_19 (by decide) (fun c2 => ?_) (fun c2 => ?_)
    · replace hf := o_f hf c2
      refine lv_iconst (v := 0) hx hb dX9_isSame_36 (by decide) ?_
      obtain ⟨rfl, rfl⟩ := Prod.mk.inj (Option.some.inj hf)
      exact jq_zret hX hJ.2.2 (by decide) dX9_isSame_37 ⟨rfl, rfl, rfl, hJ.1, hJ.2.1⟩
    · replace hf := o_t hf c2
      refine lv_aload_n hx hb dX9_isSame_22 rfl (lv_at hl 0 rfl) ?_
      refine lv_aload_n hx hb dX9_isSame_23 rfl (lv_at hl 1 rfl) ?_
      refine lv_iconst (v := 0) hx hb dX9_isSame_24 (by decide) ?_
      refine lv_iconst (v := 0) hx hb dX9_isSame_25 (by decide) ?_
      replace hf := o_ck_e hf
      obtain ⟨hk5, hf⟩ := hf
      replace hf := o_call_e hf
      obtain ⟨x5, S1, hq1, hf⟩ := hf
      refine jq_doS hX hJ (jq_okV (As := [.ref p1, .int 0, .int 0]) (rest := []) hx hb hm ho ht (wJ.recv hX hJ (by rw [hk5]; decide) (wE_X9 hk5) rfl) qw430 qw414 qs28 qw415 qw6 hy_X9_isFirstOf rfl hl.1 (Nat.le_of_ble_eq_true rfl) dX9_isSame_26) (c_X9_isFirstOf hq1) (Nat.le_of_ble_eq_true rfl) (Nat.le_of_ble_eq_true rfl) (fun H locs hJ' => ?_)
      clear hJ
      have hJ := hJ'
      clear hJ'
      refine lv_if_eq (tgt := 36) hx hb dX9_isSame_29 (by decide) (fun c3 => ?_) (fun c3 => ?_)
      · replace hf := o_t hf c3
        refine lv_iconst (v := 0) hx hb dX9_isSame_36 (by decide) ?_
        obtain ⟨rfl, rfl⟩ := Prod.mk.inj (Option.some.inj hf)
        exact jq_zret hX hJ.2.2 (by decide) dX9_isSame_37 ⟨rfl, rfl, rfl, hJ.1, hJ.2.1⟩
      · replace hf := o_f hf c3
        refine lv_iconst (v := 1) hx hb dX9_isSame_32 (by decide) ?_
        refine lv_goto (tgt := 37) hx hb dX9_isSame_33 (by decide) ?_
        obtain ⟨rfl, rfl⟩ := Prod.mk.inj (Option.some.inj hf)
        exact jq_zret hX hJ.2.2 (by decide) dX9_isSame_37 ⟨rfl, rfl, rfl, hJ.1, hJ.2.1⟩
theorem dX0_settle_0 : decode cX0_settle 0 = .ok (.aload_n 0, 1) := by decide +kernel
theorem dX0_settle_1 : decode cX0_settle 1 = .ok (.aload_n 1, 1) := by decide +kernel
theorem dX0_settle_2 : decode cX0_settle 2 = .ok (.putfield 39, 3) := by decide +kernel
theorem dX0_settle_5 : decode cX0_settle 5 = .ok (.aload_n 0, 1) := by decide +kernel
theorem dX0_settle_6 : decode cX0_settle 6 = .ok (.lload_n 2, 1) := by decide +kernel
theorem dX0_settle_7 : decode cX0_settle 7 = .ok (.putfield 32, 3) := by decide +kernel
theorem dX0_settle_10 : decode cX0_settle 10 = .ok (.return_, 1) := by decide +kernel
theorem hy_X0_settle : yX0_settle.cls ≠ "java/lang/invoke/MethodHandle" ∧ yX0_settle.cls ≠ "java/lang/invoke/VarHandle" ∧ (parseMethodDescriptor yX0_settle.desc).map (fun d => d.parameters.length) = some 2 := ⟨by decide, by decide, by decide +kernel⟩
def f_X0_settle (o : Nat) (p1 : Nat) (p2 : Int64) (S : wS) : Option ((Unit) × wS) :=
  o_pR 1 0 o (some p1) S fun S1 =>
  o_pL 1 0 o p2 S1 fun S2 =>
  some ((), S2)
set_option maxHeartbeats 4000000 in
set_option maxRecDepth 100000 in
theorem c_X0_settle {l : Launch} {D : va_G} {Y : Nat → ClassId} {aR : Nat → Nat} {A : Nat → Prop} {o : Nat} {p1 : Nat} {p2 : Int64} {S S' : wS} {r : Unit} (hf : f_X0_settle o p1 p2 S = some (r, S')) : jq_S l D Y aR A yX0_settle cX0_settle 4 none 0 0 [.ref o, .ref p1, .long p2] S none S' := by
  unfold f_X0_settle at hf
  refine jq_enterS (by decide) (Nat.le_of_ble_eq_true rfl) fun p e s m args below meth c ls H locs hX hJ hl => ?_
  have hl : lv_has ls 4 [(0, .ref o), (1, .ref p1), (2, .long p2)] := hl
  have hx := hX.1
  have hb := hX.2.1
  have hm := hX.2.2.1
  have ho := hX.2.2.2.1
  have ht := hX.2.2.2.2.1
  have hn := hX.2.2.2.2.2.1.2.1
  refine lv_aload_n hx hb dX0_settle_0 rfl (lv_at hl 0 rfl) ?_
  refine lv_aload_n hx hb dX0_settle_1 rfl (lv_at hl 1 rfl) ?_
  replace hf := o_pR_e hf
  obtain ⟨hk2, S1, hS1, hf⟩ := hf
  refine pf_X0_type hX hJ hk2 hS1 qw285 dX0_settle_2 (fun H locs hJ' => ?_)
  clear hJ
  have hJ := hJ'
  clear hJ'
  refine lv_aload_n hx hb dX0_settle_5 rfl (lv_at hl 0 rfl) ?_
  refine lv_lload_n hx hb dX0_settle_6 rfl (lv_at hl 2 rfl) ?_
  replace hf := o_pL_e hf
  obtain ⟨hk1, S2, hS2, hf⟩ := hf
  refine pf_X0_v hX hJ hk1 hS2 qw282 dX0_settle_7 (fun H locs hJ' => ?_)
  clear hJ
  have hJ := hJ'
  clear hJ'
  obtain ⟨rfl, rfl⟩ := Prod.mk.inj (Option.some.inj hf)
  exact jq_vret hX hJ.2.2 dX0_settle_10 ⟨rfl, rfl, rfl, hJ.1, hJ.2.1⟩
theorem dX0_isMadeAs_0 : decode cX0_isMadeAs 0 = .ok (.aload_n 0, 1) := by decide +kernel
theorem dX0_isMadeAs_1 : decode cX0_isMadeAs 1 = .ok (.getfield 9, 3) := by decide +kernel
theorem dX0_isMadeAs_4 : decode cX0_isMadeAs 4 = .ok (.aload_n 1, 1) := by decide +kernel
theorem dX0_isMadeAs_5 : decode cX0_isMadeAs 5 = .ok (.getfield 9, 3) := by decide +kernel
theorem dX0_isMadeAs_8 : decode cX0_isMadeAs 8 = .ok (.if_icmp .ne 66, 3) := by decide +kernel
theorem dX0_isMadeAs_74 : decode cX0_isMadeAs 74 = .ok (.iconst 0, 1) := by decide +kernel
theorem dX0_isMadeAs_75 : decode cX0_isMadeAs 75 = .ok (.ireturn, 1) := by decide +kernel
theorem dX0_isMadeAs_11 : decode cX0_isMadeAs 11 = .ok (.aload_n 0, 1) := by decide +kernel
theorem dX0_isMadeAs_12 : decode cX0_isMadeAs 12 = .ok (.getfield 15, 3) := by decide +kernel
theorem dX0_isMadeAs_15 : decode cX0_isMadeAs 15 = .ok (.aload_n 1, 1) := by decide +kernel
theorem dX0_isMadeAs_16 : decode cX0_isMadeAs 16 = .ok (.getfield 15, 3) := by decide +kernel
theorem dX0_isMadeAs_19 : decode cX0_isMadeAs 19 = .ok (.if_icmp .ne 55, 3) := by decide +kernel
theorem dX0_isMadeAs_22 : decode cX0_isMadeAs 22 = .ok (.aload_n 0, 1) := by decide +kernel
theorem dX0_isMadeAs_23 : decode cX0_isMadeAs 23 = .ok (.getfield 25, 3) := by decide +kernel
theorem dX0_isMadeAs_26 : decode cX0_isMadeAs 26 = .ok (.aload_n 1, 1) := by decide +kernel
theorem dX0_isMadeAs_27 : decode cX0_isMadeAs 27 = .ok (.getfield 25, 3) := by decide +kernel
theorem dX0_isMadeAs_30 : decode cX0_isMadeAs 30 = .ok (.if_icmp .ne 44, 3) := by decide +kernel
theorem dX0_isMadeAs_33 : decode cX0_isMadeAs 33 = .ok (.aload_n 0, 1) := by decide +kernel
theorem dX0_isMadeAs_34 : decode cX0_isMadeAs 34 = .ok (.getfield 29, 3) := by decide +kernel
theorem dX0_isMadeAs_37 : decode cX0_isMadeAs 37 = .ok (.aload_n 1, 1) := by decide +kernel
theorem dX0_isMadeAs_38 : decode cX0_isMadeAs 38 = .ok (.getfield 29, 3) := by decide +kernel
theorem dX0_isMadeAs_41 : decode cX0_isMadeAs 41 = .ok (.if_icmp .ne 33, 3) := by decide +kernel
theorem dX0_isMadeAs_44 : decode cX0_isMadeAs 44 = .ok (.aload_n 0, 1) := by decide +kernel
theorem dX0_isMadeAs_45 : decode cX0_isMadeAs 45 = .ok (.getfield 32, 3) := by decide +kernel
theorem dX0_isMadeAs_48 : decode cX0_isMadeAs 48 = .ok (.aload_n 1, 1) := by decide +kernel
theorem dX0_isMadeAs_49 : decode cX0_isMadeAs 49 = .ok (.getfield 32, 3) := by decide +kernel
theorem dX0_isMadeAs_52 : decode cX0_isMadeAs 52 = .ok (.lcmp, 1) := by decide +kernel
theorem dX0_isMadeAs_56 : decode cX0_isMadeAs 56 = .ok (.aload_n 0, 1) := by decide +kernel
theorem dX0_isMadeAs_57 : decode cX0_isMadeAs 57 = .ok (.getfield 39, 3) := by decide +kernel
theorem dX0_isMadeAs_60 : decode cX0_isMadeAs 60 = .ok (.aload_n 1, 1) := by decide +kernel
theorem dX0_isMadeAs_61 : decode cX0_isMadeAs 61 = .ok (.getfield 39, 3) := by decide +kernel
theorem dX0_isMadeAs_64 : decode cX0_isMadeAs 64 = .ok (.invokevirtual 43, 3) := by decide +kernel
theorem dX0_isMadeAs_67 : decode cX0_isMadeAs 67 = .ok (.ifCond .eq 7, 3) := by decide +kernel
theorem dX0_isMadeAs_70 : decode cX0_isMadeAs 70 = .ok (.iconst 1, 1) := by decide +kernel
theorem dX0_isMadeAs_71 : decode cX0_isMadeAs 71 = .ok (.goto 4, 3) := by decide +kernel
theorem dX0_isMadeAs_53 : decode cX0_isMadeAs 53 = .ok (.ifCond .ne 21, 3) := by decide +kernel
theorem hy_X0_isMadeAs : yX0_isMadeAs.cls ≠ "java/lang/invoke/MethodHandle" ∧ yX0_isMadeAs.cls ≠ "java/lang/invoke/VarHandle" ∧ (parseMethodDescriptor yX0_isMadeAs.desc).map (fun d => d.parameters.length) = some 1 := ⟨by decide, by decide, by decide +kernel⟩
def f_X0_isMadeAs (o : Nat) (p1 : Nat) (S : wS) : Option ((Int32) × wS) :=
  o_gI 1 0 o S fun x1 =>
  o_gI 1 0 p1 S fun x2 =>
  if x1 = x2 then (
  o_gI 1 1 o S fun x3 =>
  o_gI 1 1 p1 S fun x4 =>
  if x3 = x4 then (
  o_gI 1 2 o S fun x5 =>
  o_gI 1 2 p1 S fun x6 =>
  if x5 = x6 then (
  o_gI 1 3 o S fun x7 =>
  o_gI 1 3 p1 S fun x8 =>
  if x7 = x8 then (
  o_gL 1 0 o S fun x9 =>
  o_gL 1 0 p1 S fun x10 =>
  if x9 = x10 then (
  o_gR 1 0 o S fun x11 =>
  o_gR 1 0 p1 S fun x12 =>
  o_cs x12 (none) (fun a1 =>
  o_cs x11 (none) (fun a2 =>
  o_ck (s_K S a2 = 8) (o_call (f_X9_isSame a2 a1 S) fun x13 S1 =>
  if x13 = 0 then (
  some (0, S1)) else (
  some (1, S1)))))) else (
  some (0, S))) else (
  some (0, S))) else (
  some (0, S))) else (
  some (0, S))) else (
  some (0, S))
set_option maxHeartbeats 4000000 in
set_option maxRecDepth 100000 in
theorem c_X0_isMadeAs {l : Launch} {D : va_G} {Y : Nat → ClassId} {aR : Nat → Nat} {A : Nat → Prop} {o : Nat} {p1 : Nat} {S S' : wS} {r : Int32} (hf : f_X0_isMadeAs o p1 S = some (r, S')) : jq_S l D Y aR A yX0_isMadeAs cX0_isMadeAs 2 (some .boolean) 3 67 [.ref o, .ref p1] S (some (.int r)) S' := by
  unfold f_X0_isMadeAs at hf
  refine jq_enterS (by decide) (Nat.le_of_ble_eq_true rfl) fun p e s m args below meth c ls H locs hX hJ hl => ?_
  have hl : lv_has ls 2 [(0, .ref o), (1, .ref p1)] := hl
  have hx := hX.1
  have hb := hX.2.1
  have hm := hX.2.2.1
  have ho := hX.2.2.2.1
  have ht := hX.2.2.2.2.1
  have hn := hX.2.2.2.2.2.1.2.1
  refine lv_aload_n hx hb dX0_isMadeAs_0 rfl (lv_at hl 0 rfl) ?_
  replace hf := o_gI_e hf
  obtain ⟨hk1, x1, hx1, hf⟩ := hf
  refine gf_X0_sort hX hJ hk1 hx1 qw269 dX0_isMadeAs_1 ?_
  refine lv_aload_n hx hb dX0_isMadeAs_4 rfl (lv_at hl 1 rfl) ?_
  replace hf := o_gI_e hf
  obtain ⟨hk2, x2, hx2, hf⟩ := hf
  refine gf_X0_sort hX hJ hk2 hx2 qw269 dX0_isMadeAs_5 ?_
  refine lv_icmp_ne (tgt := 74) hx hb dX0_isMadeAs_8 (by decide) (fun c1 => ?_) (fun c1 => ?_)
  · replace hf := o_f hf c1
    refine lv_iconst (v := 0) hx hb dX0_isMadeAs_74 (by decide) ?_
    obtain ⟨rfl, rfl⟩ := Prod.mk.inj (Option.some.inj hf)
    exact jq_zret hX hJ.2.2 (by decide) dX0_isMadeAs_75 ⟨rfl, rfl, rfl, hJ.1, hJ.2.1⟩
  · replace hf := o_t hf c1
    refine lv_aload_n hx hb dX0_isMadeAs_11 rfl (lv_at hl 0 rfl) ?_
    replace hf := o_gI_e hf
    obtain ⟨hk3, x3, hx3, hf⟩ := hf
    refine gf_X0_a hX hJ hk3 hx3 qw273 dX0_isMadeAs_12 ?_
    refine lv_aload_n hx hb dX0_isMadeAs_15 rfl (lv_at hl 1 rfl) ?_
    replace hf := o_gI_e hf
    obtain ⟨hk4, x4, hx4, hf⟩ := hf
    refine gf_X0_a hX hJ hk4 hx4 qw273 dX0_isMadeAs_16 ?_
    refine lv_icmp_ne (tgt := 74) hx hb dX0_isMadeAs_19 (by decide) (fun c2 => ?_) (fun c2 => ?_)
    · replace hf := o_f hf c2
      refine lv_iconst (v := 0) hx hb dX0_isMadeAs_74 (by decide) ?_
      obtain ⟨rfl, rfl⟩ := Prod.mk.inj (Option.some.inj hf)
      exact jq_zret hX hJ.2.2 (by decide) dX0_isMadeAs_75 ⟨rfl, rfl, rfl, hJ.1, hJ.2.1⟩
    · replace hf := o_t hf c2
      refine lv_aload_n hx hb dX0_isMadeAs_22 rfl (lv_at hl 0 rfl) ?_
      replace hf := o_gI_e hf
      obtain ⟨hk5, x5, hx5, hf⟩ := hf
      refine gf_X0_b hX hJ hk5 hx5 qw276 dX0_isMadeAs_23 ?_
      refine lv_aload_n hx hb dX0_isMadeAs_26 rfl (lv_at hl 1 rfl) ?_
      replace hf := o_gI_e hf
      obtain ⟨hk6, x6, hx6, hf⟩ := hf
      refine gf_X0_b hX hJ hk6 hx6 qw276 dX0_isMadeAs_27 ?_
      refine lv_icmp_ne (tgt := 74) hx hb dX0_isMadeAs_30 (by decide) (fun c3 => ?_) (fun c3 => ?_)
      · replace hf := o_f hf c3
        refine lv_iconst (v := 0) hx hb dX0_isMadeAs_74 (by decide) ?_
        obtain ⟨rfl, rfl⟩ := Prod.mk.inj (Option.some.inj hf)
        exact jq_zret hX hJ.2.2 (by decide) dX0_isMadeAs_75 ⟨rfl, rfl, rfl, hJ.1, hJ.2.1⟩
      · replace hf := o_t hf c3
        refine lv_aload_n hx hb dX0_isMadeAs_33 rfl (lv_at hl 0 rfl) ?_
        replace hf := o_gI_e hf
        obtain ⟨hk7, x7, hx7, hf⟩ := hf
        refine gf_X0_c hX hJ hk7 hx7 qw279 dX0_isMadeAs_34 ?_
        refine lv_aload_n hx hb dX0_isMadeAs_37 rfl (lv_at hl 1 rfl) ?_
        replace hf := o_gI_e hf
        obtain ⟨hk8, x8, hx8, hf⟩ := hf
        refine gf_X0_c hX hJ hk8 hx8 qw279 dX0_isMadeAs_38 ?_
        refine lv_icmp_ne (tgt := 74) hx hb dX0_isMadeAs_41 (by decide) (fun c4 => ?_) (fun c4 => ?_)
        · replace hf := o_f hf c4
          refine lv_iconst (v := 0) hx hb dX0_isMadeAs_74 (by decide) ?_
          obtain ⟨rfl, rfl⟩ := Prod.mk.inj (Option.some.inj hf)
          exact jq_zret hX hJ.2.2 (by decide) dX0_isMadeAs_75 ⟨rfl, rfl, rfl, hJ.1, hJ.2.1⟩
        · replace hf := o_t hf c4
          refine lv_aload_n hx hb dX0_isMadeAs_44 rfl (lv_at hl 0 rfl) ?_
          replace hf := o_gL_e hf
          obtain ⟨hk9, x9, hx9, hf⟩ := hf
          refine gf_X0_v hX hJ hk9 hx9 qw282 dX0_isMadeAs_45 ?_
          refine lv_aload_n hx hb dX0_isMadeAs_48 rfl (lv_at hl 1 rfl) ?_
          replace hf := o_gL_e hf
          obtain ⟨hk10, x10, hx10, hf⟩ := hf
          refine gf_X0_v hX hJ hk10 hx10 qw282 dX0_isMadeAs_49 ?_
          refine W.lcmp hx hb dX0_isMadeAs_52 ?_
          refine lv_if_ne (tgt := 74) hx hb dX0_isMadeAs_53 (by decide) (fun c5 => ?_) (fun c5 => ?_)
          · replace hf := o_f hf (fun z => c5 (qc_eq.mpr z))
            refine lv_iconst (v := 0) hx hb dX0_isMadeAs_74 (by decide) ?_
            obtain ⟨rfl, rfl⟩ := Prod.mk.inj (Option.some.inj hf)
            exact jq_zret hX hJ.2.2 (by decide) dX0_isMadeAs_75 ⟨rfl, rfl, rfl, hJ.1, hJ.2.1⟩
          · replace hf := o_t hf (qc_eq.mp c5)
            refine lv_aload_n hx hb dX0_isMadeAs_56 rfl (lv_at hl 0 rfl) ?_
            replace hf := o_gR_e hf
            obtain ⟨hk11, x11, hx11, hf⟩ := hf
            refine gf_X0_type hX hJ hk11 hx11 qw285 dX0_isMadeAs_57 ?_
            refine lv_aload_n hx hb dX0_isMadeAs_60 rfl (lv_at hl 1 rfl) ?_
            replace hf := o_gR_e hf
            obtain ⟨hk12, x12, hx12, hf⟩ := hf
            refine gf_X0_type hX hJ hk12 hx12 qw285 dX0_isMadeAs_61 ?_
            replace hf := o_cs_e hf
            rcases hf with ⟨hr1, hf⟩ | ⟨a1, hr1, hf⟩
            · subst hr1
              cases hf
            · subst hr1
              replace hf := o_cs_e hf
              rcases hf with ⟨hr2, hf⟩ | ⟨a2, hr2, hf⟩
              · subst hr2
                cases hf
              · subst hr2
                replace hf := o_ck_e hf
                obtain ⟨hk13, hf⟩ := hf
                replace hf := o_call_e hf
                obtain ⟨x13, S1, hq1, hf⟩ := hf
                refine jq_doS hX hJ (jq_okVN (As := [.ref a1]) (rest := []) hx hb hm ho ht hn (wJ.recv hX hJ (by rw [hk13]; decide) (wE_X9 hk13) rfl) qn454 qw428 qs30 qw429 qw6 hy_X9_isSame rfl hl.1 (Nat.le_of_ble_eq_true rfl) dX0_isMadeAs_64) (c_X9_isSame hq1) (Nat.le_of_ble_eq_true rfl) (Nat.le_of_ble_eq_true rfl) (fun H locs hJ' => ?_)
                clear hJ
                have hJ := hJ'
                clear hJ'
                refine lv_if_eq (tgt := 74) hx hb dX0_isMadeAs_67 (by decide) (fun c6 => ?_) (fun c6 => ?_)
                · replace hf := o_t hf c6
                  refine lv_iconst (v := 0) hx hb dX0_isMadeAs_74 (by decide) ?_
                  obtain ⟨rfl, rfl⟩ := Prod.mk.inj (Option.some.inj hf)
                  exact jq_zret hX hJ.2.2 (by decide) dX0_isMadeAs_75 ⟨rfl, rfl, rfl, hJ.1, hJ.2.1⟩
                · replace hf := o_f hf c6
                  refine lv_iconst (v := 1) hx hb dX0_isMadeAs_70 (by decide) ?_
                  refine lv_goto (tgt := 75) hx hb dX0_isMadeAs_71 (by decide) ?_
                  obtain ⟨rfl, rfl⟩ := Prod.mk.inj (Option.some.inj hf)
                  exact jq_zret hX hJ.2.2 (by decide) dX0_isMadeAs_75 ⟨rfl, rfl, rfl, hJ.1, hJ.2.1⟩
theorem dX1_numberOf_0 : decode cX1_numberOf 0 = .ok (.iconst 0, 1) := by decide +kernel
theorem dX1_numberOf_1 : decode cX1_numberOf 1 = .ok (.istore_n 2, 1) := by decide +kernel
theorem dX1_numberOf_2 : decode cX1_numberOf 2 = .ok (.iload_n 2, 1) := by decide +kernel
theorem dX1_numberOf_3 : decode cX1_numberOf 3 = .ok (.aload_n 0, 1) := by decide +kernel
theorem dX1_numberOf_4 : decode cX1_numberOf 4 = .ok (.getfield 17, 3) := by decide +kernel
theorem dX1_numberOf_7 : decode cX1_numberOf 7 = .ok (.if_icmp .ge 29, 3) := by decide +kernel
theorem dX1_numberOf_36 : decode cX1_numberOf 36 = .ok (.aload_n 0, 1) := by decide +kernel
theorem dX1_numberOf_37 : decode cX1_numberOf 37 = .ok (.getfield 17, 3) := by decide +kernel
theorem dX1_numberOf_40 : decode cX1_numberOf 40 = .ok (.aload_n 0, 1) := by decide +kernel
theorem dX1_numberOf_41 : decode cX1_numberOf 41 = .ok (.getfield 11, 3) := by decide +kernel
theorem dX1_numberOf_44 : decode cX1_numberOf 44 = .ok (.arraylength, 1) := by decide +kernel
theorem dX1_numberOf_45 : decode cX1_numberOf 45 = .ok (.if_icmp .lt 6, 3) := by decide +kernel
theorem dX1_numberOf_51 : decode cX1_numberOf 51 = .ok (.aload_n 1, 1) := by decide +kernel
theorem dX1_numberOf_52 : decode cX1_numberOf 52 = .ok (.aload_n 0, 1) := by decide +kernel
theorem dX1_numberOf_53 : decode cX1_numberOf 53 = .ok (.getfield 17, 3) := by decide +kernel
theorem dX1_numberOf_56 : decode cX1_numberOf 56 = .ok (.putfield 33, 3) := by decide +kernel
theorem dX1_numberOf_59 : decode cX1_numberOf 59 = .ok (.aload_n 0, 1) := by decide +kernel
theorem dX1_numberOf_60 : decode cX1_numberOf 60 = .ok (.getfield 11, 3) := by decide +kernel
theorem dX1_numberOf_63 : decode cX1_numberOf 63 = .ok (.aload_n 0, 1) := by decide +kernel
theorem dX1_numberOf_64 : decode cX1_numberOf 64 = .ok (.getfield 17, 3) := by decide +kernel
theorem dX1_numberOf_67 : decode cX1_numberOf 67 = .ok (.aload_n 1, 1) := by decide +kernel
theorem dX1_numberOf_68 : decode cX1_numberOf 68 = .ok (.aastore, 1) := by decide +kernel
theorem dX1_numberOf_69 : decode cX1_numberOf 69 = .ok (.aload_n 0, 1) := by decide +kernel
theorem dX1_numberOf_70 : decode cX1_numberOf 70 = .ok (.dup, 1) := by decide +kernel
theorem dX1_numberOf_71 : decode cX1_numberOf 71 = .ok (.getfield 17, 3) := by decide +kernel
theorem dX1_numberOf_74 : decode cX1_numberOf 74 = .ok (.iconst 1, 1) := by decide +kernel
theorem dX1_numberOf_75 : decode cX1_numberOf 75 = .ok (.iadd, 1) := by decide +kernel
theorem dX1_numberOf_76 : decode cX1_numberOf 76 = .ok (.putfield 17, 3) := by decide +kernel
theorem dX1_numberOf_79 : decode cX1_numberOf 79 = .ok (.aload_n 1, 1) := by decide +kernel
theorem dX1_numberOf_80 : decode cX1_numberOf 80 = .ok (.getfield 33, 3) := by decide +kernel
theorem dX1_numberOf_83 : decode cX1_numberOf 83 = .ok (.ireturn, 1) := by decide +kernel
theorem dX1_numberOf_48 : decode cX1_numberOf 48 = .ok (.bipush (-2), 2) := by decide +kernel
theorem dX1_numberOf_50 : decode cX1_numberOf 50 = .ok (.ireturn, 1) := by decide +kernel
theorem dX1_numberOf_10 : decode cX1_numberOf 10 = .ok (.aload_n 0, 1) := by decide +kernel
theorem dX1_numberOf_11 : decode cX1_numberOf 11 = .ok (.iload_n 2, 1) := by decide +kernel
theorem dX1_numberOf_12 : decode cX1_numberOf 12 = .ok (.invokevirtual 21, 3) := by decide +kernel
theorem dX1_numberOf_15 : decode cX1_numberOf 15 = .ok (.astore_n 3, 1) := by decide +kernel
theorem dX1_numberOf_16 : decode cX1_numberOf 16 = .ok (.aload_n 3, 1) := by decide +kernel
theorem dX1_numberOf_17 : decode cX1_numberOf 17 = .ok (.ifnull 13, 3) := by decide +kernel
theorem dX1_numberOf_20 : decode cX1_numberOf 20 = .ok (.aload_n 3, 1) := by decide +kernel
theorem dX1_numberOf_21 : decode cX1_numberOf 21 = .ok (.aload_n 1, 1) := by decide +kernel
theorem dX1_numberOf_22 : decode cX1_numberOf 22 = .ok (.invokevirtual 29, 3) := by decide +kernel
theorem dX1_numberOf_25 : decode cX1_numberOf 25 = .ok (.ifCond .eq 5, 3) := by decide +kernel
theorem dX1_numberOf_30 : decode cX1_numberOf 30 = .ok (.iinc 2 1, 3) := by decide +kernel
theorem dX1_numberOf_33 : decode cX1_numberOf 33 = .ok (.goto (-31), 3) := by decide +kernel
theorem dX1_numberOf_28 : decode cX1_numberOf 28 = .ok (.iload_n 2, 1) := by decide +kernel
theorem dX1_numberOf_29 : decode cX1_numberOf 29 = .ok (.ireturn, 1) := by decide +kernel
theorem hy_X1_numberOf : yX1_numberOf.cls ≠ "java/lang/invoke/MethodHandle" ∧ yX1_numberOf.cls ≠ "java/lang/invoke/VarHandle" ∧ (parseMethodDescriptor yX1_numberOf.desc).map (fun d => d.parameters.length) = some 1 := ⟨by decide, by decide, by decide +kernel⟩
def f_X1_numberOf_b2 : Nat → Nat → Nat → Int32 → wS → Option ((Int32) × wS)
  | 0, _, _, _, _ => none
  | n + 1, l0, l1, l2, S => 
  o_gI 2 5 l0 S fun x1 =>
  if x1 ≤ l2 then (
  o_gI 2 5 l0 S fun x2 =>
  o_gR 2 1 l0 S fun x3 =>
  o_cs x3 (none) (fun a1 =>
  o_len 23 a1 S fun x4 =>
  if x2 < x4 then (
  o_gI 2 5 l0 S fun x5 =>
  o_pI 1 4 l1 x5 S fun S1 =>
  o_gR 2 1 l0 S1 fun x6 =>
  o_gI 2 5 l0 S1 fun x7 =>
  o_cs x6 (none) (fun a2 =>
  o_wR 23 1 a2 x7 l1 S1 fun S2 =>
  o_gI 2 5 l0 S2 fun x8 =>
  o_pI 2 5 l0 (x8 + (1 : Int32)) S2 fun S3 =>
  o_gI 1 4 l1 S3 fun x9 =>
  some (x9, S3))) else (
  some ((-2), S)))) else (
  o_ck (s_K S l0 = 2) (o_call (f_X1_at l0 l2 S) fun x10 S4 =>
  o_cs x10 (o_let (l2 + 1) fun x13 =>
  f_X1_numberOf_b2 n l0 l1 x13 S4) (fun a3 =>
  o_ck (s_K S4 a3 = 1) (o_call (f_X0_isMadeAs a3 l1 S4) fun x11 S5 =>
  if x11 = 0 then (
  o_let (l2 + 1) fun x12 =>
  f_X1_numberOf_b2 n l0 l1 x12 S5) else (
  some (l2, S5))))))
set_option maxHeartbeats 4000000 in
set_option maxRecDepth 100000 in
theorem w_X1_numberOf_b2 {l : Launch} {D : va_G} {Y : Nat → ClassId} {aR : Nat → Nat} {A : Nat → Prop} {p : Program} {e : Env} {s : State} {m : MethodId} {args : Array Value} {below : List Frame} {meth : Method} {c : Code} {S0 : wS} : ∀ (n : Nat) (l0 : Nat) (l1 : Nat) (l2 : Int32) (S S' : wS) (r : Int32) (H : Heap) (locs : List Loc) (ls : Array Slot), jq_X D Y aR A p s m args meth c cX1_numberOf RX1 "numberOf" 4 (some .int) → wJ D Y A s S0 S H locs → f_X1_numberOf_b2 n l0 l1 l2 S = some (r, S') → lv_has ls 4 [(0, .ref l0), (1, .ref l1), (2, .int l2)] → W p l e { frames := 4, cells := s_lm S0 - s_nx S0, slots := s_sm S0 - s_sl S0, locals := 88 } s m args below meth c H locs (s_nx S - s_nx S0) (s_sl S - s_sl S0) (jq_Z below A (fun v k n H => v = (some (.int r)) ∧ k = s_nx S' - s_nx S0 ∧ n = s_sl S' - s_sl S0 ∧ wG S0 S' ∧ wH D Y A S' H) s) (F0 m 2 ls []) := by
  intro n
  induction n with
  | zero =>
    intro l0 l1 l2 S S' r H locs ls hX hJ hf hl
    cases hf
  | succ n ih =>
    intro l0 l1 l2 S S' r H locs ls hX hJ hf hl
    rw [f_X1_numberOf_b2.eq_2] at hf
    have hx := hX.1
    have hb := hX.2.1
    have hm := hX.2.2.1
    have ho := hX.2.2.2.1
    have ht := hX.2.2.2.2.1
    have hn := hX.2.2.2.2.2.1.2.1
    refine lv_iload_n hx hb dX1_numberOf_2 rfl (lv_at hl 2 rfl) ?_
    refine lv_aload_n hx hb dX1_numberOf_3 rfl (lv_at hl 0 rfl) ?_
    replace hf := o_gI_e hf
    obtain ⟨hk1, x1, hx1, hf⟩ := hf
    refine gf_X1_many hX hJ hk1 hx1 qw50 dX1_numberOf_4 ?_
    refine lv_icmp_ge (tgt := 36) hx hb dX1_numberOf_7 (by decide) (fun c1 => ?_) (fun c1 => ?_)
    · replace hf := o_t hf c1
      refine lv_aload_n hx hb dX1_numberOf_36 rfl (lv_at hl 0 rfl) ?_
      replace hf := o_gI_e hf
      obtain ⟨hk2, x2, hx2, hf⟩ := hf
      refine gf_X1_many hX hJ hk2 hx2 qw50 dX1_numberOf_37 ?_
      refine lv_aload_n hx hb dX1_numberOf_40 rfl (lv_at hl 0 rfl) ?_
      replace hf := o_gR_e hf
      obtain ⟨hk3, x3, hx3, hf⟩ := hf
      refine gf_X1_kept hX hJ hk3 hx3 qw49 dX1_numberOf_41 ?_
      replace hf := o_cs_e hf
      rcases hf with ⟨hr1, hf⟩ | ⟨a1, hr1, hf⟩
      · subst hr1
        cases hf
      · subst hr1
        replace hf := o_len_e hf
        obtain ⟨hk4, x4, hx4, hf⟩ := hf
        refine gl_H hX hJ hk4 hx4 dX1_numberOf_44 ?_
        refine lv_icmp_lt (tgt := 51) hx hb dX1_numberOf_45 (by decide) (fun c2 => ?_) (fun c2 => ?_)
        · replace hf := o_t hf c2
          refine lv_aload_n hx hb dX1_numberOf_51 rfl (lv_at hl 1 rfl) ?_
          refine lv_aload_n hx hb dX1_numberOf_52 rfl (lv_at hl 0 rfl) ?_
          replace hf := o_gI_e hf
          obtain ⟨hk5, x5, hx5, hf⟩ := hf
          refine gf_X1_many hX hJ hk5 hx5 qw50 dX1_numberOf_53 ?_
          replace hf := o_pI_e hf
          obtain ⟨hk12, S1, hS1, hf⟩ := hf
          refine pn_X0_number hX hJ hk12 hS1 qn290 dX1_numberOf_56 (fun H locs hJ' => ?_)
          clear hJ
          have hJ := hJ'
          clear hJ'
          refine lv_aload_n hx hb dX1_numberOf_59 rfl (lv_at hl 0 rfl) ?_
          replace hf := o_gR_e hf
          obtain ⟨hk6, x6, hx6, hf⟩ := hf
          refine gf_X1_kept hX hJ hk6 hx6 qw49 dX1_numberOf_60 ?_
          refine lv_aload_n hx hb dX1_numberOf_63 rfl (lv_at hl 0 rfl) ?_
          replace hf := o_gI_e hf
          obtain ⟨hk7, x7, hx7, hf⟩ := hf
          refine gf_X1_many hX hJ hk7 hx7 qw50 dX1_numberOf_64 ?_
          refine lv_aload_n hx hb dX1_numberOf_67 rfl (lv_at hl 1 rfl) ?_
          replace hf := o_cs_e hf
          rcases hf with ⟨hr2, hf⟩ | ⟨a2, hr2, hf⟩
          · subst hr2
            cases hf
          · subst hr2
            replace hf := o_wR_e hf
            obtain ⟨hk8, S2, hS2, hf⟩ := hf
            refine wa_H hX hJ hk8 hS2 dX1_numberOf_68 (fun H locs hJ' => ?_)
            clear hJ
            have hJ := hJ'
            clear hJ'
            refine lv_aload_n hx hb dX1_numberOf_69 rfl (lv_at hl 0 rfl) ?_
            refine lv_dup hx hb dX1_numberOf_70 rfl ?_
            replace hf := o_gI_e hf
            obtain ⟨hk9, x8, hx8, hf⟩ := hf
            refine gf_X1_many hX hJ hk9 hx8 qw50 dX1_numberOf_71 ?_
            refine lv_iconst (v := 1) hx hb dX1_numberOf_74 (by decide) ?_
            refine lv_iadd hx hb dX1_numberOf_75 ?_
            replace hf := o_pI_e hf
            obtain ⟨hk11, S3, hS3, hf⟩ := hf
            refine pf_X1_many hX hJ hk11 hS3 qw50 dX1_numberOf_76 (fun H locs hJ' => ?_)
            clear hJ
            have hJ := hJ'
            clear hJ'
            refine lv_aload_n hx hb dX1_numberOf_79 rfl (lv_at hl 1 rfl) ?_
            replace hf := o_gI_e hf
            obtain ⟨hk10, x9, hx9, hf⟩ := hf
            refine gn_X0_number hX hJ hk10 hx9 qn290 dX1_numberOf_80 ?_
            obtain ⟨rfl, rfl⟩ := Prod.mk.inj (Option.some.inj hf)
            exact jq_iret hX hJ.2.2 dX1_numberOf_83 ⟨rfl, rfl, rfl, hJ.1, hJ.2.1⟩
        · replace hf := o_f hf c2
          refine lv_bipush (v := (-2)) hx hb dX1_numberOf_48 (by decide) ?_
          obtain ⟨rfl, rfl⟩ := Prod.mk.inj (Option.some.inj hf)
          exact jq_iret hX hJ.2.2 dX1_numberOf_50 ⟨rfl, rfl, rfl, hJ.1, hJ.2.1⟩
    · replace hf := o_f hf c1
      refine lv_aload_n hx hb dX1_numberOf_10 rfl (lv_at hl 0 rfl) ?_
      refine lv_iload_n hx hb dX1_numberOf_11 rfl (lv_at hl 2 rfl) ?_
      replace hf := o_ck_e hf
      obtain ⟨hk13, hf⟩ := hf
      replace hf := o_call_e hf
      obtain ⟨x10, S4, hq1, hf⟩ := hf
      refine jq_doS hX hJ (jq_okV (As := [.int l2]) (rest := []) hx hb hm ho ht (wJ.recv hX hJ (by rw [hk13]; decide) (wE_X1 hk13) rfl) qw337 qw323 qs13 qw324 qw3 hy_X1_at rfl hl.1 (Nat.le_of_ble_eq_true rfl) dX1_numberOf_12) (c_X1_at hq1) (Nat.le_of_ble_eq_true rfl) (Nat.le_of_ble_eq_true rfl) (fun H locs hJ' => ?_)
      clear hJ
      have hJ := hJ'
      clear hJ'
      replace hf := o_cs_e hf
      rcases hf with ⟨hr3, hf⟩ | ⟨a3, hr3, hf⟩
      · subst hr3
        refine lv_astore_nN (lv' := [(3, .null), (0, .ref l0), (1, .ref l1), (2, .int l2)]) hx hb dX1_numberOf_15 rfl hl (by decide) rfl (fun ls hl' => ?_)
        clear hl
        have hl := hl'
        clear hl'
        refine lv_aload_nN hx hb dX1_numberOf_16 rfl (lv_at hl 0 rfl) ?_
        refine lv_ifnullN (tgt := 30) hx hb dX1_numberOf_17 (by decide) ?_
        replace hf := o_let_e hf
        obtain ⟨x13, hx13, hf⟩ := hf
        refine lv_iinc (v := x13) (lv' := [(2, .int x13), (3, .null), (0, .ref l0), (1, .ref l1)]) hx hb dX1_numberOf_30 hl (k := 3) rfl (by rw [← hx13]; rfl) (by decide) rfl (fun ls hl' => ?_)
        clear hl
        have hl := hl'
        clear hl'
        refine lv_goto (tgt := 2) hx hb dX1_numberOf_33 (by decide) ?_
        replace hl := lv_sub hl (l' := [(0, .ref l0), (1, .ref l1), (2, .int x13)]) [2, 3, 0] rfl
        exact ih l0 l1 x13 S4 S' r H locs ls hX hJ hf hl
      · subst hr3
        refine lv_astore_n (lv' := [(3, .ref a3), (0, .ref l0), (1, .ref l1), (2, .int l2)]) hx hb dX1_numberOf_15 rfl hl (by decide) rfl (fun ls hl' => ?_)
        clear hl
        have hl := hl'
        clear hl'
        refine lv_aload_n hx hb dX1_numberOf_16 rfl (lv_at hl 0 rfl) ?_
        refine lv_ifnull hx hb dX1_numberOf_17 ?_
        refine lv_aload_n hx hb dX1_numberOf_20 rfl (lv_at hl 0 rfl) ?_
        refine lv_aload_n hx hb dX1_numberOf_21 rfl (lv_at hl 2 rfl) ?_
        replace hf := o_ck_e hf
        obtain ⟨hk14, hf⟩ := hf
        replace hf := o_call_e hf
        obtain ⟨x11, S5, hq2, hf⟩ := hf
        refine jq_doS hX hJ (jq_okVN (As := [.ref l1]) (rest := []) hx hb hm ho ht hn (wJ.recv hX hJ (by rw [hk14]; decide) (wE_X0 hk14) rfl) qn450 qw452 qs34 qw453 qw13 hy_X0_isMadeAs rfl hl.1 (Nat.le_of_ble_eq_true rfl) dX1_numberOf_22) (c_X0_isMadeAs hq2) (Nat.le_of_ble_eq_true rfl) (Nat.le_of_ble_eq_true rfl) (fun H locs hJ' => ?_)
        clear hJ
        have hJ := hJ'
        clear hJ'
        refine lv_if_eq (tgt := 30) hx hb dX1_numberOf_25 (by decide) (fun c3 => ?_) (fun c3 => ?_)
        · replace hf := o_t hf c3
          replace hf := o_let_e hf
          obtain ⟨x12, hx12, hf⟩ := hf
          refine lv_iinc (v := x12) (lv' := [(2, .int x12), (3, .ref a3), (0, .ref l0), (1, .ref l1)]) hx hb dX1_numberOf_30 hl (k := 3) rfl (by rw [← hx12]; rfl) (by decide) rfl (fun ls hl' => ?_)
          clear hl
          have hl := hl'
          clear hl'
          refine lv_goto (tgt := 2) hx hb dX1_numberOf_33 (by decide) ?_
          replace hl := lv_sub hl (l' := [(0, .ref l0), (1, .ref l1), (2, .int x12)]) [2, 3, 0] rfl
          exact ih l0 l1 x12 S5 S' r H locs ls hX hJ hf hl
        · replace hf := o_f hf c3
          refine lv_iload_n hx hb dX1_numberOf_28 rfl (lv_at hl 3 rfl) ?_
          obtain ⟨rfl, rfl⟩ := Prod.mk.inj (Option.some.inj hf)
          exact jq_iret hX hJ.2.2 dX1_numberOf_29 ⟨rfl, rfl, rfl, hJ.1, hJ.2.1⟩
def f_X1_numberOf (o : Nat) (p1 : Nat) (S : wS) : Option ((Int32) × wS) :=
  f_X1_numberOf_b2 40 o p1 0 S
set_option maxHeartbeats 4000000 in
set_option maxRecDepth 100000 in
theorem c_X1_numberOf {l : Launch} {D : va_G} {Y : Nat → ClassId} {aR : Nat → Nat} {A : Nat → Prop} {o : Nat} {p1 : Nat} {S S' : wS} {r : Int32} (hf : f_X1_numberOf o p1 S = some (r, S')) : jq_S l D Y aR A yX1_numberOf cX1_numberOf 4 (some .int) 4 88 [.ref o, .ref p1] S (some (.int r)) S' := by
  unfold f_X1_numberOf at hf
  refine jq_enterS (by decide) (Nat.le_of_ble_eq_true rfl) fun p e s m args below meth c ls H locs hX hJ hl => ?_
  have hl : lv_has ls 4 [(0, .ref o), (1, .ref p1)] := hl
  have hx := hX.1
  have hb := hX.2.1
  have hm := hX.2.2.1
  have ho := hX.2.2.2.1
  have ht := hX.2.2.2.2.1
  have hn := hX.2.2.2.2.2.1.2.1
  refine lv_iconst (v := 0) hx hb dX1_numberOf_0 (by decide) ?_
  refine lv_istore_n (lv' := [(2, .int 0), (0, .ref o), (1, .ref p1)]) hx hb dX1_numberOf_1 rfl hl (by decide) rfl (fun ls hl' => ?_)
  clear hl
  have hl := hl'
  clear hl'
  replace hl := lv_sub hl (l' := [(0, .ref o), (1, .ref p1), (2, .int 0)]) [1, 2, 0] rfl
  exact w_X1_numberOf_b2 40 o p1 0 S S' r H locs ls hX hJ hf hl
