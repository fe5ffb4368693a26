theorem dX3_init_0 : decode cX3_init 0 = .ok (.aload_n 0, 1) := by decide +kernel
theorem dX3_init_1 : decode cX3_init 1 = .ok (.invokespecial 3, 3) := by decide +kernel
theorem dX3_init_4 : decode cX3_init 4 = .ok (.aload_n 0, 1) := by decide +kernel
theorem dX3_init_5 : decode cX3_init 5 = .ok (.aload_n 1, 1) := by decide +kernel
theorem dX3_init_6 : decode cX3_init 6 = .ok (.putfield 9, 3) := by decide +kernel
theorem dX3_init_9 : decode cX3_init 9 = .ok (.aload_n 0, 1) := by decide +kernel
theorem dX3_init_10 : decode cX3_init 10 = .ok (.aload_n 2, 1) := by decide +kernel
theorem dX3_init_11 : decode cX3_init 11 = .ok (.putfield 15, 3) := by decide +kernel
theorem dX3_init_14 : decode cX3_init 14 = .ok (.return_, 1) := by decide +kernel
theorem hy_X3_init : yX3_init.cls ≠ "java/lang/invoke/MethodHandle" ∧ yX3_init.cls ≠ "java/lang/invoke/VarHandle" ∧ (parseMethodDescriptor yX3_init.desc).map (fun d => d.parameters.length) = some 2 := ⟨by decide, by decide, by decide +kernel⟩
def f_X3_init (o : Nat) (p1 : Nat) (p2 : Nat) (S : wS) : Option ((Unit) × wS) :=
  o_pR 3 2 o (some p1) S fun S1 =>
  o_pR 3 3 o (some p2) S1 fun S2 =>
  some ((), S2)
set_option maxHeartbeats 4000000 in
set_option maxRecDepth 100000 in
theorem c_X3_init {l : Launch} {D : va_G} {Y : Nat → ClassId} {aR : Nat → Nat} {A : Nat → Prop} {o : Nat} {p1 : Nat} {p2 : Nat} {S S' : wS} {r : Unit} (hf : f_X3_init o p1 p2 S = some (r, S')) : jq_S l D Y aR A yX3_init cX3_init 3 none 1 12 [.ref o, .ref p1, .ref p2] S none S' := by
  unfold f_X3_init at hf
  refine jq_enterS (by decide) (Nat.le_of_ble_eq_true rfl) fun p e s m args below meth c ls H locs hX hJ hl => ?_
  have hl : lv_has ls 3 [(0, .ref o), (1, .ref p1), (2, .ref p2)] := hl
  have hx := hX.1
  have hb := hX.2.1
  have hm := hX.2.2.1
  have ho := hX.2.2.2.1
  have ht := hX.2.2.2.2.1
  have hn := hX.2.2.2.2.2.1.2.1
  refine lv_aload_n hx hb dX3_init_0 rfl (lv_at hl 0 rfl) ?_
  refine W.objInit hx hb ho (ht _ qw62) (ht _ qw23) (ht _ qw24) rfl (hl.1.trans hm.symm) rfl dX3_init_1 (Nat.le_of_ble_eq_true rfl) (Nat.le_of_ble_eq_true rfl) ?_
  refine W.eq (g2 := F0 m 4 ls []) rfl ?_
  refine lv_aload_n hx hb dX3_init_4 rfl (lv_at hl 0 rfl) ?_
  refine lv_aload_n hx hb dX3_init_5 rfl (lv_at hl 1 rfl) ?_
  replace hf := o_pR_e hf
  obtain ⟨hk2, S1, hS1, hf⟩ := hf
  refine pf_X3_handles hX hJ hk2 hS1 rfl rfl qw63 dX3_init_6 (fun H locs hJ' => ?_)
  clear hJ
  have hJ := hJ'
  clear hJ'
  refine lv_aload_n hx hb dX3_init_9 rfl (lv_at hl 0 rfl) ?_
  refine lv_aload_n hx hb dX3_init_10 rfl (lv_at hl 2 rfl) ?_
  replace hf := o_pR_e hf
  obtain ⟨hk1, S2, hS2, hf⟩ := hf
  refine pf_X3_rows hX hJ hk1 hS2 rfl rfl qw64 dX3_init_11 (fun H locs hJ' => ?_)
  clear hJ
  have hJ := hJ'
  clear hJ'
  cases hf
  exact jq_vret hX hJ.2.2 dX3_init_14 ⟨rfl, rfl, rfl, hJ.1, hJ.2.1⟩
theorem dX3_isFirstTold_0 : decode cX3_isFirstTold 0 = .ok (.aload_n 1, 1) := by decide +kernel
theorem dX3_isFirstTold_1 : decode cX3_isFirstTold 1 = .ok (.getfield 19, 3) := by decide +kernel
theorem dX3_isFirstTold_4 : decode cX3_isFirstTold 4 = .ok (.tableswitch 84 0 10 #[60, 60, 68, 68, 68, 68, 76, 76, 76, 60, 68], 60) := by decide +kernel
theorem dX3_isFirstTold_64 : decode cX3_isFirstTold 64 = .ok (.aload_n 1, 1) := by decide +kernel
theorem dX3_isFirstTold_65 : decode cX3_isFirstTold 65 = .ok (.getfield 55, 3) := by decide +kernel
theorem dX3_isFirstTold_68 : decode cX3_isFirstTold 68 = .ok (.invokestatic 58, 3) := by decide +kernel
theorem dX3_isFirstTold_71 : decode cX3_isFirstTold 71 = .ok (.ireturn, 1) := by decide +kernel
theorem dX3_isFirstTold_72 : decode cX3_isFirstTold 72 = .ok (.aload_n 1, 1) := by decide +kernel
theorem dX3_isFirstTold_73 : decode cX3_isFirstTold 73 = .ok (.getfield 55, 3) := by decide +kernel
theorem dX3_isFirstTold_76 : decode cX3_isFirstTold 76 = .ok (.invokestatic 63, 3) := by decide +kernel
theorem dX3_isFirstTold_79 : decode cX3_isFirstTold 79 = .ok (.ireturn, 1) := by decide +kernel
theorem dX3_isFirstTold_80 : decode cX3_isFirstTold 80 = .ok (.aload_n 1, 1) := by decide +kernel
theorem dX3_isFirstTold_81 : decode cX3_isFirstTold 81 = .ok (.getfield 55, 3) := by decide +kernel
theorem dX3_isFirstTold_84 : decode cX3_isFirstTold 84 = .ok (.invokestatic 66, 3) := by decide +kernel
theorem dX3_isFirstTold_87 : decode cX3_isFirstTold 87 = .ok (.ireturn, 1) := by decide +kernel
theorem dX3_isFirstTold_88 : decode cX3_isFirstTold 88 = .ok (.aload_n 0, 1) := by decide +kernel
theorem dX3_isFirstTold_89 : decode cX3_isFirstTold 89 = .ok (.getfield 9, 3) := by decide +kernel
theorem dX3_isFirstTold_92 : decode cX3_isFirstTold 92 = .ok (.aload_n 1, 1) := by decide +kernel
theorem dX3_isFirstTold_93 : decode cX3_isFirstTold 93 = .ok (.getfield 55, 3) := by decide +kernel
theorem dX3_isFirstTold_96 : decode cX3_isFirstTold 96 = .ok (.invokevirtual 69, 3) := by decide +kernel
theorem dX3_isFirstTold_99 : decode cX3_isFirstTold 99 = .ok (.ifnull 7, 3) := by decide +kernel
theorem dX3_isFirstTold_102 : decode cX3_isFirstTold 102 = .ok (.iconst 1, 1) := by decide +kernel
theorem dX3_isFirstTold_103 : decode cX3_isFirstTold 103 = .ok (.goto 4, 3) := by decide +kernel
theorem dX3_isFirstTold_107 : decode cX3_isFirstTold 107 = .ok (.ireturn, 1) := by decide +kernel
theorem dX3_isFirstTold_106 : decode cX3_isFirstTold 106 = .ok (.iconst 0, 1) := by decide +kernel
theorem hy_X3_isFirstTold : yX3_isFirstTold.cls ≠ "java/lang/invoke/MethodHandle" ∧ yX3_isFirstTold.cls ≠ "java/lang/invoke/VarHandle" ∧ (parseMethodDescriptor yX3_isFirstTold.desc).map (fun d => d.parameters.length) = some 1 := ⟨by decide, by decide, by decide +kernel⟩
def f_X3_isFirstTold (o : Nat) (p1 : Nat) (S : wS) : Option ((Int32) × wS) :=
  o_gI 1 0 p1 S fun x1 =>
  if x1 = 0 ∨ x1 = 1 ∨ x1 = 9 then (
  o_gI 1 1 p1 S fun x2 =>
  o_cP (f_X2_isKind x2) fun x3 =>
  o_ck (x3 = 0 ∨ x3 = 1) (some (x3, S))) else (
  if x1 = 2 ∨ x1 = 3 ∨ x1 = 4 ∨ x1 = 5 ∨ x1 = 10 then (
  o_gI 1 1 p1 S fun x4 =>
  o_cP (f_X2_isLane x4) fun x5 =>
  o_ck (x5 = 0 ∨ x5 = 1) (some (x5, S))) else (
  if x1 = 6 ∨ x1 = 7 ∨ x1 = 8 then (
  o_gI 1 1 p1 S fun x6 =>
  o_cP (f_X2_isReckoned x6) fun x7 =>
  o_ck (x7 = 0 ∨ x7 = 1) (some (x7, S))) else (
  o_gR 3 2 o S fun x8 =>
  o_gI 1 1 p1 S fun x9 =>
  o_cs x8 (none) (fun a1 =>
  o_ck (s_K S a1 = 2) (o_call (f_X1_at a1 x9 S) fun x10 S1 =>
  o_cs x10 (some (0, S1)) (fun a2 =>
  some (1, S1)))))))
set_option maxHeartbeats 4000000 in
set_option maxRecDepth 100000 in
theorem c_X3_isFirstTold {l : Launch} {D : va_G} {Y : Nat → ClassId} {aR : Nat → Nat} {A : Nat → Prop} {o : Nat} {p1 : Nat} {S S' : wS} {r : Int32} (hf : f_X3_isFirstTold o p1 S = some (r, S')) : jq_S l D Y aR A yX3_isFirstTold cX3_isFirstTold 2 (some .boolean) 1 21 [.ref o, .ref p1] S (some (.int r)) S' := by
  unfold f_X3_isFirstTold at hf
  refine jq_enterS (by decide) (Nat.le_of_ble_eq_true rfl) fun p e s m args below meth c ls H locs hX hJ hl => ?_
  have hl : lv_has ls 2 [(0, .ref o), (1, .ref p1)] := hl
  have hx := hX.1
  have hb := hX.2.1
  have hm := hX.2.2.1
  have ho := hX.2.2.2.1
  have ht := hX.2.2.2.2.1
  have hn := hX.2.2.2.2.2.1.2.1
  refine lv_aload_n hx hb dX3_isFirstTold_0 rfl (lv_at hl 1 rfl) ?_
  replace hf := o_gI_e hf
  obtain ⟨hk1, x1, hx1, hf⟩ := hf
  refine gn_X0_sort hX hJ hk1 hx1 qn270 dX3_isFirstTold_1 ?_
  by_cases c1 : x1 = 0 ∨ x1 = 1 ∨ x1 = 9
  · replace hf := o_t hf c1
    refine lv_tableIn (off := 60) (tgt := 64) hx hb dX3_isFirstTold_4 (by rcases c1 with rfl | rfl | rfl <;> decide) (by rcases c1 with rfl | rfl | rfl <;> decide) (by rcases c1 with rfl | rfl | rfl <;> rfl) (by decide) ?_
    refine lv_aload_n hx hb dX3_isFirstTold_64 rfl (lv_at hl 1 rfl) ?_
    replace hf := o_gI_e hf
    obtain ⟨hk2, x2, hx2, hf⟩ := hf
    refine gn_X0_a hX hJ hk2 hx2 qn274 dX3_isFirstTold_65 ?_
    replace hf := o_cP_e hf
    obtain ⟨x3, hq1, hf⟩ := hf
    refine jq_doPS hX hJ (jq_okSN (As := [.int x2]) (rest := []) hx hb hm ho ht hn qn316 qw249 qw250 qw8 hy_X2_isKind rfl hl.1 (Nat.le_of_ble_eq_true rfl) dX3_isFirstTold_68) (c_X2_isKind hq1) (Nat.le_of_ble_eq_true rfl) (Nat.le_of_ble_eq_true rfl) (fun locs hJ' => ?_)
    clear hJ
    have hJ := hJ'
    clear hJ'
    replace hf := o_ck_e hf
    obtain ⟨hc1, hf⟩ := hf
    cases hf
    exact jq_zret hX hJ.2.2 (qz_b hc1) dX3_isFirstTold_71 ⟨rfl, rfl, rfl, hJ.1, hJ.2.1⟩
  replace hf := o_f hf c1
  by_cases c2 : x1 = 2 ∨ x1 = 3 ∨ x1 = 4 ∨ x1 = 5 ∨ x1 = 10
  · replace hf := o_t hf c2
    refine lv_tableIn (off := 68) (tgt := 72) hx hb dX3_isFirstTold_4 (by rcases c2 with rfl | rfl | rfl | rfl | rfl <;> decide) (by rcases c2 with rfl | rfl | rfl | rfl | rfl <;> decide) (by rcases c2 with rfl | rfl | rfl | rfl | rfl <;> rfl) (by decide) ?_
    refine lv_aload_n hx hb dX3_isFirstTold_72 rfl (lv_at hl 1 rfl) ?_
    replace hf := o_gI_e hf
    obtain ⟨hk3, x4, hx4, hf⟩ := hf
    refine gn_X0_a hX hJ hk3 hx4 qn274 dX3_isFirstTold_73 ?_
    replace hf := o_cP_e hf
    obtain ⟨x5, hq2, hf⟩ := hf
    refine jq_doPS hX hJ (jq_okSN (As := [.int x4]) (rest := []) hx hb hm ho ht hn qn317 qw156 qw157 qw8 hy_X2_isLane rfl hl.1 (Nat.le_of_ble_eq_true rfl) dX3_isFirstTold_76) (c_X2_isLane hq2) (Nat.le_of_ble_eq_true rfl) (Nat.le_of_ble_eq_true rfl) (fun locs hJ' => ?_)
    clear hJ
    have hJ := hJ'
    clear hJ'
    replace hf := o_ck_e hf
    obtain ⟨hc2, hf⟩ := hf
    cases hf
    exact jq_zret hX hJ.2.2 (qz_b hc2) dX3_isFirstTold_79 ⟨rfl, rfl, rfl, hJ.1, hJ.2.1⟩
  replace hf := o_f hf c2
  by_cases c3 : x1 = 6 ∨ x1 = 7 ∨ x1 = 8
  · replace hf := o_t hf c3
    refine lv_tableIn (off := 76) (tgt := 80) hx hb dX3_isFirstTold_4 (by rcases c3 with rfl | rfl | rfl <;> decide) (by rcases c3 with rfl | rfl | rfl <;> decide) (by rcases c3 with rfl | rfl | rfl <;> rfl) (by decide) ?_
    refine lv_aload_n hx hb dX3_isFirstTold_80 rfl (lv_at hl 1 rfl) ?_
    replace hf := o_gI_e hf
    obtain ⟨hk4, x6, hx6, hf⟩ := hf
    refine gn_X0_a hX hJ hk4 hx6 qn274 dX3_isFirstTold_81 ?_
    replace hf := o_cP_e hf
    obtain ⟨x7, hq3, hf⟩ := hf
    refine jq_doPS hX hJ (jq_okSN (As := [.int x6]) (rest := []) hx hb hm ho ht hn qn318 qw319 qw320 qw8 hy_X2_isReckoned rfl hl.1 (Nat.le_of_ble_eq_true rfl) dX3_isFirstTold_84) (c_X2_isReckoned hq3) (Nat.le_of_ble_eq_true rfl) (Nat.le_of_ble_eq_true rfl) (fun locs hJ' => ?_)
    clear hJ
    have hJ := hJ'
    clear hJ'
    replace hf := o_ck_e hf
    obtain ⟨hc3, hf⟩ := hf
    cases hf
    exact jq_zret hX hJ.2.2 (qz_b hc3) dX3_isFirstTold_87 ⟨rfl, rfl, rfl, hJ.1, hJ.2.1⟩
  replace hf := o_f hf c3
  refine lv_tableOut (tgt := 88) hx hb dX3_isFirstTold_4 (by have e0 := sw_ne (fun z => c1 (Or.inl z)) (n := 0) (by decide); have e1 := sw_ne (fun z => c1 (Or.inr (Or.inl z))) (n := 1) (by decide); have e2 := sw_ne (fun z => c1 (Or.inr (Or.inr z))) (n := 9) (by decide); have e3 := sw_ne (fun z => c2 (Or.inl z)) (n := 2) (by decide); have e4 := sw_ne (fun z => c2 (Or.inr (Or.inl z))) (n := 3) (by decide); have e5 := sw_ne (fun z => c2 (Or.inr (Or.inr (Or.inl z)))) (n := 4) (by decide); have e6 := sw_ne (fun z => c2 (Or.inr (Or.inr (Or.inr (Or.inl z))))) (n := 5) (by decide); have e7 := sw_ne (fun z => c2 (Or.inr (Or.inr (Or.inr (Or.inr z))))) (n := 10) (by decide); have e8 := sw_ne (fun z => c3 (Or.inl z)) (n := 6) (by decide); have e9 := sw_ne (fun z => c3 (Or.inr (Or.inl z))) (n := 7) (by decide); have e10 := sw_ne (fun z => c3 (Or.inr (Or.inr z))) (n := 8) (by decide); omega) (by decide) ?_
  refine lv_aload_n hx hb dX3_isFirstTold_88 rfl (lv_at hl 0 rfl) ?_
  replace hf := o_gR_e hf
  obtain ⟨hk5, x8, hx8, hf⟩ := hf
  refine gf_X3_handles hX hJ hk5 hx8 qw63 dX3_isFirstTold_89 ?_
  refine lv_aload_n hx hb dX3_isFirstTold_92 rfl (lv_at hl 1 rfl) ?_
  replace hf := o_gI_e hf
  obtain ⟨hk6, x9, hx9, hf⟩ := hf
  refine gn_X0_a hX hJ hk6 hx9 qn274 dX3_isFirstTold_93 ?_
  replace hf := o_cs_e hf
  rcases hf with ⟨hr1, hf⟩ | ⟨a1, hr1, hf⟩
  · subst hr1
    cases hf
  · subst hr1
    replace hf := o_ck_e hf
    obtain ⟨hk7, hf⟩ := hf
    replace hf := o_call_e hf
    obtain ⟨x10, S1, hq4, hf⟩ := hf
    refine jq_doS hX hJ (jq_okVN (As := [.int x9]) (rest := []) hx hb hm ho ht hn (wJ.recv hX hJ (by rw [hk7]; decide) (wE_X1 hk7) rfl) qn321 qw323 qs13 qw324 qw3 hy_X1_at rfl hl.1 (Nat.le_of_ble_eq_true rfl) dX3_isFirstTold_96) (c_X1_at hq4) (Nat.le_of_ble_eq_true rfl) (Nat.le_of_ble_eq_true rfl) (fun H locs hJ' => ?_)
    clear hJ
    have hJ := hJ'
    clear hJ'
    replace hf := o_cs_e hf
    rcases hf with ⟨hr2, hf⟩ | ⟨a2, hr2, hf⟩
    · subst hr2
      refine lv_ifnullN (tgt := 106) hx hb dX3_isFirstTold_99 (by decide) ?_
      refine lv_iconst (v := 0) hx hb dX3_isFirstTold_106 (by decide) ?_
      cases hf
      exact jq_zret hX hJ.2.2 (by decide) dX3_isFirstTold_107 ⟨rfl, rfl, rfl, hJ.1, hJ.2.1⟩
    · subst hr2
      refine lv_ifnull hx hb dX3_isFirstTold_99 ?_
      refine lv_iconst (v := 1) hx hb dX3_isFirstTold_102 (by decide) ?_
      refine lv_goto (tgt := 107) hx hb dX3_isFirstTold_103 (by decide) ?_
      cases hf
      exact jq_zret hX hJ.2.2 (by decide) dX3_isFirstTold_107 ⟨rfl, rfl, rfl, hJ.1, hJ.2.1⟩
theorem dX3_parametersOf_0 : decode cX3_parametersOf 0 = .ok (.aload_n 0, 1) := by decide +kernel
theorem dX3_parametersOf_1 : decode cX3_parametersOf 1 = .ok (.getfield 9, 3) := by decide +kernel
theorem dX3_parametersOf_4 : decode cX3_parametersOf 4 = .ok (.iload_n 1, 1) := by decide +kernel
theorem dX3_parametersOf_5 : decode cX3_parametersOf 5 = .ok (.invokevirtual 90, 3) := by decide +kernel
theorem dX3_parametersOf_8 : decode cX3_parametersOf 8 = .ok (.astore_n 2, 1) := by decide +kernel
theorem dX3_parametersOf_9 : decode cX3_parametersOf 9 = .ok (.aload_n 2, 1) := by decide +kernel
theorem dX3_parametersOf_10 : decode cX3_parametersOf 10 = .ok (.ifnonnull 7, 3) := by decide +kernel
theorem dX3_parametersOf_17 : decode cX3_parametersOf 17 = .ok (.aload_n 2, 1) := by decide +kernel
theorem dX3_parametersOf_18 : decode cX3_parametersOf 18 = .ok (.getfield 94, 3) := by decide +kernel
theorem dX3_parametersOf_21 : decode cX3_parametersOf 21 = .ok (.ireturn, 1) := by decide +kernel
theorem dX3_parametersOf_13 : decode cX3_parametersOf 13 = .ok (.iconst 0, 1) := by decide +kernel
theorem dX3_parametersOf_14 : decode cX3_parametersOf 14 = .ok (.goto 7, 3) := by decide +kernel
theorem hy_X3_parametersOf : yX3_parametersOf.cls ≠ "java/lang/invoke/MethodHandle" ∧ yX3_parametersOf.cls ≠ "java/lang/invoke/VarHandle" ∧ (parseMethodDescriptor yX3_parametersOf.desc).map (fun d => d.parameters.length) = some 1 := ⟨by decide, by decide, by decide +kernel⟩
def f_X3_parametersOf (o : Nat) (p1 : Int32) (S : wS) : Option ((Int32) × wS) :=
  o_gR 3 2 o S fun x1 =>
  o_cs x1 (none) (fun a1 =>
  o_ck (s_K S a1 = 2) (o_call (f_X1_typeAt a1 p1 S) fun x2 S1 =>
  o_cs x2 (some (0, S1)) (fun a2 =>
  o_gI 8 13 a2 S1 fun x3 =>
  some (x3, S1))))
set_option maxHeartbeats 4000000 in
set_option maxRecDepth 100000 in
theorem c_X3_parametersOf {l : Launch} {D : va_G} {Y : Nat → ClassId} {aR : Nat → Nat} {A : Nat → Prop} {o : Nat} {p1 : Int32} {S S' : wS} {r : Int32} (hf : f_X3_parametersOf o p1 S = some (r, S')) : jq_S l D Y aR A yX3_parametersOf cX3_parametersOf 3 (some .int) 2 43 [.ref o, .int p1] S (some (.int r)) S' := by
  unfold f_X3_parametersOf at hf
  refine jq_enterS (by decide) (Nat.le_of_ble_eq_true rfl) fun p e s m args below meth c ls H locs hX hJ hl => ?_
  have hl : lv_has ls 3 [(0, .ref o), (1, .int p1)] := hl
  have hx := hX.1
  have hb := hX.2.1
  have hm := hX.2.2.1
  have ho := hX.2.2.2.1
  have ht := hX.2.2.2.2.1
  have hn := hX.2.2.2.2.2.1.2.1
  refine lv_aload_n hx hb dX3_parametersOf_0 rfl (lv_at hl 0 rfl) ?_
  replace hf := o_gR_e hf
  obtain ⟨hk1, x1, hx1, hf⟩ := hf
  refine gf_X3_handles hX hJ hk1 hx1 qw63 dX3_parametersOf_1 ?_
  refine lv_iload_n hx hb dX3_parametersOf_4 rfl (lv_at hl 1 rfl) ?_
  replace hf := o_cs_e hf
  rcases hf with ⟨hr1, hf⟩ | ⟨a1, hr1, hf⟩
  · subst hr1
    cases hf
  · subst hr1
    replace hf := o_ck_e hf
    obtain ⟨hk2, hf⟩ := hf
    replace hf := o_call_e hf
    obtain ⟨x2, S1, hq1, hf⟩ := hf
    refine jq_doS hX hJ (jq_okVN (As := [.int p1]) (rest := []) hx hb hm ho ht hn (wJ.recv hX hJ (by rw [hk2]; decide) (wE_X1 hk2) rfl) qn333 qw335 qs16 qw336 qw3 hy_X1_typeAt rfl hl.1 (Nat.le_of_ble_eq_true rfl) dX3_parametersOf_5) (c_X1_typeAt hq1) (Nat.le_of_ble_eq_true rfl) (Nat.le_of_ble_eq_true rfl) (fun H locs hJ' => ?_)
    clear hJ
    have hJ := hJ'
    clear hJ'
    replace hf := o_cs_e hf
    rcases hf with ⟨hr2, hf⟩ | ⟨a2, hr2, hf⟩
    · subst hr2
      refine lv_astore_nN (lv' := [(2, .null), (0, .ref o), (1, .int p1)]) hx hb dX3_parametersOf_8 rfl hl (by decide) rfl (fun ls hl' => ?_)
      clear hl
      have hl := hl'
      clear hl'
      refine lv_aload_nN hx hb dX3_parametersOf_9 rfl (lv_at hl 0 rfl) ?_
      refine lv_ifnonnullN hx hb dX3_parametersOf_10 ?_
      refine lv_iconst (v := 0) hx hb dX3_parametersOf_13 (by decide) ?_
      refine lv_goto (tgt := 21) hx hb dX3_parametersOf_14 (by decide) ?_
      cases hf
      exact jq_iret hX hJ.2.2 dX3_parametersOf_21 ⟨rfl, rfl, rfl, hJ.1, hJ.2.1⟩
    · subst hr2
      refine lv_astore_n (lv' := [(2, .ref a2), (0, .ref o), (1, .int p1)]) hx hb dX3_parametersOf_8 rfl hl (by decide) rfl (fun ls hl' => ?_)
      clear hl
      have hl := hl'
      clear hl'
      refine lv_aload_n hx hb dX3_parametersOf_9 rfl (lv_at hl 0 rfl) ?_
      refine lv_ifnonnull (tgt := 17) hx hb dX3_parametersOf_10 (by decide) ?_
      refine lv_aload_n hx hb dX3_parametersOf_17 rfl (lv_at hl 0 rfl) ?_
      replace hf := o_gI_e hf
      obtain ⟨hk3, x3, hx3, hf⟩ := hf
      refine gn_X9_many hX hJ hk3 hx3 qn114 dX3_parametersOf_18 ?_
      cases hf
      exact jq_iret hX hJ.2.2 dX3_parametersOf_21 ⟨rfl, rfl, rfl, hJ.1, hJ.2.1⟩
theorem dX3_isSecondTold_0 : decode cX3_isSecondTold 0 = .ok (.aload_n 1, 1) := by decide +kernel
theorem dX3_isSecondTold_1 : decode cX3_isSecondTold 1 = .ok (.getfield 75, 3) := by decide +kernel
theorem dX3_isSecondTold_4 : decode cX3_isSecondTold 4 = .ok (.istore_n 2, 1) := by decide +kernel
theorem dX3_isSecondTold_5 : decode cX3_isSecondTold 5 = .ok (.aload_n 1, 1) := by decide +kernel
theorem dX3_isSecondTold_6 : decode cX3_isSecondTold 6 = .ok (.getfield 19, 3) := by decide +kernel
theorem dX3_isSecondTold_9 : decode cX3_isSecondTold 9 = .ok (.tableswitch 169 9 20 #[63, 169, 79, 101, 169, 169, 125, 147, 147, 147, 164, 147], 63) := by decide +kernel
theorem dX3_isSecondTold_72 : decode cX3_isSecondTold 72 = .ok (.iload_n 2, 1) := by decide +kernel
theorem dX3_isSecondTold_73 : decode cX3_isSecondTold 73 = .ok (.ifCond .lt 13, 3) := by decide +kernel
theorem dX3_isSecondTold_86 : decode cX3_isSecondTold 86 = .ok (.iconst 0, 1) := by decide +kernel
theorem dX3_isSecondTold_87 : decode cX3_isSecondTold 87 = .ok (.ireturn, 1) := by decide +kernel
theorem dX3_isSecondTold_76 : decode cX3_isSecondTold 76 = .ok (.iload_n 2, 1) := by decide +kernel
theorem dX3_isSecondTold_77 : decode cX3_isSecondTold 77 = .ok (.bipush 9, 2) := by decide +kernel
theorem dX3_isSecondTold_79 : decode cX3_isSecondTold 79 = .ok (.if_icmp .gt 7, 3) := by decide +kernel
theorem dX3_isSecondTold_82 : decode cX3_isSecondTold 82 = .ok (.iconst 1, 1) := by decide +kernel
theorem dX3_isSecondTold_83 : decode cX3_isSecondTold 83 = .ok (.goto 4, 3) := by decide +kernel
theorem dX3_isSecondTold_88 : decode cX3_isSecondTold 88 = .ok (.iload_n 2, 1) := by decide +kernel
theorem dX3_isSecondTold_89 : decode cX3_isSecondTold 89 = .ok (.ifCond .lt 19, 3) := by decide +kernel
theorem dX3_isSecondTold_108 : decode cX3_isSecondTold 108 = .ok (.iconst 0, 1) := by decide +kernel
theorem dX3_isSecondTold_109 : decode cX3_isSecondTold 109 = .ok (.ireturn, 1) := by decide +kernel
theorem dX3_isSecondTold_92 : decode cX3_isSecondTold 92 = .ok (.iload_n 2, 1) := by decide +kernel
theorem dX3_isSecondTold_93 : decode cX3_isSecondTold 93 = .ok (.aload_n 0, 1) := by decide +kernel
theorem dX3_isSecondTold_94 : decode cX3_isSecondTold 94 = .ok (.aload_n 1, 1) := by decide +kernel
theorem dX3_isSecondTold_95 : decode cX3_isSecondTold 95 = .ok (.getfield 55, 3) := by decide +kernel
theorem dX3_isSecondTold_98 : decode cX3_isSecondTold 98 = .ok (.invokevirtual 78, 3) := by decide +kernel
theorem dX3_isSecondTold_101 : decode cX3_isSecondTold 101 = .ok (.if_icmp .gt 7, 3) := by decide +kernel
theorem dX3_isSecondTold_104 : decode cX3_isSecondTold 104 = .ok (.iconst 1, 1) := by decide +kernel
theorem dX3_isSecondTold_105 : decode cX3_isSecondTold 105 = .ok (.goto 4, 3) := by decide +kernel
theorem dX3_isSecondTold_110 : decode cX3_isSecondTold 110 = .ok (.iload_n 2, 1) := by decide +kernel
theorem dX3_isSecondTold_111 : decode cX3_isSecondTold 111 = .ok (.ifCond .lt 21, 3) := by decide +kernel
theorem dX3_isSecondTold_132 : decode cX3_isSecondTold 132 = .ok (.iconst 0, 1) := by decide +kernel
theorem dX3_isSecondTold_133 : decode cX3_isSecondTold 133 = .ok (.ireturn, 1) := by decide +kernel
theorem dX3_isSecondTold_114 : decode cX3_isSecondTold 114 = .ok (.iload_n 2, 1) := by decide +kernel
theorem dX3_isSecondTold_115 : decode cX3_isSecondTold 115 = .ok (.aload_n 0, 1) := by decide +kernel
theorem dX3_isSecondTold_116 : decode cX3_isSecondTold 116 = .ok (.aload_n 1, 1) := by decide +kernel
theorem dX3_isSecondTold_117 : decode cX3_isSecondTold 117 = .ok (.getfield 55, 3) := by decide +kernel
theorem dX3_isSecondTold_120 : decode cX3_isSecondTold 120 = .ok (.invokevirtual 78, 3) := by decide +kernel
theorem dX3_isSecondTold_123 : decode cX3_isSecondTold 123 = .ok (.iconst 1, 1) := by decide +kernel
theorem dX3_isSecondTold_124 : decode cX3_isSecondTold 124 = .ok (.isub, 1) := by decide +kernel
theorem dX3_isSecondTold_125 : decode cX3_isSecondTold 125 = .ok (.if_icmp .ge 7, 3) := by decide +kernel
theorem dX3_isSecondTold_128 : decode cX3_isSecondTold 128 = .ok (.iconst 1, 1) := by decide +kernel
theorem dX3_isSecondTold_129 : decode cX3_isSecondTold 129 = .ok (.goto 4, 3) := by decide +kernel
theorem dX3_isSecondTold_134 : decode cX3_isSecondTold 134 = .ok (.iload_n 2, 1) := by decide +kernel
theorem dX3_isSecondTold_135 : decode cX3_isSecondTold 135 = .ok (.ifCond .lt 19, 3) := by decide +kernel
theorem dX3_isSecondTold_154 : decode cX3_isSecondTold 154 = .ok (.iconst 0, 1) := by decide +kernel
theorem dX3_isSecondTold_155 : decode cX3_isSecondTold 155 = .ok (.ireturn, 1) := by decide +kernel
theorem dX3_isSecondTold_138 : decode cX3_isSecondTold 138 = .ok (.iload_n 2, 1) := by decide +kernel
theorem dX3_isSecondTold_139 : decode cX3_isSecondTold 139 = .ok (.aload_n 0, 1) := by decide +kernel
theorem dX3_isSecondTold_140 : decode cX3_isSecondTold 140 = .ok (.aload_n 1, 1) := by decide +kernel
theorem dX3_isSecondTold_141 : decode cX3_isSecondTold 141 = .ok (.getfield 55, 3) := by decide +kernel
theorem dX3_isSecondTold_144 : decode cX3_isSecondTold 144 = .ok (.invokevirtual 78, 3) := by decide +kernel
theorem dX3_isSecondTold_147 : decode cX3_isSecondTold 147 = .ok (.if_icmp .ge 7, 3) := by decide +kernel
theorem dX3_isSecondTold_150 : decode cX3_isSecondTold 150 = .ok (.iconst 1, 1) := by decide +kernel
theorem dX3_isSecondTold_151 : decode cX3_isSecondTold 151 = .ok (.goto 4, 3) := by decide +kernel
theorem dX3_isSecondTold_156 : decode cX3_isSecondTold 156 = .ok (.aload_n 0, 1) := by decide +kernel
theorem dX3_isSecondTold_157 : decode cX3_isSecondTold 157 = .ok (.getfield 9, 3) := by decide +kernel
theorem dX3_isSecondTold_160 : decode cX3_isSecondTold 160 = .ok (.iload_n 2, 1) := by decide +kernel
theorem dX3_isSecondTold_161 : decode cX3_isSecondTold 161 = .ok (.invokevirtual 69, 3) := by decide +kernel
theorem dX3_isSecondTold_164 : decode cX3_isSecondTold 164 = .ok (.ifnull 7, 3) := by decide +kernel
theorem dX3_isSecondTold_167 : decode cX3_isSecondTold 167 = .ok (.iconst 1, 1) := by decide +kernel
theorem dX3_isSecondTold_168 : decode cX3_isSecondTold 168 = .ok (.goto 4, 3) := by decide +kernel
theorem dX3_isSecondTold_172 : decode cX3_isSecondTold 172 = .ok (.ireturn, 1) := by decide +kernel
theorem dX3_isSecondTold_171 : decode cX3_isSecondTold 171 = .ok (.iconst 0, 1) := by decide +kernel
theorem dX3_isSecondTold_173 : decode cX3_isSecondTold 173 = .ok (.iload_n 2, 1) := by decide +kernel
theorem dX3_isSecondTold_174 : decode cX3_isSecondTold 174 = .ok (.invokestatic 82, 3) := by decide +kernel
theorem dX3_isSecondTold_177 : decode cX3_isSecondTold 177 = .ok (.ireturn, 1) := by decide +kernel
theorem dX3_isSecondTold_178 : decode cX3_isSecondTold 178 = .ok (.iconst 1, 1) := by decide +kernel
theorem dX3_isSecondTold_179 : decode cX3_isSecondTold 179 = .ok (.ireturn, 1) := by decide +kernel
theorem hy_X3_isSecondTold : yX3_isSecondTold.cls ≠ "java/lang/invoke/MethodHandle" ∧ yX3_isSecondTold.cls ≠ "java/lang/invoke/VarHandle" ∧ (parseMethodDescriptor yX3_isSecondTold.desc).map (fun d => d.parameters.length) = some 1 := ⟨by decide, by decide, by decide +kernel⟩
def f_X3_isSecondTold (o : Nat) (p1 : Nat) (S : wS) : Option ((Int32) × wS) :=
  o_gI 1 2 p1 S fun x1 =>
  o_gI 1 0 p1 S fun x2 =>
  if x2 = 9 then (
  if x1 < 0 then (
  some (0, S)) else (
  if 9 < x1 then (
  some (0, S)) else (
  some (1, S)))) else (
  if x2 = 11 then (
  if x1 < 0 then (
  some (0, S)) else (
  o_gI 1 1 p1 S fun x3 =>
  o_ck (s_K S o = 3) (o_call (f_X3_parametersOf o x3 S) fun x4 S1 =>
  if x4 < x1 then (
  some (0, S1)) else (
  some (1, S1))))) else (
  if x2 = 12 then (
  if x1 < 0 then (
  some (0, S)) else (
  o_gI 1 1 p1 S fun x5 =>
  o_ck (s_K S o = 3) (o_call (f_X3_parametersOf o x5 S) fun x6 S2 =>
  if (x6 - (1 : Int32)) ≤ x1 then (
  some (0, S2)) else (
  some (1, S2))))) else (
  if x2 = 15 then (
  if x1 < 0 then (
  some (0, S)) else (
  o_gI 1 1 p1 S fun x7 =>
  o_ck (s_K S o = 3) (o_call (f_X3_parametersOf o x7 S) fun x8 S3 =>
  if x8 ≤ x1 then (
  some (0, S3)) else (
  some (1, S3))))) else (
  if x2 = 16 ∨ x2 = 17 ∨ x2 = 18 ∨ x2 = 20 then (
  o_gR 3 2 o S fun x9 =>
  o_cs x9 (none) (fun a1 =>
  o_ck (s_K S a1 = 2) (o_call (f_X1_at a1 x1 S) fun x10 S4 =>
  o_cs x10 (some (0, S4)) (fun a2 =>
  some (1, S4))))) else (
  if x2 = 19 then (
  o_cP (f_X3_isHeld x1) fun x11 =>
  o_ck (x11 = 0 ∨ x11 = 1) (some (x11, S))) else (
  if x2 = 10 ∨ x2 = 13 ∨ x2 = 14 then (
  some (1, S)) else (
  some (1, S))))))))
set_option maxHeartbeats 4000000 in
set_option maxRecDepth 100000 in
theorem c_X3_isSecondTold {l : Launch} {D : va_G} {Y : Nat → ClassId} {aR : Nat → Nat} {A : Nat → Prop} {o : Nat} {p1 : Nat} {S S' : wS} {r : Int32} (hf : f_X3_isSecondTold o p1 S = some (r, S')) : jq_S l D Y aR A yX3_isSecondTold cX3_isSecondTold 3 (some .boolean) 3 65 [.ref o, .ref p1] S (some (.int r)) S' := by
  unfold f_X3_isSecondTold at hf
  refine jq_enterS (by decide) (Nat.le_of_ble_eq_true rfl) fun p e s m args below meth c ls H locs hX hJ hl => ?_
  have hl : lv_has ls 3 [(0, .ref o), (1, .ref p1)] := hl
  have hx := hX.1
  have hb := hX.2.1
  have hm := hX.2.2.1
  have ho := hX.2.2.2.1
  have ht := hX.2.2.2.2.1
  have hn := hX.2.2.2.2.2.1.2.1
  refine lv_aload_n hx hb dX3_isSecondTold_0 rfl (lv_at hl 1 rfl) ?_
  replace hf := o_gI_e hf
  obtain ⟨hk1, x1, hx1, hf⟩ := hf
  refine gn_X0_b hX hJ hk1 hx1 qn277 dX3_isSecondTold_1 ?_
  refine lv_istore_n (lv' := [(2, .int x1), (0, .ref o), (1, .ref p1)]) hx hb dX3_isSecondTold_4 rfl hl (by decide) rfl (fun ls hl' => ?_)
  clear hl
  have hl := hl'
  clear hl'
  refine lv_aload_n hx hb dX3_isSecondTold_5 rfl (lv_at hl 2 rfl) ?_
  replace hf := o_gI_e hf
  obtain ⟨hk2, x2, hx2, hf⟩ := hf
  refine gn_X0_sort hX hJ hk2 hx2 qn270 dX3_isSecondTold_6 ?_
  by_cases c1 : x2 = 9
  · replace hf := o_t hf c1
    refine lv_tableIn (off := 63) (tgt := 72) hx hb dX3_isSecondTold_9 (by rcases c1 with rfl <;> decide) (by rcases c1 with rfl <;> decide) (by rcases c1 with rfl <;> rfl) (by decide) ?_
    refine lv_iload_n hx hb dX3_isSecondTold_72 rfl (lv_at hl 0 rfl) ?_
    refine lv_if_lt (tgt := 86) hx hb dX3_isSecondTold_73 (by decide) (fun c2 => ?_) (fun c2 => ?_)
    · replace hf := o_t hf c2
      refine lv_iconst (v := 0) hx hb dX3_isSecondTold_86 (by decide) ?_
      cases hf
      exact jq_zret hX hJ.2.2 (by decide) dX3_isSecondTold_87 ⟨rfl, rfl, rfl, hJ.1, hJ.2.1⟩
    · replace hf := o_f hf c2
      refine lv_iload_n hx hb dX3_isSecondTold_76 rfl (lv_at hl 0 rfl) ?_
      refine lv_bipush (v := 9) hx hb dX3_isSecondTold_77 (by decide) ?_
      refine lv_icmp_gt (tgt := 86) hx hb dX3_isSecondTold_79 (by decide) (fun c3 => ?_) (fun c3 => ?_)
      · replace hf := o_t hf c3
        refine lv_iconst (v := 0) hx hb dX3_isSecondTold_86 (by decide) ?_
        cases hf
        exact jq_zret hX hJ.2.2 (by decide) dX3_isSecondTold_87 ⟨rfl, rfl, rfl, hJ.1, hJ.2.1⟩
      · replace hf := o_f hf c3
        refine lv_iconst (v := 1) hx hb dX3_isSecondTold_82 (by decide) ?_
        refine lv_goto (tgt := 87) hx hb dX3_isSecondTold_83 (by decide) ?_
        cases hf
        exact jq_zret hX hJ.2.2 (by decide) dX3_isSecondTold_87 ⟨rfl, rfl, rfl, hJ.1, hJ.2.1⟩
  replace hf := o_f hf c1
  by_cases c4 : x2 = 11
  · replace hf := o_t hf c4
    refine lv_tableIn (off := 79) (tgt := 88) hx hb dX3_isSecondTold_9 (by rcases c4 with rfl <;> decide) (by rcases c4 with rfl <;> decide) (by rcases c4 with rfl <;> rfl) (by decide) ?_
    refine lv_iload_n hx hb dX3_isSecondTold_88 rfl (lv_at hl 0 rfl) ?_
    refine lv_if_lt (tgt := 108) hx hb dX3_isSecondTold_89 (by decide) (fun c5 => ?_) (fun c5 => ?_)
    · replace hf := o_t hf c5
      refine lv_iconst (v := 0) hx hb dX3_isSecondTold_108 (by decide) ?_
      cases hf
      exact jq_zret hX hJ.2.2 (by decide) dX3_isSecondTold_109 ⟨rfl, rfl, rfl, hJ.1, hJ.2.1⟩
    · replace hf := o_f hf c5
      refine lv_iload_n hx hb dX3_isSecondTold_92 rfl (lv_at hl 0 rfl) ?_
      refine lv_aload_n hx hb dX3_isSecondTold_93 rfl (lv_at hl 1 rfl) ?_
      refine lv_aload_n hx hb dX3_isSecondTold_94 rfl (lv_at hl 2 rfl) ?_
      replace hf := o_gI_e hf
      obtain ⟨hk3, x3, hx3, hf⟩ := hf
      refine gn_X0_a hX hJ hk3 hx3 qn274 dX3_isSecondTold_95 ?_
      replace hf := o_ck_e hf
      obtain ⟨hk4, hf⟩ := hf
      replace hf := o_call_e hf
      obtain ⟨x4, S1, hq1, hf⟩ := hf
      refine jq_doS hX hJ (jq_okV (As := [.int x3]) (rest := [.int x1]) hx hb hm ho ht (wJ.recv hX hJ (by rw [hk4]; decide) (wE_X3 hk4) rfl) qw329 qw331 qs15 qw332 qw4 hy_X3_parametersOf rfl hl.1 (Nat.le_of_ble_eq_true rfl) dX3_isSecondTold_98) (c_X3_parametersOf hq1) (Nat.le_of_ble_eq_true rfl) (Nat.le_of_ble_eq_true rfl) (fun H locs hJ' => ?_)
      clear hJ
      have hJ := hJ'
      clear hJ'
      refine lv_icmp_gt (tgt := 108) hx hb dX3_isSecondTold_101 (by decide) (fun c6 => ?_) (fun c6 => ?_)
      · replace hf := o_t hf c6
        refine lv_iconst (v := 0) hx hb dX3_isSecondTold_108 (by decide) ?_
        cases hf
        exact jq_zret hX hJ.2.2 (by decide) dX3_isSecondTold_109 ⟨rfl, rfl, rfl, hJ.1, hJ.2.1⟩
      · replace hf := o_f hf c6
        refine lv_iconst (v := 1) hx hb dX3_isSecondTold_104 (by decide) ?_
        refine lv_goto (tgt := 109) hx hb dX3_isSecondTold_105 (by decide) ?_
        cases hf
        exact jq_zret hX hJ.2.2 (by decide) dX3_isSecondTold_109 ⟨rfl, rfl, rfl, hJ.1, hJ.2.1⟩
  replace hf := o_f hf c4
  by_cases c7 : x2 = 12
  · replace hf := o_t hf c7
    refine lv_tableIn (off := 101) (tgt := 110) hx hb dX3_isSecondTold_9 (by rcases c7 with rfl <;> decide) (by rcases c7 with rfl <;> decide) (by rcases c7 with rfl <;> rfl) (by decide) ?_
    refine lv_iload_n hx hb dX3_isSecondTold_110 rfl (lv_at hl 0 rfl) ?_
    refine lv_if_lt (tgt := 132) hx hb dX3_isSecondTold_111 (by decide) (fun c8 => ?_) (fun c8 => ?_)
    · replace hf := o_t hf c8
      refine lv_iconst (v := 0) hx hb dX3_isSecondTold_132 (by decide) ?_
      cases hf
      exact jq_zret hX hJ.2.2 (by decide) dX3_isSecondTold_133 ⟨rfl, rfl, rfl, hJ.1, hJ.2.1⟩
    · replace hf := o_f hf c8
      refine lv_iload_n hx hb dX3_isSecondTold_114 rfl (lv_at hl 0 rfl) ?_
      refine lv_aload_n hx hb dX3_isSecondTold_115 rfl (lv_at hl 1 rfl) ?_
      refine lv_aload_n hx hb dX3_isSecondTold_116 rfl (lv_at hl 2 rfl) ?_
      replace hf := o_gI_e hf
      obtain ⟨hk5, x5, hx5, hf⟩ := hf
      refine gn_X0_a hX hJ hk5 hx5 qn274 dX3_isSecondTold_117 ?_
      replace hf := o_ck_e hf
      obtain ⟨hk6, hf⟩ := hf
      replace hf := o_call_e hf
      obtain ⟨x6, S2, hq2, hf⟩ := hf
      refine jq_doS hX hJ (jq_okV (As := [.int x5]) (rest := [.int x1]) hx hb hm ho ht (wJ.recv hX hJ (by rw [hk6]; decide) (wE_X3 hk6) rfl) qw329 qw331 qs15 qw332 qw4 hy_X3_parametersOf rfl hl.1 (Nat.le_of_ble_eq_true rfl) dX3_isSecondTold_120) (c_X3_parametersOf hq2) (Nat.le_of_ble_eq_true rfl) (Nat.le_of_ble_eq_true rfl) (fun H locs hJ' => ?_)
      clear hJ
      have hJ := hJ'
      clear hJ'
      refine lv_iconst (v := 1) hx hb dX3_isSecondTold_123 (by decide) ?_
      refine lv_isub hx hb dX3_isSecondTold_124 ?_
      refine lv_icmp_ge (tgt := 132) hx hb dX3_isSecondTold_125 (by decide) (fun c9 => ?_) (fun c9 => ?_)
      · replace hf := o_t hf c9
        refine lv_iconst (v := 0) hx hb dX3_isSecondTold_132 (by decide) ?_
        cases hf
        exact jq_zret hX hJ.2.2 (by decide) dX3_isSecondTold_133 ⟨rfl, rfl, rfl, hJ.1, hJ.2.1⟩
      · replace hf := o_f hf c9
        refine lv_iconst (v := 1) hx hb dX3_isSecondTold_128 (by decide) ?_
        refine lv_goto (tgt := 133) hx hb dX3_isSecondTold_129 (by decide) ?_
        cases hf
        exact jq_zret hX hJ.2.2 (by decide) dX3_isSecondTold_133 ⟨rfl, rfl, rfl, hJ.1, hJ.2.1⟩
  replace hf := o_f hf c7
  by_cases c10 : x2 = 15
  · replace hf := o_t hf c10
    refine lv_tableIn (off := 125) (tgt := 134) hx hb dX3_isSecondTold_9 (by rcases c10 with rfl <;> decide) (by rcases c10 with rfl <;> decide) (by rcases c10 with rfl <;> rfl) (by decide) ?_
    refine lv_iload_n hx hb dX3_isSecondTold_134 rfl (lv_at hl 0 rfl) ?_
    refine lv_if_lt (tgt := 154) hx hb dX3_isSecondTold_135 (by decide) (fun c11 => ?_) (fun c11 => ?_)
    · replace hf := o_t hf c11
      refine lv_iconst (v := 0) hx hb dX3_isSecondTold_154 (by decide) ?_
      cases hf
      exact jq_zret hX hJ.2.2 (by decide) dX3_isSecondTold_155 ⟨rfl, rfl, rfl, hJ.1, hJ.2.1⟩
    · replace hf := o_f hf c11
      refine lv_iload_n hx hb dX3_isSecondTold_138 rfl (lv_at hl 0 rfl) ?_
      refine lv_aload_n hx hb dX3_isSecondTold_139 rfl (lv_at hl 1 rfl) ?_
      refine lv_aload_n hx hb dX3_isSecondTold_140 rfl (lv_at hl 2 rfl) ?_
      replace hf := o_gI_e hf
      obtain ⟨hk7, x7, hx7, hf⟩ := hf
      refine gn_X0_a hX hJ hk7 hx7 qn274 dX3_isSecondTold_141 ?_
      replace hf := o_ck_e hf
      obtain ⟨hk8, hf⟩ := hf
      replace hf := o_call_e hf
      obtain ⟨x8, S3, hq3, hf⟩ := hf
      refine jq_doS hX hJ (jq_okV (As := [.int x7]) (rest := [.int x1]) hx hb hm ho ht (wJ.recv hX hJ (by rw [hk8]; decide) (wE_X3 hk8) rfl) qw329 qw331 qs15 qw332 qw4 hy_X3_parametersOf rfl hl.1 (Nat.le_of_ble_eq_true rfl) dX3_isSecondTold_144) (c_X3_parametersOf hq3) (Nat.le_of_ble_eq_true rfl) (Nat.le_of_ble_eq_true rfl) (fun H locs hJ' => ?_)
      clear hJ
      have hJ := hJ'
      clear hJ'
      refine lv_icmp_ge (tgt := 154) hx hb dX3_isSecondTold_147 (by decide) (fun c12 => ?_) (fun c12 => ?_)
      · replace hf := o_t hf c12
        refine lv_iconst (v := 0) hx hb dX3_isSecondTold_154 (by decide) ?_
        cases hf
        exact jq_zret hX hJ.2.2 (by decide) dX3_isSecondTold_155 ⟨rfl, rfl, rfl, hJ.1, hJ.2.1⟩
      · replace hf := o_f hf c12
        refine lv_iconst (v := 1) hx hb dX3_isSecondTold_150 (by decide) ?_
        refine lv_goto (tgt := 155) hx hb dX3_isSecondTold_151 (by decide) ?_
        cases hf
        exact jq_zret hX hJ.2.2 (by decide) dX3_isSecondTold_155 ⟨rfl, rfl, rfl, hJ.1, hJ.2.1⟩
  replace hf := o_f hf c10
  by_cases c13 : x2 = 16 ∨ x2 = 17 ∨ x2 = 18 ∨ x2 = 20
  · replace hf := o_t hf c13
    refine lv_tableIn (off := 147) (tgt := 156) hx hb dX3_isSecondTold_9 (by rcases c13 with rfl | rfl | rfl | rfl <;> decide) (by rcases c13 with rfl | rfl | rfl | rfl <;> decide) (by rcases c13 with rfl | rfl | rfl | rfl <;> rfl) (by decide) ?_
    refine lv_aload_n hx hb dX3_isSecondTold_156 rfl (lv_at hl 1 rfl) ?_
    replace hf := o_gR_e hf
    obtain ⟨hk9, x9, hx9, hf⟩ := hf
    refine gf_X3_handles hX hJ hk9 hx9 qw63 dX3_isSecondTold_157 ?_
    refine lv_iload_n hx hb dX3_isSecondTold_160 rfl (lv_at hl 0 rfl) ?_
    replace hf := o_cs_e hf
    rcases hf with ⟨hr1, hf⟩ | ⟨a1, hr1, hf⟩
    · subst hr1
      cases hf
    · subst hr1
      replace hf := o_ck_e hf
      obtain ⟨hk10, hf⟩ := hf
      replace hf := o_call_e hf
      obtain ⟨x10, S4, hq4, hf⟩ := hf
      refine jq_doS hX hJ (jq_okVN (As := [.int x1]) (rest := []) hx hb hm ho ht hn (wJ.recv hX hJ (by rw [hk10]; decide) (wE_X1 hk10) rfl) qn321 qw323 qs13 qw324 qw3 hy_X1_at rfl hl.1 (Nat.le_of_ble_eq_true rfl) dX3_isSecondTold_161) (c_X1_at hq4) (Nat.le_of_ble_eq_true rfl) (Nat.le_of_ble_eq_true rfl) (fun H locs hJ' => ?_)
      clear hJ
      have hJ := hJ'
      clear hJ'
      replace hf := o_cs_e hf
      rcases hf with ⟨hr2, hf⟩ | ⟨a2, hr2, hf⟩
      · subst hr2
        refine lv_ifnullN (tgt := 171) hx hb dX3_isSecondTold_164 (by decide) ?_
        refine lv_iconst (v := 0) hx hb dX3_isSecondTold_171 (by decide) ?_
        cases hf
        exact jq_zret hX hJ.2.2 (by decide) dX3_isSecondTold_172 ⟨rfl, rfl, rfl, hJ.1, hJ.2.1⟩
      · subst hr2
        refine lv_ifnull hx hb dX3_isSecondTold_164 ?_
        refine lv_iconst (v := 1) hx hb dX3_isSecondTold_167 (by decide) ?_
        refine lv_goto (tgt := 172) hx hb dX3_isSecondTold_168 (by decide) ?_
        cases hf
        exact jq_zret hX hJ.2.2 (by decide) dX3_isSecondTold_172 ⟨rfl, rfl, rfl, hJ.1, hJ.2.1⟩
  replace hf := o_f hf c13
  by_cases c14 : x2 = 19
  · replace hf := o_t hf c14
    refine lv_tableIn (off := 164) (tgt := 173) hx hb dX3_isSecondTold_9 (by rcases c14 with rfl <;> decide) (by rcases c14 with rfl <;> decide) (by rcases c14 with rfl <;> rfl) (by decide) ?_
    refine lv_iload_n hx hb dX3_isSecondTold_173 rfl (lv_at hl 0 rfl) ?_
    replace hf := o_cP_e hf
    obtain ⟨x11, hq5, hf⟩ := hf
    refine jq_doPS hX hJ (jq_okS (As := [.int x1]) (rest := []) hx hb hm ho ht qw338 qw339 qw340 qw4 hy_X3_isHeld rfl hl.1 (Nat.le_of_ble_eq_true rfl) dX3_isSecondTold_174) (c_X3_isHeld hq5) (Nat.le_of_ble_eq_true rfl) (Nat.le_of_ble_eq_true rfl) (fun locs hJ' => ?_)
    clear hJ
    have hJ := hJ'
    clear hJ'
    replace hf := o_ck_e hf
    obtain ⟨hc1, hf⟩ := hf
    cases hf
    exact jq_zret hX hJ.2.2 (qz_b hc1) dX3_isSecondTold_177 ⟨rfl, rfl, rfl, hJ.1, hJ.2.1⟩
  replace hf := o_f hf c14
  by_cases c15 : x2 = 10 ∨ x2 = 13 ∨ x2 = 14
  · replace hf := o_t hf c15
    refine lv_tableIn (off := 169) (tgt := 178) hx hb dX3_isSecondTold_9 (by rcases c15 with rfl | rfl | rfl <;> decide) (by rcases c15 with rfl | rfl | rfl <;> decide) (by rcases c15 with rfl | rfl | rfl <;> rfl) (by decide) ?_
    refine lv_iconst (v := 1) hx hb dX3_isSecondTold_178 (by decide) ?_
    cases hf
    exact jq_zret hX hJ.2.2 (by decide) dX3_isSecondTold_179 ⟨rfl, rfl, rfl, hJ.1, hJ.2.1⟩
  replace hf := o_f hf c15
  refine lv_tableOut (tgt := 178) hx hb dX3_isSecondTold_9 (by have e0 := sw_ne c1 (n := 9) (by decide); have e1 := sw_ne c4 (n := 11) (by decide); have e2 := sw_ne c7 (n := 12) (by decide); have e3 := sw_ne c10 (n := 15) (by decide); have e4 := sw_ne (fun z => c13 (Or.inl z)) (n := 16) (by decide); have e5 := sw_ne (fun z => c13 (Or.inr (Or.inl z))) (n := 17) (by decide); have e6 := sw_ne (fun z => c13 (Or.inr (Or.inr (Or.inl z)))) (n := 18) (by decide); have e7 := sw_ne (fun z => c13 (Or.inr (Or.inr (Or.inr z)))) (n := 20) (by decide); have e8 := sw_ne c14 (n := 19) (by decide); have e9 := sw_ne (fun z => c15 (Or.inl z)) (n := 10) (by decide); have e10 := sw_ne (fun z => c15 (Or.inr (Or.inl z))) (n := 13) (by decide); have e11 := sw_ne (fun z => c15 (Or.inr (Or.inr z))) (n := 14) (by decide); omega) (by decide) ?_
  refine lv_iconst (v := 1) hx hb dX3_isSecondTold_178 (by decide) ?_
  cases hf
  exact jq_zret hX hJ.2.2 (by decide) dX3_isSecondTold_179 ⟨rfl, rfl, rfl, hJ.1, hJ.2.1⟩
theorem dX3_isThirdTold_0 : decode cX3_isThirdTold 0 = .ok (.aload_n 1, 1) := by decide +kernel
theorem dX3_isThirdTold_1 : decode cX3_isThirdTold 1 = .ok (.getfield 19, 3) := by decide +kernel
theorem dX3_isThirdTold_4 : decode cX3_isThirdTold 4 = .ok (.tableswitch 80 11 19 #[52, 80, 80, 80, 60, 80, 80, 60, 60], 52) := by decide +kernel
theorem dX3_isThirdTold_56 : decode cX3_isThirdTold 56 = .ok (.aload_n 1, 1) := by decide +kernel
theorem dX3_isThirdTold_57 : decode cX3_isThirdTold 57 = .ok (.getfield 85, 3) := by decide +kernel
theorem dX3_isThirdTold_60 : decode cX3_isThirdTold 60 = .ok (.invokestatic 58, 3) := by decide +kernel
theorem dX3_isThirdTold_63 : decode cX3_isThirdTold 63 = .ok (.ireturn, 1) := by decide +kernel
theorem dX3_isThirdTold_64 : decode cX3_isThirdTold 64 = .ok (.aload_n 0, 1) := by decide +kernel
theorem dX3_isThirdTold_65 : decode cX3_isThirdTold 65 = .ok (.getfield 9, 3) := by decide +kernel
theorem dX3_isThirdTold_68 : decode cX3_isThirdTold 68 = .ok (.aload_n 1, 1) := by decide +kernel
theorem dX3_isThirdTold_69 : decode cX3_isThirdTold 69 = .ok (.getfield 85, 3) := by decide +kernel
theorem dX3_isThirdTold_72 : decode cX3_isThirdTold 72 = .ok (.invokevirtual 69, 3) := by decide +kernel
theorem dX3_isThirdTold_75 : decode cX3_isThirdTold 75 = .ok (.ifnull 7, 3) := by decide +kernel
theorem dX3_isThirdTold_78 : decode cX3_isThirdTold 78 = .ok (.iconst 1, 1) := by decide +kernel
theorem dX3_isThirdTold_79 : decode cX3_isThirdTold 79 = .ok (.goto 4, 3) := by decide +kernel
theorem dX3_isThirdTold_83 : decode cX3_isThirdTold 83 = .ok (.ireturn, 1) := by decide +kernel
theorem dX3_isThirdTold_82 : decode cX3_isThirdTold 82 = .ok (.iconst 0, 1) := by decide +kernel
theorem dX3_isThirdTold_84 : decode cX3_isThirdTold 84 = .ok (.iconst 1, 1) := by decide +kernel
theorem dX3_isThirdTold_85 : decode cX3_isThirdTold 85 = .ok (.ireturn, 1) := by decide +kernel
theorem hy_X3_isThirdTold : yX3_isThirdTold.cls ≠ "java/lang/invoke/MethodHandle" ∧ yX3_isThirdTold.cls ≠ "java/lang/invoke/VarHandle" ∧ (parseMethodDescriptor yX3_isThirdTold.desc).map (fun d => d.parameters.length) = some 1 := ⟨by decide, by decide, by decide +kernel⟩
def f_X3_isThirdTold (o : Nat) (p1 : Nat) (S : wS) : Option ((Int32) × wS) :=
  o_gI 1 0 p1 S fun x1 =>
  if x1 = 11 then (
  o_gI 1 3 p1 S fun x2 =>
  o_cP (f_X2_isKind x2) fun x3 =>
  o_ck (x3 = 0 ∨ x3 = 1) (some (x3, S))) else (
  if x1 = 15 ∨ x1 = 18 ∨ x1 = 19 then (
  o_gR 3 2 o S fun x4 =>
  o_gI 1 3 p1 S fun x5 =>
  o_cs x4 (none) (fun a1 =>
  o_ck (s_K S a1 = 2) (o_call (f_X1_at a1 x5 S) fun x6 S1 =>
  o_cs x6 (some (0, S1)) (fun a2 =>
  some (1, S1))))) else (
  if x1 = 12 ∨ x1 = 13 ∨ x1 = 14 ∨ x1 = 16 ∨ x1 = 17 then (
  some (1, S)) else (
  some (1, S))))
set_option maxHeartbeats 4000000 in
set_option maxRecDepth 100000 in
theorem c_X3_isThirdTold {l : Launch} {D : va_G} {Y : Nat → ClassId} {aR : Nat → Nat} {A : Nat → Prop} {o : Nat} {p1 : Nat} {S S' : wS} {r : Int32} (hf : f_X3_isThirdTold o p1 S = some (r, S')) : jq_S l D Y aR A yX3_isThirdTold cX3_isThirdTold 2 (some .boolean) 1 21 [.ref o, .ref p1] S (some (.int r)) S' := by
  unfold f_X3_isThirdTold at hf
  refine jq_enterS (by decide) (Nat.le_of_ble_eq_true rfl) fun p e s m args below meth c ls H locs hX hJ hl => ?_
  have hl : lv_has ls 2 [(0, .ref o), (1, .ref p1)] := hl
  have hx := hX.1
  have hb := hX.2.1
  have hm := hX.2.2.1
  have ho := hX.2.2.2.1
  have ht := hX.2.2.2.2.1
  have hn := hX.2.2.2.2.2.1.2.1
  refine lv_aload_n hx hb dX3_isThirdTold_0 rfl (lv_at hl 1 rfl) ?_
  replace hf := o_gI_e hf
  obtain ⟨hk1, x1, hx1, hf⟩ := hf
  refine gn_X0_sort hX hJ hk1 hx1 qn270 dX3_isThirdTold_1 ?_
  by_cases c1 : x1 = 11
  · replace hf := o_t hf c1
    refine lv_tableIn (off := 52) (tgt := 56) hx hb dX3_isThirdTold_4 (by rcases c1 with rfl <;> decide) (by rcases c1 with rfl <;> decide) (by rcases c1 with rfl <;> rfl) (by decide) ?_
    refine lv_aload_n hx hb dX3_isThirdTold_56 rfl (lv_at hl 1 rfl) ?_
    replace hf := o_gI_e hf
    obtain ⟨hk2, x2, hx2, hf⟩ := hf
    refine gn_X0_c hX hJ hk2 hx2 qn280 dX3_isThirdTold_57 ?_
    replace hf := o_cP_e hf
    obtain ⟨x3, hq1, hf⟩ := hf
    refine jq_doPS hX hJ (jq_okSN (As := [.int x2]) (rest := []) hx hb hm ho ht hn qn316 qw249 qw250 qw8 hy_X2_isKind rfl hl.1 (Nat.le_of_ble_eq_true rfl) dX3_isThirdTold_60) (c_X2_isKind hq1) (Nat.le_of_ble_eq_true rfl) (Nat.le_of_ble_eq_true rfl) (fun locs hJ' => ?_)
    clear hJ
    have hJ := hJ'
    clear hJ'
    replace hf := o_ck_e hf
    obtain ⟨hc1, hf⟩ := hf
    cases hf
    exact jq_zret hX hJ.2.2 (qz_b hc1) dX3_isThirdTold_63 ⟨rfl, rfl, rfl, hJ.1, hJ.2.1⟩
  replace hf := o_f hf c1
  by_cases c2 : x1 = 15 ∨ x1 = 18 ∨ x1 = 19
  · replace hf := o_t hf c2
    refine lv_tableIn (off := 60) (tgt := 64) hx hb dX3_isThirdTold_4 (by rcases c2 with rfl | rfl | rfl <;> decide) (by rcases c2 with rfl | rfl | rfl <;> decide) (by rcases c2 with rfl | rfl | rfl <;> rfl) (by decide) ?_
    refine lv_aload_n hx hb dX3_isThirdTold_64 rfl (lv_at hl 0 rfl) ?_
    replace hf := o_gR_e hf
    obtain ⟨hk3, x4, hx4, hf⟩ := hf
    refine gf_X3_handles hX hJ hk3 hx4 qw63 dX3_isThirdTold_65 ?_
    refine lv_aload_n hx hb dX3_isThirdTold_68 rfl (lv_at hl 1 rfl) ?_
    replace hf := o_gI_e hf
    obtain ⟨hk4, x5, hx5, hf⟩ := hf
    refine gn_X0_c hX hJ hk4 hx5 qn280 dX3_isThirdTold_69 ?_
    replace hf := o_cs_e hf
    rcases hf with ⟨hr1, hf⟩ | ⟨a1, hr1, hf⟩
    · subst hr1
      cases hf
    · subst hr1
      replace hf := o_ck_e hf
      obtain ⟨hk5, hf⟩ := hf
      replace hf := o_call_e hf
      obtain ⟨x6, S1, hq2, hf⟩ := hf
      refine jq_doS hX hJ (jq_okVN (As := [.int x5]) (rest := []) hx hb hm ho ht hn (wJ.recv hX hJ (by rw [hk5]; decide) (wE_X1 hk5) rfl) qn321 qw323 qs13 qw324 qw3 hy_X1_at rfl hl.1 (Nat.le_of_ble_eq_true rfl) dX3_isThirdTold_72) (c_X1_at hq2) (Nat.le_of_ble_eq_true rfl) (Nat.le_of_ble_eq_true rfl) (fun H locs hJ' => ?_)
      clear hJ
      have hJ := hJ'
      clear hJ'
      replace hf := o_cs_e hf
      rcases hf with ⟨hr2, hf⟩ | ⟨a2, hr2, hf⟩
      · subst hr2
        refine lv_ifnullN (tgt := 82) hx hb dX3_isThirdTold_75 (by decide) ?_
        refine lv_iconst (v := 0) hx hb dX3_isThirdTold_82 (by decide) ?_
        cases hf
        exact jq_zret hX hJ.2.2 (by decide) dX3_isThirdTold_83 ⟨rfl, rfl, rfl, hJ.1, hJ.2.1⟩
      · subst hr2
        refine lv_ifnull hx hb dX3_isThirdTold_75 ?_
        refine lv_iconst (v := 1) hx hb dX3_isThirdTold_78 (by decide) ?_
        refine lv_goto (tgt := 83) hx hb dX3_isThirdTold_79 (by decide) ?_
        cases hf
        exact jq_zret hX hJ.2.2 (by decide) dX3_isThirdTold_83 ⟨rfl, rfl, rfl, hJ.1, hJ.2.1⟩
  replace hf := o_f hf c2
  by_cases c3 : x1 = 12 ∨ x1 = 13 ∨ x1 = 14 ∨ x1 = 16 ∨ x1 = 17
  · replace hf := o_t hf c3
    refine lv_tableIn (off := 80) (tgt := 84) hx hb dX3_isThirdTold_4 (by rcases c3 with rfl | rfl | rfl | rfl | rfl <;> decide) (by rcases c3 with rfl | rfl | rfl | rfl | rfl <;> decide) (by rcases c3 with rfl | rfl | rfl | rfl | rfl <;> rfl) (by decide) ?_
    refine lv_iconst (v := 1) hx hb dX3_isThirdTold_84 (by decide) ?_
    cases hf
    exact jq_zret hX hJ.2.2 (by decide) dX3_isThirdTold_85 ⟨rfl, rfl, rfl, hJ.1, hJ.2.1⟩
  replace hf := o_f hf c3
  refine lv_tableOut (tgt := 84) hx hb dX3_isThirdTold_4 (by have e0 := sw_ne c1 (n := 11) (by decide); have e1 := sw_ne (fun z => c2 (Or.inl z)) (n := 15) (by decide); have e2 := sw_ne (fun z => c2 (Or.inr (Or.inl z))) (n := 18) (by decide); have e3 := sw_ne (fun z => c2 (Or.inr (Or.inr z))) (n := 19) (by decide); have e4 := sw_ne (fun z => c3 (Or.inl z)) (n := 12) (by decide); have e5 := sw_ne (fun z => c3 (Or.inr (Or.inl z))) (n := 13) (by decide); have e6 := sw_ne (fun z => c3 (Or.inr (Or.inr (Or.inl z)))) (n := 14) (by decide); have e7 := sw_ne (fun z => c3 (Or.inr (Or.inr (Or.inr (Or.inl z))))) (n := 16) (by decide); have e8 := sw_ne (fun z => c3 (Or.inr (Or.inr (Or.inr (Or.inr z))))) (n := 17) (by decide); omega) (by decide) ?_
  refine lv_iconst (v := 1) hx hb dX3_isThirdTold_84 (by decide) ?_
  cases hf
  exact jq_zret hX hJ.2.2 (by decide) dX3_isThirdTold_85 ⟨rfl, rfl, rfl, hJ.1, hJ.2.1⟩
theorem dX3_kindOfBits_0 : decode cX3_kindOfBits 0 = .ok (.aload_n 1, 1) := by decide +kernel
theorem dX3_kindOfBits_1 : decode cX3_kindOfBits 1 = .ok (.getfield 19, 3) := by decide +kernel
theorem dX3_kindOfBits_4 : decode cX3_kindOfBits 4 = .ok (.ifCond .ne 8, 3) := by decide +kernel
theorem dX3_kindOfBits_12 : decode cX3_kindOfBits 12 = .ok (.aload_n 1, 1) := by decide +kernel
theorem dX3_kindOfBits_13 : decode cX3_kindOfBits 13 = .ok (.getfield 19, 3) := by decide +kernel
theorem dX3_kindOfBits_16 : decode cX3_kindOfBits 16 = .ok (.bipush 14, 2) := by decide +kernel
theorem dX3_kindOfBits_18 : decode cX3_kindOfBits 18 = .ok (.if_icmp .ne 17, 3) := by decide +kernel
theorem dX3_kindOfBits_35 : decode cX3_kindOfBits 35 = .ok (.aconst_null, 1) := by decide +kernel
theorem dX3_kindOfBits_36 : decode cX3_kindOfBits 36 = .ok (.astore_n 2, 1) := by decide +kernel
theorem dX3_kindOfBits_37 : decode cX3_kindOfBits 37 = .ok (.aload_n 2, 1) := by decide +kernel
theorem dX3_kindOfBits_38 : decode cX3_kindOfBits 38 = .ok (.ifnonnull 7, 3) := by decide +kernel
theorem dX3_kindOfBits_41 : decode cX3_kindOfBits 41 = .ok (.iconst (-1), 1) := by decide +kernel
theorem dX3_kindOfBits_42 : decode cX3_kindOfBits 42 = .ok (.goto 8, 3) := by decide +kernel
theorem dX3_kindOfBits_50 : decode cX3_kindOfBits 50 = .ok (.ireturn, 1) := by decide +kernel
theorem dX3_kindOfBits_21 : decode cX3_kindOfBits 21 = .ok (.aload_n 0, 1) := by decide +kernel
theorem dX3_kindOfBits_22 : decode cX3_kindOfBits 22 = .ok (.getfield 9, 3) := by decide +kernel
theorem dX3_kindOfBits_25 : decode cX3_kindOfBits 25 = .ok (.aload_n 1, 1) := by decide +kernel
theorem dX3_kindOfBits_26 : decode cX3_kindOfBits 26 = .ok (.getfield 55, 3) := by decide +kernel
theorem dX3_kindOfBits_29 : decode cX3_kindOfBits 29 = .ok (.invokevirtual 90, 3) := by decide +kernel
theorem dX3_kindOfBits_32 : decode cX3_kindOfBits 32 = .ok (.goto 4, 3) := by decide +kernel
theorem dX3_kindOfBits_45 : decode cX3_kindOfBits 45 = .ok (.aload_n 2, 1) := by decide +kernel
theorem dX3_kindOfBits_46 : decode cX3_kindOfBits 46 = .ok (.iconst 0, 1) := by decide +kernel
theorem dX3_kindOfBits_47 : decode cX3_kindOfBits 47 = .ok (.invokevirtual 99, 3) := by decide +kernel
theorem dX3_kindOfBits_7 : decode cX3_kindOfBits 7 = .ok (.aload_n 1, 1) := by decide +kernel
theorem dX3_kindOfBits_8 : decode cX3_kindOfBits 8 = .ok (.getfield 55, 3) := by decide +kernel
theorem dX3_kindOfBits_11 : decode cX3_kindOfBits 11 = .ok (.ireturn, 1) := by decide +kernel
theorem hy_X3_kindOfBits : yX3_kindOfBits.cls ≠ "java/lang/invoke/MethodHandle" ∧ yX3_kindOfBits.cls ≠ "java/lang/invoke/VarHandle" ∧ (parseMethodDescriptor yX3_kindOfBits.desc).map (fun d => d.parameters.length) = some 1 := ⟨by decide, by decide, by decide +kernel⟩
def f_X3_kindOfBits (o : Nat) (p1 : Nat) (S : wS) : Option ((Int32) × wS) :=
  o_gI 1 0 p1 S fun x1 =>
  if x1 = 0 then (
  o_gI 1 1 p1 S fun x7 =>
  some (x7, S)) else (
  o_gI 1 0 p1 S fun x2 =>
  if x2 = 14 then (
  o_gR 3 2 o S fun x3 =>
  o_gI 1 1 p1 S fun x4 =>
  o_cs x3 (none) (fun a1 =>
  o_ck (s_K S a1 = 2) (o_call (f_X1_typeAt a1 x4 S) fun x5 S1 =>
  o_cs x5 (some ((-1), S1)) (fun a2 =>
  o_ck (s_K S1 a2 = 8) (o_call (f_X9_kind a2 0 S1) fun x6 S2 =>
  some (x6, S2)))))) else (
  some ((-1), S)))
set_option maxHeartbeats 4000000 in
set_option maxRecDepth 100000 in
theorem c_X3_kindOfBits {l : Launch} {D : va_G} {Y : Nat → ClassId} {aR : Nat → Nat} {A : Nat → Prop} {o : Nat} {p1 : Nat} {S S' : wS} {r : Int32} (hf : f_X3_kindOfBits o p1 S = some (r, S')) : jq_S l D Y aR A yX3_kindOfBits cX3_kindOfBits 3 (some .int) 2 43 [.ref o, .ref p1] S (some (.int r)) S' := by
  unfold f_X3_kindOfBits at hf
  refine jq_enterS (by decide) (Nat.le_of_ble_eq_true rfl) fun p e s m args below meth c ls H locs hX hJ hl => ?_
  have hl : lv_has ls 3 [(0, .ref o), (1, .ref p1)] := hl
  have hx := hX.1
  have hb := hX.2.1
  have hm := hX.2.2.1
  have ho := hX.2.2.2.1
  have ht := hX.2.2.2.2.1
  have hn := hX.2.2.2.2.2.1.2.1
  refine lv_aload_n hx hb dX3_kindOfBits_0 rfl (lv_at hl 1 rfl) ?_
  replace hf := o_gI_e hf
  obtain ⟨hk1, x1, hx1, hf⟩ := hf
  refine gn_X0_sort hX hJ hk1 hx1 qn270 dX3_kindOfBits_1 ?_
  refine lv_if_ne (tgt := 12) hx hb dX3_kindOfBits_4 (by decide) (fun c1 => ?_) (fun c1 => ?_)
  · replace hf := o_f hf c1
    refine lv_aload_n hx hb dX3_kindOfBits_12 rfl (lv_at hl 1 rfl) ?_
    replace hf := o_gI_e hf
    obtain ⟨hk2, x2, hx2, hf⟩ := hf
    refine gn_X0_sort hX hJ hk2 hx2 qn270 dX3_kindOfBits_13 ?_
    refine lv_bipush (v := 14) hx hb dX3_kindOfBits_16 (by decide) ?_
    refine lv_icmp_ne (tgt := 35) hx hb dX3_kindOfBits_18 (by decide) (fun c2 => ?_) (fun c2 => ?_)
    · replace hf := o_f hf c2
      refine lv_null hx hb dX3_kindOfBits_35 ?_
      refine lv_astore_nN (lv' := [(2, .null), (0, .ref o), (1, .ref p1)]) hx hb dX3_kindOfBits_36 rfl hl (by decide) rfl (fun ls hl' => ?_)
      clear hl
      have hl := hl'
      clear hl'
      refine lv_aload_nN hx hb dX3_kindOfBits_37 rfl (lv_at hl 0 rfl) ?_
      refine lv_ifnonnullN hx hb dX3_kindOfBits_38 ?_
      refine lv_iconst (v := (-1)) hx hb dX3_kindOfBits_41 (by decide) ?_
      refine lv_goto (tgt := 50) hx hb dX3_kindOfBits_42 (by decide) ?_
      cases hf
      exact jq_iret hX hJ.2.2 dX3_kindOfBits_50 ⟨rfl, rfl, rfl, hJ.1, hJ.2.1⟩
    · replace hf := o_t hf c2
      refine lv_aload_n hx hb dX3_kindOfBits_21 rfl (lv_at hl 0 rfl) ?_
      replace hf := o_gR_e hf
      obtain ⟨hk3, x3, hx3, hf⟩ := hf
      refine gf_X3_handles hX hJ hk3 hx3 qw63 dX3_kindOfBits_22 ?_
      refine lv_aload_n hx hb dX3_kindOfBits_25 rfl (lv_at hl 1 rfl) ?_
      replace hf := o_gI_e hf
      obtain ⟨hk4, x4, hx4, hf⟩ := hf
      refine gn_X0_a hX hJ hk4 hx4 qn274 dX3_kindOfBits_26 ?_
      replace hf := o_cs_e hf
      rcases hf with ⟨hr1, hf⟩ | ⟨a1, hr1, hf⟩
      · subst hr1
        cases hf
      · subst hr1
        replace hf := o_ck_e hf
        obtain ⟨hk5, hf⟩ := hf
        replace hf := o_call_e hf
        obtain ⟨x5, S1, hq1, hf⟩ := hf
        refine jq_doS hX hJ (jq_okVN (As := [.int x4]) (rest := []) hx hb hm ho ht hn (wJ.recv hX hJ (by rw [hk5]; decide) (wE_X1 hk5) rfl) qn333 qw335 qs16 qw336 qw3 hy_X1_typeAt rfl hl.1 (Nat.le_of_ble_eq_true rfl) dX3_kindOfBits_29) (c_X1_typeAt hq1) (Nat.le_of_ble_eq_true rfl) (Nat.le_of_ble_eq_true rfl) (fun H locs hJ' => ?_)
        clear hJ
        have hJ := hJ'
        clear hJ'
        refine lv_goto (tgt := 36) hx hb dX3_kindOfBits_32 (by decide) ?_
        replace hf := o_cs_e hf
        rcases hf with ⟨hr2, hf⟩ | ⟨a2, hr2, hf⟩
        · subst hr2
          refine lv_astore_nN (lv' := [(2, .null), (0, .ref o), (1, .ref p1)]) hx hb dX3_kindOfBits_36 rfl hl (by decide) rfl (fun ls hl' => ?_)
          clear hl
          have hl := hl'
          clear hl'
          refine lv_aload_nN hx hb dX3_kindOfBits_37 rfl (lv_at hl 0 rfl) ?_
          refine lv_ifnonnullN hx hb dX3_kindOfBits_38 ?_
          refine lv_iconst (v := (-1)) hx hb dX3_kindOfBits_41 (by decide) ?_
          refine lv_goto (tgt := 50) hx hb dX3_kindOfBits_42 (by decide) ?_
          cases hf
          exact jq_iret hX hJ.2.2 dX3_kindOfBits_50 ⟨rfl, rfl, rfl, hJ.1, hJ.2.1⟩
        · subst hr2
          refine lv_astore_n (lv' := [(2, .ref a2), (0, .ref o), (1, .ref p1)]) hx hb dX3_kindOfBits_36 rfl hl (by decide) rfl (fun ls hl' => ?_)
          clear hl
          have hl := hl'
          clear hl'
          refine lv_aload_n hx hb dX3_kindOfBits_37 rfl (lv_at hl 0 rfl) ?_
          refine lv_ifnonnull (tgt := 45) hx hb dX3_kindOfBits_38 (by decide) ?_
          refine lv_aload_n hx hb dX3_kindOfBits_45 rfl (lv_at hl 0 rfl) ?_
          refine lv_iconst (v := 0) hx hb dX3_kindOfBits_46 (by decide) ?_
          replace hf := o_ck_e hf
          obtain ⟨hk6, hf⟩ := hf
          replace hf := o_call_e hf
          obtain ⟨x6, S2, hq2, hf⟩ := hf
          refine jq_doS hX hJ (jq_okVN (As := [.int 0]) (rest := []) hx hb hm ho ht hn (wJ.recv hX hJ (by rw [hk6]; decide) (wE_X9 hk6) rfl) qn349 qw351 qs19 qw352 qw6 hy_X9_kind rfl hl.1 (Nat.le_of_ble_eq_true rfl) dX3_kindOfBits_47) (c_X9_kind hq2) (Nat.le_of_ble_eq_true rfl) (Nat.le_of_ble_eq_true rfl) (fun H locs hJ' => ?_)
          clear hJ
          have hJ := hJ'
          clear hJ'
          cases hf
          exact jq_iret hX hJ.2.2 dX3_kindOfBits_50 ⟨rfl, rfl, rfl, hJ.1, hJ.2.1⟩
  · replace hf := o_t hf c1
    refine lv_aload_n hx hb dX3_kindOfBits_7 rfl (lv_at hl 1 rfl) ?_
    replace hf := o_gI_e hf
    obtain ⟨hk7, x7, hx7, hf⟩ := hf
    refine gn_X0_a hX hJ hk7 hx7 qn274 dX3_kindOfBits_8 ?_
    cases hf
    exact jq_iret hX hJ.2.2 dX3_kindOfBits_11 ⟨rfl, rfl, rfl, hJ.1, hJ.2.1⟩
theorem dX3_isTold_0 : decode cX3_isTold 0 = .ok (.aload_n 1, 1) := by decide +kernel
theorem dX3_isTold_1 : decode cX3_isTold 1 = .ok (.getfield 19, 3) := by decide +kernel
theorem dX3_isTold_4 : decode cX3_isTold 4 = .ok (.invokestatic 25, 3) := by decide +kernel
theorem dX3_isTold_7 : decode cX3_isTold 7 = .ok (.ifCond .eq 50, 3) := by decide +kernel
theorem dX3_isTold_57 : decode cX3_isTold 57 = .ok (.iconst 0, 1) := by decide +kernel
theorem dX3_isTold_58 : decode cX3_isTold 58 = .ok (.ireturn, 1) := by decide +kernel
theorem dX3_isTold_10 : decode cX3_isTold 10 = .ok (.aload_n 0, 1) := by decide +kernel
theorem dX3_isTold_11 : decode cX3_isTold 11 = .ok (.aload_n 1, 1) := by decide +kernel
theorem dX3_isTold_12 : decode cX3_isTold 12 = .ok (.invokevirtual 31, 3) := by decide +kernel
theorem dX3_isTold_15 : decode cX3_isTold 15 = .ok (.ifCond .eq 42, 3) := by decide +kernel
theorem dX3_isTold_18 : decode cX3_isTold 18 = .ok (.aload_n 0, 1) := by decide +kernel
theorem dX3_isTold_19 : decode cX3_isTold 19 = .ok (.aload_n 1, 1) := by decide +kernel
theorem dX3_isTold_20 : decode cX3_isTold 20 = .ok (.invokevirtual 35, 3) := by decide +kernel
theorem dX3_isTold_23 : decode cX3_isTold 23 = .ok (.ifCond .eq 34, 3) := by decide +kernel
theorem dX3_isTold_26 : decode cX3_isTold 26 = .ok (.aload_n 0, 1) := by decide +kernel
theorem dX3_isTold_27 : decode cX3_isTold 27 = .ok (.aload_n 1, 1) := by decide +kernel
theorem dX3_isTold_28 : decode cX3_isTold 28 = .ok (.invokevirtual 38, 3) := by decide +kernel
theorem dX3_isTold_31 : decode cX3_isTold 31 = .ok (.ifCond .eq 26, 3) := by decide +kernel
theorem dX3_isTold_34 : decode cX3_isTold 34 = .ok (.aload_n 0, 1) := by decide +kernel
theorem dX3_isTold_35 : decode cX3_isTold 35 = .ok (.getfield 15, 3) := by decide +kernel
theorem dX3_isTold_38 : decode cX3_isTold 38 = .ok (.aload_n 0, 1) := by decide +kernel
theorem dX3_isTold_39 : decode cX3_isTold 39 = .ok (.aload_n 1, 1) := by decide +kernel
theorem dX3_isTold_40 : decode cX3_isTold 40 = .ok (.invokevirtual 41, 3) := by decide +kernel
theorem dX3_isTold_43 : decode cX3_isTold 43 = .ok (.aload_n 1, 1) := by decide +kernel
theorem dX3_isTold_44 : decode cX3_isTold 44 = .ok (.getfield 45, 3) := by decide +kernel
theorem dX3_isTold_47 : decode cX3_isTold 47 = .ok (.invokevirtual 49, 3) := by decide +kernel
theorem dX3_isTold_50 : decode cX3_isTold 50 = .ok (.ifCond .eq 7, 3) := by decide +kernel
theorem dX3_isTold_53 : decode cX3_isTold 53 = .ok (.iconst 1, 1) := by decide +kernel
theorem dX3_isTold_54 : decode cX3_isTold 54 = .ok (.goto 4, 3) := by decide +kernel
theorem hy_X3_isTold : yX3_isTold.cls ≠ "java/lang/invoke/MethodHandle" ∧ yX3_isTold.cls ≠ "java/lang/invoke/VarHandle" ∧ (parseMethodDescriptor yX3_isTold.desc).map (fun d => d.parameters.length) = some 1 := ⟨by decide, by decide, by decide +kernel⟩
def f_X3_isTold (o : Nat) (p1 : Nat) (S : wS) : Option ((Int32) × wS) :=
  o_gI 1 0 p1 S fun x1 =>
  o_cP (f_X8_isSort x1) fun x2 =>
  if x2 = 0 then (
  some (0, S)) else (
  o_ck (s_K S o = 3) (o_call (f_X3_isFirstTold o p1 S) fun x3 S1 =>
  if x3 = 0 then (
  some (0, S1)) else (
  o_ck (s_K S1 o = 3) (o_call (f_X3_isSecondTold o p1 S1) fun x4 S2 =>
  if x4 = 0 then (
  some (0, S2)) else (
  o_ck (s_K S2 o = 3) (o_call (f_X3_isThirdTold o p1 S2) fun x5 S3 =>
  if x5 = 0 then (
  some (0, S3)) else (
  o_gR 3 3 o S3 fun x6 =>
  o_cs x6 (o_ck (s_K S3 o = 3) (o_call (f_X3_kindOfBits o p1 S3) fun x10 S6 =>
  o_gL 1 0 p1 S6 fun x11 =>
  none)) (fun a1 =>
  o_ck (s_K S3 o = 3) (o_call (f_X3_kindOfBits o p1 S3) fun x7 S4 =>
  o_gL 1 0 p1 S4 fun x8 =>
  o_ck (s_K S4 a1 = 6) (o_call (f_X6_mayBe a1 x7 x8 S4) fun x9 S5 =>
  if x9 = 0 then (
  some (0, S5)) else (
  some (1, S5))))))))))))
set_option maxHeartbeats 4000000 in
set_option maxRecDepth 100000 in
theorem c_X3_isTold {l : Launch} {D : va_G} {Y : Nat → ClassId} {aR : Nat → Nat} {A : Nat → Prop} {o : Nat} {p1 : Nat} {S S' : wS} {r : Int32} (hf : f_X3_isTold o p1 S = some (r, S')) : jq_S l D Y aR A yX3_isTold cX3_isTold 2 (some .boolean) 4 87 [.ref o, .ref p1] S (some (.int r)) S' := by
  unfold f_X3_isTold at hf
  refine jq_enterS (by decide) (Nat.le_of_ble_eq_true rfl) fun p e s m args below meth c ls H locs hX hJ hl => ?_
  have hl : lv_has ls 2 [(0, .ref o), (1, .ref p1)] := hl
  have hx := hX.1
  have hb := hX.2.1
  have hm := hX.2.2.1
  have ho := hX.2.2.2.1
  have ht := hX.2.2.2.2.1
  have hn := hX.2.2.2.2.2.1.2.1
  refine lv_aload_n hx hb dX3_isTold_0 rfl (lv_at hl 1 rfl) ?_
  replace hf := o_gI_e hf
  obtain ⟨hk1, x1, hx1, hf⟩ := hf
  refine gn_X0_sort hX hJ hk1 hx1 qn270 dX3_isTold_1 ?_
  replace hf := o_cP_e hf
  obtain ⟨x2, hq1, hf⟩ := hf
  refine jq_doPS hX hJ (jq_okSN (As := [.int x1]) (rest := []) hx hb hm ho ht hn qn311 qw266 qw267 qw14 hy_X8_isSort rfl hl.1 (Nat.le_of_ble_eq_true rfl) dX3_isTold_4) (c_X8_isSort hq1) (Nat.le_of_ble_eq_true rfl) (Nat.le_of_ble_eq_true rfl) (fun locs hJ' => ?_)
  clear hJ
  have hJ := hJ'
  clear hJ'
  refine lv_if_eq (tgt := 57) hx hb dX3_isTold_7 (by decide) (fun c1 => ?_) (fun c1 => ?_)
  · replace hf := o_t hf c1
    refine lv_iconst (v := 0) hx hb dX3_isTold_57 (by decide) ?_
    cases hf
    exact jq_zret hX hJ.2.2 (by decide) dX3_isTold_58 ⟨rfl, rfl, rfl, hJ.1, hJ.2.1⟩
  · replace hf := o_f hf c1
    refine lv_aload_n hx hb dX3_isTold_10 rfl (lv_at hl 0 rfl) ?_
    refine lv_aload_n hx hb dX3_isTold_11 rfl (lv_at hl 1 rfl) ?_
    replace hf := o_ck_e hf
    obtain ⟨hk2, hf⟩ := hf
    replace hf := o_call_e hf
    obtain ⟨x3, S1, hq2, hf⟩ := hf
    refine jq_doS hX hJ (jq_okV (As := [.ref p1]) (rest := []) hx hb hm ho ht (wJ.recv hX hJ (by rw [hk2]; decide) (wE_X3 hk2) rfl) qw312 qw314 qs12 qw315 qw4 hy_X3_isFirstTold rfl hl.1 (Nat.le_of_ble_eq_true rfl) dX3_isTold_12) (c_X3_isFirstTold hq2) (Nat.le_of_ble_eq_true rfl) (Nat.le_of_ble_eq_true rfl) (fun H locs hJ' => ?_)
    clear hJ
    have hJ := hJ'
    clear hJ'
    refine lv_if_eq (tgt := 57) hx hb dX3_isTold_15 (by decide) (fun c2 => ?_) (fun c2 => ?_)
    · replace hf := o_t hf c2
      refine lv_iconst (v := 0) hx hb dX3_isTold_57 (by decide) ?_
      cases hf
      exact jq_zret hX hJ.2.2 (by decide) dX3_isTold_58 ⟨rfl, rfl, rfl, hJ.1, hJ.2.1⟩
    · replace hf := o_f hf c2
      refine lv_aload_n hx hb dX3_isTold_18 rfl (lv_at hl 0 rfl) ?_
      refine lv_aload_n hx hb dX3_isTold_19 rfl (lv_at hl 1 rfl) ?_
      replace hf := o_ck_e hf
      obtain ⟨hk3, hf⟩ := hf
      replace hf := o_call_e hf
      obtain ⟨x4, S2, hq3, hf⟩ := hf
      refine jq_doS hX hJ (jq_okV (As := [.ref p1]) (rest := []) hx hb hm ho ht (wJ.recv hX hJ (by rw [hk3]; decide) (wE_X3 hk3) rfl) qw325 qw327 qs14 qw328 qw4 hy_X3_isSecondTold rfl hl.1 (Nat.le_of_ble_eq_true rfl) dX3_isTold_20) (c_X3_isSecondTold hq3) (Nat.le_of_ble_eq_true rfl) (Nat.le_of_ble_eq_true rfl) (fun H locs hJ' => ?_)
      clear hJ
      have hJ := hJ'
      clear hJ'
      refine lv_if_eq (tgt := 57) hx hb dX3_isTold_23 (by decide) (fun c3 => ?_) (fun c3 => ?_)
      · replace hf := o_t hf c3
        refine lv_iconst (v := 0) hx hb dX3_isTold_57 (by decide) ?_
        cases hf
        exact jq_zret hX hJ.2.2 (by decide) dX3_isTold_58 ⟨rfl, rfl, rfl, hJ.1, hJ.2.1⟩
      · replace hf := o_f hf c3
        refine lv_aload_n hx hb dX3_isTold_26 rfl (lv_at hl 0 rfl) ?_
        refine lv_aload_n hx hb dX3_isTold_27 rfl (lv_at hl 1 rfl) ?_
        replace hf := o_ck_e hf
        obtain ⟨hk4, hf⟩ := hf
        replace hf := o_call_e hf
        obtain ⟨x5, S3, hq4, hf⟩ := hf
        refine jq_doS hX hJ (jq_okV (As := [.ref p1]) (rest := []) hx hb hm ho ht (wJ.recv hX hJ (by rw [hk4]; decide) (wE_X3 hk4) rfl) qw341 qw343 qs17 qw344 qw4 hy_X3_isThirdTold rfl hl.1 (Nat.le_of_ble_eq_true rfl) dX3_isTold_28) (c_X3_isThirdTold hq4) (Nat.le_of_ble_eq_true rfl) (Nat.le_of_ble_eq_true rfl) (fun H locs hJ' => ?_)
        clear hJ
        have hJ := hJ'
        clear hJ'
        refine lv_if_eq (tgt := 57) hx hb dX3_isTold_31 (by decide) (fun c4 => ?_) (fun c4 => ?_)
        · replace hf := o_t hf c4
          refine lv_iconst (v := 0) hx hb dX3_isTold_57 (by decide) ?_
          cases hf
          exact jq_zret hX hJ.2.2 (by decide) dX3_isTold_58 ⟨rfl, rfl, rfl, hJ.1, hJ.2.1⟩
        · replace hf := o_f hf c4
          refine lv_aload_n hx hb dX3_isTold_34 rfl (lv_at hl 0 rfl) ?_
          replace hf := o_gR_e hf
          obtain ⟨hk5, x6, hx6, hf⟩ := hf
          refine gf_X3_rows hX hJ hk5 hx6 qw64 dX3_isTold_35 ?_
          refine lv_aload_n hx hb dX3_isTold_38 rfl (lv_at hl 0 rfl) ?_
          refine lv_aload_n hx hb dX3_isTold_39 rfl (lv_at hl 1 rfl) ?_
          replace hf := o_cs_e hf
          rcases hf with ⟨hr1, hf⟩ | ⟨a1, hr1, hf⟩
          · subst hr1
            replace hf := o_ck_e hf
            obtain ⟨hk9, hf⟩ := hf
            replace hf := o_call_e hf
            obtain ⟨x10, S6, hq7, hf⟩ := hf
            refine jq_doS hX hJ (jq_okV (As := [.ref p1]) (rest := [.null]) hx hb hm ho ht (wJ.recv hX hJ (by rw [hk9]; decide) (wE_X3 hk9) rfl) qw345 qw347 qs18 qw348 qw4 hy_X3_kindOfBits rfl hl.1 (Nat.le_of_ble_eq_true rfl) dX3_isTold_40) (c_X3_kindOfBits hq7) (Nat.le_of_ble_eq_true rfl) (Nat.le_of_ble_eq_true rfl) (fun H locs hJ' => ?_)
            clear hJ
            have hJ := hJ'
            clear hJ'
            refine lv_aload_n hx hb dX3_isTold_43 rfl (lv_at hl 1 rfl) ?_
            replace hf := o_gL_e hf
            obtain ⟨hk10, x11, hx11, hf⟩ := hf
            refine gn_X0_v hX hJ hk10 hx11 qn283 dX3_isTold_44 ?_
            cases hf
          · subst hr1
            replace hf := o_ck_e hf
            obtain ⟨hk6, hf⟩ := hf
            replace hf := o_call_e hf
            obtain ⟨x7, S4, hq5, hf⟩ := hf
            refine jq_doS hX hJ (jq_okV (As := [.ref p1]) (rest := [.ref a1]) hx hb hm ho ht (wJ.recv hX hJ (by rw [hk6]; decide) (wE_X3 hk6) rfl) qw345 qw347 qs18 qw348 qw4 hy_X3_kindOfBits rfl hl.1 (Nat.le_of_ble_eq_true rfl) dX3_isTold_40) (c_X3_kindOfBits hq5) (Nat.le_of_ble_eq_true rfl) (Nat.le_of_ble_eq_true rfl) (fun H locs hJ' => ?_)
            clear hJ
            have hJ := hJ'
            clear hJ'
            refine lv_aload_n hx hb dX3_isTold_43 rfl (lv_at hl 1 rfl) ?_
            replace hf := o_gL_e hf
            obtain ⟨hk7, x8, hx8, hf⟩ := hf
            refine gn_X0_v hX hJ hk7 hx8 qn283 dX3_isTold_44 ?_
            replace hf := o_ck_e hf
            obtain ⟨hk8, hf⟩ := hf
            replace hf := o_call_e hf
            obtain ⟨x9, S5, hq6, hf⟩ := hf
            refine jq_doS hX hJ (jq_okVN (As := [.int x7, .long x8]) (rest := []) hx hb hm ho ht hn (wJ.recv hX hJ (by rw [hk8]; decide) (wE_X6 hk8) rfl) qn353 qw355 qs20 qw356 qw2 hy_X6_mayBe rfl hl.1 (Nat.le_of_ble_eq_true rfl) dX3_isTold_47) (c_X6_mayBe hq6) (Nat.le_of_ble_eq_true rfl) (Nat.le_of_ble_eq_true rfl) (fun H locs hJ' => ?_)
            clear hJ
            have hJ := hJ'
            clear hJ'
            refine lv_if_eq (tgt := 57) hx hb dX3_isTold_50 (by decide) (fun c5 => ?_) (fun c5 => ?_)
            · replace hf := o_t hf c5
              refine lv_iconst (v := 0) hx hb dX3_isTold_57 (by decide) ?_
              cases hf
              exact jq_zret hX hJ.2.2 (by decide) dX3_isTold_58 ⟨rfl, rfl, rfl, hJ.1, hJ.2.1⟩
            · replace hf := o_f hf c5
              refine lv_iconst (v := 1) hx hb dX3_isTold_53 (by decide) ?_
              refine lv_goto (tgt := 58) hx hb dX3_isTold_54 (by decide) ?_
              cases hf
              exact jq_zret hX hJ.2.2 (by decide) dX3_isTold_58 ⟨rfl, rfl, rfl, hJ.1, hJ.2.1⟩
theorem dX3_typeAlone_0 : decode cX3_typeAlone 0 = .ok (.aload_n 0, 1) := by decide +kernel
theorem dX3_typeAlone_1 : decode cX3_typeAlone 1 = .ok (.getfield 55, 3) := by decide +kernel
theorem dX3_typeAlone_4 : decode cX3_typeAlone 4 = .ok (.istore_n 1, 1) := by decide +kernel
theorem dX3_typeAlone_5 : decode cX3_typeAlone 5 = .ok (.bipush 8, 2) := by decide +kernel
theorem dX3_typeAlone_7 : decode cX3_typeAlone 7 = .ok (.iload_n 1, 1) := by decide +kernel
theorem dX3_typeAlone_8 : decode cX3_typeAlone 8 = .ok (.iadd, 1) := by decide +kernel
theorem dX3_typeAlone_9 : decode cX3_typeAlone 9 = .ok (.istore_n 2, 1) := by decide +kernel
theorem dX3_typeAlone_10 : decode cX3_typeAlone 10 = .ok (.aload_n 0, 1) := by decide +kernel
theorem dX3_typeAlone_11 : decode cX3_typeAlone 11 = .ok (.getfield 19, 3) := by decide +kernel
theorem dX3_typeAlone_14 : decode cX3_typeAlone 14 = .ok (.tableswitch 127 1 10 #[54, 63, 72, 81, 90, 99, 99, 108, 127, 117], 54) := by decide +kernel
theorem dX3_typeAlone_68 : decode cX3_typeAlone 68 = .ok (.iload_n 1, 1) := by decide +kernel
theorem dX3_typeAlone_69 : decode cX3_typeAlone 69 = .ok (.iconst 1, 1) := by decide +kernel
theorem dX3_typeAlone_70 : decode cX3_typeAlone 70 = .ok (.iload_n 1, 1) := by decide +kernel
theorem dX3_typeAlone_71 : decode cX3_typeAlone 71 = .ok (.iconst 0, 1) := by decide +kernel
theorem dX3_typeAlone_72 : decode cX3_typeAlone 72 = .ok (.iconst 0, 1) := by decide +kernel
theorem dX3_typeAlone_73 : decode cX3_typeAlone 73 = .ok (.invokestatic 132, 3) := by decide +kernel
theorem dX3_typeAlone_76 : decode cX3_typeAlone 76 = .ok (.areturn, 1) := by decide +kernel
theorem dX3_typeAlone_77 : decode cX3_typeAlone 77 = .ok (.iload_n 1, 1) := by decide +kernel
theorem dX3_typeAlone_78 : decode cX3_typeAlone 78 = .ok (.iconst 2, 1) := by decide +kernel
theorem dX3_typeAlone_79 : decode cX3_typeAlone 79 = .ok (.iload_n 2, 1) := by decide +kernel
theorem dX3_typeAlone_80 : decode cX3_typeAlone 80 = .ok (.iconst 4, 1) := by decide +kernel
theorem dX3_typeAlone_81 : decode cX3_typeAlone 81 = .ok (.iconst 0, 1) := by decide +kernel
theorem dX3_typeAlone_82 : decode cX3_typeAlone 82 = .ok (.invokestatic 132, 3) := by decide +kernel
theorem dX3_typeAlone_85 : decode cX3_typeAlone 85 = .ok (.areturn, 1) := by decide +kernel
theorem dX3_typeAlone_86 : decode cX3_typeAlone 86 = .ok (.iload_n 1, 1) := by decide +kernel
theorem dX3_typeAlone_87 : decode cX3_typeAlone 87 = .ok (.iconst 3, 1) := by decide +kernel
theorem dX3_typeAlone_88 : decode cX3_typeAlone 88 = .ok (.iload_n 2, 1) := by decide +kernel
theorem dX3_typeAlone_89 : decode cX3_typeAlone 89 = .ok (.iconst 4, 1) := by decide +kernel
theorem dX3_typeAlone_90 : decode cX3_typeAlone 90 = .ok (.iload_n 1, 1) := by decide +kernel
theorem dX3_typeAlone_91 : decode cX3_typeAlone 91 = .ok (.invokestatic 132, 3) := by decide +kernel
theorem dX3_typeAlone_94 : decode cX3_typeAlone 94 = .ok (.areturn, 1) := by decide +kernel
theorem dX3_typeAlone_95 : decode cX3_typeAlone 95 = .ok (.iconst 4, 1) := by decide +kernel
theorem dX3_typeAlone_96 : decode cX3_typeAlone 96 = .ok (.iconst 1, 1) := by decide +kernel
theorem dX3_typeAlone_97 : decode cX3_typeAlone 97 = .ok (.iload_n 2, 1) := by decide +kernel
theorem dX3_typeAlone_98 : decode cX3_typeAlone 98 = .ok (.iconst 0, 1) := by decide +kernel
theorem dX3_typeAlone_99 : decode cX3_typeAlone 99 = .ok (.iconst 0, 1) := by decide +kernel
theorem dX3_typeAlone_100 : decode cX3_typeAlone 100 = .ok (.invokestatic 132, 3) := by decide +kernel
theorem dX3_typeAlone_103 : decode cX3_typeAlone 103 = .ok (.areturn, 1) := by decide +kernel
theorem dX3_typeAlone_104 : decode cX3_typeAlone 104 = .ok (.iload_n 2, 1) := by decide +kernel
theorem dX3_typeAlone_105 : decode cX3_typeAlone 105 = .ok (.iconst 1, 1) := by decide +kernel
theorem dX3_typeAlone_106 : decode cX3_typeAlone 106 = .ok (.iconst 4, 1) := by decide +kernel
theorem dX3_typeAlone_107 : decode cX3_typeAlone 107 = .ok (.iconst 0, 1) := by decide +kernel
theorem dX3_typeAlone_108 : decode cX3_typeAlone 108 = .ok (.iconst 0, 1) := by decide +kernel
theorem dX3_typeAlone_109 : decode cX3_typeAlone 109 = .ok (.invokestatic 132, 3) := by decide +kernel
theorem dX3_typeAlone_112 : decode cX3_typeAlone 112 = .ok (.areturn, 1) := by decide +kernel
theorem dX3_typeAlone_113 : decode cX3_typeAlone 113 = .ok (.iload_n 1, 1) := by decide +kernel
theorem dX3_typeAlone_114 : decode cX3_typeAlone 114 = .ok (.iconst 2, 1) := by decide +kernel
theorem dX3_typeAlone_115 : decode cX3_typeAlone 115 = .ok (.iload_n 1, 1) := by decide +kernel
theorem dX3_typeAlone_116 : decode cX3_typeAlone 116 = .ok (.iload_n 1, 1) := by decide +kernel
theorem dX3_typeAlone_117 : decode cX3_typeAlone 117 = .ok (.iconst 0, 1) := by decide +kernel
theorem dX3_typeAlone_118 : decode cX3_typeAlone 118 = .ok (.invokestatic 132, 3) := by decide +kernel
theorem dX3_typeAlone_121 : decode cX3_typeAlone 121 = .ok (.areturn, 1) := by decide +kernel
theorem dX3_typeAlone_122 : decode cX3_typeAlone 122 = .ok (.iconst 0, 1) := by decide +kernel
theorem dX3_typeAlone_123 : decode cX3_typeAlone 123 = .ok (.iconst 2, 1) := by decide +kernel
theorem dX3_typeAlone_124 : decode cX3_typeAlone 124 = .ok (.iload_n 1, 1) := by decide +kernel
theorem dX3_typeAlone_125 : decode cX3_typeAlone 125 = .ok (.iload_n 1, 1) := by decide +kernel
theorem dX3_typeAlone_126 : decode cX3_typeAlone 126 = .ok (.iconst 0, 1) := by decide +kernel
theorem dX3_typeAlone_127 : decode cX3_typeAlone 127 = .ok (.invokestatic 132, 3) := by decide +kernel
theorem dX3_typeAlone_130 : decode cX3_typeAlone 130 = .ok (.areturn, 1) := by decide +kernel
theorem dX3_typeAlone_131 : decode cX3_typeAlone 131 = .ok (.iload_n 2, 1) := by decide +kernel
theorem dX3_typeAlone_132 : decode cX3_typeAlone 132 = .ok (.iconst 1, 1) := by decide +kernel
theorem dX3_typeAlone_133 : decode cX3_typeAlone 133 = .ok (.bipush 16, 2) := by decide +kernel
theorem dX3_typeAlone_135 : decode cX3_typeAlone 135 = .ok (.iconst 0, 1) := by decide +kernel
theorem dX3_typeAlone_136 : decode cX3_typeAlone 136 = .ok (.iconst 0, 1) := by decide +kernel
theorem dX3_typeAlone_137 : decode cX3_typeAlone 137 = .ok (.invokestatic 132, 3) := by decide +kernel
theorem dX3_typeAlone_140 : decode cX3_typeAlone 140 = .ok (.areturn, 1) := by decide +kernel
theorem dX3_typeAlone_141 : decode cX3_typeAlone 141 = .ok (.iload_n 1, 1) := by decide +kernel
theorem dX3_typeAlone_142 : decode cX3_typeAlone 142 = .ok (.iconst 0, 1) := by decide +kernel
theorem dX3_typeAlone_143 : decode cX3_typeAlone 143 = .ok (.iconst 0, 1) := by decide +kernel
theorem dX3_typeAlone_144 : decode cX3_typeAlone 144 = .ok (.iconst 0, 1) := by decide +kernel
theorem dX3_typeAlone_145 : decode cX3_typeAlone 145 = .ok (.iconst 0, 1) := by decide +kernel
theorem dX3_typeAlone_146 : decode cX3_typeAlone 146 = .ok (.invokestatic 132, 3) := by decide +kernel
theorem dX3_typeAlone_149 : decode cX3_typeAlone 149 = .ok (.areturn, 1) := by decide +kernel
theorem hy_X3_typeAlone : yX3_typeAlone.cls ≠ "java/lang/invoke/MethodHandle" ∧ yX3_typeAlone.cls ≠ "java/lang/invoke/VarHandle" ∧ (parseMethodDescriptor yX3_typeAlone.desc).map (fun d => d.parameters.length) = some 1 := ⟨by decide, by decide, by decide +kernel⟩
def f_X3_typeAlone (p1 : Nat) (S : wS) : Option ((Option Nat) × wS) :=
  o_gI 1 1 p1 S fun x1 =>
  o_gI 1 0 p1 S fun x2 =>
  if x2 = 1 then (
  o_call (f_X9_of x1 1 x1 0 0 S) fun x3 S1 =>
  some (x3, S1)) else (
  if x2 = 2 then (
  o_call (f_X9_of x1 2 ((8 : Int32) + x1) 4 0 S) fun x4 S2 =>
  some (x4, S2)) else (
  if x2 = 3 then (
  o_call (f_X9_of x1 3 ((8 : Int32) + x1) 4 x1 S) fun x5 S3 =>
  some (x5, S3)) else (
  if x2 = 4 then (
  o_call (f_X9_of 4 1 ((8 : Int32) + x1) 0 0 S) fun x6 S4 =>
  some (x6, S4)) else (
  if x2 = 5 then (
  o_call (f_X9_of ((8 : Int32) + x1) 1 4 0 0 S) fun x7 S5 =>
  some (x7, S5)) else (
  if x2 = 6 ∨ x2 = 7 then (
  o_call (f_X9_of x1 2 x1 x1 0 S) fun x8 S6 =>
  some (x8, S6)) else (
  if x2 = 8 then (
  o_call (f_X9_of 0 2 x1 x1 0 S) fun x9 S7 =>
  some (x9, S7)) else (
  if x2 = 10 then (
  o_call (f_X9_of ((8 : Int32) + x1) 1 16 0 0 S) fun x10 S8 =>
  some (x10, S8)) else (
  if x2 = 9 then (
  o_call (f_X9_of x1 0 0 0 0 S) fun x11 S9 =>
  some (x11, S9)) else (
  o_call (f_X9_of x1 0 0 0 0 S) fun x12 S10 =>
  some (x12, S10))))))))))
set_option maxHeartbeats 4000000 in
set_option maxRecDepth 100000 in
theorem c_X3_typeAlone {l : Launch} {D : va_G} {Y : Nat → ClassId} {aR : Nat → Nat} {A : Nat → Prop} {p1 : Nat} {S S' : wS} {r : Option Nat} (hf : f_X3_typeAlone p1 S = some (r, S')) : jq_S l D Y aR A yX3_typeAlone cX3_typeAlone 3 (some (.object "ScoreHandles$Type")) 3 60 [.ref p1] S (some (va_rf r)) S' := by
  unfold f_X3_typeAlone at hf
  refine jq_enterS (by decide) (Nat.le_of_ble_eq_true rfl) fun p e s m args below meth c ls H locs hX hJ hl => ?_
  have hl : lv_has ls 3 [(0, .ref p1)] := hl
  have hx := hX.1
  have hb := hX.2.1
  have hm := hX.2.2.1
  have ho := hX.2.2.2.1
  have ht := hX.2.2.2.2.1
  have hn := hX.2.2.2.2.2.1.2.1
  refine lv_aload_n hx hb dX3_typeAlone_0 rfl (lv_at hl 0 rfl) ?_
  replace hf := o_gI_e hf
  obtain ⟨hk1, x1, hx1, hf⟩ := hf
  refine gn_X0_a hX hJ hk1 hx1 qn274 dX3_typeAlone_1 ?_
  refine lv_istore_n (lv' := [(1, .int x1), (0, .ref p1)]) hx hb dX3_typeAlone_4 rfl hl (by decide) rfl (fun ls hl' => ?_)
  clear hl
  have hl := hl'
  clear hl'
  refine lv_bipush (v := 8) hx hb dX3_typeAlone_5 (by decide) ?_
  refine lv_iload_n hx hb dX3_typeAlone_7 rfl (lv_at hl 0 rfl) ?_
  refine lv_iadd hx hb dX3_typeAlone_8 ?_
  refine lv_istore_n (lv' := [(2, .int ((8 : Int32) + x1)), (1, .int x1), (0, .ref p1)]) hx hb dX3_typeAlone_9 rfl hl (by decide) rfl (fun ls hl' => ?_)
  clear hl
  have hl := hl'
  clear hl'
  refine lv_aload_n hx hb dX3_typeAlone_10 rfl (lv_at hl 2 rfl) ?_
  replace hf := o_gI_e hf
  obtain ⟨hk2, x2, hx2, hf⟩ := hf
  refine gn_X0_sort hX hJ hk2 hx2 qn270 dX3_typeAlone_11 ?_
  by_cases c1 : x2 = 1
  · replace hf := o_t hf c1
    refine lv_tableIn (off := 54) (tgt := 68) hx hb dX3_typeAlone_14 (by rcases c1 with rfl <;> decide) (by rcases c1 with rfl <;> decide) (by rcases c1 with rfl <;> rfl) (by decide) ?_
    refine lv_iload_n hx hb dX3_typeAlone_68 rfl (lv_at hl 1 rfl) ?_
    refine lv_iconst (v := 1) hx hb dX3_typeAlone_69 (by decide) ?_
    refine lv_iload_n hx hb dX3_typeAlone_70 rfl (lv_at hl 1 rfl) ?_
    refine lv_iconst (v := 0) hx hb dX3_typeAlone_71 (by decide) ?_
    refine lv_iconst (v := 0) hx hb dX3_typeAlone_72 (by decide) ?_
    replace hf := o_call_e hf
    obtain ⟨x3, S1, hq1, hf⟩ := hf
    refine jq_doS hX hJ (jq_okSN (As := [.int x1, .int 1, .int x1, .int 0, .int 0]) (rest := []) hx hb hm ho ht hn qn369 qw370 qw371 qw6 hy_X9_of rfl hl.1 (Nat.le_of_ble_eq_true rfl) dX3_typeAlone_73) (c_X9_of hq1) (Nat.le_of_ble_eq_true rfl) (Nat.le_of_ble_eq_true rfl) (fun H locs hJ' => ?_)
    clear hJ
    have hJ := hJ'
    clear hJ'
    cases hf
    exact jq_aret hX hJ.2.2 dX3_typeAlone_76 ⟨rfl, rfl, rfl, hJ.1, hJ.2.1⟩
  replace hf := o_f hf c1
  by_cases c2 : x2 = 2
  · replace hf := o_t hf c2
    refine lv_tableIn (off := 63) (tgt := 77) hx hb dX3_typeAlone_14 (by rcases c2 with rfl <;> decide) (by rcases c2 with rfl <;> decide) (by rcases c2 with rfl <;> rfl) (by decide) ?_
    refine lv_iload_n hx hb dX3_typeAlone_77 rfl (lv_at hl 1 rfl) ?_
    refine lv_iconst (v := 2) hx hb dX3_typeAlone_78 (by decide) ?_
    refine lv_iload_n hx hb dX3_typeAlone_79 rfl (lv_at hl 0 rfl) ?_
    refine lv_iconst (v := 4) hx hb dX3_typeAlone_80 (by decide) ?_
    refine lv_iconst (v := 0) hx hb dX3_typeAlone_81 (by decide) ?_
    replace hf := o_call_e hf
    obtain ⟨x4, S2, hq2, hf⟩ := hf
    refine jq_doS hX hJ (jq_okSN (As := [.int x1, .int 2, .int ((8 : Int32) + x1), .int 4, .int 0]) (rest := []) hx hb hm ho ht hn qn369 qw370 qw371 qw6 hy_X9_of rfl hl.1 (Nat.le_of_ble_eq_true rfl) dX3_typeAlone_82) (c_X9_of hq2) (Nat.le_of_ble_eq_true rfl) (Nat.le_of_ble_eq_true rfl) (fun H locs hJ' => ?_)
    clear hJ
    have hJ := hJ'
    clear hJ'
    cases hf
    exact jq_aret hX hJ.2.2 dX3_typeAlone_85 ⟨rfl, rfl, rfl, hJ.1, hJ.2.1⟩
  replace hf := o_f hf c2
  by_cases c3 : x2 = 3
  · replace hf := o_t hf c3
    refine lv_tableIn (off := 72) (tgt := 86) hx hb dX3_typeAlone_14 (by rcases c3 with rfl <;> decide) (by rcases c3 with rfl <;> decide) (by rcases c3 with rfl <;> rfl) (by decide) ?_
    refine lv_iload_n hx hb dX3_typeAlone_86 rfl (lv_at hl 1 rfl) ?_
    refine lv_iconst (v := 3) hx hb dX3_typeAlone_87 (by decide) ?_
    refine lv_iload_n hx hb dX3_typeAlone_88 rfl (lv_at hl 0 rfl) ?_
    refine lv_iconst (v := 4) hx hb dX3_typeAlone_89 (by decide) ?_
    refine lv_iload_n hx hb dX3_typeAlone_90 rfl (lv_at hl 1 rfl) ?_
    replace hf := o_call_e hf
    obtain ⟨x5, S3, hq3, hf⟩ := hf
    refine jq_doS hX hJ (jq_okSN (As := [.int x1, .int 3, .int ((8 : Int32) + x1), .int 4, .int x1]) (rest := []) hx hb hm ho ht hn qn369 qw370 qw371 qw6 hy_X9_of rfl hl.1 (Nat.le_of_ble_eq_true rfl) dX3_typeAlone_91) (c_X9_of hq3) (Nat.le_of_ble_eq_true rfl) (Nat.le_of_ble_eq_true rfl) (fun H locs hJ' => ?_)
    clear hJ
    have hJ := hJ'
    clear hJ'
    cases hf
    exact jq_aret hX hJ.2.2 dX3_typeAlone_94 ⟨rfl, rfl, rfl, hJ.1, hJ.2.1⟩
  replace hf := o_f hf c3
  by_cases c4 : x2 = 4
  · replace hf := o_t hf c4
    refine lv_tableIn (off := 81) (tgt := 95) hx hb dX3_typeAlone_14 (by rcases c4 with rfl <;> decide) (by rcases c4 with rfl <;> decide) (by rcases c4 with rfl <;> rfl) (by decide) ?_
    refine lv_iconst (v := 4) hx hb dX3_typeAlone_95 (by decide) ?_
    refine lv_iconst (v := 1) hx hb dX3_typeAlone_96 (by decide) ?_
    refine lv_iload_n hx hb dX3_typeAlone_97 rfl (lv_at hl 0 rfl) ?_
    refine lv_iconst (v := 0) hx hb dX3_typeAlone_98 (by decide) ?_
    refine lv_iconst (v := 0) hx hb dX3_typeAlone_99 (by decide) ?_
    replace hf := o_call_e hf
    obtain ⟨x6, S4, hq4, hf⟩ := hf
    refine jq_doS hX hJ (jq_okSN (As := [.int 4, .int 1, .int ((8 : Int32) + x1), .int 0, .int 0]) (rest := []) hx hb hm ho ht hn qn369 qw370 qw371 qw6 hy_X9_of rfl hl.1 (Nat.le_of_ble_eq_true rfl) dX3_typeAlone_100) (c_X9_of hq4) (Nat.le_of_ble_eq_true rfl) (Nat.le_of_ble_eq_true rfl) (fun H locs hJ' => ?_)
    clear hJ
    have hJ := hJ'
    clear hJ'
    cases hf
    exact jq_aret hX hJ.2.2 dX3_typeAlone_103 ⟨rfl, rfl, rfl, hJ.1, hJ.2.1⟩
  replace hf := o_f hf c4
  by_cases c5 : x2 = 5
  · replace hf := o_t hf c5
    refine lv_tableIn (off := 90) (tgt := 104) hx hb dX3_typeAlone_14 (by rcases c5 with rfl <;> decide) (by rcases c5 with rfl <;> decide) (by rcases c5 with rfl <;> rfl) (by decide) ?_
    refine lv_iload_n hx hb dX3_typeAlone_104 rfl (lv_at hl 0 rfl) ?_
    refine lv_iconst (v := 1) hx hb dX3_typeAlone_105 (by decide) ?_
    refine lv_iconst (v := 4) hx hb dX3_typeAlone_106 (by decide) ?_
    refine lv_iconst (v := 0) hx hb dX3_typeAlone_107 (by decide) ?_
    refine lv_iconst (v := 0) hx hb dX3_typeAlone_108 (by decide) ?_
    replace hf := o_call_e hf
    obtain ⟨x7, S5, hq5, hf⟩ := hf
    refine jq_doS hX hJ (jq_okSN (As := [.int ((8 : Int32) + x1), .int 1, .int 4, .int 0, .int 0]) (rest := []) hx hb hm ho ht hn qn369 qw370 qw371 qw6 hy_X9_of rfl hl.1 (Nat.le_of_ble_eq_true rfl) dX3_typeAlone_109) (c_X9_of hq5) (Nat.le_of_ble_eq_true rfl) (Nat.le_of_ble_eq_true rfl) (fun H locs hJ' => ?_)
    clear hJ
    have hJ := hJ'
    clear hJ'
    cases hf
    exact jq_aret hX hJ.2.2 dX3_typeAlone_112 ⟨rfl, rfl, rfl, hJ.1, hJ.2.1⟩
  replace hf := o_f hf c5
  by_cases c6 : x2 = 6 ∨ x2 = 7
  · replace hf := o_t hf c6
    refine lv_tableIn (off := 99) (tgt := 113) hx hb dX3_typeAlone_14 (by rcases c6 with rfl | rfl <;> decide) (by rcases c6 with rfl | rfl <;> decide) (by rcases c6 with rfl | rfl <;> rfl) (by decide) ?_
    refine lv_iload_n hx hb dX3_typeAlone_113 rfl (lv_at hl 1 rfl) ?_
    refine lv_iconst (v := 2) hx hb dX3_typeAlone_114 (by decide) ?_
    refine lv_iload_n hx hb dX3_typeAlone_115 rfl (lv_at hl 1 rfl) ?_
    refine lv_iload_n hx hb dX3_typeAlone_116 rfl (lv_at hl 1 rfl) ?_
    refine lv_iconst (v := 0) hx hb dX3_typeAlone_117 (by decide) ?_
    replace hf := o_call_e hf
    obtain ⟨x8, S6, hq6, hf⟩ := hf
    refine jq_doS hX hJ (jq_okSN (As := [.int x1, .int 2, .int x1, .int x1, .int 0]) (rest := []) hx hb hm ho ht hn qn369 qw370 qw371 qw6 hy_X9_of rfl hl.1 (Nat.le_of_ble_eq_true rfl) dX3_typeAlone_118) (c_X9_of hq6) (Nat.le_of_ble_eq_true rfl) (Nat.le_of_ble_eq_true rfl) (fun H locs hJ' => ?_)
    clear hJ
    have hJ := hJ'
    clear hJ'
    cases hf
    exact jq_aret hX hJ.2.2 dX3_typeAlone_121 ⟨rfl, rfl, rfl, hJ.1, hJ.2.1⟩
  replace hf := o_f hf c6
  by_cases c7 : x2 = 8
  · replace hf := o_t hf c7
    refine lv_tableIn (off := 108) (tgt := 122) hx hb dX3_typeAlone_14 (by rcases c7 with rfl <;> decide) (by rcases c7 with rfl <;> decide) (by rcases c7 with rfl <;> rfl) (by decide) ?_
    refine lv_iconst (v := 0) hx hb dX3_typeAlone_122 (by decide) ?_
    refine lv_iconst (v := 2) hx hb dX3_typeAlone_123 (by decide) ?_
    refine lv_iload_n hx hb dX3_typeAlone_124 rfl (lv_at hl 1 rfl) ?_
    refine lv_iload_n hx hb dX3_typeAlone_125 rfl (lv_at hl 1 rfl) ?_
    refine lv_iconst (v := 0) hx hb dX3_typeAlone_126 (by decide) ?_
    replace hf := o_call_e hf
    obtain ⟨x9, S7, hq7, hf⟩ := hf
    refine jq_doS hX hJ (jq_okSN (As := [.int 0, .int 2, .int x1, .int x1, .int 0]) (rest := []) hx hb hm ho ht hn qn369 qw370 qw371 qw6 hy_X9_of rfl hl.1 (Nat.le_of_ble_eq_true rfl) dX3_typeAlone_127) (c_X9_of hq7) (Nat.le_of_ble_eq_true rfl) (Nat.le_of_ble_eq_true rfl) (fun H locs hJ' => ?_)
    clear hJ
    have hJ := hJ'
    clear hJ'
    cases hf
    exact jq_aret hX hJ.2.2 dX3_typeAlone_130 ⟨rfl, rfl, rfl, hJ.1, hJ.2.1⟩
  replace hf := o_f hf c7
  by_cases c8 : x2 = 10
  · replace hf := o_t hf c8
    refine lv_tableIn (off := 117) (tgt := 131) hx hb dX3_typeAlone_14 (by rcases c8 with rfl <;> decide) (by rcases c8 with rfl <;> decide) (by rcases c8 with rfl <;> rfl) (by decide) ?_
    refine lv_iload_n hx hb dX3_typeAlone_131 rfl (lv_at hl 0 rfl) ?_
    refine lv_iconst (v := 1) hx hb dX3_typeAlone_132 (by decide) ?_
    refine lv_bipush (v := 16) hx hb dX3_typeAlone_133 (by decide) ?_
    refine lv_iconst (v := 0) hx hb dX3_typeAlone_135 (by decide) ?_
    refine lv_iconst (v := 0) hx hb dX3_typeAlone_136 (by decide) ?_
    replace hf := o_call_e hf
    obtain ⟨x10, S8, hq8, hf⟩ := hf
    refine jq_doS hX hJ (jq_okSN (As := [.int ((8 : Int32) + x1), .int 1, .int 16, .int 0, .int 0]) (rest := []) hx hb hm ho ht hn qn369 qw370 qw371 qw6 hy_X9_of rfl hl.1 (Nat.le_of_ble_eq_true rfl) dX3_typeAlone_137) (c_X9_of hq8) (Nat.le_of_ble_eq_true rfl) (Nat.le_of_ble_eq_true rfl) (fun H locs hJ' => ?_)
    clear hJ
    have hJ := hJ'
    clear hJ'
    cases hf
    exact jq_aret hX hJ.2.2 dX3_typeAlone_140 ⟨rfl, rfl, rfl, hJ.1, hJ.2.1⟩
  replace hf := o_f hf c8
  by_cases c9 : x2 = 9
  · replace hf := o_t hf c9
    refine lv_tableIn (off := 127) (tgt := 141) hx hb dX3_typeAlone_14 (by rcases c9 with rfl <;> decide) (by rcases c9 with rfl <;> decide) (by rcases c9 with rfl <;> rfl) (by decide) ?_
    refine lv_iload_n hx hb dX3_typeAlone_141 rfl (lv_at hl 1 rfl) ?_
    refine lv_iconst (v := 0) hx hb dX3_typeAlone_142 (by decide) ?_
    refine lv_iconst (v := 0) hx hb dX3_typeAlone_143 (by decide) ?_
    refine lv_iconst (v := 0) hx hb dX3_typeAlone_144 (by decide) ?_
    refine lv_iconst (v := 0) hx hb dX3_typeAlone_145 (by decide) ?_
    replace hf := o_call_e hf
    obtain ⟨x11, S9, hq9, hf⟩ := hf
    refine jq_doS hX hJ (jq_okSN (As := [.int x1, .int 0, .int 0, .int 0, .int 0]) (rest := []) hx hb hm ho ht hn qn369 qw370 qw371 qw6 hy_X9_of rfl hl.1 (Nat.le_of_ble_eq_true rfl) dX3_typeAlone_146) (c_X9_of hq9) (Nat.le_of_ble_eq_true rfl) (Nat.le_of_ble_eq_true rfl) (fun H locs hJ' => ?_)
    clear hJ
    have hJ := hJ'
    clear hJ'
    cases hf
    exact jq_aret hX hJ.2.2 dX3_typeAlone_149 ⟨rfl, rfl, rfl, hJ.1, hJ.2.1⟩
  replace hf := o_f hf c9
  refine lv_tableOut (tgt := 141) hx hb dX3_typeAlone_14 (by have e0 := sw_ne c1 (n := 1) (by decide); have e1 := sw_ne c2 (n := 2) (by decide); have e2 := sw_ne c3 (n := 3) (by decide); have e3 := sw_ne c4 (n := 4) (by decide); have e4 := sw_ne c5 (n := 5) (by decide); have e5 := sw_ne (fun z => c6 (Or.inl z)) (n := 6) (by decide); have e6 := sw_ne (fun z => c6 (Or.inr z)) (n := 7) (by decide); have e7 := sw_ne c7 (n := 8) (by decide); have e8 := sw_ne c8 (n := 10) (by decide); have e9 := sw_ne c9 (n := 9) (by decide); omega) (by decide) ?_
  refine lv_iload_n hx hb dX3_typeAlone_141 rfl (lv_at hl 1 rfl) ?_
  refine lv_iconst (v := 0) hx hb dX3_typeAlone_142 (by decide) ?_
  refine lv_iconst (v := 0) hx hb dX3_typeAlone_143 (by decide) ?_
  refine lv_iconst (v := 0) hx hb dX3_typeAlone_144 (by decide) ?_
  refine lv_iconst (v := 0) hx hb dX3_typeAlone_145 (by decide) ?_
  replace hf := o_call_e hf
  obtain ⟨x12, S10, hq10, hf⟩ := hf
  refine jq_doS hX hJ (jq_okSN (As := [.int x1, .int 0, .int 0, .int 0, .int 0]) (rest := []) hx hb hm ho ht hn qn369 qw370 qw371 qw6 hy_X9_of rfl hl.1 (Nat.le_of_ble_eq_true rfl) dX3_typeAlone_146) (c_X9_of hq10) (Nat.le_of_ble_eq_true rfl) (Nat.le_of_ble_eq_true rfl) (fun H locs hJ' => ?_)
  clear hJ
  have hJ := hJ'
  clear hJ'
  cases hf
  exact jq_aret hX hJ.2.2 dX3_typeAlone_149 ⟨rfl, rfl, rfl, hJ.1, hJ.2.1⟩
theorem dX3_typeOfFilter_0 : decode cX3_typeOfFilter 0 = .ok (.aload_n 2, 1) := by decide +kernel
theorem dX3_typeOfFilter_1 : decode cX3_typeOfFilter 1 = .ok (.getfield 94, 3) := by decide +kernel
theorem dX3_typeOfFilter_4 : decode cX3_typeOfFilter 4 = .ok (.iconst 1, 1) := by decide +kernel
theorem dX3_typeOfFilter_5 : decode cX3_typeOfFilter 5 = .ok (.if_icmp .ne 19, 3) := by decide +kernel
theorem dX3_typeOfFilter_24 : decode cX3_typeOfFilter 24 = .ok (.iconst 0, 1) := by decide +kernel
theorem dX3_typeOfFilter_25 : decode cX3_typeOfFilter 25 = .ok (.istore_n 3, 1) := by decide +kernel
theorem dX3_typeOfFilter_26 : decode cX3_typeOfFilter 26 = .ok (.iload_n 3, 1) := by decide +kernel
theorem dX3_typeOfFilter_27 : decode cX3_typeOfFilter 27 = .ok (.ifCond .eq 16, 3) := by decide +kernel
theorem dX3_typeOfFilter_43 : decode cX3_typeOfFilter 43 = .ok (.aconst_null, 1) := by decide +kernel
theorem dX3_typeOfFilter_44 : decode cX3_typeOfFilter 44 = .ok (.areturn, 1) := by decide +kernel
theorem dX3_typeOfFilter_8 : decode cX3_typeOfFilter 8 = .ok (.aload_n 2, 1) := by decide +kernel
theorem dX3_typeOfFilter_9 : decode cX3_typeOfFilter 9 = .ok (.getfield 121, 3) := by decide +kernel
theorem dX3_typeOfFilter_12 : decode cX3_typeOfFilter 12 = .ok (.aload_n 0, 1) := by decide +kernel
theorem dX3_typeOfFilter_13 : decode cX3_typeOfFilter 13 = .ok (.iload_n 1, 1) := by decide +kernel
theorem dX3_typeOfFilter_14 : decode cX3_typeOfFilter 14 = .ok (.invokevirtual 99, 3) := by decide +kernel
theorem dX3_typeOfFilter_17 : decode cX3_typeOfFilter 17 = .ok (.if_icmp .ne 7, 3) := by decide +kernel
theorem dX3_typeOfFilter_20 : decode cX3_typeOfFilter 20 = .ok (.iconst 1, 1) := by decide +kernel
theorem dX3_typeOfFilter_21 : decode cX3_typeOfFilter 21 = .ok (.goto 4, 3) := by decide +kernel
theorem dX3_typeOfFilter_30 : decode cX3_typeOfFilter 30 = .ok (.aload_n 0, 1) := by decide +kernel
theorem dX3_typeOfFilter_31 : decode cX3_typeOfFilter 31 = .ok (.iload_n 1, 1) := by decide +kernel
theorem dX3_typeOfFilter_32 : decode cX3_typeOfFilter 32 = .ok (.aload_n 2, 1) := by decide +kernel
theorem dX3_typeOfFilter_33 : decode cX3_typeOfFilter 33 = .ok (.iconst 0, 1) := by decide +kernel
theorem dX3_typeOfFilter_34 : decode cX3_typeOfFilter 34 = .ok (.invokevirtual 99, 3) := by decide +kernel
theorem dX3_typeOfFilter_37 : decode cX3_typeOfFilter 37 = .ok (.invokevirtual 157, 3) := by decide +kernel
theorem dX3_typeOfFilter_40 : decode cX3_typeOfFilter 40 = .ok (.goto 4, 3) := by decide +kernel
theorem hy_X3_typeOfFilter : yX3_typeOfFilter.cls ≠ "java/lang/invoke/MethodHandle" ∧ yX3_typeOfFilter.cls ≠ "java/lang/invoke/VarHandle" ∧ (parseMethodDescriptor yX3_typeOfFilter.desc).map (fun d => d.parameters.length) = some 3 := ⟨by decide, by decide, by decide +kernel⟩
def f_X3_typeOfFilter (p1 : Nat) (p2 : Int32) (p3 : Nat) (S : wS) : Option ((Option Nat) × wS) :=
  o_gI 8 13 p3 S fun x1 =>
  if x1 = 1 then (
  o_gI 8 12 p3 S fun x2 =>
  o_ck (s_K S p1 = 8) (o_call (f_X9_kind p1 p2 S) fun x3 S1 =>
  if x2 = x3 then (
  o_ck (s_K S1 p3 = 8) (o_call (f_X9_kind p3 0 S1) fun x4 S2 =>
  o_ck (s_K S2 p1 = 8) (o_call (f_X9_changed p1 p2 x4 S2) fun x5 S3 =>
  some (x5, S3)))) else (
  some (none, S1)))) else (
  some (none, S))
set_option maxHeartbeats 4000000 in
set_option maxRecDepth 100000 in
theorem c_X3_typeOfFilter {l : Launch} {D : va_G} {Y : Nat → ClassId} {aR : Nat → Nat} {A : Nat → Prop} {p1 : Nat} {p2 : Int32} {p3 : Nat} {S S' : wS} {r : Option Nat} (hf : f_X3_typeOfFilter p1 p2 p3 S = some (r, S')) : jq_S l D Y aR A yX3_typeOfFilter cX3_typeOfFilter 4 (some (.object "ScoreHandles$Type")) 3 59 [.ref p1, .int p2, .ref p3] S (some (va_rf r)) S' := by
  unfold f_X3_typeOfFilter at hf
  refine jq_enterS (by decide) (Nat.le_of_ble_eq_true rfl) fun p e s m args below meth c ls H locs hX hJ hl => ?_
  have hl : lv_has ls 4 [(0, .ref p1), (1, .int p2), (2, .ref p3)] := hl
  have hx := hX.1
  have hb := hX.2.1
  have hm := hX.2.2.1
  have ho := hX.2.2.2.1
  have ht := hX.2.2.2.2.1
  have hn := hX.2.2.2.2.2.1.2.1
  refine lv_aload_n hx hb dX3_typeOfFilter_0 rfl (lv_at hl 2 rfl) ?_
  replace hf := o_gI_e hf
  obtain ⟨hk1, x1, hx1, hf⟩ := hf
  refine gn_X9_many hX hJ hk1 hx1 qn114 dX3_typeOfFilter_1 ?_
  refine lv_iconst (v := 1) hx hb dX3_typeOfFilter_4 (by decide) ?_
  refine lv_icmp_ne (tgt := 24) hx hb dX3_typeOfFilter_5 (by decide) (fun c1 => ?_) (fun c1 => ?_)
  · replace hf := o_f hf c1
    refine lv_iconst (v := 0) hx hb dX3_typeOfFilter_24 (by decide) ?_
    refine lv_istore_n (lv' := [(3, .int 0), (0, .ref p1), (1, .int p2), (2, .ref p3)]) hx hb dX3_typeOfFilter_25 rfl hl (by decide) rfl (fun ls hl' => ?_)
    clear hl
    have hl := hl'
    clear hl'
    refine lv_iload_n hx hb dX3_typeOfFilter_26 rfl (lv_at hl 0 rfl) ?_
    refine lv_if_eq (tgt := 43) hx hb dX3_typeOfFilter_27 (by decide) (fun _ => ?_) (fun z => absurd (by decide) z)
    refine lv_null hx hb dX3_typeOfFilter_43 ?_
    cases hf
    exact jq_aret (r := none) hX hJ.2.2 dX3_typeOfFilter_44 ⟨rfl, rfl, rfl, hJ.1, hJ.2.1⟩
  · replace hf := o_t hf c1
    refine lv_aload_n hx hb dX3_typeOfFilter_8 rfl (lv_at hl 2 rfl) ?_
    replace hf := o_gI_e hf
    obtain ⟨hk2, x2, hx2, hf⟩ := hf
    refine gn_X9_result hX hJ hk2 hx2 qn111 dX3_typeOfFilter_9 ?_
    refine lv_aload_n hx hb dX3_typeOfFilter_12 rfl (lv_at hl 0 rfl) ?_
    refine lv_iload_n hx hb dX3_typeOfFilter_13 rfl (lv_at hl 1 rfl) ?_
    replace hf := o_ck_e hf
    obtain ⟨hk3, hf⟩ := hf
    replace hf := o_call_e hf
    obtain ⟨x3, S1, hq1, hf⟩ := hf
    refine jq_doS hX hJ (jq_okVN (As := [.int p2]) (rest := [.int x2]) hx hb hm ho ht hn (wJ.recv hX hJ (by rw [hk3]; decide) (wE_X9 hk3) rfl) qn349 qw351 qs19 qw352 qw6 hy_X9_kind rfl hl.1 (Nat.le_of_ble_eq_true rfl) dX3_typeOfFilter_14) (c_X9_kind hq1) (Nat.le_of_ble_eq_true rfl) (Nat.le_of_ble_eq_true rfl) (fun H locs hJ' => ?_)
    clear hJ
    have hJ := hJ'
    clear hJ'
    refine lv_icmp_ne (tgt := 24) hx hb dX3_typeOfFilter_17 (by decide) (fun c2 => ?_) (fun c2 => ?_)
    · replace hf := o_f hf c2
      refine lv_iconst (v := 0) hx hb dX3_typeOfFilter_24 (by decide) ?_
      refine lv_istore_n (lv' := [(3, .int 0), (0, .ref p1), (1, .int p2), (2, .ref p3)]) hx hb dX3_typeOfFilter_25 rfl hl (by decide) rfl (fun ls hl' => ?_)
      clear hl
      have hl := hl'
      clear hl'
      refine lv_iload_n hx hb dX3_typeOfFilter_26 rfl (lv_at hl 0 rfl) ?_
      refine lv_if_eq (tgt := 43) hx hb dX3_typeOfFilter_27 (by decide) (fun _ => ?_) (fun z => absurd (by decide) z)
      refine lv_null hx hb dX3_typeOfFilter_43 ?_
      cases hf
      exact jq_aret (r := none) hX hJ.2.2 dX3_typeOfFilter_44 ⟨rfl, rfl, rfl, hJ.1, hJ.2.1⟩
    · replace hf := o_t hf c2
      refine lv_iconst (v := 1) hx hb dX3_typeOfFilter_20 (by decide) ?_
      refine lv_goto (tgt := 25) hx hb dX3_typeOfFilter_21 (by decide) ?_
      refine lv_istore_n (lv' := [(3, .int 1), (0, .ref p1), (1, .int p2), (2, .ref p3)]) hx hb dX3_typeOfFilter_25 rfl hl (by decide) rfl (fun ls hl' => ?_)
      clear hl
      have hl := hl'
      clear hl'
      refine lv_iload_n hx hb dX3_typeOfFilter_26 rfl (lv_at hl 0 rfl) ?_
      refine lv_if_eq (tgt := 43) hx hb dX3_typeOfFilter_27 (by decide) (fun z => absurd z (by decide)) (fun _ => ?_)
      refine lv_aload_n hx hb dX3_typeOfFilter_30 rfl (lv_at hl 1 rfl) ?_
      refine lv_iload_n hx hb dX3_typeOfFilter_31 rfl (lv_at hl 2 rfl) ?_
      refine lv_aload_n hx hb dX3_typeOfFilter_32 rfl (lv_at hl 3 rfl) ?_
      refine lv_iconst (v := 0) hx hb dX3_typeOfFilter_33 (by decide) ?_
      replace hf := o_ck_e hf
      obtain ⟨hk4, hf⟩ := hf
      replace hf := o_call_e hf
      obtain ⟨x4, S2, hq2, hf⟩ := hf
      refine jq_doS hX hJ (jq_okVN (As := [.int 0]) (rest := [.int p2, .ref p1]) hx hb hm ho ht hn (wJ.recv hX hJ (by rw [hk4]; decide) (wE_X9 hk4) rfl) qn349 qw351 qs19 qw352 qw6 hy_X9_kind rfl hl.1 (Nat.le_of_ble_eq_true rfl) dX3_typeOfFilter_34) (c_X9_kind hq2) (Nat.le_of_ble_eq_true rfl) (Nat.le_of_ble_eq_true rfl) (fun H locs hJ' => ?_)
      clear hJ
      have hJ := hJ'
      clear hJ'
      replace hf := o_ck_e hf
      obtain ⟨hk5, hf⟩ := hf
      replace hf := o_call_e hf
      obtain ⟨x5, S3, hq3, hf⟩ := hf
      refine jq_doS hX hJ (jq_okVN (As := [.int p2, .int x4]) (rest := []) hx hb hm ho ht hn (wJ.recv hX hJ (by rw [hk5]; decide) (wE_X9 hk5) rfl) qn408 qw386 qs24 qw387 qw6 hy_X9_changed rfl hl.1 (Nat.le_of_ble_eq_true rfl) dX3_typeOfFilter_37) (c_X9_changed hq3) (Nat.le_of_ble_eq_true rfl) (Nat.le_of_ble_eq_true rfl) (fun H locs hJ' => ?_)
      clear hJ
      have hJ := hJ'
      clear hJ'
      refine lv_goto (tgt := 44) hx hb dX3_typeOfFilter_40 (by decide) ?_
      cases hf
      exact jq_aret hX hJ.2.2 dX3_typeOfFilter_44 ⟨rfl, rfl, rfl, hJ.1, hJ.2.1⟩
theorem dX3_typeOfFold_0 : decode cX3_typeOfFold 0 = .ok (.aload_n 1, 1) := by decide +kernel
theorem dX3_typeOfFold_1 : decode cX3_typeOfFold 1 = .ok (.getfield 121, 3) := by decide +kernel
theorem dX3_typeOfFold_4 : decode cX3_typeOfFold 4 = .ok (.aload_n 0, 1) := by decide +kernel
theorem dX3_typeOfFold_5 : decode cX3_typeOfFold 5 = .ok (.iconst 0, 1) := by decide +kernel
theorem dX3_typeOfFold_6 : decode cX3_typeOfFold 6 = .ok (.invokevirtual 99, 3) := by decide +kernel
theorem dX3_typeOfFold_9 : decode cX3_typeOfFold 9 = .ok (.if_icmp .ne 17, 3) := by decide +kernel
theorem dX3_typeOfFold_26 : decode cX3_typeOfFold 26 = .ok (.iconst 0, 1) := by decide +kernel
theorem dX3_typeOfFold_27 : decode cX3_typeOfFold 27 = .ok (.istore_n 2, 1) := by decide +kernel
theorem dX3_typeOfFold_28 : decode cX3_typeOfFold 28 = .ok (.iload_n 2, 1) := by decide +kernel
theorem dX3_typeOfFold_29 : decode cX3_typeOfFold 29 = .ok (.ifCond .eq 10, 3) := by decide +kernel
theorem dX3_typeOfFold_39 : decode cX3_typeOfFold 39 = .ok (.aconst_null, 1) := by decide +kernel
theorem dX3_typeOfFold_40 : decode cX3_typeOfFold 40 = .ok (.areturn, 1) := by decide +kernel
theorem dX3_typeOfFold_12 : decode cX3_typeOfFold 12 = .ok (.aload_n 1, 1) := by decide +kernel
theorem dX3_typeOfFold_13 : decode cX3_typeOfFold 13 = .ok (.aload_n 0, 1) := by decide +kernel
theorem dX3_typeOfFold_14 : decode cX3_typeOfFold 14 = .ok (.iconst 0, 1) := by decide +kernel
theorem dX3_typeOfFold_15 : decode cX3_typeOfFold 15 = .ok (.iconst 1, 1) := by decide +kernel
theorem dX3_typeOfFold_16 : decode cX3_typeOfFold 16 = .ok (.invokevirtual 160, 3) := by decide +kernel
theorem dX3_typeOfFold_19 : decode cX3_typeOfFold 19 = .ok (.ifCond .eq 7, 3) := by decide +kernel
theorem dX3_typeOfFold_22 : decode cX3_typeOfFold 22 = .ok (.iconst 1, 1) := by decide +kernel
theorem dX3_typeOfFold_23 : decode cX3_typeOfFold 23 = .ok (.goto 4, 3) := by decide +kernel
theorem dX3_typeOfFold_32 : decode cX3_typeOfFold 32 = .ok (.aload_n 0, 1) := by decide +kernel
theorem dX3_typeOfFold_33 : decode cX3_typeOfFold 33 = .ok (.invokevirtual 117, 3) := by decide +kernel
theorem dX3_typeOfFold_36 : decode cX3_typeOfFold 36 = .ok (.goto 4, 3) := by decide +kernel
theorem hy_X3_typeOfFold : yX3_typeOfFold.cls ≠ "java/lang/invoke/MethodHandle" ∧ yX3_typeOfFold.cls ≠ "java/lang/invoke/VarHandle" ∧ (parseMethodDescriptor yX3_typeOfFold.desc).map (fun d => d.parameters.length) = some 2 := ⟨by decide, by decide, by decide +kernel⟩
def f_X3_typeOfFold (p1 : Nat) (p2 : Nat) (S : wS) : Option ((Option Nat) × wS) :=
  o_gI 8 12 p2 S fun x1 =>
  o_ck (s_K S p1 = 8) (o_call (f_X9_kind p1 0 S) fun x2 S1 =>
  if x1 = x2 then (
  o_ck (s_K S1 p2 = 8) (o_call (f_X9_isFirstOf p2 p1 0 1 S1) fun x3 S2 =>
  if x3 = 0 then (
  some (none, S2)) else (
  o_ck (s_K S2 p1 = 8) (o_call (f_X9_withoutFirst p1 S2) fun x4 S3 =>
  some (x4, S3))))) else (
  some (none, S1)))
set_option maxHeartbeats 4000000 in
set_option maxRecDepth 100000 in
theorem c_X3_typeOfFold {l : Launch} {D : va_G} {Y : Nat → ClassId} {aR : Nat → Nat} {A : Nat → Prop} {p1 : Nat} {p2 : Nat} {S S' : wS} {r : Option Nat} (hf : f_X3_typeOfFold p1 p2 S = some (r, S')) : jq_S l D Y aR A yX3_typeOfFold cX3_typeOfFold 3 (some (.object "ScoreHandles$Type")) 3 57 [.ref p1, .ref p2] S (some (va_rf r)) S' := by
  unfold f_X3_typeOfFold at hf
  refine jq_enterS (by decide) (Nat.le_of_ble_eq_true rfl) fun p e s m args below meth c ls H locs hX hJ hl => ?_
  have hl : lv_has ls 3 [(0, .ref p1), (1, .ref p2)] := hl
  have hx := hX.1
  have hb := hX.2.1
  have hm := hX.2.2.1
  have ho := hX.2.2.2.1
  have ht := hX.2.2.2.2.1
  have hn := hX.2.2.2.2.2.1.2.1
  refine lv_aload_n hx hb dX3_typeOfFold_0 rfl (lv_at hl 1 rfl) ?_
  replace hf := o_gI_e hf
  obtain ⟨hk1, x1, hx1, hf⟩ := hf
  refine gn_X9_result hX hJ hk1 hx1 qn111 dX3_typeOfFold_1 ?_
  refine lv_aload_n hx hb dX3_typeOfFold_4 rfl (lv_at hl 0 rfl) ?_
  refine lv_iconst (v := 0) hx hb dX3_typeOfFold_5 (by decide) ?_
  replace hf := o_ck_e hf
  obtain ⟨hk2, hf⟩ := hf
  replace hf := o_call_e hf
  obtain ⟨x2, S1, hq1, hf⟩ := hf
  refine jq_doS hX hJ (jq_okVN (As := [.int 0]) (rest := [.int x1]) hx hb hm ho ht hn (wJ.recv hX hJ (by rw [hk2]; decide) (wE_X9 hk2) rfl) qn349 qw351 qs19 qw352 qw6 hy_X9_kind rfl hl.1 (Nat.le_of_ble_eq_true rfl) dX3_typeOfFold_6) (c_X9_kind hq1) (Nat.le_of_ble_eq_true rfl) (Nat.le_of_ble_eq_true rfl) (fun H locs hJ' => ?_)
  clear hJ
  have hJ := hJ'
  clear hJ'
  refine lv_icmp_ne (tgt := 26) hx hb dX3_typeOfFold_9 (by decide) (fun c1 => ?_) (fun c1 => ?_)
  · replace hf := o_f hf c1
    refine lv_iconst (v := 0) hx hb dX3_typeOfFold_26 (by decide) ?_
    refine lv_istore_n (lv' := [(2, .int 0), (0, .ref p1), (1, .ref p2)]) hx hb dX3_typeOfFold_27 rfl hl (by decide) rfl (fun ls hl' => ?_)
    clear hl
    have hl := hl'
    clear hl'
    refine lv_iload_n hx hb dX3_typeOfFold_28 rfl (lv_at hl 0 rfl) ?_
    refine lv_if_eq (tgt := 39) hx hb dX3_typeOfFold_29 (by decide) (fun _ => ?_) (fun z => absurd (by decide) z)
    refine lv_null hx hb dX3_typeOfFold_39 ?_
    cases hf
    exact jq_aret (r := none) hX hJ.2.2 dX3_typeOfFold_40 ⟨rfl, rfl, rfl, hJ.1, hJ.2.1⟩
  · replace hf := o_t hf c1
    refine lv_aload_n hx hb dX3_typeOfFold_12 rfl (lv_at hl 1 rfl) ?_
    refine lv_aload_n hx hb dX3_typeOfFold_13 rfl (lv_at hl 0 rfl) ?_
    refine lv_iconst (v := 0) hx hb dX3_typeOfFold_14 (by decide) ?_
    refine lv_iconst (v := 1) hx hb dX3_typeOfFold_15 (by decide) ?_
    replace hf := o_ck_e hf
    obtain ⟨hk3, hf⟩ := hf
    replace hf := o_call_e hf
    obtain ⟨x3, S2, hq2, hf⟩ := hf
    refine jq_doS hX hJ (jq_okVN (As := [.ref p1, .int 0, .int 1]) (rest := []) hx hb hm ho ht hn (wJ.recv hX hJ (by rw [hk3]; decide) (wE_X9 hk3) rfl) qn412 qw414 qs28 qw415 qw6 hy_X9_isFirstOf rfl hl.1 (Nat.le_of_ble_eq_true rfl) dX3_typeOfFold_16) (c_X9_isFirstOf hq2) (Nat.le_of_ble_eq_true rfl) (Nat.le_of_ble_eq_true rfl) (fun H locs hJ' => ?_)
    clear hJ
    have hJ := hJ'
    clear hJ'
    refine lv_if_eq (tgt := 26) hx hb dX3_typeOfFold_19 (by decide) (fun c2 => ?_) (fun c2 => ?_)
    · replace hf := o_t hf c2
      refine lv_iconst (v := 0) hx hb dX3_typeOfFold_26 (by decide) ?_
      refine lv_istore_n (lv' := [(2, .int 0), (0, .ref p1), (1, .ref p2)]) hx hb dX3_typeOfFold_27 rfl hl (by decide) rfl (fun ls hl' => ?_)
      clear hl
      have hl := hl'
      clear hl'
      refine lv_iload_n hx hb dX3_typeOfFold_28 rfl (lv_at hl 0 rfl) ?_
      refine lv_if_eq (tgt := 39) hx hb dX3_typeOfFold_29 (by decide) (fun _ => ?_) (fun z => absurd (by decide) z)
      refine lv_null hx hb dX3_typeOfFold_39 ?_
      cases hf
      exact jq_aret (r := none) hX hJ.2.2 dX3_typeOfFold_40 ⟨rfl, rfl, rfl, hJ.1, hJ.2.1⟩
    · replace hf := o_f hf c2
      refine lv_iconst (v := 1) hx hb dX3_typeOfFold_22 (by decide) ?_
      refine lv_goto (tgt := 27) hx hb dX3_typeOfFold_23 (by decide) ?_
      refine lv_istore_n (lv' := [(2, .int 1), (0, .ref p1), (1, .ref p2)]) hx hb dX3_typeOfFold_27 rfl hl (by decide) rfl (fun ls hl' => ?_)
      clear hl
      have hl := hl'
      clear hl'
      refine lv_iload_n hx hb dX3_typeOfFold_28 rfl (lv_at hl 0 rfl) ?_
      refine lv_if_eq (tgt := 39) hx hb dX3_typeOfFold_29 (by decide) (fun z => absurd z (by decide)) (fun _ => ?_)
      refine lv_aload_n hx hb dX3_typeOfFold_32 rfl (lv_at hl 1 rfl) ?_
      replace hf := o_ck_e hf
      obtain ⟨hk4, hf⟩ := hf
      replace hf := o_call_e hf
      obtain ⟨x4, S3, hq3, hf⟩ := hf
      refine jq_doS hX hJ (jq_okVN (As := []) (rest := []) hx hb hm ho ht hn (wJ.recv hX hJ (by rw [hk4]; decide) (wE_X9 hk4) rfl) qn388 qw390 qs25 qw391 qw6 hy_X9_withoutFirst rfl hl.1 (Nat.le_of_ble_eq_true rfl) dX3_typeOfFold_33) (c_X9_withoutFirst hq3) (Nat.le_of_ble_eq_true rfl) (Nat.le_of_ble_eq_true rfl) (fun H locs hJ' => ?_)
      clear hJ
      have hJ := hJ'
      clear hJ'
      refine lv_goto (tgt := 40) hx hb dX3_typeOfFold_36 (by decide) ?_
      cases hf
      exact jq_aret hX hJ.2.2 dX3_typeOfFold_40 ⟨rfl, rfl, rfl, hJ.1, hJ.2.1⟩
theorem dX3_typeOfThen_0 : decode cX3_typeOfThen 0 = .ok (.aload_n 1, 1) := by decide +kernel
theorem dX3_typeOfThen_1 : decode cX3_typeOfThen 1 = .ok (.getfield 94, 3) := by decide +kernel
theorem dX3_typeOfThen_4 : decode cX3_typeOfThen 4 = .ok (.iconst 1, 1) := by decide +kernel
theorem dX3_typeOfThen_5 : decode cX3_typeOfThen 5 = .ok (.if_icmp .ne 19, 3) := by decide +kernel
theorem dX3_typeOfThen_24 : decode cX3_typeOfThen 24 = .ok (.iconst 0, 1) := by decide +kernel
theorem dX3_typeOfThen_25 : decode cX3_typeOfThen 25 = .ok (.istore_n 2, 1) := by decide +kernel
theorem dX3_typeOfThen_26 : decode cX3_typeOfThen 26 = .ok (.iload_n 2, 1) := by decide +kernel
theorem dX3_typeOfThen_27 : decode cX3_typeOfThen 27 = .ok (.ifCond .eq 14, 3) := by decide +kernel
theorem dX3_typeOfThen_41 : decode cX3_typeOfThen 41 = .ok (.aconst_null, 1) := by decide +kernel
theorem dX3_typeOfThen_42 : decode cX3_typeOfThen 42 = .ok (.areturn, 1) := by decide +kernel
theorem dX3_typeOfThen_8 : decode cX3_typeOfThen 8 = .ok (.aload_n 1, 1) := by decide +kernel
theorem dX3_typeOfThen_9 : decode cX3_typeOfThen 9 = .ok (.iconst 0, 1) := by decide +kernel
theorem dX3_typeOfThen_10 : decode cX3_typeOfThen 10 = .ok (.invokevirtual 99, 3) := by decide +kernel
theorem dX3_typeOfThen_13 : decode cX3_typeOfThen 13 = .ok (.aload_n 0, 1) := by decide +kernel
theorem dX3_typeOfThen_14 : decode cX3_typeOfThen 14 = .ok (.getfield 121, 3) := by decide +kernel
theorem dX3_typeOfThen_17 : decode cX3_typeOfThen 17 = .ok (.if_icmp .ne 7, 3) := by decide +kernel
theorem dX3_typeOfThen_20 : decode cX3_typeOfThen 20 = .ok (.iconst 1, 1) := by decide +kernel
theorem dX3_typeOfThen_21 : decode cX3_typeOfThen 21 = .ok (.goto 4, 3) := by decide +kernel
theorem dX3_typeOfThen_30 : decode cX3_typeOfThen 30 = .ok (.aload_n 0, 1) := by decide +kernel
theorem dX3_typeOfThen_31 : decode cX3_typeOfThen 31 = .ok (.aload_n 1, 1) := by decide +kernel
theorem dX3_typeOfThen_32 : decode cX3_typeOfThen 32 = .ok (.getfield 121, 3) := by decide +kernel
theorem dX3_typeOfThen_35 : decode cX3_typeOfThen 35 = .ok (.invokevirtual 164, 3) := by decide +kernel
theorem dX3_typeOfThen_38 : decode cX3_typeOfThen 38 = .ok (.goto 4, 3) := by decide +kernel
theorem hy_X3_typeOfThen : yX3_typeOfThen.cls ≠ "java/lang/invoke/MethodHandle" ∧ yX3_typeOfThen.cls ≠ "java/lang/invoke/VarHandle" ∧ (parseMethodDescriptor yX3_typeOfThen.desc).map (fun d => d.parameters.length) = some 2 := ⟨by decide, by decide, by decide +kernel⟩
def f_X3_typeOfThen (p1 : Nat) (p2 : Nat) (S : wS) : Option ((Option Nat) × wS) :=
  o_gI 8 13 p2 S fun x1 =>
  if x1 = 1 then (
  o_ck (s_K S p2 = 8) (o_call (f_X9_kind p2 0 S) fun x2 S1 =>
  o_gI 8 12 p1 S1 fun x3 =>
  if x2 = x3 then (
  o_gI 8 12 p2 S1 fun x4 =>
  o_ck (s_K S1 p1 = 8) (o_call (f_X9_giving p1 x4 S1) fun x5 S2 =>
  some (x5, S2))) else (
  some (none, S1)))) else (
  some (none, S))
set_option maxHeartbeats 4000000 in
set_option maxRecDepth 100000 in
theorem c_X3_typeOfThen {l : Launch} {D : va_G} {Y : Nat → ClassId} {aR : Nat → Nat} {A : Nat → Prop} {p1 : Nat} {p2 : Nat} {S S' : wS} {r : Option Nat} (hf : f_X3_typeOfThen p1 p2 S = some (r, S')) : jq_S l D Y aR A yX3_typeOfThen cX3_typeOfThen 3 (some (.object "ScoreHandles$Type")) 3 56 [.ref p1, .ref p2] S (some (va_rf r)) S' := by
  unfold f_X3_typeOfThen at hf
  refine jq_enterS (by decide) (Nat.le_of_ble_eq_true rfl) fun p e s m args below meth c ls H locs hX hJ hl => ?_
  have hl : lv_has ls 3 [(0, .ref p1), (1, .ref p2)] := hl
  have hx := hX.1
  have hb := hX.2.1
  have hm := hX.2.2.1
  have ho := hX.2.2.2.1
  have ht := hX.2.2.2.2.1
  have hn := hX.2.2.2.2.2.1.2.1
  refine lv_aload_n hx hb dX3_typeOfThen_0 rfl (lv_at hl 1 rfl) ?_
  replace hf := o_gI_e hf
  obtain ⟨hk1, x1, hx1, hf⟩ := hf
  refine gn_X9_many hX hJ hk1 hx1 qn114 dX3_typeOfThen_1 ?_
  refine lv_iconst (v := 1) hx hb dX3_typeOfThen_4 (by decide) ?_
  refine lv_icmp_ne (tgt := 24) hx hb dX3_typeOfThen_5 (by decide) (fun c1 => ?_) (fun c1 => ?_)
  · replace hf := o_f hf c1
    refine lv_iconst (v := 0) hx hb dX3_typeOfThen_24 (by decide) ?_
    refine lv_istore_n (lv' := [(2, .int 0), (0, .ref p1), (1, .ref p2)]) hx hb dX3_typeOfThen_25 rfl hl (by decide) rfl (fun ls hl' => ?_)
    clear hl
    have hl := hl'
    clear hl'
    refine lv_iload_n hx hb dX3_typeOfThen_26 rfl (lv_at hl 0 rfl) ?_
    refine lv_if_eq (tgt := 41) hx hb dX3_typeOfThen_27 (by decide) (fun _ => ?_) (fun z => absurd (by decide) z)
    refine lv_null hx hb dX3_typeOfThen_41 ?_
    cases hf
    exact jq_aret (r := none) hX hJ.2.2 dX3_typeOfThen_42 ⟨rfl, rfl, rfl, hJ.1, hJ.2.1⟩
  · replace hf := o_t hf c1
    refine lv_aload_n hx hb dX3_typeOfThen_8 rfl (lv_at hl 1 rfl) ?_
    refine lv_iconst (v := 0) hx hb dX3_typeOfThen_9 (by decide) ?_
    replace hf := o_ck_e hf
    obtain ⟨hk2, hf⟩ := hf
    replace hf := o_call_e hf
    obtain ⟨x2, S1, hq1, hf⟩ := hf
    refine jq_doS hX hJ (jq_okVN (As := [.int 0]) (rest := []) hx hb hm ho ht hn (wJ.recv hX hJ (by rw [hk2]; decide) (wE_X9 hk2) rfl) qn349 qw351 qs19 qw352 qw6 hy_X9_kind rfl hl.1 (Nat.le_of_ble_eq_true rfl) dX3_typeOfThen_10) (c_X9_kind hq1) (Nat.le_of_ble_eq_true rfl) (Nat.le_of_ble_eq_true rfl) (fun H locs hJ' => ?_)
    clear hJ
    have hJ := hJ'
    clear hJ'
    refine lv_aload_n hx hb dX3_typeOfThen_13 rfl (lv_at hl 0 rfl) ?_
    replace hf := o_gI_e hf
    obtain ⟨hk3, x3, hx3, hf⟩ := hf
    refine gn_X9_result hX hJ hk3 hx3 qn111 dX3_typeOfThen_14 ?_
    refine lv_icmp_ne (tgt := 24) hx hb dX3_typeOfThen_17 (by decide) (fun c2 => ?_) (fun c2 => ?_)
    · replace hf := o_f hf c2
      refine lv_iconst (v := 0) hx hb dX3_typeOfThen_24 (by decide) ?_
      refine lv_istore_n (lv' := [(2, .int 0), (0, .ref p1), (1, .ref p2)]) hx hb dX3_typeOfThen_25 rfl hl (by decide) rfl (fun ls hl' => ?_)
      clear hl
      have hl := hl'
      clear hl'
      refine lv_iload_n hx hb dX3_typeOfThen_26 rfl (lv_at hl 0 rfl) ?_
      refine lv_if_eq (tgt := 41) hx hb dX3_typeOfThen_27 (by decide) (fun _ => ?_) (fun z => absurd (by decide) z)
      refine lv_null hx hb dX3_typeOfThen_41 ?_
      cases hf
      exact jq_aret (r := none) hX hJ.2.2 dX3_typeOfThen_42 ⟨rfl, rfl, rfl, hJ.1, hJ.2.1⟩
    · replace hf := o_t hf c2
      refine lv_iconst (v := 1) hx hb dX3_typeOfThen_20 (by decide) ?_
      refine lv_goto (tgt := 25) hx hb dX3_typeOfThen_21 (by decide) ?_
      refine lv_istore_n (lv' := [(2, .int 1), (0, .ref p1), (1, .ref p2)]) hx hb dX3_typeOfThen_25 rfl hl (by decide) rfl (fun ls hl' => ?_)
      clear hl
      have hl := hl'
      clear hl'
      refine lv_iload_n hx hb dX3_typeOfThen_26 rfl (lv_at hl 0 rfl) ?_
      refine lv_if_eq (tgt := 41) hx hb dX3_typeOfThen_27 (by decide) (fun z => absurd z (by decide)) (fun _ => ?_)
      refine lv_aload_n hx hb dX3_typeOfThen_30 rfl (lv_at hl 1 rfl) ?_
      refine lv_aload_n hx hb dX3_typeOfThen_31 rfl (lv_at hl 2 rfl) ?_
      replace hf := o_gI_e hf
      obtain ⟨hk4, x4, hx4, hf⟩ := hf
      refine gn_X9_result hX hJ hk4 hx4 qn111 dX3_typeOfThen_32 ?_
      replace hf := o_ck_e hf
      obtain ⟨hk5, hf⟩ := hf
      replace hf := o_call_e hf
      obtain ⟨x5, S2, hq2, hf⟩ := hf
      refine jq_doS hX hJ (jq_okVN (As := [.int x4]) (rest := []) hx hb hm ho ht hn (wJ.recv hX hJ (by rw [hk5]; decide) (wE_X9 hk5) rfl) qn419 qw421 qs29 qw422 qw6 hy_X9_giving rfl hl.1 (Nat.le_of_ble_eq_true rfl) dX3_typeOfThen_35) (c_X9_giving hq2) (Nat.le_of_ble_eq_true rfl) (Nat.le_of_ble_eq_true rfl) (fun H locs hJ' => ?_)
      clear hJ
      have hJ := hJ'
      clear hJ'
      refine lv_goto (tgt := 42) hx hb dX3_typeOfThen_38 (by decide) ?_
      cases hf
      exact jq_aret hX hJ.2.2 dX3_typeOfThen_42 ⟨rfl, rfl, rfl, hJ.1, hJ.2.1⟩
theorem dX3_typeOfGuard_0 : decode cX3_typeOfGuard 0 = .ok (.aload_n 0, 1) := by decide +kernel
theorem dX3_typeOfGuard_1 : decode cX3_typeOfGuard 1 = .ok (.getfield 121, 3) := by decide +kernel
theorem dX3_typeOfGuard_4 : decode cX3_typeOfGuard 4 = .ok (.ifCond .ne 25, 3) := by decide +kernel
theorem dX3_typeOfGuard_29 : decode cX3_typeOfGuard 29 = .ok (.iconst 0, 1) := by decide +kernel
theorem dX3_typeOfGuard_30 : decode cX3_typeOfGuard 30 = .ok (.istore_n 3, 1) := by decide +kernel
theorem dX3_typeOfGuard_31 : decode cX3_typeOfGuard 31 = .ok (.iload_n 3, 1) := by decide +kernel
theorem dX3_typeOfGuard_32 : decode cX3_typeOfGuard 32 = .ok (.ifCond .eq 7, 3) := by decide +kernel
theorem dX3_typeOfGuard_39 : decode cX3_typeOfGuard 39 = .ok (.aconst_null, 1) := by decide +kernel
theorem dX3_typeOfGuard_40 : decode cX3_typeOfGuard 40 = .ok (.areturn, 1) := by decide +kernel
theorem dX3_typeOfGuard_7 : decode cX3_typeOfGuard 7 = .ok (.aload_n 0, 1) := by decide +kernel
theorem dX3_typeOfGuard_8 : decode cX3_typeOfGuard 8 = .ok (.aload_n 1, 1) := by decide +kernel
theorem dX3_typeOfGuard_9 : decode cX3_typeOfGuard 9 = .ok (.iconst 0, 1) := by decide +kernel
theorem dX3_typeOfGuard_10 : decode cX3_typeOfGuard 10 = .ok (.iconst 0, 1) := by decide +kernel
theorem dX3_typeOfGuard_11 : decode cX3_typeOfGuard 11 = .ok (.invokevirtual 160, 3) := by decide +kernel
theorem dX3_typeOfGuard_14 : decode cX3_typeOfGuard 14 = .ok (.ifCond .eq 15, 3) := by decide +kernel
theorem dX3_typeOfGuard_17 : decode cX3_typeOfGuard 17 = .ok (.aload_n 1, 1) := by decide +kernel
theorem dX3_typeOfGuard_18 : decode cX3_typeOfGuard 18 = .ok (.aload_n 2, 1) := by decide +kernel
theorem dX3_typeOfGuard_19 : decode cX3_typeOfGuard 19 = .ok (.invokevirtual 167, 3) := by decide +kernel
theorem dX3_typeOfGuard_22 : decode cX3_typeOfGuard 22 = .ok (.ifCond .eq 7, 3) := by decide +kernel
theorem dX3_typeOfGuard_25 : decode cX3_typeOfGuard 25 = .ok (.iconst 1, 1) := by decide +kernel
theorem dX3_typeOfGuard_26 : decode cX3_typeOfGuard 26 = .ok (.goto 4, 3) := by decide +kernel
theorem dX3_typeOfGuard_35 : decode cX3_typeOfGuard 35 = .ok (.aload_n 1, 1) := by decide +kernel
theorem dX3_typeOfGuard_36 : decode cX3_typeOfGuard 36 = .ok (.goto 4, 3) := by decide +kernel
theorem hy_X3_typeOfGuard : yX3_typeOfGuard.cls ≠ "java/lang/invoke/MethodHandle" ∧ yX3_typeOfGuard.cls ≠ "java/lang/invoke/VarHandle" ∧ (parseMethodDescriptor yX3_typeOfGuard.desc).map (fun d => d.parameters.length) = some 3 := ⟨by decide, by decide, by decide +kernel⟩
def f_X3_typeOfGuard (p1 : Nat) (p2 : Nat) (p3 : Nat) (S : wS) : Option ((Option Nat) × wS) :=
  o_gI 8 12 p1 S fun x1 =>
  if x1 = 0 then (
  o_ck (s_K S p1 = 8) (o_call (f_X9_isFirstOf p1 p2 0 0 S) fun x2 S1 =>
  if x2 = 0 then (
  some (none, S1)) else (
  o_ck (s_K S1 p2 = 8) (o_call (f_X9_isSame p2 p3 S1) fun x3 S2 =>
  if x3 = 0 then (
  some (none, S2)) else (
  some ((some p2), S2)))))) else (
  some (none, S))
set_option maxHeartbeats 4000000 in
set_option maxRecDepth 100000 in
theorem c_X3_typeOfGuard {l : Launch} {D : va_G} {Y : Nat → ClassId} {aR : Nat → Nat} {A : Nat → Prop} {p1 : Nat} {p2 : Nat} {p3 : Nat} {S S' : wS} {r : Option Nat} (hf : f_X3_typeOfGuard p1 p2 p3 S = some (r, S')) : jq_S l D Y aR A yX3_typeOfGuard cX3_typeOfGuard 4 (some (.object "ScoreHandles$Type")) 3 67 [.ref p1, .ref p2, .ref p3] S (some (va_rf r)) S' := by
  unfold f_X3_typeOfGuard at hf
  refine jq_enterS (by decide) (Nat.le_of_ble_eq_true rfl) fun p e s m args below meth c ls H locs hX hJ hl => ?_
  have hl : lv_has ls 4 [(0, .ref p1), (1, .ref p2), (2, .ref p3)] := hl
  have hx := hX.1
  have hb := hX.2.1
  have hm := hX.2.2.1
  have ho := hX.2.2.2.1
  have ht := hX.2.2.2.2.1
  have hn := hX.2.2.2.2.2.1.2.1
  refine lv_aload_n hx hb dX3_typeOfGuard_0 rfl (lv_at hl 0 rfl) ?_
  replace hf := o_gI_e hf
  obtain ⟨hk1, x1, hx1, hf⟩ := hf
  refine gn_X9_result hX hJ hk1 hx1 qn111 dX3_typeOfGuard_1 ?_
  refine lv_if_ne (tgt := 29) hx hb dX3_typeOfGuard_4 (by decide) (fun c1 => ?_) (fun c1 => ?_)
  · replace hf := o_f hf c1
    refine lv_iconst (v := 0) hx hb dX3_typeOfGuard_29 (by decide) ?_
    refine lv_istore_n (lv' := [(3, .int 0), (0, .ref p1), (1, .ref p2), (2, .ref p3)]) hx hb dX3_typeOfGuard_30 rfl hl (by decide) rfl (fun ls hl' => ?_)
    clear hl
    have hl := hl'
    clear hl'
    refine lv_iload_n hx hb dX3_typeOfGuard_31 rfl (lv_at hl 0 rfl) ?_
    refine lv_if_eq (tgt := 39) hx hb dX3_typeOfGuard_32 (by decide) (fun _ => ?_) (fun z => absurd (by decide) z)
    refine lv_null hx hb dX3_typeOfGuard_39 ?_
    cases hf
    exact jq_aret (r := none) hX hJ.2.2 dX3_typeOfGuard_40 ⟨rfl, rfl, rfl, hJ.1, hJ.2.1⟩
  · replace hf := o_t hf c1
    refine lv_aload_n hx hb dX3_typeOfGuard_7 rfl (lv_at hl 0 rfl) ?_
    refine lv_aload_n hx hb dX3_typeOfGuard_8 rfl (lv_at hl 1 rfl) ?_
    refine lv_iconst (v := 0) hx hb dX3_typeOfGuard_9 (by decide) ?_
    refine lv_iconst (v := 0) hx hb dX3_typeOfGuard_10 (by decide) ?_
    replace hf := o_ck_e hf
    obtain ⟨hk2, hf⟩ := hf
    replace hf := o_call_e hf
    obtain ⟨x2, S1, hq1, hf⟩ := hf
    refine jq_doS hX hJ (jq_okVN (As := [.ref p2, .int 0, .int 0]) (rest := []) hx hb hm ho ht hn (wJ.recv hX hJ (by rw [hk2]; decide) (wE_X9 hk2) rfl) qn412 qw414 qs28 qw415 qw6 hy_X9_isFirstOf rfl hl.1 (Nat.le_of_ble_eq_true rfl) dX3_typeOfGuard_11) (c_X9_isFirstOf hq1) (Nat.le_of_ble_eq_true rfl) (Nat.le_of_ble_eq_true rfl) (fun H locs hJ' => ?_)
    clear hJ
    have hJ := hJ'
    clear hJ'
    refine lv_if_eq (tgt := 29) hx hb dX3_typeOfGuard_14 (by decide) (fun c2 => ?_) (fun c2 => ?_)
    · replace hf := o_t hf c2
      refine lv_iconst (v := 0) hx hb dX3_typeOfGuard_29 (by decide) ?_
      refine lv_istore_n (lv' := [(3, .int 0), (0, .ref p1), (1, .ref p2), (2, .ref p3)]) hx hb dX3_typeOfGuard_30 rfl hl (by decide) rfl (fun ls hl' => ?_)
      clear hl
      have hl := hl'
      clear hl'
      refine lv_iload_n hx hb dX3_typeOfGuard_31 rfl (lv_at hl 0 rfl) ?_
      refine lv_if_eq (tgt := 39) hx hb dX3_typeOfGuard_32 (by decide) (fun _ => ?_) (fun z => absurd (by decide) z)
      refine lv_null hx hb dX3_typeOfGuard_39 ?_
      cases hf
      exact jq_aret (r := none) hX hJ.2.2 dX3_typeOfGuard_40 ⟨rfl, rfl, rfl, hJ.1, hJ.2.1⟩
    · replace hf := o_f hf c2
      refine lv_aload_n hx hb dX3_typeOfGuard_17 rfl (lv_at hl 1 rfl) ?_
      refine lv_aload_n hx hb dX3_typeOfGuard_18 rfl (lv_at hl 2 rfl) ?_
      replace hf := o_ck_e hf
      obtain ⟨hk3, hf⟩ := hf
      replace hf := o_call_e hf
      obtain ⟨x3, S2, hq2, hf⟩ := hf
      refine jq_doS hX hJ (jq_okVN (As := [.ref p3]) (rest := []) hx hb hm ho ht hn (wJ.recv hX hJ (by rw [hk3]; decide) (wE_X9 hk3) rfl) qn426 qw428 qs30 qw429 qw6 hy_X9_isSame rfl hl.1 (Nat.le_of_ble_eq_true rfl) dX3_typeOfGuard_19) (c_X9_isSame hq2) (Nat.le_of_ble_eq_true rfl) (Nat.le_of_ble_eq_true rfl) (fun H locs hJ' => ?_)
      clear hJ
      have hJ := hJ'
      clear hJ'
      refine lv_if_eq (tgt := 29) hx hb dX3_typeOfGuard_22 (by decide) (fun c3 => ?_) (fun c3 => ?_)
      · replace hf := o_t hf c3
        refine lv_iconst (v := 0) hx hb dX3_typeOfGuard_29 (by decide) ?_
        refine lv_istore_n (lv' := [(3, .int 0), (0, .ref p1), (1, .ref p2), (2, .ref p3)]) hx hb dX3_typeOfGuard_30 rfl hl (by decide) rfl (fun ls hl' => ?_)
        clear hl
        have hl := hl'
        clear hl'
        refine lv_iload_n hx hb dX3_typeOfGuard_31 rfl (lv_at hl 0 rfl) ?_
        refine lv_if_eq (tgt := 39) hx hb dX3_typeOfGuard_32 (by decide) (fun _ => ?_) (fun z => absurd (by decide) z)
        refine lv_null hx hb dX3_typeOfGuard_39 ?_
        cases hf
        exact jq_aret (r := none) hX hJ.2.2 dX3_typeOfGuard_40 ⟨rfl, rfl, rfl, hJ.1, hJ.2.1⟩
      · replace hf := o_f hf c3
        refine lv_iconst (v := 1) hx hb dX3_typeOfGuard_25 (by decide) ?_
        refine lv_goto (tgt := 30) hx hb dX3_typeOfGuard_26 (by decide) ?_
        refine lv_istore_n (lv' := [(3, .int 1), (0, .ref p1), (1, .ref p2), (2, .ref p3)]) hx hb dX3_typeOfGuard_30 rfl hl (by decide) rfl (fun ls hl' => ?_)
        clear hl
        have hl := hl'
        clear hl'
        refine lv_iload_n hx hb dX3_typeOfGuard_31 rfl (lv_at hl 0 rfl) ?_
        refine lv_if_eq (tgt := 39) hx hb dX3_typeOfGuard_32 (by decide) (fun z => absurd z (by decide)) (fun _ => ?_)
        refine lv_aload_n hx hb dX3_typeOfGuard_35 rfl (lv_at hl 2 rfl) ?_
        refine lv_goto (tgt := 40) hx hb dX3_typeOfGuard_36 (by decide) ?_
        cases hf
        exact jq_aret (r := (some p2)) hX hJ.2.2 dX3_typeOfGuard_40 ⟨rfl, rfl, rfl, hJ.1, hJ.2.1⟩
theorem dX3_typeOfCatch_0 : decode cX3_typeOfCatch 0 = .ok (.aload_n 1, 1) := by decide +kernel
theorem dX3_typeOfCatch_1 : decode cX3_typeOfCatch 1 = .ok (.iconst 0, 1) := by decide +kernel
theorem dX3_typeOfCatch_2 : decode cX3_typeOfCatch 2 = .ok (.invokevirtual 99, 3) := by decide +kernel
theorem dX3_typeOfCatch_5 : decode cX3_typeOfCatch 5 = .ok (.iconst 4, 1) := by decide +kernel
theorem dX3_typeOfCatch_6 : decode cX3_typeOfCatch 6 = .ok (.if_icmp .ne 28, 3) := by decide +kernel
theorem dX3_typeOfCatch_34 : decode cX3_typeOfCatch 34 = .ok (.iconst 0, 1) := by decide +kernel
theorem dX3_typeOfCatch_35 : decode cX3_typeOfCatch 35 = .ok (.istore_n 2, 1) := by decide +kernel
theorem dX3_typeOfCatch_36 : decode cX3_typeOfCatch 36 = .ok (.iload_n 2, 1) := by decide +kernel
theorem dX3_typeOfCatch_37 : decode cX3_typeOfCatch 37 = .ok (.ifCond .eq 7, 3) := by decide +kernel
theorem dX3_typeOfCatch_44 : decode cX3_typeOfCatch 44 = .ok (.aconst_null, 1) := by decide +kernel
theorem dX3_typeOfCatch_45 : decode cX3_typeOfCatch 45 = .ok (.areturn, 1) := by decide +kernel
theorem dX3_typeOfCatch_9 : decode cX3_typeOfCatch 9 = .ok (.aload_n 1, 1) := by decide +kernel
theorem dX3_typeOfCatch_10 : decode cX3_typeOfCatch 10 = .ok (.aload_n 0, 1) := by decide +kernel
theorem dX3_typeOfCatch_11 : decode cX3_typeOfCatch 11 = .ok (.iconst 1, 1) := by decide +kernel
theorem dX3_typeOfCatch_12 : decode cX3_typeOfCatch 12 = .ok (.iconst 0, 1) := by decide +kernel
theorem dX3_typeOfCatch_13 : decode cX3_typeOfCatch 13 = .ok (.invokevirtual 160, 3) := by decide +kernel
theorem dX3_typeOfCatch_16 : decode cX3_typeOfCatch 16 = .ok (.ifCond .eq 18, 3) := by decide +kernel
theorem dX3_typeOfCatch_19 : decode cX3_typeOfCatch 19 = .ok (.aload_n 1, 1) := by decide +kernel
theorem dX3_typeOfCatch_20 : decode cX3_typeOfCatch 20 = .ok (.getfield 121, 3) := by decide +kernel
theorem dX3_typeOfCatch_23 : decode cX3_typeOfCatch 23 = .ok (.aload_n 0, 1) := by decide +kernel
theorem dX3_typeOfCatch_24 : decode cX3_typeOfCatch 24 = .ok (.getfield 121, 3) := by decide +kernel
theorem dX3_typeOfCatch_27 : decode cX3_typeOfCatch 27 = .ok (.if_icmp .ne 7, 3) := by decide +kernel
theorem dX3_typeOfCatch_30 : decode cX3_typeOfCatch 30 = .ok (.iconst 1, 1) := by decide +kernel
theorem dX3_typeOfCatch_31 : decode cX3_typeOfCatch 31 = .ok (.goto 4, 3) := by decide +kernel
theorem dX3_typeOfCatch_40 : decode cX3_typeOfCatch 40 = .ok (.aload_n 0, 1) := by decide +kernel
theorem dX3_typeOfCatch_41 : decode cX3_typeOfCatch 41 = .ok (.goto 4, 3) := by decide +kernel
theorem hy_X3_typeOfCatch : yX3_typeOfCatch.cls ≠ "java/lang/invoke/MethodHandle" ∧ yX3_typeOfCatch.cls ≠ "java/lang/invoke/VarHandle" ∧ (parseMethodDescriptor yX3_typeOfCatch.desc).map (fun d => d.parameters.length) = some 2 := ⟨by decide, by decide, by decide +kernel⟩
def f_X3_typeOfCatch (p1 : Nat) (p2 : Nat) (S : wS) : Option ((Option Nat) × wS) :=
  o_ck (s_K S p2 = 8) (o_call (f_X9_kind p2 0 S) fun x1 S1 =>
  if x1 = 4 then (
  o_ck (s_K S1 p2 = 8) (o_call (f_X9_isFirstOf p2 p1 1 0 S1) fun x2 S2 =>
  if x2 = 0 then (
  some (none, S2)) else (
  o_gI 8 12 p2 S2 fun x3 =>
  o_gI 8 12 p1 S2 fun x4 =>
  if x3 = x4 then (
  some ((some p1), S2)) else (
  some (none, S2))))) else (
  some (none, S1)))
set_option maxHeartbeats 4000000 in
set_option maxRecDepth 100000 in
theorem c_X3_typeOfCatch {l : Launch} {D : va_G} {Y : Nat → ClassId} {aR : Nat → Nat} {A : Nat → Prop} {p1 : Nat} {p2 : Nat} {S S' : wS} {r : Option Nat} (hf : f_X3_typeOfCatch p1 p2 S = some (r, S')) : jq_S l D Y aR A yX3_typeOfCatch cX3_typeOfCatch 3 (some (.object "ScoreHandles$Type")) 2 46 [.ref p1, .ref p2] S (some (va_rf r)) S' := by
  unfold f_X3_typeOfCatch at hf
  refine jq_enterS (by decide) (Nat.le_of_ble_eq_true rfl) fun p e s m args below meth c ls H locs hX hJ hl => ?_
  have hl : lv_has ls 3 [(0, .ref p1), (1, .ref p2)] := hl
  have hx := hX.1
  have hb := hX.2.1
  have hm := hX.2.2.1
  have ho := hX.2.2.2.1
  have ht := hX.2.2.2.2.1
  have hn := hX.2.2.2.2.2.1.2.1
  refine lv_aload_n hx hb dX3_typeOfCatch_0 rfl (lv_at hl 1 rfl) ?_
  refine lv_iconst (v := 0) hx hb dX3_typeOfCatch_1 (by decide) ?_
  replace hf := o_ck_e hf
  obtain ⟨hk1, hf⟩ := hf
  replace hf := o_call_e hf
  obtain ⟨x1, S1, hq1, hf⟩ := hf
  refine jq_doS hX hJ (jq_okVN (As := [.int 0]) (rest := []) hx hb hm ho ht hn (wJ.recv hX hJ (by rw [hk1]; decide) (wE_X9 hk1) rfl) qn349 qw351 qs19 qw352 qw6 hy_X9_kind rfl hl.1 (Nat.le_of_ble_eq_true rfl) dX3_typeOfCatch_2) (c_X9_kind hq1) (Nat.le_of_ble_eq_true rfl) (Nat.le_of_ble_eq_true rfl) (fun H locs hJ' => ?_)
  clear hJ
  have hJ := hJ'
  clear hJ'
  refine lv_iconst (v := 4) hx hb dX3_typeOfCatch_5 (by decide) ?_
  refine lv_icmp_ne (tgt := 34) hx hb dX3_typeOfCatch_6 (by decide) (fun c1 => ?_) (fun c1 => ?_)
  · replace hf := o_f hf c1
    refine lv_iconst (v := 0) hx hb dX3_typeOfCatch_34 (by decide) ?_
    refine lv_istore_n (lv' := [(2, .int 0), (0, .ref p1), (1, .ref p2)]) hx hb dX3_typeOfCatch_35 rfl hl (by decide) rfl (fun ls hl' => ?_)
    clear hl
    have hl := hl'
    clear hl'
    refine lv_iload_n hx hb dX3_typeOfCatch_36 rfl (lv_at hl 0 rfl) ?_
    refine lv_if_eq (tgt := 44) hx hb dX3_typeOfCatch_37 (by decide) (fun _ => ?_) (fun z => absurd (by decide) z)
    refine lv_null hx hb dX3_typeOfCatch_44 ?_
    cases hf
    exact jq_aret (r := none) hX hJ.2.2 dX3_typeOfCatch_45 ⟨rfl, rfl, rfl, hJ.1, hJ.2.1⟩
  · replace hf := o_t hf c1
    refine lv_aload_n hx hb dX3_typeOfCatch_9 rfl (lv_at hl 1 rfl) ?_
    refine lv_aload_n hx hb dX3_typeOfCatch_10 rfl (lv_at hl 0 rfl) ?_
    refine lv_iconst (v := 1) hx hb dX3_typeOfCatch_11 (by decide) ?_
    refine lv_iconst (v := 0) hx hb dX3_typeOfCatch_12 (by decide) ?_
    replace hf := o_ck_e hf
    obtain ⟨hk2, hf⟩ := hf
    replace hf := o_call_e hf
    obtain ⟨x2, S2, hq2, hf⟩ := hf
    refine jq_doS hX hJ (jq_okVN (As := [.ref p1, .int 1, .int 0]) (rest := []) hx hb hm ho ht hn (wJ.recv hX hJ (by rw [hk2]; decide) (wE_X9 hk2) rfl) qn412 qw414 qs28 qw415 qw6 hy_X9_isFirstOf rfl hl.1 (Nat.le_of_ble_eq_true rfl) dX3_typeOfCatch_13) (c_X9_isFirstOf hq2) (Nat.le_of_ble_eq_true rfl) (Nat.le_of_ble_eq_true rfl) (fun H locs hJ' => ?_)
    clear hJ
    have hJ := hJ'
    clear hJ'
    refine lv_if_eq (tgt := 34) hx hb dX3_typeOfCatch_16 (by decide) (fun c2 => ?_) (fun c2 => ?_)
    · replace hf := o_t hf c2
      refine lv_iconst (v := 0) hx hb dX3_typeOfCatch_34 (by decide) ?_
      refine lv_istore_n (lv' := [(2, .int 0), (0, .ref p1), (1, .ref p2)]) hx hb dX3_typeOfCatch_35 rfl hl (by decide) rfl (fun ls hl' => ?_)
      clear hl
      have hl := hl'
      clear hl'
      refine lv_iload_n hx hb dX3_typeOfCatch_36 rfl (lv_at hl 0 rfl) ?_
      refine lv_if_eq (tgt := 44) hx hb dX3_typeOfCatch_37 (by decide) (fun _ => ?_) (fun z => absurd (by decide) z)
      refine lv_null hx hb dX3_typeOfCatch_44 ?_
      cases hf
      exact jq_aret (r := none) hX hJ.2.2 dX3_typeOfCatch_45 ⟨rfl, rfl, rfl, hJ.1, hJ.2.1⟩
    · replace hf := o_f hf c2
      refine lv_aload_n hx hb dX3_typeOfCatch_19 rfl (lv_at hl 1 rfl) ?_
      replace hf := o_gI_e hf
      obtain ⟨hk3, x3, hx3, hf⟩ := hf
      refine gn_X9_result hX hJ hk3 hx3 qn111 dX3_typeOfCatch_20 ?_
      refine lv_aload_n hx hb dX3_typeOfCatch_23 rfl (lv_at hl 0 rfl) ?_
      replace hf := o_gI_e hf
      obtain ⟨hk4, x4, hx4, hf⟩ := hf
      refine gn_X9_result hX hJ hk4 hx4 qn111 dX3_typeOfCatch_24 ?_
      refine lv_icmp_ne (tgt := 34) hx hb dX3_typeOfCatch_27 (by decide) (fun c3 => ?_) (fun c3 => ?_)
      · replace hf := o_f hf c3
        refine lv_iconst (v := 0) hx hb dX3_typeOfCatch_34 (by decide) ?_
        refine lv_istore_n (lv' := [(2, .int 0), (0, .ref p1), (1, .ref p2)]) hx hb dX3_typeOfCatch_35 rfl hl (by decide) rfl (fun ls hl' => ?_)
        clear hl
        have hl := hl'
        clear hl'
        refine lv_iload_n hx hb dX3_typeOfCatch_36 rfl (lv_at hl 0 rfl) ?_
        refine lv_if_eq (tgt := 44) hx hb dX3_typeOfCatch_37 (by decide) (fun _ => ?_) (fun z => absurd (by decide) z)
        refine lv_null hx hb dX3_typeOfCatch_44 ?_
        cases hf
        exact jq_aret (r := none) hX hJ.2.2 dX3_typeOfCatch_45 ⟨rfl, rfl, rfl, hJ.1, hJ.2.1⟩
      · replace hf := o_t hf c3
        refine lv_iconst (v := 1) hx hb dX3_typeOfCatch_30 (by decide) ?_
        refine lv_goto (tgt := 35) hx hb dX3_typeOfCatch_31 (by decide) ?_
        refine lv_istore_n (lv' := [(2, .int 1), (0, .ref p1), (1, .ref p2)]) hx hb dX3_typeOfCatch_35 rfl hl (by decide) rfl (fun ls hl' => ?_)
        clear hl
        have hl := hl'
        clear hl'
        refine lv_iload_n hx hb dX3_typeOfCatch_36 rfl (lv_at hl 0 rfl) ?_
        refine lv_if_eq (tgt := 44) hx hb dX3_typeOfCatch_37 (by decide) (fun z => absurd z (by decide)) (fun _ => ?_)
        refine lv_aload_n hx hb dX3_typeOfCatch_40 rfl (lv_at hl 1 rfl) ?_
        refine lv_goto (tgt := 45) hx hb dX3_typeOfCatch_41 (by decide) ?_
        cases hf
        exact jq_aret (r := (some p1)) hX hJ.2.2 dX3_typeOfCatch_45 ⟨rfl, rfl, rfl, hJ.1, hJ.2.1⟩
theorem dX3_typeOfLast_0 : decode cX3_typeOfLast 0 = .ok (.aload_n 1, 1) := by decide +kernel
theorem dX3_typeOfLast_1 : decode cX3_typeOfLast 1 = .ok (.iconst 0, 1) := by decide +kernel
theorem dX3_typeOfLast_2 : decode cX3_typeOfLast 2 = .ok (.invokevirtual 99, 3) := by decide +kernel
theorem dX3_typeOfLast_5 : decode cX3_typeOfLast 5 = .ok (.iconst 4, 1) := by decide +kernel
theorem dX3_typeOfLast_6 : decode cX3_typeOfLast 6 = .ok (.if_icmp .ne 19, 3) := by decide +kernel
theorem dX3_typeOfLast_25 : decode cX3_typeOfLast 25 = .ok (.iconst 0, 1) := by decide +kernel
theorem dX3_typeOfLast_9 : decode cX3_typeOfLast 9 = .ok (.aload_n 1, 1) := by decide +kernel
theorem dX3_typeOfLast_10 : decode cX3_typeOfLast 10 = .ok (.iconst 1, 1) := by decide +kernel
theorem dX3_typeOfLast_11 : decode cX3_typeOfLast 11 = .ok (.invokevirtual 99, 3) := by decide +kernel
theorem dX3_typeOfLast_14 : decode cX3_typeOfLast 14 = .ok (.aload_n 0, 1) := by decide +kernel
theorem dX3_typeOfLast_15 : decode cX3_typeOfLast 15 = .ok (.getfield 121, 3) := by decide +kernel
theorem dX3_typeOfLast_18 : decode cX3_typeOfLast 18 = .ok (.if_icmp .ne 7, 3) := by decide +kernel
theorem dX3_typeOfLast_21 : decode cX3_typeOfLast 21 = .ok (.iconst 1, 1) := by decide +kernel
theorem dX3_typeOfLast_22 : decode cX3_typeOfLast 22 = .ok (.goto 4, 3) := by decide +kernel
theorem dX3_typeOfLast_26 : decode cX3_typeOfLast 26 = .ok (.istore_n 2, 1) := by decide +kernel
theorem dX3_typeOfLast_27 : decode cX3_typeOfLast 27 = .ok (.iload_n 2, 1) := by decide +kernel
theorem dX3_typeOfLast_28 : decode cX3_typeOfLast 28 = .ok (.ifCond .eq 28, 3) := by decide +kernel
theorem dX3_typeOfLast_56 : decode cX3_typeOfLast 56 = .ok (.aconst_null, 1) := by decide +kernel
theorem dX3_typeOfLast_57 : decode cX3_typeOfLast 57 = .ok (.areturn, 1) := by decide +kernel
theorem dX3_typeOfLast_31 : decode cX3_typeOfLast 31 = .ok (.aload_n 1, 1) := by decide +kernel
theorem dX3_typeOfLast_32 : decode cX3_typeOfLast 32 = .ok (.aload_n 0, 1) := by decide +kernel
theorem dX3_typeOfLast_33 : decode cX3_typeOfLast 33 = .ok (.iconst 2, 1) := by decide +kernel
theorem dX3_typeOfLast_34 : decode cX3_typeOfLast 34 = .ok (.iconst 0, 1) := by decide +kernel
theorem dX3_typeOfLast_35 : decode cX3_typeOfLast 35 = .ok (.invokevirtual 160, 3) := by decide +kernel
theorem dX3_typeOfLast_38 : decode cX3_typeOfLast 38 = .ok (.ifCond .eq 18, 3) := by decide +kernel
theorem dX3_typeOfLast_41 : decode cX3_typeOfLast 41 = .ok (.aload_n 1, 1) := by decide +kernel
theorem dX3_typeOfLast_42 : decode cX3_typeOfLast 42 = .ok (.getfield 121, 3) := by decide +kernel
theorem dX3_typeOfLast_45 : decode cX3_typeOfLast 45 = .ok (.aload_n 0, 1) := by decide +kernel
theorem dX3_typeOfLast_46 : decode cX3_typeOfLast 46 = .ok (.getfield 121, 3) := by decide +kernel
theorem dX3_typeOfLast_49 : decode cX3_typeOfLast 49 = .ok (.if_icmp .ne 7, 3) := by decide +kernel
theorem dX3_typeOfLast_52 : decode cX3_typeOfLast 52 = .ok (.aload_n 0, 1) := by decide +kernel
theorem dX3_typeOfLast_53 : decode cX3_typeOfLast 53 = .ok (.goto 4, 3) := by decide +kernel
theorem hy_X3_typeOfLast : yX3_typeOfLast.cls ≠ "java/lang/invoke/MethodHandle" ∧ yX3_typeOfLast.cls ≠ "java/lang/invoke/VarHandle" ∧ (parseMethodDescriptor yX3_typeOfLast.desc).map (fun d => d.parameters.length) = some 2 := ⟨by decide, by decide, by decide +kernel⟩
def f_X3_typeOfLast_b26 (l0 : Nat) (l1 : Nat) (t0 : Int32) (S : wS) : Option ((Option Nat) × wS) :=
  if t0 = 0 then (
  some (none, S)) else (
  o_ck (s_K S l1 = 8) (o_call (f_X9_isFirstOf l1 l0 2 0 S) fun x1 S1 =>
  if x1 = 0 then (
  some (none, S1)) else (
  o_gI 8 12 l1 S1 fun x2 =>
  o_gI 8 12 l0 S1 fun x3 =>
  if x2 = x3 then (
  some ((some l0), S1)) else (
  some (none, S1)))))
set_option maxHeartbeats 4000000 in
set_option maxRecDepth 100000 in
theorem w_X3_typeOfLast_b26 {l : Launch} {D : va_G} {Y : Nat → ClassId} {aR : Nat → Nat} {A : Nat → Prop} {p : Program} {e : Env} {s : State} {m : MethodId} {args : Array Value} {below : List Frame} {meth : Method} {c : Code} {S0 : wS} : ∀ (l0 : Nat) (l1 : Nat) (t0 : Int32) (S S' : wS) (r : Option Nat) (H : Heap) (locs : List Loc) (ls : Array Slot), jq_X D Y aR A p s m args meth c cX3_typeOfLast RX3 "typeOfLast" 3 (some (.object "ScoreHandles$Type")) → wJ D Y A s S0 S H locs → f_X3_typeOfLast_b26 l0 l1 t0 S = some (r, S') → lv_has ls 3 [(0, .ref l0), (1, .ref l1)] → W p l e { frames := 2, cells := s_lm S0 - s_nx S0, slots := s_sm S0 - s_sl S0, locals := 46 } s m args below meth c H locs (s_nx S - s_nx S0) (s_sl S - s_sl S0) (jq_Z below A (fun v k n H => v = (some (va_rf r)) ∧ k = s_nx S' - s_nx S0 ∧ n = s_sl S' - s_sl S0 ∧ wG S0 S' ∧ wH D Y A S' H) s) (F0 m 26 ls [.int t0]) := by
  intro l0 l1 t0 S S' r H locs ls hX hJ hf hl
  unfold f_X3_typeOfLast_b26 at hf
  have hx := hX.1
  have hb := hX.2.1
  have hm := hX.2.2.1
  have ho := hX.2.2.2.1
  have ht := hX.2.2.2.2.1
  have hn := hX.2.2.2.2.2.1.2.1
  refine lv_istore_n (lv' := [(2, .int t0), (0, .ref l0), (1, .ref l1)]) hx hb dX3_typeOfLast_26 rfl hl (by decide) rfl (fun ls hl' => ?_)
  clear hl
  have hl := hl'
  clear hl'
  refine lv_iload_n hx hb dX3_typeOfLast_27 rfl (lv_at hl 0 rfl) ?_
  refine lv_if_eq (tgt := 56) hx hb dX3_typeOfLast_28 (by decide) (fun c1 => ?_) (fun c1 => ?_)
  · replace hf := o_t hf c1
    refine lv_null hx hb dX3_typeOfLast_56 ?_
    cases hf
    exact jq_aret (r := none) hX hJ.2.2 dX3_typeOfLast_57 ⟨rfl, rfl, rfl, hJ.1, hJ.2.1⟩
  · replace hf := o_f hf c1
    refine lv_aload_n hx hb dX3_typeOfLast_31 rfl (lv_at hl 2 rfl) ?_
    refine lv_aload_n hx hb dX3_typeOfLast_32 rfl (lv_at hl 1 rfl) ?_
    refine lv_iconst (v := 2) hx hb dX3_typeOfLast_33 (by decide) ?_
    refine lv_iconst (v := 0) hx hb dX3_typeOfLast_34 (by decide) ?_
    replace hf := o_ck_e hf
    obtain ⟨hk1, hf⟩ := hf
    replace hf := o_call_e hf
    obtain ⟨x1, S1, hq1, hf⟩ := hf
    refine jq_doS hX hJ (jq_okVN (As := [.ref l0, .int 2, .int 0]) (rest := []) hx hb hm ho ht hn (wJ.recv hX hJ (by rw [hk1]; decide) (wE_X9 hk1) rfl) qn412 qw414 qs28 qw415 qw6 hy_X9_isFirstOf rfl hl.1 (Nat.le_of_ble_eq_true rfl) dX3_typeOfLast_35) (c_X9_isFirstOf hq1) (Nat.le_of_ble_eq_true rfl) (Nat.le_of_ble_eq_true rfl) (fun H locs hJ' => ?_)
    clear hJ
    have hJ := hJ'
    clear hJ'
    refine lv_if_eq (tgt := 56) hx hb dX3_typeOfLast_38 (by decide) (fun c2 => ?_) (fun c2 => ?_)
    · replace hf := o_t hf c2
      refine lv_null hx hb dX3_typeOfLast_56 ?_
      cases hf
      exact jq_aret (r := none) hX hJ.2.2 dX3_typeOfLast_57 ⟨rfl, rfl, rfl, hJ.1, hJ.2.1⟩
    · replace hf := o_f hf c2
      refine lv_aload_n hx hb dX3_typeOfLast_41 rfl (lv_at hl 2 rfl) ?_
      replace hf := o_gI_e hf
      obtain ⟨hk2, x2, hx2, hf⟩ := hf
      refine gn_X9_result hX hJ hk2 hx2 qn111 dX3_typeOfLast_42 ?_
      refine lv_aload_n hx hb dX3_typeOfLast_45 rfl (lv_at hl 1 rfl) ?_
      replace hf := o_gI_e hf
      obtain ⟨hk3, x3, hx3, hf⟩ := hf
      refine gn_X9_result hX hJ hk3 hx3 qn111 dX3_typeOfLast_46 ?_
      refine lv_icmp_ne (tgt := 56) hx hb dX3_typeOfLast_49 (by decide) (fun c3 => ?_) (fun c3 => ?_)
      · replace hf := o_f hf c3
        refine lv_null hx hb dX3_typeOfLast_56 ?_
        cases hf
        exact jq_aret (r := none) hX hJ.2.2 dX3_typeOfLast_57 ⟨rfl, rfl, rfl, hJ.1, hJ.2.1⟩
      · replace hf := o_t hf c3
        refine lv_aload_n hx hb dX3_typeOfLast_52 rfl (lv_at hl 1 rfl) ?_
        refine lv_goto (tgt := 57) hx hb dX3_typeOfLast_53 (by decide) ?_
        cases hf
        exact jq_aret (r := (some l0)) hX hJ.2.2 dX3_typeOfLast_57 ⟨rfl, rfl, rfl, hJ.1, hJ.2.1⟩
def f_X3_typeOfLast (p1 : Nat) (p2 : Nat) (S : wS) : Option ((Option Nat) × wS) :=
  o_ck (s_K S p2 = 8) (o_call (f_X9_kind p2 0 S) fun x1 S1 =>
  if x1 = 4 then (
  o_ck (s_K S1 p2 = 8) (o_call (f_X9_kind p2 1 S1) fun x2 S2 =>
  o_gI 8 12 p1 S2 fun x3 =>
  if x2 = x3 then (
  f_X3_typeOfLast_b26 p1 p2 1 S2) else (
  f_X3_typeOfLast_b26 p1 p2 0 S2))) else (
  f_X3_typeOfLast_b26 p1 p2 0 S1))
set_option maxHeartbeats 4000000 in
set_option maxRecDepth 100000 in
theorem c_X3_typeOfLast {l : Launch} {D : va_G} {Y : Nat → ClassId} {aR : Nat → Nat} {A : Nat → Prop} {p1 : Nat} {p2 : Nat} {S S' : wS} {r : Option Nat} (hf : f_X3_typeOfLast p1 p2 S = some (r, S')) : jq_S l D Y aR A yX3_typeOfLast cX3_typeOfLast 3 (some (.object "ScoreHandles$Type")) 2 46 [.ref p1, .ref p2] S (some (va_rf r)) S' := by
  unfold f_X3_typeOfLast at hf
  refine jq_enterS (by decide) (Nat.le_of_ble_eq_true rfl) fun p e s m args below meth c ls H locs hX hJ hl => ?_
  have hl : lv_has ls 3 [(0, .ref p1), (1, .ref p2)] := hl
  have hx := hX.1
  have hb := hX.2.1
  have hm := hX.2.2.1
  have ho := hX.2.2.2.1
  have ht := hX.2.2.2.2.1
  have hn := hX.2.2.2.2.2.1.2.1
  refine lv_aload_n hx hb dX3_typeOfLast_0 rfl (lv_at hl 1 rfl) ?_
  refine lv_iconst (v := 0) hx hb dX3_typeOfLast_1 (by decide) ?_
  replace hf := o_ck_e hf
  obtain ⟨hk1, hf⟩ := hf
  replace hf := o_call_e hf
  obtain ⟨x1, S1, hq1, hf⟩ := hf
  refine jq_doS hX hJ (jq_okVN (As := [.int 0]) (rest := []) hx hb hm ho ht hn (wJ.recv hX hJ (by rw [hk1]; decide) (wE_X9 hk1) rfl) qn349 qw351 qs19 qw352 qw6 hy_X9_kind rfl hl.1 (Nat.le_of_ble_eq_true rfl) dX3_typeOfLast_2) (c_X9_kind hq1) (Nat.le_of_ble_eq_true rfl) (Nat.le_of_ble_eq_true rfl) (fun H locs hJ' => ?_)
  clear hJ
  have hJ := hJ'
  clear hJ'
  refine lv_iconst (v := 4) hx hb dX3_typeOfLast_5 (by decide) ?_
  refine lv_icmp_ne (tgt := 25) hx hb dX3_typeOfLast_6 (by decide) (fun c1 => ?_) (fun c1 => ?_)
  · replace hf := o_f hf c1
    refine lv_iconst (v := 0) hx hb dX3_typeOfLast_25 (by decide) ?_
    replace hl := lv_sub hl (l' := [(0, .ref p1), (1, .ref p2)]) [0, 1] rfl
    exact w_X3_typeOfLast_b26 p1 p2 0 S1 S' r H locs ls hX hJ hf hl
  · replace hf := o_t hf c1
    refine lv_aload_n hx hb dX3_typeOfLast_9 rfl (lv_at hl 1 rfl) ?_
    refine lv_iconst (v := 1) hx hb dX3_typeOfLast_10 (by decide) ?_
    replace hf := o_ck_e hf
    obtain ⟨hk2, hf⟩ := hf
    replace hf := o_call_e hf
    obtain ⟨x2, S2, hq2, hf⟩ := hf
    refine jq_doS hX hJ (jq_okVN (As := [.int 1]) (rest := []) hx hb hm ho ht hn (wJ.recv hX hJ (by rw [hk2]; decide) (wE_X9 hk2) rfl) qn349 qw351 qs19 qw352 qw6 hy_X9_kind rfl hl.1 (Nat.le_of_ble_eq_true rfl) dX3_typeOfLast_11) (c_X9_kind hq2) (Nat.le_of_ble_eq_true rfl) (Nat.le_of_ble_eq_true rfl) (fun H locs hJ' => ?_)
    clear hJ
    have hJ := hJ'
    clear hJ'
    refine lv_aload_n hx hb dX3_typeOfLast_14 rfl (lv_at hl 0 rfl) ?_
    replace hf := o_gI_e hf
    obtain ⟨hk3, x3, hx3, hf⟩ := hf
    refine gn_X9_result hX hJ hk3 hx3 qn111 dX3_typeOfLast_15 ?_
    refine lv_icmp_ne (tgt := 25) hx hb dX3_typeOfLast_18 (by decide) (fun c2 => ?_) (fun c2 => ?_)
    · replace hf := o_f hf c2
      refine lv_iconst (v := 0) hx hb dX3_typeOfLast_25 (by decide) ?_
      replace hl := lv_sub hl (l' := [(0, .ref p1), (1, .ref p2)]) [0, 1] rfl
      exact w_X3_typeOfLast_b26 p1 p2 0 S2 S' r H locs ls hX hJ hf hl
    · replace hf := o_t hf c2
      refine lv_iconst (v := 1) hx hb dX3_typeOfLast_21 (by decide) ?_
      refine lv_goto (tgt := 26) hx hb dX3_typeOfLast_22 (by decide) ?_
      replace hl := lv_sub hl (l' := [(0, .ref p1), (1, .ref p2)]) [0, 1] rfl
      exact w_X3_typeOfLast_b26 p1 p2 1 S2 S' r H locs ls hX hJ hf hl
theorem dX3_typeOfSome_0 : decode cX3_typeOfSome 0 = .ok (.aload_n 0, 1) := by decide +kernel
theorem dX3_typeOfSome_1 : decode cX3_typeOfSome 1 = .ok (.getfield 9, 3) := by decide +kernel
theorem dX3_typeOfSome_4 : decode cX3_typeOfSome 4 = .ok (.aload_n 1, 1) := by decide +kernel
theorem dX3_typeOfSome_5 : decode cX3_typeOfSome 5 = .ok (.getfield 75, 3) := by decide +kernel
theorem dX3_typeOfSome_8 : decode cX3_typeOfSome 8 = .ok (.invokevirtual 90, 3) := by decide +kernel
theorem dX3_typeOfSome_11 : decode cX3_typeOfSome 11 = .ok (.astore_n 3, 1) := by decide +kernel
theorem dX3_typeOfSome_12 : decode cX3_typeOfSome 12 = .ok (.aload_n 0, 1) := by decide +kernel
theorem dX3_typeOfSome_13 : decode cX3_typeOfSome 13 = .ok (.getfield 9, 3) := by decide +kernel
theorem dX3_typeOfSome_16 : decode cX3_typeOfSome 16 = .ok (.aload_n 1, 1) := by decide +kernel
theorem dX3_typeOfSome_17 : decode cX3_typeOfSome 17 = .ok (.getfield 85, 3) := by decide +kernel
theorem dX3_typeOfSome_20 : decode cX3_typeOfSome 20 = .ok (.invokevirtual 90, 3) := by decide +kernel
theorem dX3_typeOfSome_23 : decode cX3_typeOfSome 23 = .ok (.astore 4, 2) := by decide +kernel
theorem dX3_typeOfSome_25 : decode cX3_typeOfSome 25 = .ok (.aload_n 1, 1) := by decide +kernel
theorem dX3_typeOfSome_26 : decode cX3_typeOfSome 26 = .ok (.getfield 19, 3) := by decide +kernel
theorem dX3_typeOfSome_29 : decode cX3_typeOfSome 29 = .ok (.tableswitch 138 15 20 #[39, 59, 73, 87, 108, 124], 39) := by decide +kernel
theorem dX3_typeOfSome_68 : decode cX3_typeOfSome 68 = .ok (.aload 4, 2) := by decide +kernel
theorem dX3_typeOfSome_70 : decode cX3_typeOfSome 70 = .ok (.ifnonnull 7, 3) := by decide +kernel
theorem dX3_typeOfSome_77 : decode cX3_typeOfSome 77 = .ok (.aload_n 2, 1) := by decide +kernel
theorem dX3_typeOfSome_78 : decode cX3_typeOfSome 78 = .ok (.aload_n 1, 1) := by decide +kernel
theorem dX3_typeOfSome_79 : decode cX3_typeOfSome 79 = .ok (.getfield 75, 3) := by decide +kernel
theorem dX3_typeOfSome_82 : decode cX3_typeOfSome 82 = .ok (.aload 4, 2) := by decide +kernel
theorem dX3_typeOfSome_84 : decode cX3_typeOfSome 84 = .ok (.invokestatic 136, 3) := by decide +kernel
theorem dX3_typeOfSome_87 : decode cX3_typeOfSome 87 = .ok (.areturn, 1) := by decide +kernel
theorem dX3_typeOfSome_88 : decode cX3_typeOfSome 88 = .ok (.aload_n 3, 1) := by decide +kernel
theorem dX3_typeOfSome_89 : decode cX3_typeOfSome 89 = .ok (.ifnonnull 7, 3) := by decide +kernel
theorem dX3_typeOfSome_96 : decode cX3_typeOfSome 96 = .ok (.aload_n 2, 1) := by decide +kernel
theorem dX3_typeOfSome_97 : decode cX3_typeOfSome 97 = .ok (.aload_n 3, 1) := by decide +kernel
theorem dX3_typeOfSome_98 : decode cX3_typeOfSome 98 = .ok (.invokestatic 140, 3) := by decide +kernel
theorem dX3_typeOfSome_101 : decode cX3_typeOfSome 101 = .ok (.areturn, 1) := by decide +kernel
theorem dX3_typeOfSome_102 : decode cX3_typeOfSome 102 = .ok (.aload_n 3, 1) := by decide +kernel
theorem dX3_typeOfSome_103 : decode cX3_typeOfSome 103 = .ok (.ifnonnull 7, 3) := by decide +kernel
theorem dX3_typeOfSome_110 : decode cX3_typeOfSome 110 = .ok (.aload_n 2, 1) := by decide +kernel
theorem dX3_typeOfSome_111 : decode cX3_typeOfSome 111 = .ok (.aload_n 3, 1) := by decide +kernel
theorem dX3_typeOfSome_112 : decode cX3_typeOfSome 112 = .ok (.invokestatic 144, 3) := by decide +kernel
theorem dX3_typeOfSome_115 : decode cX3_typeOfSome 115 = .ok (.areturn, 1) := by decide +kernel
theorem dX3_typeOfSome_116 : decode cX3_typeOfSome 116 = .ok (.aload_n 3, 1) := by decide +kernel
theorem dX3_typeOfSome_117 : decode cX3_typeOfSome 117 = .ok (.ifnull 8, 3) := by decide +kernel
theorem dX3_typeOfSome_120 : decode cX3_typeOfSome 120 = .ok (.aload 4, 2) := by decide +kernel
theorem dX3_typeOfSome_122 : decode cX3_typeOfSome 122 = .ok (.ifnonnull 7, 3) := by decide +kernel
theorem dX3_typeOfSome_129 : decode cX3_typeOfSome 129 = .ok (.aload_n 2, 1) := by decide +kernel
theorem dX3_typeOfSome_130 : decode cX3_typeOfSome 130 = .ok (.aload_n 3, 1) := by decide +kernel
theorem dX3_typeOfSome_131 : decode cX3_typeOfSome 131 = .ok (.aload 4, 2) := by decide +kernel
theorem dX3_typeOfSome_133 : decode cX3_typeOfSome 133 = .ok (.invokestatic 147, 3) := by decide +kernel
theorem dX3_typeOfSome_136 : decode cX3_typeOfSome 136 = .ok (.areturn, 1) := by decide +kernel
theorem dX3_typeOfSome_137 : decode cX3_typeOfSome 137 = .ok (.aload 4, 2) := by decide +kernel
theorem dX3_typeOfSome_139 : decode cX3_typeOfSome 139 = .ok (.ifnonnull 7, 3) := by decide +kernel
theorem dX3_typeOfSome_146 : decode cX3_typeOfSome 146 = .ok (.aload_n 2, 1) := by decide +kernel
theorem dX3_typeOfSome_147 : decode cX3_typeOfSome 147 = .ok (.aload 4, 2) := by decide +kernel
theorem dX3_typeOfSome_149 : decode cX3_typeOfSome 149 = .ok (.invokestatic 151, 3) := by decide +kernel
theorem dX3_typeOfSome_152 : decode cX3_typeOfSome 152 = .ok (.areturn, 1) := by decide +kernel
theorem dX3_typeOfSome_153 : decode cX3_typeOfSome 153 = .ok (.aload_n 3, 1) := by decide +kernel
theorem dX3_typeOfSome_154 : decode cX3_typeOfSome 154 = .ok (.ifnonnull 7, 3) := by decide +kernel
theorem dX3_typeOfSome_161 : decode cX3_typeOfSome 161 = .ok (.aload_n 2, 1) := by decide +kernel
theorem dX3_typeOfSome_162 : decode cX3_typeOfSome 162 = .ok (.aload_n 3, 1) := by decide +kernel
theorem dX3_typeOfSome_163 : decode cX3_typeOfSome 163 = .ok (.invokestatic 154, 3) := by decide +kernel
theorem dX3_typeOfSome_166 : decode cX3_typeOfSome 166 = .ok (.areturn, 1) := by decide +kernel
theorem dX3_typeOfSome_167 : decode cX3_typeOfSome 167 = .ok (.aconst_null, 1) := by decide +kernel
theorem dX3_typeOfSome_168 : decode cX3_typeOfSome 168 = .ok (.areturn, 1) := by decide +kernel
theorem dX3_typeOfSome_73 : decode cX3_typeOfSome 73 = .ok (.aconst_null, 1) := by decide +kernel
theorem dX3_typeOfSome_74 : decode cX3_typeOfSome 74 = .ok (.goto 13, 3) := by decide +kernel
theorem dX3_typeOfSome_125 : decode cX3_typeOfSome 125 = .ok (.aconst_null, 1) := by decide +kernel
theorem dX3_typeOfSome_126 : decode cX3_typeOfSome 126 = .ok (.goto 10, 3) := by decide +kernel
theorem dX3_typeOfSome_142 : decode cX3_typeOfSome 142 = .ok (.aconst_null, 1) := by decide +kernel
theorem dX3_typeOfSome_143 : decode cX3_typeOfSome 143 = .ok (.goto 9, 3) := by decide +kernel
theorem dX3_typeOfSome_92 : decode cX3_typeOfSome 92 = .ok (.aconst_null, 1) := by decide +kernel
theorem dX3_typeOfSome_93 : decode cX3_typeOfSome 93 = .ok (.goto 8, 3) := by decide +kernel
theorem dX3_typeOfSome_106 : decode cX3_typeOfSome 106 = .ok (.aconst_null, 1) := by decide +kernel
theorem dX3_typeOfSome_107 : decode cX3_typeOfSome 107 = .ok (.goto 8, 3) := by decide +kernel
theorem dX3_typeOfSome_157 : decode cX3_typeOfSome 157 = .ok (.aconst_null, 1) := by decide +kernel
theorem dX3_typeOfSome_158 : decode cX3_typeOfSome 158 = .ok (.goto 8, 3) := by decide +kernel
theorem hy_X3_typeOfSome : yX3_typeOfSome.cls ≠ "java/lang/invoke/MethodHandle" ∧ yX3_typeOfSome.cls ≠ "java/lang/invoke/VarHandle" ∧ (parseMethodDescriptor yX3_typeOfSome.desc).map (fun d => d.parameters.length) = some 2 := ⟨by decide, by decide, by decide +kernel⟩
def f_X3_typeOfSome (o : Nat) (p1 : Nat) (p2 : Nat) (S : wS) : Option ((Option Nat) × wS) :=
  o_gR 3 2 o S fun x1 =>
  o_gI 1 2 p1 S fun x2 =>
  o_cs x1 (none) (fun a1 =>
  o_ck (s_K S a1 = 2) (o_call (f_X1_typeAt a1 x2 S) fun x3 S1 =>
  o_cs x3 (o_gR 3 2 o S1 fun x19 =>
  o_gI 1 3 p1 S1 fun x20 =>
  o_cs x19 (none) (fun a5 =>
  o_ck (s_K S1 a5 = 2) (o_call (f_X1_typeAt a5 x20 S1) fun x21 S12 =>
  o_cs x21 (o_gI 1 0 p1 S12 fun x26 =>
  if x26 = 15 then (
  some (none, S12)) else (
  if x26 = 16 then (
  some (none, S12)) else (
  if x26 = 17 then (
  some (none, S12)) else (
  if x26 = 18 then (
  some (none, S12)) else (
  if x26 = 19 then (
  some (none, S12)) else (
  if x26 = 20 then (
  some (none, S12)) else (
  some (none, S12)))))))) (fun a6 =>
  o_gI 1 0 p1 S12 fun x22 =>
  if x22 = 15 then (
  o_gI 1 2 p1 S12 fun x23 =>
  o_call (f_X3_typeOfFilter p2 x23 a6 S12) fun x24 S13 =>
  some (x24, S13)) else (
  if x22 = 16 then (
  some (none, S12)) else (
  if x22 = 17 then (
  some (none, S12)) else (
  if x22 = 18 then (
  some (none, S12)) else (
  if x22 = 19 then (
  o_call (f_X3_typeOfCatch p2 a6 S12) fun x25 S14 =>
  some (x25, S14)) else (
  if x22 = 20 then (
  some (none, S12)) else (
  some (none, S12))))))))))) (fun a2 =>
  o_gR 3 2 o S1 fun x4 =>
  o_gI 1 3 p1 S1 fun x5 =>
  o_cs x4 (none) (fun a3 =>
  o_ck (s_K S1 a3 = 2) (o_call (f_X1_typeAt a3 x5 S1) fun x6 S2 =>
  o_cs x6 (o_gI 1 0 p1 S2 fun x15 =>
  if x15 = 15 then (
  some (none, S2)) else (
  if x15 = 16 then (
  o_call (f_X3_typeOfFold p2 a2 S2) fun x16 S9 =>
  some (x16, S9)) else (
  if x15 = 17 then (
  o_call (f_X3_typeOfThen p2 a2 S2) fun x17 S10 =>
  some (x17, S10)) else (
  if x15 = 18 then (
  some (none, S2)) else (
  if x15 = 19 then (
  some (none, S2)) else (
  if x15 = 20 then (
  o_call (f_X3_typeOfLast p2 a2 S2) fun x18 S11 =>
  some (x18, S11)) else (
  some (none, S2)))))))) (fun a4 =>
  o_gI 1 0 p1 S2 fun x7 =>
  if x7 = 15 then (
  o_gI 1 2 p1 S2 fun x8 =>
  o_call (f_X3_typeOfFilter p2 x8 a4 S2) fun x9 S3 =>
  some (x9, S3)) else (
  if x7 = 16 then (
  o_call (f_X3_typeOfFold p2 a2 S2) fun x10 S4 =>
  some (x10, S4)) else (
  if x7 = 17 then (
  o_call (f_X3_typeOfThen p2 a2 S2) fun x11 S5 =>
  some (x11, S5)) else (
  if x7 = 18 then (
  o_call (f_X3_typeOfGuard p2 a2 a4 S2) fun x12 S6 =>
  some (x12, S6)) else (
  if x7 = 19 then (
  o_call (f_X3_typeOfCatch p2 a4 S2) fun x13 S7 =>
  some (x13, S7)) else (
  if x7 = 20 then (
  o_call (f_X3_typeOfLast p2 a2 S2) fun x14 S8 =>
  some (x14, S8)) else (
  some (none, S2)))))))))))))
set_option maxHeartbeats 4000000 in
set_option maxRecDepth 100000 in
theorem c_X3_typeOfSome {l : Launch} {D : va_G} {Y : Nat → ClassId} {aR : Nat → Nat} {A : Nat → Prop} {o : Nat} {p1 : Nat} {p2 : Nat} {S S' : wS} {r : Option Nat} (hf : f_X3_typeOfSome o p1 p2 S = some (r, S')) : jq_S l D Y aR A yX3_typeOfSome cX3_typeOfSome 5 (some (.object "ScoreHandles$Type")) 4 90 [.ref o, .ref p1, .ref p2] S (some (va_rf r)) S' := by
  unfold f_X3_typeOfSome at hf
  refine jq_enterS (by decide) (Nat.le_of_ble_eq_true rfl) fun p e s m args below meth c ls H locs hX hJ hl => ?_
  have hl : lv_has ls 5 [(0, .ref o), (1, .ref p1), (2, .ref p2)] := hl
  have hx := hX.1
  have hb := hX.2.1
  have hm := hX.2.2.1
  have ho := hX.2.2.2.1
  have ht := hX.2.2.2.2.1
  have hn := hX.2.2.2.2.2.1.2.1
  refine lv_aload_n hx hb dX3_typeOfSome_0 rfl (lv_at hl 0 rfl) ?_
  replace hf := o_gR_e hf
  obtain ⟨hk1, x1, hx1, hf⟩ := hf
  refine gf_X3_handles hX hJ hk1 hx1 qw63 dX3_typeOfSome_1 ?_
  refine lv_aload_n hx hb dX3_typeOfSome_4 rfl (lv_at hl 1 rfl) ?_
  replace hf := o_gI_e hf
  obtain ⟨hk2, x2, hx2, hf⟩ := hf
  refine gn_X0_b hX hJ hk2 hx2 qn277 dX3_typeOfSome_5 ?_
  replace hf := o_cs_e hf
  rcases hf with ⟨hr1, hf⟩ | ⟨a1, hr1, hf⟩
  · subst hr1
    cases hf
  · subst hr1
    replace hf := o_ck_e hf
    obtain ⟨hk3, hf⟩ := hf
    replace hf := o_call_e hf
    obtain ⟨x3, S1, hq1, hf⟩ := hf
    refine jq_doS hX hJ (jq_okVN (As := [.int x2]) (rest := []) hx hb hm ho ht hn (wJ.recv hX hJ (by rw [hk3]; decide) (wE_X1 hk3) rfl) qn333 qw335 qs16 qw336 qw3 hy_X1_typeAt rfl hl.1 (Nat.le_of_ble_eq_true rfl) dX3_typeOfSome_8) (c_X1_typeAt hq1) (Nat.le_of_ble_eq_true rfl) (Nat.le_of_ble_eq_true rfl) (fun H locs hJ' => ?_)
    clear hJ
    have hJ := hJ'
    clear hJ'
    replace hf := o_cs_e hf
    rcases hf with ⟨hr2, hf⟩ | ⟨a2, hr2, hf⟩
    · subst hr2
      refine lv_astore_nN (lv' := [(3, .null), (0, .ref o), (1, .ref p1), (2, .ref p2)]) hx hb dX3_typeOfSome_11 rfl hl (by decide) rfl (fun ls hl' => ?_)
      clear hl
      have hl := hl'
      clear hl'
      refine lv_aload_n hx hb dX3_typeOfSome_12 rfl (lv_at hl 1 rfl) ?_
      replace hf := o_gR_e hf
      obtain ⟨hk10, x19, hx19, hf⟩ := hf
      refine gf_X3_handles hX hJ hk10 hx19 qw63 dX3_typeOfSome_13 ?_
      refine lv_aload_n hx hb dX3_typeOfSome_16 rfl (lv_at hl 2 rfl) ?_
      replace hf := o_gI_e hf
      obtain ⟨hk11, x20, hx20, hf⟩ := hf
      refine gn_X0_c hX hJ hk11 hx20 qn280 dX3_typeOfSome_17 ?_
      replace hf := o_cs_e hf
      rcases hf with ⟨hr5, hf⟩ | ⟨a5, hr5, hf⟩
      · subst hr5
        cases hf
      · subst hr5
        replace hf := o_ck_e hf
        obtain ⟨hk12, hf⟩ := hf
        replace hf := o_call_e hf
        obtain ⟨x21, S12, hq12, hf⟩ := hf
        refine jq_doS hX hJ (jq_okVN (As := [.int x20]) (rest := []) hx hb hm ho ht hn (wJ.recv hX hJ (by rw [hk12]; decide) (wE_X1 hk12) rfl) qn333 qw335 qs16 qw336 qw3 hy_X1_typeAt rfl hl.1 (Nat.le_of_ble_eq_true rfl) dX3_typeOfSome_20) (c_X1_typeAt hq12) (Nat.le_of_ble_eq_true rfl) (Nat.le_of_ble_eq_true rfl) (fun H locs hJ' => ?_)
        clear hJ
        have hJ := hJ'
        clear hJ'
        replace hf := o_cs_e hf
        rcases hf with ⟨hr6, hf⟩ | ⟨a6, hr6, hf⟩
        · subst hr6
          refine lv_astoreN (lv' := [(4, .null), (3, .null), (0, .ref o), (1, .ref p1), (2, .ref p2)]) hx hb dX3_typeOfSome_23 hl (by decide) rfl (fun ls hl' => ?_)
          clear hl
          have hl := hl'
          clear hl'
          refine lv_aload_n hx hb dX3_typeOfSome_25 rfl (lv_at hl 3 rfl) ?_
          replace hf := o_gI_e hf
          obtain ⟨hk15, x26, hx26, hf⟩ := hf
          refine gn_X0_sort hX hJ hk15 hx26 qn270 dX3_typeOfSome_26 ?_
          by_cases c19 : x26 = 15
          · replace hf := o_t hf c19
            refine lv_tableIn (off := 39) (tgt := 68) hx hb dX3_typeOfSome_29 (by rcases c19 with rfl <;> decide) (by rcases c19 with rfl <;> decide) (by rcases c19 with rfl <;> rfl) (by decide) ?_
            refine lv_aloadN hx hb dX3_typeOfSome_68 (lv_at hl 0 rfl) ?_
            refine lv_ifnonnullN hx hb dX3_typeOfSome_70 ?_
            refine lv_null hx hb dX3_typeOfSome_73 ?_
            refine lv_goto (tgt := 87) hx hb dX3_typeOfSome_74 (by decide) ?_
            cases hf
            exact jq_aret (r := none) hX hJ.2.2 dX3_typeOfSome_87 ⟨rfl, rfl, rfl, hJ.1, hJ.2.1⟩
          replace hf := o_f hf c19
          by_cases c20 : x26 = 16
          · replace hf := o_t hf c20
            refine lv_tableIn (off := 59) (tgt := 88) hx hb dX3_typeOfSome_29 (by rcases c20 with rfl <;> decide) (by rcases c20 with rfl <;> decide) (by rcases c20 with rfl <;> rfl) (by decide) ?_
            refine lv_aload_nN hx hb dX3_typeOfSome_88 rfl (lv_at hl 1 rfl) ?_
            refine lv_ifnonnullN hx hb dX3_typeOfSome_89 ?_
            refine lv_null hx hb dX3_typeOfSome_92 ?_
            refine lv_goto (tgt := 101) hx hb dX3_typeOfSome_93 (by decide) ?_
            cases hf
            exact jq_aret (r := none) hX hJ.2.2 dX3_typeOfSome_101 ⟨rfl, rfl, rfl, hJ.1, hJ.2.1⟩
          replace hf := o_f hf c20
          by_cases c21 : x26 = 17
          · replace hf := o_t hf c21
            refine lv_tableIn (off := 73) (tgt := 102) hx hb dX3_typeOfSome_29 (by rcases c21 with rfl <;> decide) (by rcases c21 with rfl <;> decide) (by rcases c21 with rfl <;> rfl) (by decide) ?_
            refine lv_aload_nN hx hb dX3_typeOfSome_102 rfl (lv_at hl 1 rfl) ?_
            refine lv_ifnonnullN hx hb dX3_typeOfSome_103 ?_
            refine lv_null hx hb dX3_typeOfSome_106 ?_
            refine lv_goto (tgt := 115) hx hb dX3_typeOfSome_107 (by decide) ?_
            cases hf
            exact jq_aret (r := none) hX hJ.2.2 dX3_typeOfSome_115 ⟨rfl, rfl, rfl, hJ.1, hJ.2.1⟩
          replace hf := o_f hf c21
          by_cases c22 : x26 = 18
          · replace hf := o_t hf c22
            refine lv_tableIn (off := 87) (tgt := 116) hx hb dX3_typeOfSome_29 (by rcases c22 with rfl <;> decide) (by rcases c22 with rfl <;> decide) (by rcases c22 with rfl <;> rfl) (by decide) ?_
            refine lv_aload_nN hx hb dX3_typeOfSome_116 rfl (lv_at hl 1 rfl) ?_
            refine lv_ifnullN (tgt := 125) hx hb dX3_typeOfSome_117 (by decide) ?_
            refine lv_null hx hb dX3_typeOfSome_125 ?_
            refine lv_goto (tgt := 136) hx hb dX3_typeOfSome_126 (by decide) ?_
            cases hf
            exact jq_aret (r := none) hX hJ.2.2 dX3_typeOfSome_136 ⟨rfl, rfl, rfl, hJ.1, hJ.2.1⟩
          replace hf := o_f hf c22
          by_cases c23 : x26 = 19
          · replace hf := o_t hf c23
            refine lv_tableIn (off := 108) (tgt := 137) hx hb dX3_typeOfSome_29 (by rcases c23 with rfl <;> decide) (by rcases c23 with rfl <;> decide) (by rcases c23 with rfl <;> rfl) (by decide) ?_
            refine lv_aloadN hx hb dX3_typeOfSome_137 (lv_at hl 0 rfl) ?_
            refine lv_ifnonnullN hx hb dX3_typeOfSome_139 ?_
            refine lv_null hx hb dX3_typeOfSome_142 ?_
            refine lv_goto (tgt := 152) hx hb dX3_typeOfSome_143 (by decide) ?_
            cases hf
            exact jq_aret (r := none) hX hJ.2.2 dX3_typeOfSome_152 ⟨rfl, rfl, rfl, hJ.1, hJ.2.1⟩
          replace hf := o_f hf c23
          by_cases c24 : x26 = 20
          · replace hf := o_t hf c24
            refine lv_tableIn (off := 124) (tgt := 153) hx hb dX3_typeOfSome_29 (by rcases c24 with rfl <;> decide) (by rcases c24 with rfl <;> decide) (by rcases c24 with rfl <;> rfl) (by decide) ?_
            refine lv_aload_nN hx hb dX3_typeOfSome_153 rfl (lv_at hl 1 rfl) ?_
            refine lv_ifnonnullN hx hb dX3_typeOfSome_154 ?_
            refine lv_null hx hb dX3_typeOfSome_157 ?_
            refine lv_goto (tgt := 166) hx hb dX3_typeOfSome_158 (by decide) ?_
            cases hf
            exact jq_aret (r := none) hX hJ.2.2 dX3_typeOfSome_166 ⟨rfl, rfl, rfl, hJ.1, hJ.2.1⟩
          replace hf := o_f hf c24
          refine lv_tableOut (tgt := 167) hx hb dX3_typeOfSome_29 (by have e0 := sw_ne c19 (n := 15) (by decide); have e1 := sw_ne c20 (n := 16) (by decide); have e2 := sw_ne c21 (n := 17) (by decide); have e3 := sw_ne c22 (n := 18) (by decide); have e4 := sw_ne c23 (n := 19) (by decide); have e5 := sw_ne c24 (n := 20) (by decide); omega) (by decide) ?_
          refine lv_null hx hb dX3_typeOfSome_167 ?_
          cases hf
          exact jq_aret (r := none) hX hJ.2.2 dX3_typeOfSome_168 ⟨rfl, rfl, rfl, hJ.1, hJ.2.1⟩
        · subst hr6
          refine lv_astore (lv' := [(4, .ref a6), (3, .null), (0, .ref o), (1, .ref p1), (2, .ref p2)]) hx hb dX3_typeOfSome_23 hl (by decide) rfl (fun ls hl' => ?_)
          clear hl
          have hl := hl'
          clear hl'
          refine lv_aload_n hx hb dX3_typeOfSome_25 rfl (lv_at hl 3 rfl) ?_
          replace hf := o_gI_e hf
          obtain ⟨hk13, x22, hx22, hf⟩ := hf
          refine gn_X0_sort hX hJ hk13 hx22 qn270 dX3_typeOfSome_26 ?_
          by_cases c13 : x22 = 15
          · replace hf := o_t hf c13
            refine lv_tableIn (off := 39) (tgt := 68) hx hb dX3_typeOfSome_29 (by rcases c13 with rfl <;> decide) (by rcases c13 with rfl <;> decide) (by rcases c13 with rfl <;> rfl) (by decide) ?_
            refine lv_aload hx hb dX3_typeOfSome_68 (lv_at hl 0 rfl) ?_
            refine lv_ifnonnull (tgt := 77) hx hb dX3_typeOfSome_70 (by decide) ?_
            refine lv_aload_n hx hb dX3_typeOfSome_77 rfl (lv_at hl 4 rfl) ?_
            refine lv_aload_n hx hb dX3_typeOfSome_78 rfl (lv_at hl 3 rfl) ?_
            replace hf := o_gI_e hf
            obtain ⟨hk14, x23, hx23, hf⟩ := hf
            refine gn_X0_b hX hJ hk14 hx23 qn277 dX3_typeOfSome_79 ?_
            refine lv_aload hx hb dX3_typeOfSome_82 (lv_at hl 0 rfl) ?_
            replace hf := o_call_e hf
            obtain ⟨x24, S13, hq13, hf⟩ := hf
            refine jq_doS hX hJ (jq_okS (As := [.ref p2, .int x23, .ref a6]) (rest := []) hx hb hm ho ht qw405 qw406 qw407 qw4 hy_X3_typeOfFilter rfl hl.1 (Nat.le_of_ble_eq_true rfl) dX3_typeOfSome_84) (c_X3_typeOfFilter hq13) (Nat.le_of_ble_eq_true rfl) (Nat.le_of_ble_eq_true rfl) (fun H locs hJ' => ?_)
            clear hJ
            have hJ := hJ'
            clear hJ'
            cases hf
            exact jq_aret hX hJ.2.2 dX3_typeOfSome_87 ⟨rfl, rfl, rfl, hJ.1, hJ.2.1⟩
          replace hf := o_f hf c13
          by_cases c14 : x22 = 16
          · replace hf := o_t hf c14
            refine lv_tableIn (off := 59) (tgt := 88) hx hb dX3_typeOfSome_29 (by rcases c14 with rfl <;> decide) (by rcases c14 with rfl <;> decide) (by rcases c14 with rfl <;> rfl) (by decide) ?_
            refine lv_aload_nN hx hb dX3_typeOfSome_88 rfl (lv_at hl 1 rfl) ?_
            refine lv_ifnonnullN hx hb dX3_typeOfSome_89 ?_
            refine lv_null hx hb dX3_typeOfSome_92 ?_
            refine lv_goto (tgt := 101) hx hb dX3_typeOfSome_93 (by decide) ?_
            cases hf
            exact jq_aret (r := none) hX hJ.2.2 dX3_typeOfSome_101 ⟨rfl, rfl, rfl, hJ.1, hJ.2.1⟩
          replace hf := o_f hf c14
          by_cases c15 : x22 = 17
          · replace hf := o_t hf c15
            refine lv_tableIn (off := 73) (tgt := 102) hx hb dX3_typeOfSome_29 (by rcases c15 with rfl <;> decide) (by rcases c15 with rfl <;> decide) (by rcases c15 with rfl <;> rfl) (by decide) ?_
            refine lv_aload_nN hx hb dX3_typeOfSome_102 rfl (lv_at hl 1 rfl) ?_
            refine lv_ifnonnullN hx hb dX3_typeOfSome_103 ?_
            refine lv_null hx hb dX3_typeOfSome_106 ?_
            refine lv_goto (tgt := 115) hx hb dX3_typeOfSome_107 (by decide) ?_
            cases hf
            exact jq_aret (r := none) hX hJ.2.2 dX3_typeOfSome_115 ⟨rfl, rfl, rfl, hJ.1, hJ.2.1⟩
          replace hf := o_f hf c15
          by_cases c16 : x22 = 18
          · replace hf := o_t hf c16
            refine lv_tableIn (off := 87) (tgt := 116) hx hb dX3_typeOfSome_29 (by rcases c16 with rfl <;> decide) (by rcases c16 with rfl <;> decide) (by rcases c16 with rfl <;> rfl) (by decide) ?_
            refine lv_aload_nN hx hb dX3_typeOfSome_116 rfl (lv_at hl 1 rfl) ?_
            refine lv_ifnullN (tgt := 125) hx hb dX3_typeOfSome_117 (by decide) ?_
            refine lv_null hx hb dX3_typeOfSome_125 ?_
            refine lv_goto (tgt := 136) hx hb dX3_typeOfSome_126 (by decide) ?_
            cases hf
            exact jq_aret (r := none) hX hJ.2.2 dX3_typeOfSome_136 ⟨rfl, rfl, rfl, hJ.1, hJ.2.1⟩
          replace hf := o_f hf c16
          by_cases c17 : x22 = 19
          · replace hf := o_t hf c17
            refine lv_tableIn (off := 108) (tgt := 137) hx hb dX3_typeOfSome_29 (by rcases c17 with rfl <;> decide) (by rcases c17 with rfl <;> decide) (by rcases c17 with rfl <;> rfl) (by decide) ?_
            refine lv_aload hx hb dX3_typeOfSome_137 (lv_at hl 0 rfl) ?_
            refine lv_ifnonnull (tgt := 146) hx hb dX3_typeOfSome_139 (by decide) ?_
            refine lv_aload_n hx hb dX3_typeOfSome_146 rfl (lv_at hl 4 rfl) ?_
            refine lv_aload hx hb dX3_typeOfSome_147 (lv_at hl 0 rfl) ?_
            replace hf := o_call_e hf
            obtain ⟨x25, S14, hq14, hf⟩ := hf
            refine jq_doS hX hJ (jq_okS (As := [.ref p2, .ref a6]) (rest := []) hx hb hm ho ht qw431 qw432 qw433 qw4 hy_X3_typeOfCatch rfl hl.1 (Nat.le_of_ble_eq_true rfl) dX3_typeOfSome_149) (c_X3_typeOfCatch hq14) (Nat.le_of_ble_eq_true rfl) (Nat.le_of_ble_eq_true rfl) (fun H locs hJ' => ?_)
            clear hJ
            have hJ := hJ'
            clear hJ'
            cases hf
            exact jq_aret hX hJ.2.2 dX3_typeOfSome_152 ⟨rfl, rfl, rfl, hJ.1, hJ.2.1⟩
          replace hf := o_f hf c17
          by_cases c18 : x22 = 20
          · replace hf := o_t hf c18
            refine lv_tableIn (off := 124) (tgt := 153) hx hb dX3_typeOfSome_29 (by rcases c18 with rfl <;> decide) (by rcases c18 with rfl <;> decide) (by rcases c18 with rfl <;> rfl) (by decide) ?_
            refine lv_aload_nN hx hb dX3_typeOfSome_153 rfl (lv_at hl 1 rfl) ?_
            refine lv_ifnonnullN hx hb dX3_typeOfSome_154 ?_
            refine lv_null hx hb dX3_typeOfSome_157 ?_
            refine lv_goto (tgt := 166) hx hb dX3_typeOfSome_158 (by decide) ?_
            cases hf
            exact jq_aret (r := none) hX hJ.2.2 dX3_typeOfSome_166 ⟨rfl, rfl, rfl, hJ.1, hJ.2.1⟩
          replace hf := o_f hf c18
          refine lv_tableOut (tgt := 167) hx hb dX3_typeOfSome_29 (by have e0 := sw_ne c13 (n := 15) (by decide); have e1 := sw_ne c14 (n := 16) (by decide); have e2 := sw_ne c15 (n := 17) (by decide); have e3 := sw_ne c16 (n := 18) (by decide); have e4 := sw_ne c17 (n := 19) (by decide); have e5 := sw_ne c18 (n := 20) (by decide); omega) (by decide) ?_
          refine lv_null hx hb dX3_typeOfSome_167 ?_
          cases hf
          exact jq_aret (r := none) hX hJ.2.2 dX3_typeOfSome_168 ⟨rfl, rfl, rfl, hJ.1, hJ.2.1⟩
    · subst hr2
      refine lv_astore_n (lv' := [(3, .ref a2), (0, .ref o), (1, .ref p1), (2, .ref p2)]) hx hb dX3_typeOfSome_11 rfl hl (by decide) rfl (fun ls hl' => ?_)
      clear hl
      have hl := hl'
      clear hl'
      refine lv_aload_n hx hb dX3_typeOfSome_12 rfl (lv_at hl 1 rfl) ?_
      replace hf := o_gR_e hf
      obtain ⟨hk4, x4, hx4, hf⟩ := hf
      refine gf_X3_handles hX hJ hk4 hx4 qw63 dX3_typeOfSome_13 ?_
      refine lv_aload_n hx hb dX3_typeOfSome_16 rfl (lv_at hl 2 rfl) ?_
      replace hf := o_gI_e hf
      obtain ⟨hk5, x5, hx5, hf⟩ := hf
      refine gn_X0_c hX hJ hk5 hx5 qn280 dX3_typeOfSome_17 ?_
      replace hf := o_cs_e hf
      rcases hf with ⟨hr3, hf⟩ | ⟨a3, hr3, hf⟩
      · subst hr3
        cases hf
      · subst hr3
        replace hf := o_ck_e hf
        obtain ⟨hk6, hf⟩ := hf
        replace hf := o_call_e hf
        obtain ⟨x6, S2, hq2, hf⟩ := hf
        refine jq_doS hX hJ (jq_okVN (As := [.int x5]) (rest := []) hx hb hm ho ht hn (wJ.recv hX hJ (by rw [hk6]; decide) (wE_X1 hk6) rfl) qn333 qw335 qs16 qw336 qw3 hy_X1_typeAt rfl hl.1 (Nat.le_of_ble_eq_true rfl) dX3_typeOfSome_20) (c_X1_typeAt hq2) (Nat.le_of_ble_eq_true rfl) (Nat.le_of_ble_eq_true rfl) (fun H locs hJ' => ?_)
        clear hJ
        have hJ := hJ'
        clear hJ'
        replace hf := o_cs_e hf
        rcases hf with ⟨hr4, hf⟩ | ⟨a4, hr4, hf⟩
        · subst hr4
          refine lv_astoreN (lv' := [(4, .null), (3, .ref a2), (0, .ref o), (1, .ref p1), (2, .ref p2)]) hx hb dX3_typeOfSome_23 hl (by decide) rfl (fun ls hl' => ?_)
          clear hl
          have hl := hl'
          clear hl'
          refine lv_aload_n hx hb dX3_typeOfSome_25 rfl (lv_at hl 3 rfl) ?_
          replace hf := o_gI_e hf
          obtain ⟨hk9, x15, hx15, hf⟩ := hf
          refine gn_X0_sort hX hJ hk9 hx15 qn270 dX3_typeOfSome_26 ?_
          by_cases c7 : x15 = 15
          · replace hf := o_t hf c7
            refine lv_tableIn (off := 39) (tgt := 68) hx hb dX3_typeOfSome_29 (by rcases c7 with rfl <;> decide) (by rcases c7 with rfl <;> decide) (by rcases c7 with rfl <;> rfl) (by decide) ?_
            refine lv_aloadN hx hb dX3_typeOfSome_68 (lv_at hl 0 rfl) ?_
            refine lv_ifnonnullN hx hb dX3_typeOfSome_70 ?_
            refine lv_null hx hb dX3_typeOfSome_73 ?_
            refine lv_goto (tgt := 87) hx hb dX3_typeOfSome_74 (by decide) ?_
            cases hf
            exact jq_aret (r := none) hX hJ.2.2 dX3_typeOfSome_87 ⟨rfl, rfl, rfl, hJ.1, hJ.2.1⟩
          replace hf := o_f hf c7
          by_cases c8 : x15 = 16
          · replace hf := o_t hf c8
            refine lv_tableIn (off := 59) (tgt := 88) hx hb dX3_typeOfSome_29 (by rcases c8 with rfl <;> decide) (by rcases c8 with rfl <;> decide) (by rcases c8 with rfl <;> rfl) (by decide) ?_
            refine lv_aload_n hx hb dX3_typeOfSome_88 rfl (lv_at hl 1 rfl) ?_
            refine lv_ifnonnull (tgt := 96) hx hb dX3_typeOfSome_89 (by decide) ?_
            refine lv_aload_n hx hb dX3_typeOfSome_96 rfl (lv_at hl 4 rfl) ?_
            refine lv_aload_n hx hb dX3_typeOfSome_97 rfl (lv_at hl 1 rfl) ?_
            replace hf := o_call_e hf
            obtain ⟨x16, S9, hq9, hf⟩ := hf
            refine jq_doS hX hJ (jq_okS (As := [.ref p2, .ref a2]) (rest := []) hx hb hm ho ht qw409 qw410 qw411 qw4 hy_X3_typeOfFold rfl hl.1 (Nat.le_of_ble_eq_true rfl) dX3_typeOfSome_98) (c_X3_typeOfFold hq9) (Nat.le_of_ble_eq_true rfl) (Nat.le_of_ble_eq_true rfl) (fun H locs hJ' => ?_)
            clear hJ
            have hJ := hJ'
            clear hJ'
            cases hf
            exact jq_aret hX hJ.2.2 dX3_typeOfSome_101 ⟨rfl, rfl, rfl, hJ.1, hJ.2.1⟩
          replace hf := o_f hf c8
          by_cases c9 : x15 = 17
          · replace hf := o_t hf c9
            refine lv_tableIn (off := 73) (tgt := 102) hx hb dX3_typeOfSome_29 (by rcases c9 with rfl <;> decide) (by rcases c9 with rfl <;> decide) (by rcases c9 with rfl <;> rfl) (by decide) ?_
            refine lv_aload_n hx hb dX3_typeOfSome_102 rfl (lv_at hl 1 rfl) ?_
            refine lv_ifnonnull (tgt := 110) hx hb dX3_typeOfSome_103 (by decide) ?_
            refine lv_aload_n hx hb dX3_typeOfSome_110 rfl (lv_at hl 4 rfl) ?_
            refine lv_aload_n hx hb dX3_typeOfSome_111 rfl (lv_at hl 1 rfl) ?_
            replace hf := o_call_e hf
            obtain ⟨x17, S10, hq10, hf⟩ := hf
            refine jq_doS hX hJ (jq_okS (As := [.ref p2, .ref a2]) (rest := []) hx hb hm ho ht qw416 qw417 qw418 qw4 hy_X3_typeOfThen rfl hl.1 (Nat.le_of_ble_eq_true rfl) dX3_typeOfSome_112) (c_X3_typeOfThen hq10) (Nat.le_of_ble_eq_true rfl) (Nat.le_of_ble_eq_true rfl) (fun H locs hJ' => ?_)
            clear hJ
            have hJ := hJ'
            clear hJ'
            cases hf
            exact jq_aret hX hJ.2.2 dX3_typeOfSome_115 ⟨rfl, rfl, rfl, hJ.1, hJ.2.1⟩
          replace hf := o_f hf c9
          by_cases c10 : x15 = 18
          · replace hf := o_t hf c10
            refine lv_tableIn (off := 87) (tgt := 116) hx hb dX3_typeOfSome_29 (by rcases c10 with rfl <;> decide) (by rcases c10 with rfl <;> decide) (by rcases c10 with rfl <;> rfl) (by decide) ?_
            refine lv_aload_n hx hb dX3_typeOfSome_116 rfl (lv_at hl 1 rfl) ?_
            refine lv_ifnull hx hb dX3_typeOfSome_117 ?_
            refine lv_aloadN hx hb dX3_typeOfSome_120 (lv_at hl 0 rfl) ?_
            refine lv_ifnonnullN hx hb dX3_typeOfSome_122 ?_
            refine lv_null hx hb dX3_typeOfSome_125 ?_
            refine lv_goto (tgt := 136) hx hb dX3_typeOfSome_126 (by decide) ?_
            cases hf
            exact jq_aret (r := none) hX hJ.2.2 dX3_typeOfSome_136 ⟨rfl, rfl, rfl, hJ.1, hJ.2.1⟩
          replace hf := o_f hf c10
          by_cases c11 : x15 = 19
          · replace hf := o_t hf c11
            refine lv_tableIn (off := 108) (tgt := 137) hx hb dX3_typeOfSome_29 (by rcases c11 with rfl <;> decide) (by rcases c11 with rfl <;> decide) (by rcases c11 with rfl <;> rfl) (by decide) ?_
            refine lv_aloadN hx hb dX3_typeOfSome_137 (lv_at hl 0 rfl) ?_
            refine lv_ifnonnullN hx hb dX3_typeOfSome_139 ?_
            refine lv_null hx hb dX3_typeOfSome_142 ?_
            refine lv_goto (tgt := 152) hx hb dX3_typeOfSome_143 (by decide) ?_
            cases hf
            exact jq_aret (r := none) hX hJ.2.2 dX3_typeOfSome_152 ⟨rfl, rfl, rfl, hJ.1, hJ.2.1⟩
          replace hf := o_f hf c11
          by_cases c12 : x15 = 20
          · replace hf := o_t hf c12
            refine lv_tableIn (off := 124) (tgt := 153) hx hb dX3_typeOfSome_29 (by rcases c12 with rfl <;> decide) (by rcases c12 with rfl <;> decide) (by rcases c12 with rfl <;> rfl) (by decide) ?_
            refine lv_aload_n hx hb dX3_typeOfSome_153 rfl (lv_at hl 1 rfl) ?_
            refine lv_ifnonnull (tgt := 161) hx hb dX3_typeOfSome_154 (by decide) ?_
            refine lv_aload_n hx hb dX3_typeOfSome_161 rfl (lv_at hl 4 rfl) ?_
            refine lv_aload_n hx hb dX3_typeOfSome_162 rfl (lv_at hl 1 rfl) ?_
            replace hf := o_call_e hf
            obtain ⟨x18, S11, hq11, hf⟩ := hf
            refine jq_doS hX hJ (jq_okS (As := [.ref p2, .ref a2]) (rest := []) hx hb hm ho ht qw434 qw435 qw436 qw4 hy_X3_typeOfLast rfl hl.1 (Nat.le_of_ble_eq_true rfl) dX3_typeOfSome_163) (c_X3_typeOfLast hq11) (Nat.le_of_ble_eq_true rfl) (Nat.le_of_ble_eq_true rfl) (fun H locs hJ' => ?_)
            clear hJ
            have hJ := hJ'
            clear hJ'
            cases hf
            exact jq_aret hX hJ.2.2 dX3_typeOfSome_166 ⟨rfl, rfl, rfl, hJ.1, hJ.2.1⟩
          replace hf := o_f hf c12
          refine lv_tableOut (tgt := 167) hx hb dX3_typeOfSome_29 (by have e0 := sw_ne c7 (n := 15) (by decide); have e1 := sw_ne c8 (n := 16) (by decide); have e2 := sw_ne c9 (n := 17) (by decide); have e3 := sw_ne c10 (n := 18) (by decide); have e4 := sw_ne c11 (n := 19) (by decide); have e5 := sw_ne c12 (n := 20) (by decide); omega) (by decide) ?_
          refine lv_null hx hb dX3_typeOfSome_167 ?_
          cases hf
          exact jq_aret (r := none) hX hJ.2.2 dX3_typeOfSome_168 ⟨rfl, rfl, rfl, hJ.1, hJ.2.1⟩
        · subst hr4
          refine lv_astore (lv' := [(4, .ref a4), (3, .ref a2), (0, .ref o), (1, .ref p1), (2, .ref p2)]) hx hb dX3_typeOfSome_23 hl (by decide) rfl (fun ls hl' => ?_)
          clear hl
          have hl := hl'
          clear hl'
          refine lv_aload_n hx hb dX3_typeOfSome_25 rfl (lv_at hl 3 rfl) ?_
          replace hf := o_gI_e hf
          obtain ⟨hk7, x7, hx7, hf⟩ := hf
          refine gn_X0_sort hX hJ hk7 hx7 qn270 dX3_typeOfSome_26 ?_
          by_cases c1 : x7 = 15
          · replace hf := o_t hf c1
            refine lv_tableIn (off := 39) (tgt := 68) hx hb dX3_typeOfSome_29 (by rcases c1 with rfl <;> decide) (by rcases c1 with rfl <;> decide) (by rcases c1 with rfl <;> rfl) (by decide) ?_
            refine lv_aload hx hb dX3_typeOfSome_68 (lv_at hl 0 rfl) ?_
            refine lv_ifnonnull (tgt := 77) hx hb dX3_typeOfSome_70 (by decide) ?_
            refine lv_aload_n hx hb dX3_typeOfSome_77 rfl (lv_at hl 4 rfl) ?_
            refine lv_aload_n hx hb dX3_typeOfSome_78 rfl (lv_at hl 3 rfl) ?_
            replace hf := o_gI_e hf
            obtain ⟨hk8, x8, hx8, hf⟩ := hf
            refine gn_X0_b hX hJ hk8 hx8 qn277 dX3_typeOfSome_79 ?_
            refine lv_aload hx hb dX3_typeOfSome_82 (lv_at hl 0 rfl) ?_
            replace hf := o_call_e hf
            obtain ⟨x9, S3, hq3, hf⟩ := hf
            refine jq_doS hX hJ (jq_okS (As := [.ref p2, .int x8, .ref a4]) (rest := []) hx hb hm ho ht qw405 qw406 qw407 qw4 hy_X3_typeOfFilter rfl hl.1 (Nat.le_of_ble_eq_true rfl) dX3_typeOfSome_84) (c_X3_typeOfFilter hq3) (Nat.le_of_ble_eq_true rfl) (Nat.le_of_ble_eq_true rfl) (fun H locs hJ' => ?_)
            clear hJ
            have hJ := hJ'
            clear hJ'
            cases hf
            exact jq_aret hX hJ.2.2 dX3_typeOfSome_87 ⟨rfl, rfl, rfl, hJ.1, hJ.2.1⟩
          replace hf := o_f hf c1
          by_cases c2 : x7 = 16
          · replace hf := o_t hf c2
            refine lv_tableIn (off := 59) (tgt := 88) hx hb dX3_typeOfSome_29 (by rcases c2 with rfl <;> decide) (by rcases c2 with rfl <;> decide) (by rcases c2 with rfl <;> rfl) (by decide) ?_
            refine lv_aload_n hx hb dX3_typeOfSome_88 rfl (lv_at hl 1 rfl) ?_
            refine lv_ifnonnull (tgt := 96) hx hb dX3_typeOfSome_89 (by decide) ?_
            refine lv_aload_n hx hb dX3_typeOfSome_96 rfl (lv_at hl 4 rfl) ?_
            refine lv_aload_n hx hb dX3_typeOfSome_97 rfl (lv_at hl 1 rfl) ?_
            replace hf := o_call_e hf
            obtain ⟨x10, S4, hq4, hf⟩ := hf
            refine jq_doS hX hJ (jq_okS (As := [.ref p2, .ref a2]) (rest := []) hx hb hm ho ht qw409 qw410 qw411 qw4 hy_X3_typeOfFold rfl hl.1 (Nat.le_of_ble_eq_true rfl) dX3_typeOfSome_98) (c_X3_typeOfFold hq4) (Nat.le_of_ble_eq_true rfl) (Nat.le_of_ble_eq_true rfl) (fun H locs hJ' => ?_)
            clear hJ
            have hJ := hJ'
            clear hJ'
            cases hf
            exact jq_aret hX hJ.2.2 dX3_typeOfSome_101 ⟨rfl, rfl, rfl, hJ.1, hJ.2.1⟩
          replace hf := o_f hf c2
          by_cases c3 : x7 = 17
          · replace hf := o_t hf c3
            refine lv_tableIn (off := 73) (tgt := 102) hx hb dX3_typeOfSome_29 (by rcases c3 with rfl <;> decide) (by rcases c3 with rfl <;> decide) (by rcases c3 with rfl <;> rfl) (by decide) ?_
            refine lv_aload_n hx hb dX3_typeOfSome_102 rfl (lv_at hl 1 rfl) ?_
            refine lv_ifnonnull (tgt := 110) hx hb dX3_typeOfSome_103 (by decide) ?_
            refine lv_aload_n hx hb dX3_typeOfSome_110 rfl (lv_at hl 4 rfl) ?_
            refine lv_aload_n hx hb dX3_typeOfSome_111 rfl (lv_at hl 1 rfl) ?_
            replace hf := o_call_e hf
            obtain ⟨x11, S5, hq5, hf⟩ := hf
            refine jq_doS hX hJ (jq_okS (As := [.ref p2, .ref a2]) (rest := []) hx hb hm ho ht qw416 qw417 qw418 qw4 hy_X3_typeOfThen rfl hl.1 (Nat.le_of_ble_eq_true rfl) dX3_typeOfSome_112) (c_X3_typeOfThen hq5) (Nat.le_of_ble_eq_true rfl) (Nat.le_of_ble_eq_true rfl) (fun H locs hJ' => ?_)
            clear hJ
            have hJ := hJ'
            clear hJ'
            cases hf
            exact jq_aret hX hJ.2.2 dX3_typeOfSome_115 ⟨rfl, rfl, rfl, hJ.1, hJ.2.1⟩
          replace hf := o_f hf c3
          by_cases c4 : x7 = 18
          · replace hf := o_t hf c4
            refine lv_tableIn (off := 87) (tgt := 116) hx hb dX3_typeOfSome_29 (by rcases c4 with rfl <;> decide) (by rcases c4 with rfl <;> decide) (by rcases c4 with rfl <;> rfl) (by decide) ?_
            refine lv_aload_n hx hb dX3_typeOfSome_116 rfl (lv_at hl 1 rfl) ?_
            refine lv_ifnull hx hb dX3_typeOfSome_117 ?_
            refine lv_aload hx hb dX3_typeOfSome_120 (lv_at hl 0 rfl) ?_
            refine lv_ifnonnull (tgt := 129) hx hb dX3_typeOfSome_122 (by decide) ?_
            refine lv_aload_n hx hb dX3_typeOfSome_129 rfl (lv_at hl 4 rfl) ?_
            refine lv_aload_n hx hb dX3_typeOfSome_130 rfl (lv_at hl 1 rfl) ?_
            refine lv_aload hx hb dX3_typeOfSome_131 (lv_at hl 0 rfl) ?_
            replace hf := o_call_e hf
            obtain ⟨x12, S6, hq6, hf⟩ := hf
            refine jq_doS hX hJ (jq_okS (As := [.ref p2, .ref a2, .ref a4]) (rest := []) hx hb hm ho ht qw423 qw424 qw425 qw4 hy_X3_typeOfGuard rfl hl.1 (Nat.le_of_ble_eq_true rfl) dX3_typeOfSome_133) (c_X3_typeOfGuard hq6) (Nat.le_of_ble_eq_true rfl) (Nat.le_of_ble_eq_true rfl) (fun H locs hJ' => ?_)
            clear hJ
            have hJ := hJ'
            clear hJ'
            cases hf
            exact jq_aret hX hJ.2.2 dX3_typeOfSome_136 ⟨rfl, rfl, rfl, hJ.1, hJ.2.1⟩
          replace hf := o_f hf c4
          by_cases c5 : x7 = 19
          · replace hf := o_t hf c5
            refine lv_tableIn (off := 108) (tgt := 137) hx hb dX3_typeOfSome_29 (by rcases c5 with rfl <;> decide) (by rcases c5 with rfl <;> decide) (by rcases c5 with rfl <;> rfl) (by decide) ?_
            refine lv_aload hx hb dX3_typeOfSome_137 (lv_at hl 0 rfl) ?_
            refine lv_ifnonnull (tgt := 146) hx hb dX3_typeOfSome_139 (by decide) ?_
            refine lv_aload_n hx hb dX3_typeOfSome_146 rfl (lv_at hl 4 rfl) ?_
            refine lv_aload hx hb dX3_typeOfSome_147 (lv_at hl 0 rfl) ?_
            replace hf := o_call_e hf
            obtain ⟨x13, S7, hq7, hf⟩ := hf
            refine jq_doS hX hJ (jq_okS (As := [.ref p2, .ref a4]) (rest := []) hx hb hm ho ht qw431 qw432 qw433 qw4 hy_X3_typeOfCatch rfl hl.1 (Nat.le_of_ble_eq_true rfl) dX3_typeOfSome_149) (c_X3_typeOfCatch hq7) (Nat.le_of_ble_eq_true rfl) (Nat.le_of_ble_eq_true rfl) (fun H locs hJ' => ?_)
            clear hJ
            have hJ := hJ'
            clear hJ'
            cases hf
            exact jq_aret hX hJ.2.2 dX3_typeOfSome_152 ⟨rfl, rfl, rfl, hJ.1, hJ.2.1⟩
          replace hf := o_f hf c5
          by_cases c6 : x7 = 20
          · replace hf := o_t hf c6
            refine lv_tableIn (off := 124) (tgt := 153) hx hb dX3_typeOfSome_29 (by rcases c6 with rfl <;> decide) (by rcases c6 with rfl <;> decide) (by rcases c6 with rfl <;> rfl) (by decide) ?_
            refine lv_aload_n hx hb dX3_typeOfSome_153 rfl (lv_at hl 1 rfl) ?_
            refine lv_ifnonnull (tgt := 161) hx hb dX3_typeOfSome_154 (by decide) ?_
            refine lv_aload_n hx hb dX3_typeOfSome_161 rfl (lv_at hl 4 rfl) ?_
            refine lv_aload_n hx hb dX3_typeOfSome_162 rfl (lv_at hl 1 rfl) ?_
            replace hf := o_call_e hf
            obtain ⟨x14, S8, hq8, hf⟩ := hf
            refine jq_doS hX hJ (jq_okS (As := [.ref p2, .ref a2]) (rest := []) hx hb hm ho ht qw434 qw435 qw436 qw4 hy_X3_typeOfLast rfl hl.1 (Nat.le_of_ble_eq_true rfl) dX3_typeOfSome_163) (c_X3_typeOfLast hq8) (Nat.le_of_ble_eq_true rfl) (Nat.le_of_ble_eq_true rfl) (fun H locs hJ' => ?_)
            clear hJ
            have hJ := hJ'
            clear hJ'
            cases hf
            exact jq_aret hX hJ.2.2 dX3_typeOfSome_166 ⟨rfl, rfl, rfl, hJ.1, hJ.2.1⟩
          replace hf := o_f hf c6
          refine lv_tableOut (tgt := 167) hx hb dX3_typeOfSome_29 (by have e0 := sw_ne c1 (n := 15) (by decide); have e1 := sw_ne c2 (n := 16) (by decide); have e2 := sw_ne c3 (n := 17) (by decide); have e3 := sw_ne c4 (n := 18) (by decide); have e4 := sw_ne c5 (n := 19) (by decide); have e5 := sw_ne c6 (n := 20) (by decide); omega) (by decide) ?_
          refine lv_null hx hb dX3_typeOfSome_167 ?_
          cases hf
          exact jq_aret (r := none) hX hJ.2.2 dX3_typeOfSome_168 ⟨rfl, rfl, rfl, hJ.1, hJ.2.1⟩
theorem dX3_typeOf_0 : decode cX3_typeOf 0 = .ok (.aload_n 1, 1) := by decide +kernel
theorem dX3_typeOf_1 : decode cX3_typeOf 1 = .ok (.getfield 19, 3) := by decide +kernel
theorem dX3_typeOf_4 : decode cX3_typeOf 4 = .ok (.bipush 11, 2) := by decide +kernel
theorem dX3_typeOf_6 : decode cX3_typeOf 6 = .ok (.if_icmp .ge 8, 3) := by decide +kernel
theorem dX3_typeOf_14 : decode cX3_typeOf 14 = .ok (.aload_n 0, 1) := by decide +kernel
theorem dX3_typeOf_15 : decode cX3_typeOf 15 = .ok (.getfield 9, 3) := by decide +kernel
theorem dX3_typeOf_18 : decode cX3_typeOf 18 = .ok (.aload_n 1, 1) := by decide +kernel
theorem dX3_typeOf_19 : decode cX3_typeOf 19 = .ok (.getfield 55, 3) := by decide +kernel
theorem dX3_typeOf_22 : decode cX3_typeOf 22 = .ok (.invokevirtual 90, 3) := by decide +kernel
theorem dX3_typeOf_25 : decode cX3_typeOf 25 = .ok (.astore_n 3, 1) := by decide +kernel
theorem dX3_typeOf_26 : decode cX3_typeOf 26 = .ok (.aload_n 3, 1) := by decide +kernel
theorem dX3_typeOf_27 : decode cX3_typeOf 27 = .ok (.ifnonnull 5, 3) := by decide +kernel
theorem dX3_typeOf_32 : decode cX3_typeOf 32 = .ok (.aload_n 1, 1) := by decide +kernel
theorem dX3_typeOf_33 : decode cX3_typeOf 33 = .ok (.getfield 19, 3) := by decide +kernel
theorem dX3_typeOf_36 : decode cX3_typeOf 36 = .ok (.tableswitch 201 11 22 #[64, 89, 98, 128, 201, 201, 201, 201, 201, 201, 144, 187], 64) := by decide +kernel
theorem dX3_typeOf_100 : decode cX3_typeOf 100 = .ok (.aload_n 3, 1) := by decide +kernel
theorem dX3_typeOf_101 : decode cX3_typeOf 101 = .ok (.getfield 94, 3) := by decide +kernel
theorem dX3_typeOf_104 : decode cX3_typeOf 104 = .ok (.iconst 4, 1) := by decide +kernel
theorem dX3_typeOf_105 : decode cX3_typeOf 105 = .ok (.if_icmp .ge 18, 3) := by decide +kernel
theorem dX3_typeOf_123 : decode cX3_typeOf 123 = .ok (.aconst_null, 1) := by decide +kernel
theorem dX3_typeOf_124 : decode cX3_typeOf 124 = .ok (.areturn, 1) := by decide +kernel
theorem dX3_typeOf_108 : decode cX3_typeOf 108 = .ok (.aload_n 3, 1) := by decide +kernel
theorem dX3_typeOf_109 : decode cX3_typeOf 109 = .ok (.aload_n 1, 1) := by decide +kernel
theorem dX3_typeOf_110 : decode cX3_typeOf 110 = .ok (.getfield 75, 3) := by decide +kernel
theorem dX3_typeOf_113 : decode cX3_typeOf 113 = .ok (.aload_n 1, 1) := by decide +kernel
theorem dX3_typeOf_114 : decode cX3_typeOf 114 = .ok (.getfield 85, 3) := by decide +kernel
theorem dX3_typeOf_117 : decode cX3_typeOf 117 = .ok (.invokevirtual 110, 3) := by decide +kernel
theorem dX3_typeOf_120 : decode cX3_typeOf 120 = .ok (.goto 4, 3) := by decide +kernel
theorem dX3_typeOf_125 : decode cX3_typeOf 125 = .ok (.aload_n 3, 1) := by decide +kernel
theorem dX3_typeOf_126 : decode cX3_typeOf 126 = .ok (.aload_n 1, 1) := by decide +kernel
theorem dX3_typeOf_127 : decode cX3_typeOf 127 = .ok (.getfield 75, 3) := by decide +kernel
theorem dX3_typeOf_130 : decode cX3_typeOf 130 = .ok (.invokevirtual 114, 3) := by decide +kernel
theorem dX3_typeOf_133 : decode cX3_typeOf 133 = .ok (.areturn, 1) := by decide +kernel
theorem dX3_typeOf_134 : decode cX3_typeOf 134 = .ok (.aload_n 3, 1) := by decide +kernel
theorem dX3_typeOf_135 : decode cX3_typeOf 135 = .ok (.getfield 94, 3) := by decide +kernel
theorem dX3_typeOf_138 : decode cX3_typeOf 138 = .ok (.iconst 1, 1) := by decide +kernel
theorem dX3_typeOf_139 : decode cX3_typeOf 139 = .ok (.if_icmp .le 23, 3) := by decide +kernel
theorem dX3_typeOf_162 : decode cX3_typeOf 162 = .ok (.aconst_null, 1) := by decide +kernel
theorem dX3_typeOf_163 : decode cX3_typeOf 163 = .ok (.areturn, 1) := by decide +kernel
theorem dX3_typeOf_142 : decode cX3_typeOf 142 = .ok (.aload_n 3, 1) := by decide +kernel
theorem dX3_typeOf_143 : decode cX3_typeOf 143 = .ok (.iconst 0, 1) := by decide +kernel
theorem dX3_typeOf_144 : decode cX3_typeOf 144 = .ok (.invokevirtual 99, 3) := by decide +kernel
theorem dX3_typeOf_147 : decode cX3_typeOf 147 = .ok (.aload_n 3, 1) := by decide +kernel
theorem dX3_typeOf_148 : decode cX3_typeOf 148 = .ok (.iconst 1, 1) := by decide +kernel
theorem dX3_typeOf_149 : decode cX3_typeOf 149 = .ok (.invokevirtual 99, 3) := by decide +kernel
theorem dX3_typeOf_152 : decode cX3_typeOf 152 = .ok (.if_icmp .ne 10, 3) := by decide +kernel
theorem dX3_typeOf_155 : decode cX3_typeOf 155 = .ok (.aload_n 3, 1) := by decide +kernel
theorem dX3_typeOf_156 : decode cX3_typeOf 156 = .ok (.invokevirtual 117, 3) := by decide +kernel
theorem dX3_typeOf_159 : decode cX3_typeOf 159 = .ok (.goto 4, 3) := by decide +kernel
theorem dX3_typeOf_164 : decode cX3_typeOf 164 = .ok (.aload_n 3, 1) := by decide +kernel
theorem dX3_typeOf_165 : decode cX3_typeOf 165 = .ok (.getfield 94, 3) := by decide +kernel
theorem dX3_typeOf_168 : decode cX3_typeOf 168 = .ok (.ifCond .le 10, 3) := by decide +kernel
theorem dX3_typeOf_178 : decode cX3_typeOf 178 = .ok (.aconst_null, 1) := by decide +kernel
theorem dX3_typeOf_179 : decode cX3_typeOf 179 = .ok (.areturn, 1) := by decide +kernel
theorem dX3_typeOf_171 : decode cX3_typeOf 171 = .ok (.aload_n 3, 1) := by decide +kernel
theorem dX3_typeOf_172 : decode cX3_typeOf 172 = .ok (.invokevirtual 117, 3) := by decide +kernel
theorem dX3_typeOf_175 : decode cX3_typeOf 175 = .ok (.goto 4, 3) := by decide +kernel
theorem dX3_typeOf_180 : decode cX3_typeOf 180 = .ok (.aload_n 3, 1) := by decide +kernel
theorem dX3_typeOf_181 : decode cX3_typeOf 181 = .ok (.iconst 0, 1) := by decide +kernel
theorem dX3_typeOf_182 : decode cX3_typeOf 182 = .ok (.invokevirtual 99, 3) := by decide +kernel
theorem dX3_typeOf_185 : decode cX3_typeOf 185 = .ok (.aload_n 3, 1) := by decide +kernel
theorem dX3_typeOf_186 : decode cX3_typeOf 186 = .ok (.getfield 121, 3) := by decide +kernel
theorem dX3_typeOf_189 : decode cX3_typeOf 189 = .ok (.if_icmp .ne 16, 3) := by decide +kernel
theorem dX3_typeOf_205 : decode cX3_typeOf 205 = .ok (.iconst 0, 1) := by decide +kernel
theorem dX3_typeOf_206 : decode cX3_typeOf 206 = .ok (.istore 4, 2) := by decide +kernel
theorem dX3_typeOf_208 : decode cX3_typeOf 208 = .ok (.iload 4, 2) := by decide +kernel
theorem dX3_typeOf_210 : decode cX3_typeOf 210 = .ok (.ifCond .eq 11, 3) := by decide +kernel
theorem dX3_typeOf_221 : decode cX3_typeOf 221 = .ok (.aconst_null, 1) := by decide +kernel
theorem dX3_typeOf_222 : decode cX3_typeOf 222 = .ok (.areturn, 1) := by decide +kernel
theorem dX3_typeOf_192 : decode cX3_typeOf 192 = .ok (.aload_n 3, 1) := by decide +kernel
theorem dX3_typeOf_193 : decode cX3_typeOf 193 = .ok (.iconst 1, 1) := by decide +kernel
theorem dX3_typeOf_194 : decode cX3_typeOf 194 = .ok (.invokevirtual 99, 3) := by decide +kernel
theorem dX3_typeOf_197 : decode cX3_typeOf 197 = .ok (.iconst 4, 1) := by decide +kernel
theorem dX3_typeOf_198 : decode cX3_typeOf 198 = .ok (.if_icmp .ne 7, 3) := by decide +kernel
theorem dX3_typeOf_201 : decode cX3_typeOf 201 = .ok (.iconst 1, 1) := by decide +kernel
theorem dX3_typeOf_202 : decode cX3_typeOf 202 = .ok (.goto 4, 3) := by decide +kernel
theorem dX3_typeOf_213 : decode cX3_typeOf 213 = .ok (.aload_n 3, 1) := by decide +kernel
theorem dX3_typeOf_214 : decode cX3_typeOf 214 = .ok (.iconst 0, 1) := by decide +kernel
theorem dX3_typeOf_215 : decode cX3_typeOf 215 = .ok (.invokevirtual 114, 3) := by decide +kernel
theorem dX3_typeOf_218 : decode cX3_typeOf 218 = .ok (.goto 4, 3) := by decide +kernel
theorem dX3_typeOf_223 : decode cX3_typeOf 223 = .ok (.aload_n 2, 1) := by decide +kernel
theorem dX3_typeOf_224 : decode cX3_typeOf 224 = .ok (.aload_n 3, 1) := by decide +kernel
theorem dX3_typeOf_225 : decode cX3_typeOf 225 = .ok (.invokevirtual 124, 3) := by decide +kernel
theorem dX3_typeOf_228 : decode cX3_typeOf 228 = .ok (.ifCond .eq 7, 3) := by decide +kernel
theorem dX3_typeOf_235 : decode cX3_typeOf 235 = .ok (.aconst_null, 1) := by decide +kernel
theorem dX3_typeOf_236 : decode cX3_typeOf 236 = .ok (.areturn, 1) := by decide +kernel
theorem dX3_typeOf_231 : decode cX3_typeOf 231 = .ok (.aload_n 2, 1) := by decide +kernel
theorem dX3_typeOf_232 : decode cX3_typeOf 232 = .ok (.goto 4, 3) := by decide +kernel
theorem dX3_typeOf_237 : decode cX3_typeOf 237 = .ok (.aload_n 0, 1) := by decide +kernel
theorem dX3_typeOf_238 : decode cX3_typeOf 238 = .ok (.aload_n 1, 1) := by decide +kernel
theorem dX3_typeOf_239 : decode cX3_typeOf 239 = .ok (.aload_n 3, 1) := by decide +kernel
theorem dX3_typeOf_240 : decode cX3_typeOf 240 = .ok (.invokevirtual 128, 3) := by decide +kernel
theorem dX3_typeOf_243 : decode cX3_typeOf 243 = .ok (.areturn, 1) := by decide +kernel
theorem dX3_typeOf_30 : decode cX3_typeOf 30 = .ok (.aconst_null, 1) := by decide +kernel
theorem dX3_typeOf_31 : decode cX3_typeOf 31 = .ok (.areturn, 1) := by decide +kernel
theorem dX3_typeOf_9 : decode cX3_typeOf 9 = .ok (.aload_n 1, 1) := by decide +kernel
theorem dX3_typeOf_10 : decode cX3_typeOf 10 = .ok (.invokestatic 106, 3) := by decide +kernel
theorem dX3_typeOf_13 : decode cX3_typeOf 13 = .ok (.areturn, 1) := by decide +kernel
theorem hy_X3_typeOf : yX3_typeOf.cls ≠ "java/lang/invoke/MethodHandle" ∧ yX3_typeOf.cls ≠ "java/lang/invoke/VarHandle" ∧ (parseMethodDescriptor yX3_typeOf.desc).map (fun d => d.parameters.length) = some 2 := ⟨by decide, by decide, by decide +kernel⟩
def f_X3_typeOf (o : Nat) (p1 : Nat) (p2 : Nat) (S : wS) : Option ((Option Nat) × wS) :=
  o_gI 1 0 p1 S fun x1 =>
  if 11 ≤ x1 then (
  o_gR 3 2 o S fun x2 =>
  o_gI 1 1 p1 S fun x3 =>
  o_cs x2 (none) (fun a1 =>
  o_ck (s_K S a1 = 2) (o_call (f_X1_typeAt a1 x3 S) fun x4 S1 =>
  o_cs x4 (some (none, S1)) (fun a2 =>
  o_gI 1 0 p1 S1 fun x5 =>
  if x5 = 11 then (
  o_gI 8 13 a2 S1 fun x6 =>
  if 4 ≤ x6 then (
  some (none, S1)) else (
  o_gI 1 2 p1 S1 fun x7 =>
  o_gI 1 3 p1 S1 fun x8 =>
  o_ck (s_K S1 a2 = 8) (o_call (f_X9_longer a2 x7 x8 S1) fun x9 S2 =>
  some (x9, S2)))) else (
  if x5 = 12 then (
  o_gI 1 2 p1 S1 fun x10 =>
  o_ck (s_K S1 a2 = 8) (o_call (f_X9_swapped a2 x10 S1) fun x11 S3 =>
  some (x11, S3))) else (
  if x5 = 13 then (
  o_gI 8 13 a2 S1 fun x12 =>
  if x12 ≤ 1 then (
  some (none, S1)) else (
  o_ck (s_K S1 a2 = 8) (o_call (f_X9_kind a2 0 S1) fun x13 S4 =>
  o_ck (s_K S4 a2 = 8) (o_call (f_X9_kind a2 1 S4) fun x14 S5 =>
  if x13 = x14 then (
  o_ck (s_K S5 a2 = 8) (o_call (f_X9_withoutFirst a2 S5) fun x15 S6 =>
  some (x15, S6))) else (
  some (none, S5)))))) else (
  if x5 = 14 then (
  o_gI 8 13 a2 S1 fun x16 =>
  if x16 ≤ 0 then (
  some (none, S1)) else (
  o_ck (s_K S1 a2 = 8) (o_call (f_X9_withoutFirst a2 S1) fun x17 S7 =>
  some (x17, S7)))) else (
  if x5 = 21 then (
  o_ck (s_K S1 a2 = 8) (o_call (f_X9_kind a2 0 S1) fun x18 S8 =>
  o_gI 8 12 a2 S8 fun x19 =>
  if x18 = x19 then (
  o_ck (s_K S8 a2 = 8) (o_call (f_X9_kind a2 1 S8) fun x20 S9 =>
  if x20 = 4 then (
  o_ck (s_K S9 a2 = 8) (o_call (f_X9_swapped a2 0 S9) fun x21 S10 =>
  some (x21, S10))) else (
  some (none, S9)))) else (
  some (none, S8)))) else (
  if x5 = 22 then (
  o_ck (s_K S1 p2 = 8) (o_call (f_X9_goesTo p2 a2 S1) fun x22 S11 =>
  if x22 = 0 then (
  some (none, S11)) else (
  some ((some p2), S11)))) else (
  if x5 = 15 ∨ x5 = 16 ∨ x5 = 17 ∨ x5 = 18 ∨ x5 = 19 ∨ x5 = 20 then (
  o_ck (s_K S1 o = 3) (o_call (f_X3_typeOfSome o p1 a2 S1) fun x23 S12 =>
  some (x23, S12))) else (
  o_ck (s_K S1 o = 3) (o_call (f_X3_typeOfSome o p1 a2 S1) fun x24 S13 =>
  some (x24, S13))))))))))))) else (
  o_call (f_X3_typeAlone p1 S) fun x25 S14 =>
  some (x25, S14))
set_option maxHeartbeats 4000000 in
set_option maxRecDepth 100000 in
theorem c_X3_typeOf {l : Launch} {D : va_G} {Y : Nat → ClassId} {aR : Nat → Nat} {A : Nat → Prop} {o : Nat} {p1 : Nat} {p2 : Nat} {S S' : wS} {r : Option Nat} (hf : f_X3_typeOf o p1 p2 S = some (r, S')) : jq_S l D Y aR A yX3_typeOf cX3_typeOf 5 (some (.object "ScoreHandles$Type")) 5 114 [.ref o, .ref p1, .ref p2] S (some (va_rf r)) S' := by
  unfold f_X3_typeOf at hf
  refine jq_enterS (by decide) (Nat.le_of_ble_eq_true rfl) fun p e s m args below meth c ls H locs hX hJ hl => ?_
  have hl : lv_has ls 5 [(0, .ref o), (1, .ref p1), (2, .ref p2)] := hl
  have hx := hX.1
  have hb := hX.2.1
  have hm := hX.2.2.1
  have ho := hX.2.2.2.1
  have ht := hX.2.2.2.2.1
  have hn := hX.2.2.2.2.2.1.2.1
  refine lv_aload_n hx hb dX3_typeOf_0 rfl (lv_at hl 1 rfl) ?_
  replace hf := o_gI_e hf
  obtain ⟨hk1, x1, hx1, hf⟩ := hf
  refine gn_X0_sort hX hJ hk1 hx1 qn270 dX3_typeOf_1 ?_
  refine lv_bipush (v := 11) hx hb dX3_typeOf_4 (by decide) ?_
  refine lv_icmp_ge (tgt := 14) hx hb dX3_typeOf_6 (by decide) (fun c1 => ?_) (fun c1 => ?_)
  · replace hf := o_t hf c1
    refine lv_aload_n hx hb dX3_typeOf_14 rfl (lv_at hl 0 rfl) ?_
    replace hf := o_gR_e hf
    obtain ⟨hk2, x2, hx2, hf⟩ := hf
    refine gf_X3_handles hX hJ hk2 hx2 qw63 dX3_typeOf_15 ?_
    refine lv_aload_n hx hb dX3_typeOf_18 rfl (lv_at hl 1 rfl) ?_
    replace hf := o_gI_e hf
    obtain ⟨hk3, x3, hx3, hf⟩ := hf
    refine gn_X0_a hX hJ hk3 hx3 qn274 dX3_typeOf_19 ?_
    replace hf := o_cs_e hf
    rcases hf with ⟨hr1, hf⟩ | ⟨a1, hr1, hf⟩
    · subst hr1
      cases hf
    · subst hr1
      replace hf := o_ck_e hf
      obtain ⟨hk4, hf⟩ := hf
      replace hf := o_call_e hf
      obtain ⟨x4, S1, hq1, hf⟩ := hf
      refine jq_doS hX hJ (jq_okVN (As := [.int x3]) (rest := []) hx hb hm ho ht hn (wJ.recv hX hJ (by rw [hk4]; decide) (wE_X1 hk4) rfl) qn333 qw335 qs16 qw336 qw3 hy_X1_typeAt rfl hl.1 (Nat.le_of_ble_eq_true rfl) dX3_typeOf_22) (c_X1_typeAt hq1) (Nat.le_of_ble_eq_true rfl) (Nat.le_of_ble_eq_true rfl) (fun H locs hJ' => ?_)
      clear hJ
      have hJ := hJ'
      clear hJ'
      replace hf := o_cs_e hf
      rcases hf with ⟨hr2, hf⟩ | ⟨a2, hr2, hf⟩
      · subst hr2
        refine lv_astore_nN (lv' := [(3, .null), (0, .ref o), (1, .ref p1), (2, .ref p2)]) hx hb dX3_typeOf_25 rfl hl (by decide) rfl (fun ls hl' => ?_)
        clear hl
        have hl := hl'
        clear hl'
        refine lv_aload_nN hx hb dX3_typeOf_26 rfl (lv_at hl 0 rfl) ?_
        refine lv_ifnonnullN hx hb dX3_typeOf_27 ?_
        refine lv_null hx hb dX3_typeOf_30 ?_
        cases hf
        exact jq_aret (r := none) hX hJ.2.2 dX3_typeOf_31 ⟨rfl, rfl, rfl, hJ.1, hJ.2.1⟩
      · subst hr2
        refine lv_astore_n (lv' := [(3, .ref a2), (0, .ref o), (1, .ref p1), (2, .ref p2)]) hx hb dX3_typeOf_25 rfl hl (by decide) rfl (fun ls hl' => ?_)
        clear hl
        have hl := hl'
        clear hl'
        refine lv_aload_n hx hb dX3_typeOf_26 rfl (lv_at hl 0 rfl) ?_
        refine lv_ifnonnull (tgt := 32) hx hb dX3_typeOf_27 (by decide) ?_
        refine lv_aload_n hx hb dX3_typeOf_32 rfl (lv_at hl 2 rfl) ?_
        replace hf := o_gI_e hf
        obtain ⟨hk5, x5, hx5, hf⟩ := hf
        refine gn_X0_sort hX hJ hk5 hx5 qn270 dX3_typeOf_33 ?_
        by_cases c2 : x5 = 11
        · replace hf := o_t hf c2
          refine lv_tableIn (off := 64) (tgt := 100) hx hb dX3_typeOf_36 (by rcases c2 with rfl <;> decide) (by rcases c2 with rfl <;> decide) (by rcases c2 with rfl <;> rfl) (by decide) ?_
          refine lv_aload_n hx hb dX3_typeOf_100 rfl (lv_at hl 0 rfl) ?_
          replace hf := o_gI_e hf
          obtain ⟨hk6, x6, hx6, hf⟩ := hf
          refine gn_X9_many hX hJ hk6 hx6 qn114 dX3_typeOf_101 ?_
          refine lv_iconst (v := 4) hx hb dX3_typeOf_104 (by decide) ?_
          refine lv_icmp_ge (tgt := 123) hx hb dX3_typeOf_105 (by decide) (fun c3 => ?_) (fun c3 => ?_)
          · replace hf := o_t hf c3
            refine lv_null hx hb dX3_typeOf_123 ?_
            cases hf
            exact jq_aret (r := none) hX hJ.2.2 dX3_typeOf_124 ⟨rfl, rfl, rfl, hJ.1, hJ.2.1⟩
          · replace hf := o_f hf c3
            refine lv_aload_n hx hb dX3_typeOf_108 rfl (lv_at hl 0 rfl) ?_
            refine lv_aload_n hx hb dX3_typeOf_109 rfl (lv_at hl 2 rfl) ?_
            replace hf := o_gI_e hf
            obtain ⟨hk7, x7, hx7, hf⟩ := hf
            refine gn_X0_b hX hJ hk7 hx7 qn277 dX3_typeOf_110 ?_
            refine lv_aload_n hx hb dX3_typeOf_113 rfl (lv_at hl 2 rfl) ?_
            replace hf := o_gI_e hf
            obtain ⟨hk8, x8, hx8, hf⟩ := hf
            refine gn_X0_c hX hJ hk8 hx8 qn280 dX3_typeOf_114 ?_
            replace hf := o_ck_e hf
            obtain ⟨hk9, hf⟩ := hf
            replace hf := o_call_e hf
            obtain ⟨x9, S2, hq2, hf⟩ := hf
            refine jq_doS hX hJ (jq_okVN (As := [.int x7, .int x8]) (rest := []) hx hb hm ho ht hn (wJ.recv hX hJ (by rw [hk9]; decide) (wE_X9 hk9) rfl) qn374 qw376 qs22 qw377 qw6 hy_X9_longer rfl hl.1 (Nat.le_of_ble_eq_true rfl) dX3_typeOf_117) (c_X9_longer hq2) (Nat.le_of_ble_eq_true rfl) (Nat.le_of_ble_eq_true rfl) (fun H locs hJ' => ?_)
            clear hJ
            have hJ := hJ'
            clear hJ'
            refine lv_goto (tgt := 124) hx hb dX3_typeOf_120 (by decide) ?_
            cases hf
            exact jq_aret hX hJ.2.2 dX3_typeOf_124 ⟨rfl, rfl, rfl, hJ.1, hJ.2.1⟩
        replace hf := o_f hf c2
        by_cases c4 : x5 = 12
        · replace hf := o_t hf c4
          refine lv_tableIn (off := 89) (tgt := 125) hx hb dX3_typeOf_36 (by rcases c4 with rfl <;> decide) (by rcases c4 with rfl <;> decide) (by rcases c4 with rfl <;> rfl) (by decide) ?_
          refine lv_aload_n hx hb dX3_typeOf_125 rfl (lv_at hl 0 rfl) ?_
          refine lv_aload_n hx hb dX3_typeOf_126 rfl (lv_at hl 2 rfl) ?_
          replace hf := o_gI_e hf
          obtain ⟨hk10, x10, hx10, hf⟩ := hf
          refine gn_X0_b hX hJ hk10 hx10 qn277 dX3_typeOf_127 ?_
          replace hf := o_ck_e hf
          obtain ⟨hk11, hf⟩ := hf
          replace hf := o_call_e hf
          obtain ⟨x11, S3, hq3, hf⟩ := hf
          refine jq_doS hX hJ (jq_okVN (As := [.int x10]) (rest := []) hx hb hm ho ht hn (wJ.recv hX hJ (by rw [hk11]; decide) (wE_X9 hk11) rfl) qn380 qw382 qs23 qw383 qw6 hy_X9_swapped rfl hl.1 (Nat.le_of_ble_eq_true rfl) dX3_typeOf_130) (c_X9_swapped hq3) (Nat.le_of_ble_eq_true rfl) (Nat.le_of_ble_eq_true rfl) (fun H locs hJ' => ?_)
          clear hJ
          have hJ := hJ'
          clear hJ'
          cases hf
          exact jq_aret hX hJ.2.2 dX3_typeOf_133 ⟨rfl, rfl, rfl, hJ.1, hJ.2.1⟩
        replace hf := o_f hf c4
        by_cases c5 : x5 = 13
        · replace hf := o_t hf c5
          refine lv_tableIn (off := 98) (tgt := 134) hx hb dX3_typeOf_36 (by rcases c5 with rfl <;> decide) (by rcases c5 with rfl <;> decide) (by rcases c5 with rfl <;> rfl) (by decide) ?_
          refine lv_aload_n hx hb dX3_typeOf_134 rfl (lv_at hl 0 rfl) ?_
          replace hf := o_gI_e hf
          obtain ⟨hk12, x12, hx12, hf⟩ := hf
          refine gn_X9_many hX hJ hk12 hx12 qn114 dX3_typeOf_135 ?_
          refine lv_iconst (v := 1) hx hb dX3_typeOf_138 (by decide) ?_
          refine lv_icmp_le (tgt := 162) hx hb dX3_typeOf_139 (by decide) (fun c6 => ?_) (fun c6 => ?_)
          · replace hf := o_t hf c6
            refine lv_null hx hb dX3_typeOf_162 ?_
            cases hf
            exact jq_aret (r := none) hX hJ.2.2 dX3_typeOf_163 ⟨rfl, rfl, rfl, hJ.1, hJ.2.1⟩
          · replace hf := o_f hf c6
            refine lv_aload_n hx hb dX3_typeOf_142 rfl (lv_at hl 0 rfl) ?_
            refine lv_iconst (v := 0) hx hb dX3_typeOf_143 (by decide) ?_
            replace hf := o_ck_e hf
            obtain ⟨hk13, hf⟩ := hf
            replace hf := o_call_e hf
            obtain ⟨x13, S4, hq4, hf⟩ := hf
            refine jq_doS hX hJ (jq_okVN (As := [.int 0]) (rest := []) hx hb hm ho ht hn (wJ.recv hX hJ (by rw [hk13]; decide) (wE_X9 hk13) rfl) qn349 qw351 qs19 qw352 qw6 hy_X9_kind rfl hl.1 (Nat.le_of_ble_eq_true rfl) dX3_typeOf_144) (c_X9_kind hq4) (Nat.le_of_ble_eq_true rfl) (Nat.le_of_ble_eq_true rfl) (fun H locs hJ' => ?_)
            clear hJ
            have hJ := hJ'
            clear hJ'
            refine lv_aload_n hx hb dX3_typeOf_147 rfl (lv_at hl 0 rfl) ?_
            refine lv_iconst (v := 1) hx hb dX3_typeOf_148 (by decide) ?_
            replace hf := o_ck_e hf
            obtain ⟨hk14, hf⟩ := hf
            replace hf := o_call_e hf
            obtain ⟨x14, S5, hq5, hf⟩ := hf
            refine jq_doS hX hJ (jq_okVN (As := [.int 1]) (rest := [.int x13]) hx hb hm ho ht hn (wJ.recv hX hJ (by rw [hk14]; decide) (wE_X9 hk14) rfl) qn349 qw351 qs19 qw352 qw6 hy_X9_kind rfl hl.1 (Nat.le_of_ble_eq_true rfl) dX3_typeOf_149) (c_X9_kind hq5) (Nat.le_of_ble_eq_true rfl) (Nat.le_of_ble_eq_true rfl) (fun H locs hJ' => ?_)
            clear hJ
            have hJ := hJ'
            clear hJ'
            refine lv_icmp_ne (tgt := 162) hx hb dX3_typeOf_152 (by decide) (fun c7 => ?_) (fun c7 => ?_)
            · replace hf := o_f hf c7
              refine lv_null hx hb dX3_typeOf_162 ?_
              cases hf
              exact jq_aret (r := none) hX hJ.2.2 dX3_typeOf_163 ⟨rfl, rfl, rfl, hJ.1, hJ.2.1⟩
            · replace hf := o_t hf c7
              refine lv_aload_n hx hb dX3_typeOf_155 rfl (lv_at hl 0 rfl) ?_
              replace hf := o_ck_e hf
              obtain ⟨hk15, hf⟩ := hf
              replace hf := o_call_e hf
              obtain ⟨x15, S6, hq6, hf⟩ := hf
              refine jq_doS hX hJ (jq_okVN (As := []) (rest := []) hx hb hm ho ht hn (wJ.recv hX hJ (by rw [hk15]; decide) (wE_X9 hk15) rfl) qn388 qw390 qs25 qw391 qw6 hy_X9_withoutFirst rfl hl.1 (Nat.le_of_ble_eq_true rfl) dX3_typeOf_156) (c_X9_withoutFirst hq6) (Nat.le_of_ble_eq_true rfl) (Nat.le_of_ble_eq_true rfl) (fun H locs hJ' => ?_)
              clear hJ
              have hJ := hJ'
              clear hJ'
              refine lv_goto (tgt := 163) hx hb dX3_typeOf_159 (by decide) ?_
              cases hf
              exact jq_aret hX hJ.2.2 dX3_typeOf_163 ⟨rfl, rfl, rfl, hJ.1, hJ.2.1⟩
        replace hf := o_f hf c5
        by_cases c8 : x5 = 14
        · replace hf := o_t hf c8
          refine lv_tableIn (off := 128) (tgt := 164) hx hb dX3_typeOf_36 (by rcases c8 with rfl <;> decide) (by rcases c8 with rfl <;> decide) (by rcases c8 with rfl <;> rfl) (by decide) ?_
          refine lv_aload_n hx hb dX3_typeOf_164 rfl (lv_at hl 0 rfl) ?_
          replace hf := o_gI_e hf
          obtain ⟨hk16, x16, hx16, hf⟩ := hf
          refine gn_X9_many hX hJ hk16 hx16 qn114 dX3_typeOf_165 ?_
          refine lv_if_le (tgt := 178) hx hb dX3_typeOf_168 (by decide) (fun c9 => ?_) (fun c9 => ?_)
          · replace hf := o_t hf c9
            refine lv_null hx hb dX3_typeOf_178 ?_
            cases hf
            exact jq_aret (r := none) hX hJ.2.2 dX3_typeOf_179 ⟨rfl, rfl, rfl, hJ.1, hJ.2.1⟩
          · replace hf := o_f hf c9
            refine lv_aload_n hx hb dX3_typeOf_171 rfl (lv_at hl 0 rfl) ?_
            replace hf := o_ck_e hf
            obtain ⟨hk17, hf⟩ := hf
            replace hf := o_call_e hf
            obtain ⟨x17, S7, hq7, hf⟩ := hf
            refine jq_doS hX hJ (jq_okVN (As := []) (rest := []) hx hb hm ho ht hn (wJ.recv hX hJ (by rw [hk17]; decide) (wE_X9 hk17) rfl) qn388 qw390 qs25 qw391 qw6 hy_X9_withoutFirst rfl hl.1 (Nat.le_of_ble_eq_true rfl) dX3_typeOf_172) (c_X9_withoutFirst hq7) (Nat.le_of_ble_eq_true rfl) (Nat.le_of_ble_eq_true rfl) (fun H locs hJ' => ?_)
            clear hJ
            have hJ := hJ'
            clear hJ'
            refine lv_goto (tgt := 179) hx hb dX3_typeOf_175 (by decide) ?_
            cases hf
            exact jq_aret hX hJ.2.2 dX3_typeOf_179 ⟨rfl, rfl, rfl, hJ.1, hJ.2.1⟩
        replace hf := o_f hf c8
        by_cases c10 : x5 = 21
        · replace hf := o_t hf c10
          refine lv_tableIn (off := 144) (tgt := 180) hx hb dX3_typeOf_36 (by rcases c10 with rfl <;> decide) (by rcases c10 with rfl <;> decide) (by rcases c10 with rfl <;> rfl) (by decide) ?_
          refine lv_aload_n hx hb dX3_typeOf_180 rfl (lv_at hl 0 rfl) ?_
          refine lv_iconst (v := 0) hx hb dX3_typeOf_181 (by decide) ?_
          replace hf := o_ck_e hf
          obtain ⟨hk18, hf⟩ := hf
          replace hf := o_call_e hf
          obtain ⟨x18, S8, hq8, hf⟩ := hf
          refine jq_doS hX hJ (jq_okVN (As := [.int 0]) (rest := []) hx hb hm ho ht hn (wJ.recv hX hJ (by rw [hk18]; decide) (wE_X9 hk18) rfl) qn349 qw351 qs19 qw352 qw6 hy_X9_kind rfl hl.1 (Nat.le_of_ble_eq_true rfl) dX3_typeOf_182) (c_X9_kind hq8) (Nat.le_of_ble_eq_true rfl) (Nat.le_of_ble_eq_true rfl) (fun H locs hJ' => ?_)
          clear hJ
          have hJ := hJ'
          clear hJ'
          refine lv_aload_n hx hb dX3_typeOf_185 rfl (lv_at hl 0 rfl) ?_
          replace hf := o_gI_e hf
          obtain ⟨hk19, x19, hx19, hf⟩ := hf
          refine gn_X9_result hX hJ hk19 hx19 qn111 dX3_typeOf_186 ?_
          refine lv_icmp_ne (tgt := 205) hx hb dX3_typeOf_189 (by decide) (fun c11 => ?_) (fun c11 => ?_)
          · replace hf := o_f hf c11
            refine lv_iconst (v := 0) hx hb dX3_typeOf_205 (by decide) ?_
            refine lv_istore (lv' := [(4, .int 0), (3, .ref a2), (0, .ref o), (1, .ref p1), (2, .ref p2)]) hx hb dX3_typeOf_206 hl (by decide) rfl (fun ls hl' => ?_)
            clear hl
            have hl := hl'
            clear hl'
            refine lv_iload hx hb dX3_typeOf_208 (lv_at hl 0 rfl) ?_
            refine lv_if_eq (tgt := 221) hx hb dX3_typeOf_210 (by decide) (fun _ => ?_) (fun z => absurd (by decide) z)
            refine lv_null hx hb dX3_typeOf_221 ?_
            cases hf
            exact jq_aret (r := none) hX hJ.2.2 dX3_typeOf_222 ⟨rfl, rfl, rfl, hJ.1, hJ.2.1⟩
          · replace hf := o_t hf c11
            refine lv_aload_n hx hb dX3_typeOf_192 rfl (lv_at hl 0 rfl) ?_
            refine lv_iconst (v := 1) hx hb dX3_typeOf_193 (by decide) ?_
            replace hf := o_ck_e hf
            obtain ⟨hk20, hf⟩ := hf
            replace hf := o_call_e hf
            obtain ⟨x20, S9, hq9, hf⟩ := hf
            refine jq_doS hX hJ (jq_okVN (As := [.int 1]) (rest := []) hx hb hm ho ht hn (wJ.recv hX hJ (by rw [hk20]; decide) (wE_X9 hk20) rfl) qn349 qw351 qs19 qw352 qw6 hy_X9_kind rfl hl.1 (Nat.le_of_ble_eq_true rfl) dX3_typeOf_194) (c_X9_kind hq9) (Nat.le_of_ble_eq_true rfl) (Nat.le_of_ble_eq_true rfl) (fun H locs hJ' => ?_)
            clear hJ
            have hJ := hJ'
            clear hJ'
            refine lv_iconst (v := 4) hx hb dX3_typeOf_197 (by decide) ?_
            refine lv_icmp_ne (tgt := 205) hx hb dX3_typeOf_198 (by decide) (fun c12 => ?_) (fun c12 => ?_)
            · replace hf := o_f hf c12
              refine lv_iconst (v := 0) hx hb dX3_typeOf_205 (by decide) ?_
              refine lv_istore (lv' := [(4, .int 0), (3, .ref a2), (0, .ref o), (1, .ref p1), (2, .ref p2)]) hx hb dX3_typeOf_206 hl (by decide) rfl (fun ls hl' => ?_)
              clear hl
              have hl := hl'
              clear hl'
              refine lv_iload hx hb dX3_typeOf_208 (lv_at hl 0 rfl) ?_
              refine lv_if_eq (tgt := 221) hx hb dX3_typeOf_210 (by decide) (fun _ => ?_) (fun z => absurd (by decide) z)
              refine lv_null hx hb dX3_typeOf_221 ?_
              cases hf
              exact jq_aret (r := none) hX hJ.2.2 dX3_typeOf_222 ⟨rfl, rfl, rfl, hJ.1, hJ.2.1⟩
            · replace hf := o_t hf c12
              refine lv_iconst (v := 1) hx hb dX3_typeOf_201 (by decide) ?_
              refine lv_goto (tgt := 206) hx hb dX3_typeOf_202 (by decide) ?_
              refine lv_istore (lv' := [(4, .int 1), (3, .ref a2), (0, .ref o), (1, .ref p1), (2, .ref p2)]) hx hb dX3_typeOf_206 hl (by decide) rfl (fun ls hl' => ?_)
              clear hl
              have hl := hl'
              clear hl'
              refine lv_iload hx hb dX3_typeOf_208 (lv_at hl 0 rfl) ?_
              refine lv_if_eq (tgt := 221) hx hb dX3_typeOf_210 (by decide) (fun z => absurd z (by decide)) (fun _ => ?_)
              refine lv_aload_n hx hb dX3_typeOf_213 rfl (lv_at hl 1 rfl) ?_
              refine lv_iconst (v := 0) hx hb dX3_typeOf_214 (by decide) ?_
              replace hf := o_ck_e hf
              obtain ⟨hk21, hf⟩ := hf
              replace hf := o_call_e hf
              obtain ⟨x21, S10, hq10, hf⟩ := hf
              refine jq_doS hX hJ (jq_okVN (As := [.int 0]) (rest := []) hx hb hm ho ht hn (wJ.recv hX hJ (by rw [hk21]; decide) (wE_X9 hk21) rfl) qn380 qw382 qs23 qw383 qw6 hy_X9_swapped rfl hl.1 (Nat.le_of_ble_eq_true rfl) dX3_typeOf_215) (c_X9_swapped hq10) (Nat.le_of_ble_eq_true rfl) (Nat.le_of_ble_eq_true rfl) (fun H locs hJ' => ?_)
              clear hJ
              have hJ := hJ'
              clear hJ'
              refine lv_goto (tgt := 222) hx hb dX3_typeOf_218 (by decide) ?_
              cases hf
              exact jq_aret hX hJ.2.2 dX3_typeOf_222 ⟨rfl, rfl, rfl, hJ.1, hJ.2.1⟩
        replace hf := o_f hf c10
        by_cases c13 : x5 = 22
        · replace hf := o_t hf c13
          refine lv_tableIn (off := 187) (tgt := 223) hx hb dX3_typeOf_36 (by rcases c13 with rfl <;> decide) (by rcases c13 with rfl <;> decide) (by rcases c13 with rfl <;> rfl) (by decide) ?_
          refine lv_aload_n hx hb dX3_typeOf_223 rfl (lv_at hl 3 rfl) ?_
          refine lv_aload_n hx hb dX3_typeOf_224 rfl (lv_at hl 0 rfl) ?_
          replace hf := o_ck_e hf
          obtain ⟨hk22, hf⟩ := hf
          replace hf := o_call_e hf
          obtain ⟨x22, S11, hq11, hf⟩ := hf
          refine jq_doS hX hJ (jq_okVN (As := [.ref a2]) (rest := []) hx hb hm ho ht hn (wJ.recv hX hJ (by rw [hk22]; decide) (wE_X9 hk22) rfl) qn393 qw395 qs26 qw396 qw6 hy_X9_goesTo rfl hl.1 (Nat.le_of_ble_eq_true rfl) dX3_typeOf_225) (c_X9_goesTo hq11) (Nat.le_of_ble_eq_true rfl) (Nat.le_of_ble_eq_true rfl) (fun H locs hJ' => ?_)
          clear hJ
          have hJ := hJ'
          clear hJ'
          refine lv_if_eq (tgt := 235) hx hb dX3_typeOf_228 (by decide) (fun c14 => ?_) (fun c14 => ?_)
          · replace hf := o_t hf c14
            refine lv_null hx hb dX3_typeOf_235 ?_
            cases hf
            exact jq_aret (r := none) hX hJ.2.2 dX3_typeOf_236 ⟨rfl, rfl, rfl, hJ.1, hJ.2.1⟩
          · replace hf := o_f hf c14
            refine lv_aload_n hx hb dX3_typeOf_231 rfl (lv_at hl 3 rfl) ?_
            refine lv_goto (tgt := 236) hx hb dX3_typeOf_232 (by decide) ?_
            cases hf
            exact jq_aret (r := (some p2)) hX hJ.2.2 dX3_typeOf_236 ⟨rfl, rfl, rfl, hJ.1, hJ.2.1⟩
        replace hf := o_f hf c13
        by_cases c15 : x5 = 15 ∨ x5 = 16 ∨ x5 = 17 ∨ x5 = 18 ∨ x5 = 19 ∨ x5 = 20
        · replace hf := o_t hf c15
          refine lv_tableIn (off := 201) (tgt := 237) hx hb dX3_typeOf_36 (by rcases c15 with rfl | rfl | rfl | rfl | rfl | rfl <;> decide) (by rcases c15 with rfl | rfl | rfl | rfl | rfl | rfl <;> decide) (by rcases c15 with rfl | rfl | rfl | rfl | rfl | rfl <;> rfl) (by decide) ?_
          refine lv_aload_n hx hb dX3_typeOf_237 rfl (lv_at hl 1 rfl) ?_
          refine lv_aload_n hx hb dX3_typeOf_238 rfl (lv_at hl 2 rfl) ?_
          refine lv_aload_n hx hb dX3_typeOf_239 rfl (lv_at hl 0 rfl) ?_
          replace hf := o_ck_e hf
          obtain ⟨hk23, hf⟩ := hf
          replace hf := o_call_e hf
          obtain ⟨x23, S12, hq12, hf⟩ := hf
          refine jq_doS hX hJ (jq_okV (As := [.ref p1, .ref a2]) (rest := []) hx hb hm ho ht (wJ.recv hX hJ (by rw [hk23]; decide) (wE_X3 hk23) rfl) qw401 qw403 qs27 qw404 qw4 hy_X3_typeOfSome rfl hl.1 (Nat.le_of_ble_eq_true rfl) dX3_typeOf_240) (c_X3_typeOfSome hq12) (Nat.le_of_ble_eq_true rfl) (Nat.le_of_ble_eq_true rfl) (fun H locs hJ' => ?_)
          clear hJ
          have hJ := hJ'
          clear hJ'
          cases hf
          exact jq_aret hX hJ.2.2 dX3_typeOf_243 ⟨rfl, rfl, rfl, hJ.1, hJ.2.1⟩
        replace hf := o_f hf c15
        refine lv_tableOut (tgt := 237) hx hb dX3_typeOf_36 (by have e0 := sw_ne c2 (n := 11) (by decide); have e1 := sw_ne c4 (n := 12) (by decide); have e2 := sw_ne c5 (n := 13) (by decide); have e3 := sw_ne c8 (n := 14) (by decide); have e4 := sw_ne c10 (n := 21) (by decide); have e5 := sw_ne c13 (n := 22) (by decide); have e6 := sw_ne (fun z => c15 (Or.inl z)) (n := 15) (by decide); have e7 := sw_ne (fun z => c15 (Or.inr (Or.inl z))) (n := 16) (by decide); have e8 := sw_ne (fun z => c15 (Or.inr (Or.inr (Or.inl z)))) (n := 17) (by decide); have e9 := sw_ne (fun z => c15 (Or.inr (Or.inr (Or.inr (Or.inl z))))) (n := 18) (by decide); have e10 := sw_ne (fun z => c15 (Or.inr (Or.inr (Or.inr (Or.inr (Or.inl z)))))) (n := 19) (by decide); have e11 := sw_ne (fun z => c15 (Or.inr (Or.inr (Or.inr (Or.inr (Or.inr z)))))) (n := 20) (by decide); omega) (by decide) ?_
        refine lv_aload_n hx hb dX3_typeOf_237 rfl (lv_at hl 1 rfl) ?_
        refine lv_aload_n hx hb dX3_typeOf_238 rfl (lv_at hl 2 rfl) ?_
        refine lv_aload_n hx hb dX3_typeOf_239 rfl (lv_at hl 0 rfl) ?_
        replace hf := o_ck_e hf
        obtain ⟨hk24, hf⟩ := hf
        replace hf := o_call_e hf
        obtain ⟨x24, S13, hq13, hf⟩ := hf
        refine jq_doS hX hJ (jq_okV (As := [.ref p1, .ref a2]) (rest := []) hx hb hm ho ht (wJ.recv hX hJ (by rw [hk24]; decide) (wE_X3 hk24) rfl) qw401 qw403 qs27 qw404 qw4 hy_X3_typeOfSome rfl hl.1 (Nat.le_of_ble_eq_true rfl) dX3_typeOf_240) (c_X3_typeOfSome hq13) (Nat.le_of_ble_eq_true rfl) (Nat.le_of_ble_eq_true rfl) (fun H locs hJ' => ?_)
        clear hJ
        have hJ := hJ'
        clear hJ'
        cases hf
        exact jq_aret hX hJ.2.2 dX3_typeOf_243 ⟨rfl, rfl, rfl, hJ.1, hJ.2.1⟩
  · replace hf := o_f hf c1
    refine lv_aload_n hx hb dX3_typeOf_9 rfl (lv_at hl 1 rfl) ?_
    replace hf := o_call_e hf
    obtain ⟨x25, S14, hq14, hf⟩ := hf
    refine jq_doS hX hJ (jq_okS (As := [.ref p1]) (rest := []) hx hb hm ho ht qw366 qw367 qw368 qw4 hy_X3_typeAlone rfl hl.1 (Nat.le_of_ble_eq_true rfl) dX3_typeOf_10) (c_X3_typeAlone hq14) (Nat.le_of_ble_eq_true rfl) (Nat.le_of_ble_eq_true rfl) (fun H locs hJ' => ?_)
    clear hJ
    have hJ := hJ'
    clear hJ'
    cases hf
    exact jq_aret hX hJ.2.2 dX3_typeOf_13 ⟨rfl, rfl, rfl, hJ.1, hJ.2.1⟩
theorem dX3_bitsOf_0 : decode cX3_bitsOf 0 = .ok (.aload_n 0, 1) := by decide +kernel
theorem dX3_bitsOf_1 : decode cX3_bitsOf 1 = .ok (.aload_n 1, 1) := by decide +kernel
theorem dX3_bitsOf_2 : decode cX3_bitsOf 2 = .ok (.invokevirtual 41, 3) := by decide +kernel
theorem dX3_bitsOf_5 : decode cX3_bitsOf 5 = .ok (.aload_n 1, 1) := by decide +kernel
theorem dX3_bitsOf_6 : decode cX3_bitsOf 6 = .ok (.getfield 45, 3) := by decide +kernel
theorem dX3_bitsOf_9 : decode cX3_bitsOf 9 = .ok (.invokestatic 102, 3) := by decide +kernel
theorem dX3_bitsOf_12 : decode cX3_bitsOf 12 = .ok (.lreturn, 1) := by decide +kernel
theorem hy_X3_bitsOf : yX3_bitsOf.cls ≠ "java/lang/invoke/MethodHandle" ∧ yX3_bitsOf.cls ≠ "java/lang/invoke/VarHandle" ∧ (parseMethodDescriptor yX3_bitsOf.desc).map (fun d => d.parameters.length) = some 1 := ⟨by decide, by decide, by decide +kernel⟩
def f_X3_bitsOf (o : Nat) (p1 : Nat) (S : wS) : Option ((Int64) × wS) :=
  o_ck (s_K S o = 3) (o_call (f_X3_kindOfBits o p1 S) fun x1 S1 =>
  o_gL 1 0 p1 S1 fun x2 =>
  o_cP (f_X2_fromBits x1 x2) fun x3 =>
  some (x3, S1))
set_option maxHeartbeats 4000000 in
set_option maxRecDepth 100000 in
theorem c_X3_bitsOf {l : Launch} {D : va_G} {Y : Nat → ClassId} {aR : Nat → Nat} {A : Nat → Prop} {o : Nat} {p1 : Nat} {S S' : wS} {r : Int64} (hf : f_X3_bitsOf o p1 S = some (r, S')) : jq_S l D Y aR A yX3_bitsOf cX3_bitsOf 2 (some .long) 4 88 [.ref o, .ref p1] S (some (.long r)) S' := by
  unfold f_X3_bitsOf at hf
  refine jq_enterS (by decide) (Nat.le_of_ble_eq_true rfl) fun p e s m args below meth c ls H locs hX hJ hl => ?_
  have hl : lv_has ls 2 [(0, .ref o), (1, .ref p1)] := hl
  have hx := hX.1
  have hb := hX.2.1
  have hm := hX.2.2.1
  have ho := hX.2.2.2.1
  have ht := hX.2.2.2.2.1
  have hn := hX.2.2.2.2.2.1.2.1
  refine lv_aload_n hx hb dX3_bitsOf_0 rfl (lv_at hl 0 rfl) ?_
  refine lv_aload_n hx hb dX3_bitsOf_1 rfl (lv_at hl 1 rfl) ?_
  replace hf := o_ck_e hf
  obtain ⟨hk1, hf⟩ := hf
  replace hf := o_call_e hf
  obtain ⟨x1, S1, hq1, hf⟩ := hf
  refine jq_doS hX hJ (jq_okV (As := [.ref p1]) (rest := []) hx hb hm ho ht (wJ.recv hX hJ (by rw [hk1]; decide) (wE_X3 hk1) rfl) qw345 qw347 qs18 qw348 qw4 hy_X3_kindOfBits rfl hl.1 (Nat.le_of_ble_eq_true rfl) dX3_bitsOf_2) (c_X3_kindOfBits hq1) (Nat.le_of_ble_eq_true rfl) (Nat.le_of_ble_eq_true rfl) (fun H locs hJ' => ?_)
  clear hJ
  have hJ := hJ'
  clear hJ'
  refine lv_aload_n hx hb dX3_bitsOf_5 rfl (lv_at hl 1 rfl) ?_
  replace hf := o_gL_e hf
  obtain ⟨hk2, x2, hx2, hf⟩ := hf
  refine gn_X0_v hX hJ hk2 hx2 qn283 dX3_bitsOf_6 ?_
  replace hf := o_cP_e hf
  obtain ⟨x3, hq2, hf⟩ := hf
  refine jq_doPS hX hJ (jq_okSN (As := [.int x1, .long x2]) (rest := []) hx hb hm ho ht hn qn441 qw195 qw196 qw8 hy_X2_fromBits rfl hl.1 (Nat.le_of_ble_eq_true rfl) dX3_bitsOf_9) (c_X2_fromBits hq2) (Nat.le_of_ble_eq_true rfl) (Nat.le_of_ble_eq_true rfl) (fun locs hJ' => ?_)
  clear hJ
  have hJ := hJ'
  clear hJ'
  cases hf
  exact jq_lret hX hJ.2.2 dX3_bitsOf_12 ⟨rfl, rfl, rfl, hJ.1, hJ.2.1⟩
