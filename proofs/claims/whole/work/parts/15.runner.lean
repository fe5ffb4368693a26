theorem hy_X7_perform : yX7_perform.cls ≠ "java/lang/invoke/MethodHandle" ∧ yX7_perform.cls ≠ "java/lang/invoke/VarHandle" ∧ (parseMethodDescriptor yX7_perform.desc).map (fun d => d.parameters.length) = some 2 := ⟨by decide, by decide, by decide +kernel⟩
theorem dX7_init_0 : decode cX7_init 0 = .ok (.aload_n 0, 1) := by decide +kernel
theorem dX7_init_1 : decode cX7_init 1 = .ok (.invokespecial 3, 3) := by decide +kernel
theorem dX7_init_4 : decode cX7_init 4 = .ok (.aload_n 0, 1) := by decide +kernel
theorem dX7_init_5 : decode cX7_init 5 = .ok (.aload_n 1, 1) := by decide +kernel
theorem dX7_init_6 : decode cX7_init 6 = .ok (.putfield 9, 3) := by decide +kernel
theorem dX7_init_9 : decode cX7_init 9 = .ok (.aload_n 0, 1) := by decide +kernel
theorem dX7_init_10 : decode cX7_init 10 = .ok (.aload_n 2, 1) := by decide +kernel
theorem dX7_init_11 : decode cX7_init 11 = .ok (.putfield 15, 3) := by decide +kernel
theorem dX7_init_14 : decode cX7_init 14 = .ok (.aload_n 0, 1) := by decide +kernel
theorem dX7_init_15 : decode cX7_init 15 = .ok (.sipush 168, 3) := by decide +kernel
theorem dX7_init_18 : decode cX7_init 18 = .ok (.newarray .long, 2) := by decide +kernel
theorem dX7_init_20 : decode cX7_init 20 = .ok (.putfield 19, 3) := by decide +kernel
theorem dX7_init_23 : decode cX7_init 23 = .ok (.aload_n 0, 1) := by decide +kernel
theorem dX7_init_24 : decode cX7_init 24 = .ok (.iconst (-1), 1) := by decide +kernel
theorem dX7_init_25 : decode cX7_init 25 = .ok (.putfield 23, 3) := by decide +kernel
theorem dX7_init_28 : decode cX7_init 28 = .ok (.return_, 1) := by decide +kernel
theorem hy_X7_init : yX7_init.cls ≠ "java/lang/invoke/MethodHandle" ∧ yX7_init.cls ≠ "java/lang/invoke/VarHandle" ∧ (parseMethodDescriptor yX7_init.desc).map (fun d => d.parameters.length) = some 2 := ⟨by decide, by decide, by decide +kernel⟩
def f_X7_init (o : Nat) (p1 : Nat) (p2 : Nat) (S : wS) : Option ((Unit) × wS) :=
  o_pR 7 6 o (some p1) S fun S1 =>
  o_pR 7 7 o (some p2) S1 fun S2 =>
  o_newA 22 168 S2 fun a1 S3 =>
  o_pR 7 8 o (some a1) S3 fun S4 =>
  o_pI 7 10 o (-1) S4 fun S5 =>
  some ((), S5)
set_option maxHeartbeats 4000000 in
set_option maxRecDepth 100000 in
theorem c_X7_init {l : Launch} {D : va_G} {Y : Nat → ClassId} {aR : Nat → Nat} {A : Nat → Prop} {o : Nat} {p1 : Nat} {p2 : Nat} {S S' : wS} {r : Unit} (hf : f_X7_init o p1 p2 S = some (r, S')) : jq_S l D Y aR A yX7_init cX7_init 3 none 1 12 [.ref o, .ref p1, .ref p2] S none S' := by
  unfold f_X7_init at hf
  refine jq_enterS (by decide) (Nat.le_of_ble_eq_true rfl) fun p e s m args below meth c ls H locs hX hJ hl => ?_
  have hl : lv_has ls 3 [(0, .ref o), (1, .ref p1), (2, .ref p2)] := hl
  have hx := hX.1
  have hb := hX.2.1
  have hm := hX.2.2.1
  have ho := hX.2.2.2.1
  have ht := hX.2.2.2.2.1
  have hn := hX.2.2.2.2.2.1.2.1
  refine lv_aload_n hx hb dX7_init_0 rfl (lv_at hl 0 rfl) ?_
  refine W.objInit hx hb ho (ht _ qw75) (ht _ qw23) (ht _ qw24) rfl (hl.1.trans hm.symm) rfl dX7_init_1 (Nat.le_of_ble_eq_true rfl) (Nat.le_of_ble_eq_true rfl) ?_
  refine W.eq (g2 := F0 m 4 ls []) rfl ?_
  refine lv_aload_n hx hb dX7_init_4 rfl (lv_at hl 0 rfl) ?_
  refine lv_aload_n hx hb dX7_init_5 rfl (lv_at hl 1 rfl) ?_
  replace hf := o_pR_e hf
  obtain ⟨hk5, S1, hS1, hf⟩ := hf
  refine pf_X7_handles hX hJ hk5 hS1 rfl rfl qw76 dX7_init_6 (fun H locs hJ' => ?_)
  clear hJ
  have hJ := hJ'
  clear hJ'
  refine lv_aload_n hx hb dX7_init_9 rfl (lv_at hl 0 rfl) ?_
  refine lv_aload_n hx hb dX7_init_10 rfl (lv_at hl 2 rfl) ?_
  replace hf := o_pR_e hf
  obtain ⟨hk4, S2, hS2, hf⟩ := hf
  refine pf_X7_rows hX hJ hk4 hS2 rfl rfl qw77 dX7_init_11 (fun H locs hJ' => ?_)
  clear hJ
  have hJ := hJ'
  clear hJ'
  refine lv_aload_n hx hb dX7_init_14 rfl (lv_at hl 0 rfl) ?_
  refine lv_sipush (v := 168) hx hb dX7_init_15 (by decide) ?_
  replace hf := o_newA_e hf
  obtain ⟨hk1, a1, S3, ha1, hS3, hf⟩ := hf
  refine na_L hX hJ hk1 ha1 hS3 dX7_init_18 (fun H hJ' => ?_)
  clear hJ
  have hJ := hJ'
  clear hJ'
  replace hf := o_pR_e hf
  obtain ⟨hk3, S4, hS4, hf⟩ := hf
  refine pf_X7_frames hX hJ hk3 hS4 rfl rfl qw78 dX7_init_20 (fun H locs hJ' => ?_)
  clear hJ
  have hJ := hJ'
  clear hJ'
  refine lv_aload_n hx hb dX7_init_23 rfl (lv_at hl 0 rfl) ?_
  refine lv_iconst (v := (-1)) hx hb dX7_init_24 (by decide) ?_
  replace hf := o_pI_e hf
  obtain ⟨hk2, S5, hS5, hf⟩ := hf
  refine pf_X7_failedLast hX hJ hk2 hS5 qw83 dX7_init_25 (fun H locs hJ' => ?_)
  clear hJ
  have hJ := hJ'
  clear hJ'
  obtain ⟨rfl, rfl⟩ := Prod.mk.inj (Option.some.inj hf)
  exact jq_vret hX hJ.2.2 dX7_init_28 ⟨rfl, rfl, rfl, hJ.1, hJ.2.1⟩
theorem dX7_forget_0 : decode cX7_forget 0 = .ok (.aload_n 0, 1) := by decide +kernel
theorem dX7_forget_1 : decode cX7_forget 1 = .ok (.iconst 0, 1) := by decide +kernel
theorem dX7_forget_2 : decode cX7_forget 2 = .ok (.putfield 27, 3) := by decide +kernel
theorem dX7_forget_5 : decode cX7_forget 5 = .ok (.aload_n 0, 1) := by decide +kernel
theorem dX7_forget_6 : decode cX7_forget 6 = .ok (.iconst 0, 1) := by decide +kernel
theorem dX7_forget_7 : decode cX7_forget 7 = .ok (.putfield 30, 3) := by decide +kernel
theorem dX7_forget_10 : decode cX7_forget 10 = .ok (.aload_n 0, 1) := by decide +kernel
theorem dX7_forget_11 : decode cX7_forget 11 = .ok (.iconst (-1), 1) := by decide +kernel
theorem dX7_forget_12 : decode cX7_forget 12 = .ok (.putfield 23, 3) := by decide +kernel
theorem dX7_forget_15 : decode cX7_forget 15 = .ok (.aload_n 0, 1) := by decide +kernel
theorem dX7_forget_16 : decode cX7_forget 16 = .ok (.iconst 0, 1) := by decide +kernel
theorem dX7_forget_17 : decode cX7_forget 17 = .ok (.putfield 33, 3) := by decide +kernel
theorem dX7_forget_20 : decode cX7_forget 20 = .ok (.return_, 1) := by decide +kernel
theorem hy_X7_forget : yX7_forget.cls ≠ "java/lang/invoke/MethodHandle" ∧ yX7_forget.cls ≠ "java/lang/invoke/VarHandle" ∧ (parseMethodDescriptor yX7_forget.desc).map (fun d => d.parameters.length) = some 0 := ⟨by decide, by decide, by decide +kernel⟩
def f_X7_forget (o : Nat) (S : wS) : Option ((Unit) × wS) :=
  o_pI 7 8 o 0 S fun S1 =>
  o_pI 7 9 o 0 S1 fun S2 =>
  o_pI 7 10 o (-1) S2 fun S3 =>
  o_pI 7 11 o 0 S3 fun S4 =>
  some ((), S4)
set_option maxHeartbeats 4000000 in
set_option maxRecDepth 100000 in
theorem c_X7_forget {l : Launch} {D : va_G} {Y : Nat → ClassId} {aR : Nat → Nat} {A : Nat → Prop} {o : Nat} {S S' : wS} {r : Unit} (hf : f_X7_forget o S = some (r, S')) : jq_S l D Y aR A yX7_forget cX7_forget 1 none 0 0 [.ref o] S none S' := by
  unfold f_X7_forget at hf
  refine jq_enterS (by decide) (Nat.le_of_ble_eq_true rfl) fun p e s m args below meth c ls H locs hX hJ hl => ?_
  have hl : lv_has ls 1 [(0, .ref o)] := hl
  have hx := hX.1
  have hb := hX.2.1
  have hm := hX.2.2.1
  have ho := hX.2.2.2.1
  have ht := hX.2.2.2.2.1
  have hn := hX.2.2.2.2.2.1.2.1
  refine lv_aload_n hx hb dX7_forget_0 rfl (lv_at hl 0 rfl) ?_
  refine lv_iconst (v := 0) hx hb dX7_forget_1 (by decide) ?_
  replace hf := o_pI_e hf
  obtain ⟨hk4, S1, hS1, hf⟩ := hf
  refine pf_X7_steps hX hJ hk4 hS1 qw79 dX7_forget_2 (fun H locs hJ' => ?_)
  clear hJ
  have hJ := hJ'
  clear hJ'
  refine lv_aload_n hx hb dX7_forget_5 rfl (lv_at hl 0 rfl) ?_
  refine lv_iconst (v := 0) hx hb dX7_forget_6 (by decide) ?_
  replace hf := o_pI_e hf
  obtain ⟨hk3, S2, hS2, hf⟩ := hf
  refine pf_X7_failures hX hJ hk3 hS2 qw81 dX7_forget_7 (fun H locs hJ' => ?_)
  clear hJ
  have hJ := hJ'
  clear hJ'
  refine lv_aload_n hx hb dX7_forget_10 rfl (lv_at hl 0 rfl) ?_
  refine lv_iconst (v := (-1)) hx hb dX7_forget_11 (by decide) ?_
  replace hf := o_pI_e hf
  obtain ⟨hk2, S3, hS3, hf⟩ := hf
  refine pf_X7_failedLast hX hJ hk2 hS3 qw83 dX7_forget_12 (fun H locs hJ' => ?_)
  clear hJ
  have hJ := hJ'
  clear hJ'
  refine lv_aload_n hx hb dX7_forget_15 rfl (lv_at hl 0 rfl) ?_
  refine lv_iconst (v := 0) hx hb dX7_forget_16 (by decide) ?_
  replace hf := o_pI_e hf
  obtain ⟨hk1, S4, hS4, hf⟩ := hf
  refine pf_X7_failure hX hJ hk1 hS4 qw85 dX7_forget_17 (fun H locs hJ' => ?_)
  clear hJ
  have hJ := hJ'
  clear hJ'
  obtain ⟨rfl, rfl⟩ := Prod.mk.inj (Option.some.inj hf)
  exact jq_vret hX hJ.2.2 dX7_forget_20 ⟨rfl, rfl, rfl, hJ.1, hJ.2.1⟩
theorem dX7_hand_0 : decode cX7_hand 0 = .ok (.iload_n 1, 1) := by decide +kernel
theorem dX7_hand_1 : decode cX7_hand 1 = .ok (.iload_n 2, 1) := by decide +kernel
theorem dX7_hand_2 : decode cX7_hand 2 = .ok (.invokestatic 36, 3) := by decide +kernel
theorem dX7_hand_5 : decode cX7_hand 5 = .ok (.istore 5, 2) := by decide +kernel
theorem dX7_hand_7 : decode cX7_hand 7 = .ok (.iload 5, 2) := by decide +kernel
theorem dX7_hand_9 : decode cX7_hand 9 = .ok (.ifCond .lt 21, 3) := by decide +kernel
theorem dX7_hand_30 : decode cX7_hand 30 = .ok (.return_, 1) := by decide +kernel
theorem dX7_hand_12 : decode cX7_hand 12 = .ok (.iload 5, 2) := by decide +kernel
theorem dX7_hand_14 : decode cX7_hand 14 = .ok (.aload_n 0, 1) := by decide +kernel
theorem dX7_hand_15 : decode cX7_hand 15 = .ok (.getfield 19, 3) := by decide +kernel
theorem dX7_hand_18 : decode cX7_hand 18 = .ok (.arraylength, 1) := by decide +kernel
theorem dX7_hand_19 : decode cX7_hand 19 = .ok (.if_icmp .ge 11, 3) := by decide +kernel
theorem dX7_hand_22 : decode cX7_hand 22 = .ok (.aload_n 0, 1) := by decide +kernel
theorem dX7_hand_23 : decode cX7_hand 23 = .ok (.getfield 19, 3) := by decide +kernel
theorem dX7_hand_26 : decode cX7_hand 26 = .ok (.iload 5, 2) := by decide +kernel
theorem dX7_hand_28 : decode cX7_hand 28 = .ok (.lload_n 3, 1) := by decide +kernel
theorem dX7_hand_29 : decode cX7_hand 29 = .ok (.lastore, 1) := by decide +kernel
theorem hy_X7_hand : yX7_hand.cls ≠ "java/lang/invoke/MethodHandle" ∧ yX7_hand.cls ≠ "java/lang/invoke/VarHandle" ∧ (parseMethodDescriptor yX7_hand.desc).map (fun d => d.parameters.length) = some 3 := ⟨by decide, by decide, by decide +kernel⟩
def f_X7_hand (o : Nat) (p1 : Int32) (p2 : Int32) (p3 : Int64) (S : wS) : Option ((Unit) × wS) :=
  o_cP (f_X7_slot p1 p2) fun x1 =>
  if x1 < 0 then (
  some ((), S)) else (
  o_gR 7 8 o S fun x2 =>
  o_cs x2 (none) (fun a1 =>
  o_len 22 a1 S fun x3 =>
  if x3 ≤ x1 then (
  some ((), S)) else (
  o_gR 7 8 o S fun x4 =>
  o_cs x4 (none) (fun a2 =>
  o_wL a2 x1 p3 S fun S1 =>
  some ((), S1)))))
set_option maxHeartbeats 4000000 in
set_option maxRecDepth 100000 in
theorem c_X7_hand {l : Launch} {D : va_G} {Y : Nat → ClassId} {aR : Nat → Nat} {A : Nat → Prop} {o : Nat} {p1 : Int32} {p2 : Int32} {p3 : Int64} {S S' : wS} {r : Unit} (hf : f_X7_hand o p1 p2 p3 S = some (r, S')) : jq_S l D Y aR A yX7_hand cX7_hand 6 none 1 22 [.ref o, .int p1, .int p2, .long p3] S none S' := by
  unfold f_X7_hand at hf
  refine jq_enterS (by decide) (Nat.le_of_ble_eq_true rfl) fun p e s m args below meth c ls H locs hX hJ hl => ?_
  have hl : lv_has ls 6 [(0, .ref o), (1, .int p1), (2, .int p2), (3, .long p3)] := hl
  have hx := hX.1
  have hb := hX.2.1
  have hm := hX.2.2.1
  have ho := hX.2.2.2.1
  have ht := hX.2.2.2.2.1
  have hn := hX.2.2.2.2.2.1.2.1
  refine lv_iload_n hx hb dX7_hand_0 rfl (lv_at hl 1 rfl) ?_
  refine lv_iload_n hx hb dX7_hand_1 rfl (lv_at hl 2 rfl) ?_
  replace hf := o_cP_e hf
  obtain ⟨x1, hq1, hf⟩ := hf
  refine jq_doPS hX hJ (jq_okS (As := [.int p1, .int p2]) (rest := []) hx hb hm ho ht qw528 qw529 qw530 qw5 hy_X7_slot rfl hl.1 (Nat.le_of_ble_eq_true rfl) dX7_hand_2) (c_X7_slot hq1) (Nat.le_of_ble_eq_true rfl) (Nat.le_of_ble_eq_true rfl) (fun locs hJ' => ?_)
  clear hJ
  have hJ := hJ'
  clear hJ'
  refine lv_istore (lv' := [(5, .int x1), (0, .ref o), (1, .int p1), (2, .int p2), (3, .long p3)]) hx hb dX7_hand_5 hl (by decide) rfl (fun ls hl' => ?_)
  clear hl
  have hl := hl'
  clear hl'
  refine lv_iload hx hb dX7_hand_7 (lv_at hl 0 rfl) ?_
  refine lv_if_lt (tgt := 30) hx hb dX7_hand_9 (by decide) (fun c1 => ?_) (fun c1 => ?_)
  · replace hf := o_t hf c1
    obtain ⟨rfl, rfl⟩ := Prod.mk.inj (Option.some.inj hf)
    exact jq_vret hX hJ.2.2 dX7_hand_30 ⟨rfl, rfl, rfl, hJ.1, hJ.2.1⟩
  · replace hf := o_f hf c1
    refine lv_iload hx hb dX7_hand_12 (lv_at hl 0 rfl) ?_
    refine lv_aload_n hx hb dX7_hand_14 rfl (lv_at hl 1 rfl) ?_
    replace hf := o_gR_e hf
    obtain ⟨hk1, x2, hx2, hf⟩ := hf
    refine gf_X7_frames hX hJ hk1 hx2 qw78 dX7_hand_15 ?_
    replace hf := o_cs_e hf
    rcases hf with ⟨hr1, hf⟩ | ⟨a1, hr1, hf⟩
    · subst hr1
      cases hf
    · subst hr1
      replace hf := o_len_e hf
      obtain ⟨hk2, x3, hx3, hf⟩ := hf
      refine gl_L hX hJ hk2 hx3 dX7_hand_18 ?_
      refine lv_icmp_ge (tgt := 30) hx hb dX7_hand_19 (by decide) (fun c2 => ?_) (fun c2 => ?_)
      · replace hf := o_t hf c2
        obtain ⟨rfl, rfl⟩ := Prod.mk.inj (Option.some.inj hf)
        exact jq_vret hX hJ.2.2 dX7_hand_30 ⟨rfl, rfl, rfl, hJ.1, hJ.2.1⟩
      · replace hf := o_f hf c2
        refine lv_aload_n hx hb dX7_hand_22 rfl (lv_at hl 1 rfl) ?_
        replace hf := o_gR_e hf
        obtain ⟨hk3, x4, hx4, hf⟩ := hf
        refine gf_X7_frames hX hJ hk3 hx4 qw78 dX7_hand_23 ?_
        refine lv_iload hx hb dX7_hand_26 (lv_at hl 0 rfl) ?_
        refine lv_lload_n hx hb dX7_hand_28 rfl (lv_at hl 4 rfl) ?_
        replace hf := o_cs_e hf
        rcases hf with ⟨hr2, hf⟩ | ⟨a2, hr2, hf⟩
        · subst hr2
          cases hf
        · subst hr2
          replace hf := o_wL_e hf
          obtain ⟨hk4, S1, hS1, hf⟩ := hf
          refine wa_L hX hJ hk4 hS1 dX7_hand_29 (fun H locs hJ' => ?_)
          clear hJ
          have hJ := hJ'
          clear hJ'
          obtain ⟨rfl, rfl⟩ := Prod.mk.inj (Option.some.inj hf)
          exact jq_vret hX hJ.2.2 dX7_hand_30 ⟨rfl, rfl, rfl, hJ.1, hJ.2.1⟩
theorem dX7_spent_0 : decode cX7_spent 0 = .ok (.aload_n 0, 1) := by decide +kernel
theorem dX7_spent_1 : decode cX7_spent 1 = .ok (.iload_n 1, 1) := by decide +kernel
theorem dX7_spent_2 : decode cX7_spent 2 = .ok (.putfield 23, 3) := by decide +kernel
theorem dX7_spent_5 : decode cX7_spent 5 = .ok (.aload_n 0, 1) := by decide +kernel
theorem dX7_spent_6 : decode cX7_spent 6 = .ok (.bipush 7, 2) := by decide +kernel
theorem dX7_spent_8 : decode cX7_spent 8 = .ok (.putfield 33, 3) := by decide +kernel
theorem dX7_spent_11 : decode cX7_spent 11 = .ok (.lconst 0, 1) := by decide +kernel
theorem dX7_spent_12 : decode cX7_spent 12 = .ok (.lreturn, 1) := by decide +kernel
theorem hy_X7_spent : yX7_spent.cls ≠ "java/lang/invoke/MethodHandle" ∧ yX7_spent.cls ≠ "java/lang/invoke/VarHandle" ∧ (parseMethodDescriptor yX7_spent.desc).map (fun d => d.parameters.length) = some 1 := ⟨by decide, by decide, by decide +kernel⟩
def f_X7_spent (o : Nat) (p1 : Int32) (S : wS) : Option ((Int64) × wS) :=
  o_pI 7 10 o p1 S fun S1 =>
  o_pI 7 11 o 7 S1 fun S2 =>
  some (0, S2)
set_option maxHeartbeats 4000000 in
set_option maxRecDepth 100000 in
theorem c_X7_spent {l : Launch} {D : va_G} {Y : Nat → ClassId} {aR : Nat → Nat} {A : Nat → Prop} {o : Nat} {p1 : Int32} {S S' : wS} {r : Int64} (hf : f_X7_spent o p1 S = some (r, S')) : jq_S l D Y aR A yX7_spent cX7_spent 2 (some .long) 0 0 [.ref o, .int p1] S (some (.long r)) S' := by
  unfold f_X7_spent at hf
  refine jq_enterS (by decide) (Nat.le_of_ble_eq_true rfl) fun p e s m args below meth c ls H locs hX hJ hl => ?_
  have hl : lv_has ls 2 [(0, .ref o), (1, .int p1)] := hl
  have hx := hX.1
  have hb := hX.2.1
  have hm := hX.2.2.1
  have ho := hX.2.2.2.1
  have ht := hX.2.2.2.2.1
  have hn := hX.2.2.2.2.2.1.2.1
  refine lv_aload_n hx hb dX7_spent_0 rfl (lv_at hl 0 rfl) ?_
  refine lv_iload_n hx hb dX7_spent_1 rfl (lv_at hl 1 rfl) ?_
  replace hf := o_pI_e hf
  obtain ⟨hk2, S1, hS1, hf⟩ := hf
  refine pf_X7_failedLast hX hJ hk2 hS1 qw83 dX7_spent_2 (fun H locs hJ' => ?_)
  clear hJ
  have hJ := hJ'
  clear hJ'
  refine lv_aload_n hx hb dX7_spent_5 rfl (lv_at hl 0 rfl) ?_
  refine lv_bipush (v := 7) hx hb dX7_spent_6 (by decide) ?_
  replace hf := o_pI_e hf
  obtain ⟨hk1, S2, hS2, hf⟩ := hf
  refine pf_X7_failure hX hJ hk1 hS2 qw85 dX7_spent_8 (fun H locs hJ' => ?_)
  clear hJ
  have hJ := hJ'
  clear hJ'
  refine lv_lconst (v := 0) hx hb dX7_spent_11 (by decide) ?_
  obtain ⟨rfl, rfl⟩ := Prod.mk.inj (Option.some.inj hf)
  exact jq_lret hX hJ.2.2 dX7_spent_12 ⟨rfl, rfl, rfl, hJ.1, hJ.2.1⟩
theorem dX7_taken_0 : decode cX7_taken 0 = .ok (.iload_n 1, 1) := by decide +kernel
theorem dX7_taken_1 : decode cX7_taken 1 = .ok (.iload_n 2, 1) := by decide +kernel
theorem dX7_taken_2 : decode cX7_taken 2 = .ok (.invokestatic 36, 3) := by decide +kernel
theorem dX7_taken_5 : decode cX7_taken 5 = .ok (.istore_n 3, 1) := by decide +kernel
theorem dX7_taken_6 : decode cX7_taken 6 = .ok (.iload_n 3, 1) := by decide +kernel
theorem dX7_taken_7 : decode cX7_taken 7 = .ok (.ifCond .lt 21, 3) := by decide +kernel
theorem dX7_taken_28 : decode cX7_taken 28 = .ok (.lconst 0, 1) := by decide +kernel
theorem dX7_taken_29 : decode cX7_taken 29 = .ok (.lreturn, 1) := by decide +kernel
theorem dX7_taken_10 : decode cX7_taken 10 = .ok (.iload_n 3, 1) := by decide +kernel
theorem dX7_taken_11 : decode cX7_taken 11 = .ok (.aload_n 0, 1) := by decide +kernel
theorem dX7_taken_12 : decode cX7_taken 12 = .ok (.getfield 19, 3) := by decide +kernel
theorem dX7_taken_15 : decode cX7_taken 15 = .ok (.arraylength, 1) := by decide +kernel
theorem dX7_taken_16 : decode cX7_taken 16 = .ok (.if_icmp .ge 12, 3) := by decide +kernel
theorem dX7_taken_19 : decode cX7_taken 19 = .ok (.aload_n 0, 1) := by decide +kernel
theorem dX7_taken_20 : decode cX7_taken 20 = .ok (.getfield 19, 3) := by decide +kernel
theorem dX7_taken_23 : decode cX7_taken 23 = .ok (.iload_n 3, 1) := by decide +kernel
theorem dX7_taken_24 : decode cX7_taken 24 = .ok (.laload, 1) := by decide +kernel
theorem dX7_taken_25 : decode cX7_taken 25 = .ok (.goto 4, 3) := by decide +kernel
theorem hy_X7_taken : yX7_taken.cls ≠ "java/lang/invoke/MethodHandle" ∧ yX7_taken.cls ≠ "java/lang/invoke/VarHandle" ∧ (parseMethodDescriptor yX7_taken.desc).map (fun d => d.parameters.length) = some 2 := ⟨by decide, by decide, by decide +kernel⟩
def f_X7_taken (o : Nat) (p1 : Int32) (p2 : Int32) (S : wS) : Option ((Int64) × wS) :=
  o_cP (f_X7_slot p1 p2) fun x1 =>
  if x1 < 0 then (
  some (0, S)) else (
  o_gR 7 8 o S fun x2 =>
  o_cs x2 (none) (fun a1 =>
  o_len 22 a1 S fun x3 =>
  if x3 ≤ x1 then (
  some (0, S)) else (
  o_gR 7 8 o S fun x4 =>
  o_cs x4 (none) (fun a2 =>
  o_rL a2 x1 S fun x5 =>
  some (x5, S)))))
set_option maxHeartbeats 4000000 in
set_option maxRecDepth 100000 in
theorem c_X7_taken {l : Launch} {D : va_G} {Y : Nat → ClassId} {aR : Nat → Nat} {A : Nat → Prop} {o : Nat} {p1 : Int32} {p2 : Int32} {S S' : wS} {r : Int64} (hf : f_X7_taken o p1 p2 S = some (r, S')) : jq_S l D Y aR A yX7_taken cX7_taken 4 (some .long) 1 22 [.ref o, .int p1, .int p2] S (some (.long r)) S' := by
  unfold f_X7_taken at hf
  refine jq_enterS (by decide) (Nat.le_of_ble_eq_true rfl) fun p e s m args below meth c ls H locs hX hJ hl => ?_
  have hl : lv_has ls 4 [(0, .ref o), (1, .int p1), (2, .int p2)] := hl
  have hx := hX.1
  have hb := hX.2.1
  have hm := hX.2.2.1
  have ho := hX.2.2.2.1
  have ht := hX.2.2.2.2.1
  have hn := hX.2.2.2.2.2.1.2.1
  refine lv_iload_n hx hb dX7_taken_0 rfl (lv_at hl 1 rfl) ?_
  refine lv_iload_n hx hb dX7_taken_1 rfl (lv_at hl 2 rfl) ?_
  replace hf := o_cP_e hf
  obtain ⟨x1, hq1, hf⟩ := hf
  refine jq_doPS hX hJ (jq_okS (As := [.int p1, .int p2]) (rest := []) hx hb hm ho ht qw528 qw529 qw530 qw5 hy_X7_slot rfl hl.1 (Nat.le_of_ble_eq_true rfl) dX7_taken_2) (c_X7_slot hq1) (Nat.le_of_ble_eq_true rfl) (Nat.le_of_ble_eq_true rfl) (fun locs hJ' => ?_)
  clear hJ
  have hJ := hJ'
  clear hJ'
  refine lv_istore_n (lv' := [(3, .int x1), (0, .ref o), (1, .int p1), (2, .int p2)]) hx hb dX7_taken_5 rfl hl (by decide) rfl (fun ls hl' => ?_)
  clear hl
  have hl := hl'
  clear hl'
  refine lv_iload_n hx hb dX7_taken_6 rfl (lv_at hl 0 rfl) ?_
  refine lv_if_lt (tgt := 28) hx hb dX7_taken_7 (by decide) (fun c1 => ?_) (fun c1 => ?_)
  · replace hf := o_t hf c1
    refine lv_lconst (v := 0) hx hb dX7_taken_28 (by decide) ?_
    obtain ⟨rfl, rfl⟩ := Prod.mk.inj (Option.some.inj hf)
    exact jq_lret hX hJ.2.2 dX7_taken_29 ⟨rfl, rfl, rfl, hJ.1, hJ.2.1⟩
  · replace hf := o_f hf c1
    refine lv_iload_n hx hb dX7_taken_10 rfl (lv_at hl 0 rfl) ?_
    refine lv_aload_n hx hb dX7_taken_11 rfl (lv_at hl 1 rfl) ?_
    replace hf := o_gR_e hf
    obtain ⟨hk1, x2, hx2, hf⟩ := hf
    refine gf_X7_frames hX hJ hk1 hx2 qw78 dX7_taken_12 ?_
    replace hf := o_cs_e hf
    rcases hf with ⟨hr1, hf⟩ | ⟨a1, hr1, hf⟩
    · subst hr1
      cases hf
    · subst hr1
      replace hf := o_len_e hf
      obtain ⟨hk2, x3, hx3, hf⟩ := hf
      refine gl_L hX hJ hk2 hx3 dX7_taken_15 ?_
      refine lv_icmp_ge (tgt := 28) hx hb dX7_taken_16 (by decide) (fun c2 => ?_) (fun c2 => ?_)
      · replace hf := o_t hf c2
        refine lv_lconst (v := 0) hx hb dX7_taken_28 (by decide) ?_
        obtain ⟨rfl, rfl⟩ := Prod.mk.inj (Option.some.inj hf)
        exact jq_lret hX hJ.2.2 dX7_taken_29 ⟨rfl, rfl, rfl, hJ.1, hJ.2.1⟩
      · replace hf := o_f hf c2
        refine lv_aload_n hx hb dX7_taken_19 rfl (lv_at hl 1 rfl) ?_
        replace hf := o_gR_e hf
        obtain ⟨hk3, x4, hx4, hf⟩ := hf
        refine gf_X7_frames hX hJ hk3 hx4 qw78 dX7_taken_20 ?_
        refine lv_iload_n hx hb dX7_taken_23 rfl (lv_at hl 0 rfl) ?_
        replace hf := o_cs_e hf
        rcases hf with ⟨hr2, hf⟩ | ⟨a2, hr2, hf⟩
        · subst hr2
          cases hf
        · subst hr2
          replace hf := o_rL_e hf
          obtain ⟨hk4, x5, hx5, hf⟩ := hf
          refine ga_L hX hJ hk4 hx5 dX7_taken_24 ?_
          refine lv_goto (tgt := 29) hx hb dX7_taken_25 (by decide) ?_
          obtain ⟨rfl, rfl⟩ := Prod.mk.inj (Option.some.inj hf)
          exact jq_lret hX hJ.2.2 dX7_taken_29 ⟨rfl, rfl, rfl, hJ.1, hJ.2.1⟩
theorem dX7_fail_0 : decode cX7_fail 0 = .ok (.aload_n 0, 1) := by decide +kernel
theorem dX7_fail_1 : decode cX7_fail 1 = .ok (.aload_n 1, 1) := by decide +kernel
theorem dX7_fail_2 : decode cX7_fail 2 = .ok (.getfield 53, 3) := by decide +kernel
theorem dX7_fail_5 : decode cX7_fail 5 = .ok (.putfield 23, 3) := by decide +kernel
theorem dX7_fail_8 : decode cX7_fail 8 = .ok (.aload_n 0, 1) := by decide +kernel
theorem dX7_fail_9 : decode cX7_fail 9 = .ok (.getfield 30, 3) := by decide +kernel
theorem dX7_fail_12 : decode cX7_fail 12 = .ok (.bipush 24, 2) := by decide +kernel
theorem dX7_fail_14 : decode cX7_fail 14 = .ok (.if_icmp .ne 11, 3) := by decide +kernel
theorem dX7_fail_25 : decode cX7_fail 25 = .ok (.aload_n 0, 1) := by decide +kernel
theorem dX7_fail_26 : decode cX7_fail 26 = .ok (.dup, 1) := by decide +kernel
theorem dX7_fail_27 : decode cX7_fail 27 = .ok (.getfield 30, 3) := by decide +kernel
theorem dX7_fail_30 : decode cX7_fail 30 = .ok (.iconst 1, 1) := by decide +kernel
theorem dX7_fail_31 : decode cX7_fail 31 = .ok (.iadd, 1) := by decide +kernel
theorem dX7_fail_32 : decode cX7_fail 32 = .ok (.putfield 30, 3) := by decide +kernel
theorem dX7_fail_35 : decode cX7_fail 35 = .ok (.aload_n 0, 1) := by decide +kernel
theorem dX7_fail_36 : decode cX7_fail 36 = .ok (.iload_n 2, 1) := by decide +kernel
theorem dX7_fail_37 : decode cX7_fail 37 = .ok (.putfield 33, 3) := by decide +kernel
theorem dX7_fail_40 : decode cX7_fail 40 = .ok (.lconst 0, 1) := by decide +kernel
theorem dX7_fail_41 : decode cX7_fail 41 = .ok (.lreturn, 1) := by decide +kernel
theorem dX7_fail_17 : decode cX7_fail 17 = .ok (.aload_n 0, 1) := by decide +kernel
theorem dX7_fail_18 : decode cX7_fail 18 = .ok (.bipush 7, 2) := by decide +kernel
theorem dX7_fail_20 : decode cX7_fail 20 = .ok (.putfield 33, 3) := by decide +kernel
theorem dX7_fail_23 : decode cX7_fail 23 = .ok (.lconst 0, 1) := by decide +kernel
theorem dX7_fail_24 : decode cX7_fail 24 = .ok (.lreturn, 1) := by decide +kernel
theorem hy_X7_fail : yX7_fail.cls ≠ "java/lang/invoke/MethodHandle" ∧ yX7_fail.cls ≠ "java/lang/invoke/VarHandle" ∧ (parseMethodDescriptor yX7_fail.desc).map (fun d => d.parameters.length) = some 2 := ⟨by decide, by decide, by decide +kernel⟩
def f_X7_fail (o : Nat) (p1 : Nat) (p2 : Int32) (S : wS) : Option ((Int64) × wS) :=
  o_gI 1 4 p1 S fun x1 =>
  o_pI 7 10 o x1 S fun S1 =>
  o_gI 7 9 o S1 fun x2 =>
  if x2 = 24 then (
  o_pI 7 11 o 7 S1 fun S4 =>
  some (0, S4)) else (
  o_gI 7 9 o S1 fun x3 =>
  o_pI 7 9 o (x3 + (1 : Int32)) S1 fun S2 =>
  o_pI 7 11 o p2 S2 fun S3 =>
  some (0, S3))
set_option maxHeartbeats 4000000 in
set_option maxRecDepth 100000 in
theorem c_X7_fail {l : Launch} {D : va_G} {Y : Nat → ClassId} {aR : Nat → Nat} {A : Nat → Prop} {o : Nat} {p1 : Nat} {p2 : Int32} {S S' : wS} {r : Int64} (hf : f_X7_fail o p1 p2 S = some (r, S')) : jq_S l D Y aR A yX7_fail cX7_fail 3 (some .long) 0 0 [.ref o, .ref p1, .int p2] S (some (.long r)) S' := by
  unfold f_X7_fail at hf
  refine jq_enterS (by decide) (Nat.le_of_ble_eq_true rfl) fun p e s m args below meth c ls H locs hX hJ hl => ?_
  have hl : lv_has ls 3 [(0, .ref o), (1, .ref p1), (2, .int p2)] := hl
  have hx := hX.1
  have hb := hX.2.1
  have hm := hX.2.2.1
  have ho := hX.2.2.2.1
  have ht := hX.2.2.2.2.1
  have hn := hX.2.2.2.2.2.1.2.1
  refine lv_aload_n hx hb dX7_fail_0 rfl (lv_at hl 0 rfl) ?_
  refine lv_aload_n hx hb dX7_fail_1 rfl (lv_at hl 1 rfl) ?_
  replace hf := o_gI_e hf
  obtain ⟨hk1, x1, hx1, hf⟩ := hf
  refine gn_X0_number hX hJ hk1 hx1 qn291 dX7_fail_2 ?_
  replace hf := o_pI_e hf
  obtain ⟨hk7, S1, hS1, hf⟩ := hf
  refine pf_X7_failedLast hX hJ hk7 hS1 qw83 dX7_fail_5 (fun H locs hJ' => ?_)
  clear hJ
  have hJ := hJ'
  clear hJ'
  refine lv_aload_n hx hb dX7_fail_8 rfl (lv_at hl 0 rfl) ?_
  replace hf := o_gI_e hf
  obtain ⟨hk2, x2, hx2, hf⟩ := hf
  refine gf_X7_failures hX hJ hk2 hx2 qw81 dX7_fail_9 ?_
  refine lv_bipush (v := 24) hx hb dX7_fail_12 (by decide) ?_
  refine lv_icmp_ne (tgt := 25) hx hb dX7_fail_14 (by decide) (fun c1 => ?_) (fun c1 => ?_)
  · replace hf := o_f hf c1
    refine lv_aload_n hx hb dX7_fail_25 rfl (lv_at hl 0 rfl) ?_
    refine lv_dup hx hb dX7_fail_26 rfl ?_
    replace hf := o_gI_e hf
    obtain ⟨hk3, x3, hx3, hf⟩ := hf
    refine gf_X7_failures hX hJ hk3 hx3 qw81 dX7_fail_27 ?_
    refine lv_iconst (v := 1) hx hb dX7_fail_30 (by decide) ?_
    refine lv_iadd hx hb dX7_fail_31 ?_
    replace hf := o_pI_e hf
    obtain ⟨hk5, S2, hS2, hf⟩ := hf
    refine pf_X7_failures hX hJ hk5 hS2 qw81 dX7_fail_32 (fun H locs hJ' => ?_)
    clear hJ
    have hJ := hJ'
    clear hJ'
    refine lv_aload_n hx hb dX7_fail_35 rfl (lv_at hl 0 rfl) ?_
    refine lv_iload_n hx hb dX7_fail_36 rfl (lv_at hl 2 rfl) ?_
    replace hf := o_pI_e hf
    obtain ⟨hk4, S3, hS3, hf⟩ := hf
    refine pf_X7_failure hX hJ hk4 hS3 qw85 dX7_fail_37 (fun H locs hJ' => ?_)
    clear hJ
    have hJ := hJ'
    clear hJ'
    refine lv_lconst (v := 0) hx hb dX7_fail_40 (by decide) ?_
    obtain ⟨rfl, rfl⟩ := Prod.mk.inj (Option.some.inj hf)
    exact jq_lret hX hJ.2.2 dX7_fail_41 ⟨rfl, rfl, rfl, hJ.1, hJ.2.1⟩
  · replace hf := o_t hf c1
    refine lv_aload_n hx hb dX7_fail_17 rfl (lv_at hl 0 rfl) ?_
    refine lv_bipush (v := 7) hx hb dX7_fail_18 (by decide) ?_
    replace hf := o_pI_e hf
    obtain ⟨hk6, S4, hS4, hf⟩ := hf
    refine pf_X7_failure hX hJ hk6 hS4 qw85 dX7_fail_20 (fun H locs hJ' => ?_)
    clear hJ
    have hJ := hJ'
    clear hJ'
    refine lv_lconst (v := 0) hx hb dX7_fail_23 (by decide) ?_
    obtain ⟨rfl, rfl⟩ := Prod.mk.inj (Option.some.inj hf)
    exact jq_lret hX hJ.2.2 dX7_fail_24 ⟨rfl, rfl, rfl, hJ.1, hJ.2.1⟩
theorem dX7_quotient_0 : decode cX7_quotient 0 = .ok (.aload_n 1, 1) := by decide +kernel
theorem dX7_quotient_1 : decode cX7_quotient 1 = .ok (.getfield 71, 3) := by decide +kernel
theorem dX7_quotient_4 : decode cX7_quotient 4 = .ok (.bipush 6, 2) := by decide +kernel
theorem dX7_quotient_6 : decode cX7_quotient 6 = .ok (.if_icmp .ne 13, 3) := by decide +kernel
theorem dX7_quotient_19 : decode cX7_quotient 19 = .ok (.aload_n 1, 1) := by decide +kernel
theorem dX7_quotient_20 : decode cX7_quotient 20 = .ok (.getfield 71, 3) := by decide +kernel
theorem dX7_quotient_23 : decode cX7_quotient 23 = .ok (.bipush 7, 2) := by decide +kernel
theorem dX7_quotient_25 : decode cX7_quotient 25 = .ok (.if_icmp .ne 13, 3) := by decide +kernel
theorem dX7_quotient_38 : decode cX7_quotient 38 = .ok (.lload 4, 2) := by decide +kernel
theorem dX7_quotient_40 : decode cX7_quotient 40 = .ok (.lconst 0, 1) := by decide +kernel
theorem dX7_quotient_41 : decode cX7_quotient 41 = .ok (.lcmp, 1) := by decide +kernel
theorem dX7_quotient_52 : decode cX7_quotient 52 = .ok (.aload_n 1, 1) := by decide +kernel
theorem dX7_quotient_53 : decode cX7_quotient 53 = .ok (.getfield 71, 3) := by decide +kernel
theorem dX7_quotient_56 : decode cX7_quotient 56 = .ok (.iconst 4, 1) := by decide +kernel
theorem dX7_quotient_57 : decode cX7_quotient 57 = .ok (.if_icmp .ne 12, 3) := by decide +kernel
theorem dX7_quotient_69 : decode cX7_quotient 69 = .ok (.lload_n 2, 1) := by decide +kernel
theorem dX7_quotient_70 : decode cX7_quotient 70 = .ok (.lload 4, 2) := by decide +kernel
theorem dX7_quotient_72 : decode cX7_quotient 72 = .ok (.ldiv, 1) := by decide +kernel
theorem dX7_quotient_73 : decode cX7_quotient 73 = .ok (.lreturn, 1) := by decide +kernel
theorem dX7_quotient_60 : decode cX7_quotient 60 = .ok (.lload_n 2, 1) := by decide +kernel
theorem dX7_quotient_61 : decode cX7_quotient 61 = .ok (.lload 4, 2) := by decide +kernel
theorem dX7_quotient_63 : decode cX7_quotient 63 = .ok (.ldiv, 1) := by decide +kernel
theorem dX7_quotient_64 : decode cX7_quotient 64 = .ok (.l2i, 1) := by decide +kernel
theorem dX7_quotient_65 : decode cX7_quotient 65 = .ok (.i2l, 1) := by decide +kernel
theorem dX7_quotient_66 : decode cX7_quotient 66 = .ok (.goto 7, 3) := by decide +kernel
theorem dX7_quotient_45 : decode cX7_quotient 45 = .ok (.aload_n 0, 1) := by decide +kernel
theorem dX7_quotient_46 : decode cX7_quotient 46 = .ok (.aload_n 1, 1) := by decide +kernel
theorem dX7_quotient_47 : decode cX7_quotient 47 = .ok (.iconst 3, 1) := by decide +kernel
theorem dX7_quotient_48 : decode cX7_quotient 48 = .ok (.invokevirtual 138, 3) := by decide +kernel
theorem dX7_quotient_51 : decode cX7_quotient 51 = .ok (.lreturn, 1) := by decide +kernel
theorem dX7_quotient_42 : decode cX7_quotient 42 = .ok (.ifCond .ne 10, 3) := by decide +kernel
theorem dX7_quotient_28 : decode cX7_quotient 28 = .ok (.getstatic 185, 3) := by decide +kernel
theorem dX7_quotient_31 : decode cX7_quotient 31 = .ok (.lload_n 2, 1) := by decide +kernel
theorem dX7_quotient_32 : decode cX7_quotient 32 = .ok (.lload 4, 2) := by decide +kernel
theorem dX7_quotient_34 : decode cX7_quotient 34 = .ok (.invokevirtual 188, 3) := by decide +kernel
theorem dX7_quotient_37 : decode cX7_quotient 37 = .ok (.lreturn, 1) := by decide +kernel
theorem dX7_quotient_9 : decode cX7_quotient 9 = .ok (.getstatic 175, 3) := by decide +kernel
theorem dX7_quotient_12 : decode cX7_quotient 12 = .ok (.lload_n 2, 1) := by decide +kernel
theorem dX7_quotient_13 : decode cX7_quotient 13 = .ok (.lload 4, 2) := by decide +kernel
theorem dX7_quotient_15 : decode cX7_quotient 15 = .ok (.invokevirtual 188, 3) := by decide +kernel
theorem dX7_quotient_18 : decode cX7_quotient 18 = .ok (.lreturn, 1) := by decide +kernel
theorem hy_X7_quotient : yX7_quotient.cls ≠ "java/lang/invoke/MethodHandle" ∧ yX7_quotient.cls ≠ "java/lang/invoke/VarHandle" ∧ (parseMethodDescriptor yX7_quotient.desc).map (fun d => d.parameters.length) = some 3 := ⟨by decide, by decide, by decide +kernel⟩
def f_X7_quotient (o : Nat) (p1 : Nat) (p2 : Int64) (p3 : Int64) (S : wS) : Option ((Int64) × wS) :=
  o_gI 1 1 p1 S fun x1 =>
  if x1 = 6 then (
  o_cP (f_X4_quotientOf 0 p2 p3) fun x6 =>
  some (x6, S)) else (
  o_gI 1 1 p1 S fun x2 =>
  if x2 = 7 then (
  o_cP (f_X4_quotientOf 1 p2 p3) fun x5 =>
  some (x5, S)) else (
  if p3 = 0 then (
  o_ck (s_K S o = 7) (o_call (f_X7_fail o p1 3 S) fun x4 S1 =>
  some (x4, S1))) else (
  o_gI 1 1 p1 S fun x3 =>
  if x3 = 4 then (
  o_ck (¬ p3 = 0) (
  some (((((p2 / p3)).toInt32)).toInt64, S))) else (
  o_ck (¬ p3 = 0) (
  some (p2 / p3, S))))))
set_option maxHeartbeats 4000000 in
set_option maxRecDepth 100000 in
theorem c_X7_quotient {l : Launch} {D : va_G} {Y : Nat → ClassId} {aR : Nat → Nat} {A : Nat → Prop} {o : Nat} {p1 : Nat} {p2 : Int64} {p3 : Int64} {S S' : wS} {r : Int64} (hf : f_X7_quotient o p1 p2 p3 S = some (r, S')) : jq_S l D Y aR A yX7_quotient cX7_quotient 6 (some .long) 4 126 [.ref o, .ref p1, .long p2, .long p3] S (some (.long r)) S' := by
  unfold f_X7_quotient at hf
  refine jq_enterS (by decide) (Nat.le_of_ble_eq_true rfl) fun p e s m args below meth c ls H locs hX hJ hl => ?_
  have hl : lv_has ls 6 [(0, .ref o), (1, .ref p1), (2, .long p2), (4, .long p3)] := hl
  have hx := hX.1
  have hb := hX.2.1
  have hm := hX.2.2.1
  have ho := hX.2.2.2.1
  have ht := hX.2.2.2.2.1
  have hn := hX.2.2.2.2.2.1.2.1
  refine lv_aload_n hx hb dX7_quotient_0 rfl (lv_at hl 1 rfl) ?_
  replace hf := o_gI_e hf
  obtain ⟨hk1, x1, hx1, hf⟩ := hf
  refine gn_X0_a hX hJ hk1 hx1 qn275 dX7_quotient_1 ?_
  refine lv_bipush (v := 6) hx hb dX7_quotient_4 (by decide) ?_
  refine lv_icmp_ne (tgt := 19) hx hb dX7_quotient_6 (by decide) (fun c1 => ?_) (fun c1 => ?_)
  · replace hf := o_f hf c1
    refine lv_aload_n hx hb dX7_quotient_19 rfl (lv_at hl 1 rfl) ?_
    replace hf := o_gI_e hf
    obtain ⟨hk2, x2, hx2, hf⟩ := hf
    refine gn_X0_a hX hJ hk2 hx2 qn275 dX7_quotient_20 ?_
    refine lv_bipush (v := 7) hx hb dX7_quotient_23 (by decide) ?_
    refine lv_icmp_ne (tgt := 38) hx hb dX7_quotient_25 (by decide) (fun c2 => ?_) (fun c2 => ?_)
    · replace hf := o_f hf c2
      refine lv_lload hx hb dX7_quotient_38 (lv_at hl 3 rfl) ?_
      refine lv_lconst (v := 0) hx hb dX7_quotient_40 (by decide) ?_
      refine W.lcmp hx hb dX7_quotient_41 ?_
      refine lv_if_ne (tgt := 52) hx hb dX7_quotient_42 (by decide) (fun c3 => ?_) (fun c3 => ?_)
      · replace hf := o_f hf (fun z => c3 (qc_eq.mpr z))
        refine lv_aload_n hx hb dX7_quotient_52 rfl (lv_at hl 1 rfl) ?_
        replace hf := o_gI_e hf
        obtain ⟨hk3, x3, hx3, hf⟩ := hf
        refine gn_X0_a hX hJ hk3 hx3 qn275 dX7_quotient_53 ?_
        refine lv_iconst (v := 4) hx hb dX7_quotient_56 (by decide) ?_
        refine lv_icmp_ne (tgt := 69) hx hb dX7_quotient_57 (by decide) (fun c4 => ?_) (fun c4 => ?_)
        · replace hf := o_f hf c4
          refine lv_lload_n hx hb dX7_quotient_69 rfl (lv_at hl 2 rfl) ?_
          refine lv_lload hx hb dX7_quotient_70 (lv_at hl 3 rfl) ?_
          replace hf := o_ck_e hf
          obtain ⟨hc1, hf⟩ := hf
          refine lv_ldiv hx hb dX7_quotient_72 hc1 ?_
          obtain ⟨rfl, rfl⟩ := Prod.mk.inj (Option.some.inj hf)
          exact jq_lret hX hJ.2.2 dX7_quotient_73 ⟨rfl, rfl, rfl, hJ.1, hJ.2.1⟩
        · replace hf := o_t hf c4
          refine lv_lload_n hx hb dX7_quotient_60 rfl (lv_at hl 2 rfl) ?_
          refine lv_lload hx hb dX7_quotient_61 (lv_at hl 3 rfl) ?_
          replace hf := o_ck_e hf
          obtain ⟨hc2, hf⟩ := hf
          refine lv_ldiv hx hb dX7_quotient_63 hc2 ?_
          refine lv_l2i hx hb dX7_quotient_64 rfl ?_
          refine lv_i2l hx hb dX7_quotient_65 rfl ?_
          refine lv_goto (tgt := 73) hx hb dX7_quotient_66 (by decide) ?_
          obtain ⟨rfl, rfl⟩ := Prod.mk.inj (Option.some.inj hf)
          exact jq_lret hX hJ.2.2 dX7_quotient_73 ⟨rfl, rfl, rfl, hJ.1, hJ.2.1⟩
      · replace hf := o_t hf (qc_eq.mp c3)
        refine lv_aload_n hx hb dX7_quotient_45 rfl (lv_at hl 0 rfl) ?_
        refine lv_aload_n hx hb dX7_quotient_46 rfl (lv_at hl 1 rfl) ?_
        refine lv_iconst (v := 3) hx hb dX7_quotient_47 (by decide) ?_
        replace hf := o_ck_e hf
        obtain ⟨hk4, hf⟩ := hf
        replace hf := o_call_e hf
        obtain ⟨x4, S1, hq1, hf⟩ := hf
        refine jq_doS hX hJ (jq_okV (As := [.ref p1, .int 3]) (rest := []) hx hb hm ho ht (wJ.recv hX hJ (by rw [hk4]; decide) (wE_X7 hk4) rfl) qw574 qw576 qs54 qw577 qw5 hy_X7_fail rfl hl.1 (Nat.le_of_ble_eq_true rfl) dX7_quotient_48) (c_X7_fail hq1) (Nat.le_of_ble_eq_true rfl) (Nat.le_of_ble_eq_true rfl) (fun H locs hJ' => ?_)
        clear hJ
        have hJ := hJ'
        clear hJ'
        obtain ⟨rfl, rfl⟩ := Prod.mk.inj (Option.some.inj hf)
        exact jq_lret hX hJ.2.2 dX7_quotient_51 ⟨rfl, rfl, rfl, hJ.1, hJ.2.1⟩
    · replace hf := o_t hf c2
      refine jq_gets (k := 1) hX hJ.2.2 (by decide) qw560 dX7_quotient_28 ?_
      refine lv_lload_n hx hb dX7_quotient_31 rfl (lv_at hl 2 rfl) ?_
      refine lv_lload hx hb dX7_quotient_32 (lv_at hl 3 rfl) ?_
      replace hf := o_cP_e hf
      obtain ⟨x5, hq2, hf⟩ := hf
      refine jq_doPS hX hJ (jq_okVN (As := [.long p2, .long p3]) (rest := []) hx hb hm ho ht hn (jq_const hX hJ.2.2 (by decide)) qn565 qw567 qs52 qw568 qw12 hy_X4_quotientOf rfl hl.1 (Nat.le_of_ble_eq_true rfl) dX7_quotient_34) (c_X4_quotientOf (by decide) hq2) (Nat.le_of_ble_eq_true rfl) (Nat.le_of_ble_eq_true rfl) (fun locs hJ' => ?_)
      clear hJ
      have hJ := hJ'
      clear hJ'
      obtain ⟨rfl, rfl⟩ := Prod.mk.inj (Option.some.inj hf)
      exact jq_lret hX hJ.2.2 dX7_quotient_37 ⟨rfl, rfl, rfl, hJ.1, hJ.2.1⟩
  · replace hf := o_t hf c1
    refine jq_gets (k := 0) hX hJ.2.2 (by decide) qw547 dX7_quotient_9 ?_
    refine lv_lload_n hx hb dX7_quotient_12 rfl (lv_at hl 2 rfl) ?_
    refine lv_lload hx hb dX7_quotient_13 (lv_at hl 3 rfl) ?_
    replace hf := o_cP_e hf
    obtain ⟨x6, hq3, hf⟩ := hf
    refine jq_doPS hX hJ (jq_okVN (As := [.long p2, .long p3]) (rest := []) hx hb hm ho ht hn (jq_const hX hJ.2.2 (by decide)) qn565 qw567 qs52 qw568 qw12 hy_X4_quotientOf rfl hl.1 (Nat.le_of_ble_eq_true rfl) dX7_quotient_15) (c_X4_quotientOf (by decide) hq3) (Nat.le_of_ble_eq_true rfl) (Nat.le_of_ble_eq_true rfl) (fun locs hJ' => ?_)
    clear hJ
    have hJ := hJ'
    clear hJ'
    obtain ⟨rfl, rfl⟩ := Prod.mk.inj (Option.some.inj hf)
    exact jq_lret hX hJ.2.2 dX7_quotient_18 ⟨rfl, rfl, rfl, hJ.1, hJ.2.1⟩
theorem dX7_handOn_0 : decode cX7_handOn 0 = .ok (.iconst 4, 1) := by decide +kernel
theorem dX7_handOn_1 : decode cX7_handOn 1 = .ok (.iload_n 2, 1) := by decide +kernel
theorem dX7_handOn_2 : decode cX7_handOn 2 = .ok (.iload_n 3, 1) := by decide +kernel
theorem dX7_handOn_3 : decode cX7_handOn 3 = .ok (.invokestatic 40, 3) := by decide +kernel
theorem dX7_handOn_6 : decode cX7_handOn 6 = .ok (.isub, 1) := by decide +kernel
theorem dX7_handOn_7 : decode cX7_handOn 7 = .ok (.istore 4, 2) := by decide +kernel
theorem dX7_handOn_9 : decode cX7_handOn 9 = .ok (.iconst 0, 1) := by decide +kernel
theorem dX7_handOn_10 : decode cX7_handOn 10 = .ok (.istore 5, 2) := by decide +kernel
theorem dX7_handOn_12 : decode cX7_handOn 12 = .ok (.iload 5, 2) := by decide +kernel
theorem dX7_handOn_14 : decode cX7_handOn 14 = .ok (.iload 4, 2) := by decide +kernel
theorem dX7_handOn_16 : decode cX7_handOn 16 = .ok (.if_icmp .ge 29, 3) := by decide +kernel
theorem dX7_handOn_45 : decode cX7_handOn 45 = .ok (.return_, 1) := by decide +kernel
theorem dX7_handOn_19 : decode cX7_handOn 19 = .ok (.aload_n 0, 1) := by decide +kernel
theorem dX7_handOn_20 : decode cX7_handOn 20 = .ok (.iload_n 1, 1) := by decide +kernel
theorem dX7_handOn_21 : decode cX7_handOn 21 = .ok (.iconst 1, 1) := by decide +kernel
theorem dX7_handOn_22 : decode cX7_handOn 22 = .ok (.iadd, 1) := by decide +kernel
theorem dX7_handOn_23 : decode cX7_handOn 23 = .ok (.iload_n 3, 1) := by decide +kernel
theorem dX7_handOn_24 : decode cX7_handOn 24 = .ok (.iload 5, 2) := by decide +kernel
theorem dX7_handOn_26 : decode cX7_handOn 26 = .ok (.iadd, 1) := by decide +kernel
theorem dX7_handOn_27 : decode cX7_handOn 27 = .ok (.aload_n 0, 1) := by decide +kernel
theorem dX7_handOn_28 : decode cX7_handOn 28 = .ok (.iload_n 1, 1) := by decide +kernel
theorem dX7_handOn_29 : decode cX7_handOn 29 = .ok (.iload_n 2, 1) := by decide +kernel
theorem dX7_handOn_30 : decode cX7_handOn 30 = .ok (.iload 5, 2) := by decide +kernel
theorem dX7_handOn_32 : decode cX7_handOn 32 = .ok (.iadd, 1) := by decide +kernel
theorem dX7_handOn_33 : decode cX7_handOn 33 = .ok (.invokevirtual 45, 3) := by decide +kernel
theorem dX7_handOn_36 : decode cX7_handOn 36 = .ok (.invokevirtual 49, 3) := by decide +kernel
theorem dX7_handOn_39 : decode cX7_handOn 39 = .ok (.iinc 5 1, 3) := by decide +kernel
theorem dX7_handOn_42 : decode cX7_handOn 42 = .ok (.goto (-30), 3) := by decide +kernel
theorem hy_X7_handOn : yX7_handOn.cls ≠ "java/lang/invoke/MethodHandle" ∧ yX7_handOn.cls ≠ "java/lang/invoke/VarHandle" ∧ (parseMethodDescriptor yX7_handOn.desc).map (fun d => d.parameters.length) = some 3 := ⟨by decide, by decide, by decide +kernel⟩
def f_X7_handOn_b12 : Nat → Nat → Int32 → Int32 → Int32 → Int32 → Int32 → wS → Option ((Unit) × wS)
  | 0, _, _, _, _, _, _, _ => none
  | n + 1, l0, l1, l2, l3, l4, l5, S => 
  if l4 ≤ l5 then (
  some ((), S)) else (
  o_ck (s_K S l0 = 7) (o_call (f_X7_taken l0 l1 (l2 + l5) S) fun x1 S1 =>
  o_ck (s_K S1 l0 = 7) (o_call (f_X7_hand l0 (l1 + (1 : Int32)) (l3 + l5) x1 S1) fun _ S2 =>
  o_let (l5 + 1) fun x2 =>
  f_X7_handOn_b12 n l0 l1 l2 l3 l4 x2 S2)))
set_option maxHeartbeats 4000000 in
set_option maxRecDepth 100000 in
theorem w_X7_handOn_b12 {l : Launch} {D : va_G} {Y : Nat → ClassId} {aR : Nat → Nat} {A : Nat → Prop} {p : Program} {e : Env} {s : State} {m : MethodId} {args : Array Value} {below : List Frame} {meth : Method} {c : Code} {S0 : wS} : ∀ (n : Nat) (l0 : Nat) (l1 : Int32) (l2 : Int32) (l3 : Int32) (l4 : Int32) (l5 : Int32) (S S' : wS) (r : Unit) (H : Heap) (locs : List Loc) (ls : Array Slot), jq_X D Y aR A p s m args meth c cX7_handOn RX7 "handOn" 6 none → wJ D Y A s S0 S H locs → f_X7_handOn_b12 n l0 l1 l2 l3 l4 l5 S = some (r, S') → lv_has ls 6 [(0, .ref l0), (1, .int l1), (2, .int l2), (3, .int l3), (4, .int l4), (5, .int l5)] → W p l e { frames := 2, cells := s_lm S0 - s_nx S0, slots := s_sm S0 - s_sl S0, locals := 47 } s m args below meth c H locs (s_nx S - s_nx S0) (s_sl S - s_sl S0) (jq_Z below A (fun v k n H => v = none ∧ k = s_nx S' - s_nx S0 ∧ n = s_sl S' - s_sl S0 ∧ wG S0 S' ∧ wH D Y A S' H) s) (F0 m 12 ls []) := by
  intro n
  induction n with
  | zero =>
    intro l0 l1 l2 l3 l4 l5 S S' r H locs ls hX hJ hf hl
    cases hf
  | succ n ih =>
    intro l0 l1 l2 l3 l4 l5 S S' r H locs ls hX hJ hf hl
    rw [f_X7_handOn_b12.eq_2] at hf
    have hx := hX.1
    have hb := hX.2.1
    have hm := hX.2.2.1
    have ho := hX.2.2.2.1
    have ht := hX.2.2.2.2.1
    have hn := hX.2.2.2.2.2.1.2.1
    refine lv_iload hx hb dX7_handOn_12 (lv_at hl 5 rfl) ?_
    refine lv_iload hx hb dX7_handOn_14 (lv_at hl 4 rfl) ?_
    refine lv_icmp_ge (tgt := 45) hx hb dX7_handOn_16 (by decide) (fun c1 => ?_) (fun c1 => ?_)
    · replace hf := o_t hf c1
      obtain ⟨rfl, rfl⟩ := Prod.mk.inj (Option.some.inj hf)
      exact jq_vret hX hJ.2.2 dX7_handOn_45 ⟨rfl, rfl, rfl, hJ.1, hJ.2.1⟩
    · replace hf := o_f hf c1
      refine lv_aload_n hx hb dX7_handOn_19 rfl (lv_at hl 0 rfl) ?_
      refine lv_iload_n hx hb dX7_handOn_20 rfl (lv_at hl 1 rfl) ?_
      refine lv_iconst (v := 1) hx hb dX7_handOn_21 (by decide) ?_
      refine lv_iadd hx hb dX7_handOn_22 ?_
      refine lv_iload_n hx hb dX7_handOn_23 rfl (lv_at hl 3 rfl) ?_
      refine lv_iload hx hb dX7_handOn_24 (lv_at hl 5 rfl) ?_
      refine lv_iadd hx hb dX7_handOn_26 ?_
      refine lv_aload_n hx hb dX7_handOn_27 rfl (lv_at hl 0 rfl) ?_
      refine lv_iload_n hx hb dX7_handOn_28 rfl (lv_at hl 1 rfl) ?_
      refine lv_iload_n hx hb dX7_handOn_29 rfl (lv_at hl 2 rfl) ?_
      refine lv_iload hx hb dX7_handOn_30 (lv_at hl 5 rfl) ?_
      refine lv_iadd hx hb dX7_handOn_32 ?_
      replace hf := o_ck_e hf
      obtain ⟨hk1, hf⟩ := hf
      replace hf := o_call_e hf
      obtain ⟨x1, S1, hq1, hf⟩ := hf
      refine jq_doS hX hJ (jq_okV (As := [.int l1, .int (l2 + l5)]) (rest := [.int (l3 + l5), .int (l1 + (1 : Int32)), .ref l0]) hx hb hm ho ht (wJ.recv hX hJ (by rw [hk1]; decide) (wE_X7 hk1) rfl) qw540 qw542 qs47 qw543 qw5 hy_X7_taken rfl hl.1 (Nat.le_of_ble_eq_true rfl) dX7_handOn_33) (c_X7_taken hq1) (Nat.le_of_ble_eq_true rfl) (Nat.le_of_ble_eq_true rfl) (fun H locs hJ' => ?_)
      clear hJ
      have hJ := hJ'
      clear hJ'
      replace hf := o_ck_e hf
      obtain ⟨hk2, hf⟩ := hf
      replace hf := o_call_e hf
      obtain ⟨_, S2, hq2, hf⟩ := hf
      refine jq_doS hX hJ (jq_okV (As := [.int (l1 + (1 : Int32)), .int (l3 + l5), .long x1]) (rest := []) hx hb hm ho ht (wJ.recv hX hJ (by rw [hk2]; decide) (wE_X7 hk2) rfl) qw598 qw526 qs44 qw527 qw5 hy_X7_hand rfl hl.1 (Nat.le_of_ble_eq_true rfl) dX7_handOn_36) (c_X7_hand hq2) (Nat.le_of_ble_eq_true rfl) (Nat.le_of_ble_eq_true rfl) (fun H locs hJ' => ?_)
      clear hJ
      have hJ := hJ'
      clear hJ'
      replace hf := o_let_e hf
      obtain ⟨x2, hx2, hf⟩ := hf
      refine lv_iinc (v := x2) (lv' := [(5, .int x2), (0, .ref l0), (1, .int l1), (2, .int l2), (3, .int l3), (4, .int l4)]) hx hb dX7_handOn_39 hl (k := 5) rfl (by rw [← hx2]; rfl) (by decide) rfl (fun ls hl' => ?_)
      clear hl
      have hl := hl'
      clear hl'
      refine lv_goto (tgt := 12) hx hb dX7_handOn_42 (by decide) ?_
      replace hl := lv_sub hl (l' := [(0, .ref l0), (1, .int l1), (2, .int l2), (3, .int l3), (4, .int l4), (5, .int x2)]) [1, 2, 3, 4, 5, 0] rfl
      exact ih l0 l1 l2 l3 l4 x2 S2 S' r H locs ls hX hJ hf hl
def f_X7_handOn (o : Nat) (p1 : Int32) (p2 : Int32) (p3 : Int32) (S : wS) : Option ((Unit) × wS) :=
  f_X7_handOn_b12 12 o p1 p2 p3 ((4 : Int32) - (if p2 < p3 then p3 else p2)) 0 S
set_option maxHeartbeats 4000000 in
set_option maxRecDepth 100000 in
theorem c_X7_handOn {l : Launch} {D : va_G} {Y : Nat → ClassId} {aR : Nat → Nat} {A : Nat → Prop} {o : Nat} {p1 : Int32} {p2 : Int32} {p3 : Int32} {S S' : wS} {r : Unit} (hf : f_X7_handOn o p1 p2 p3 S = some (r, S')) : jq_S l D Y aR A yX7_handOn cX7_handOn 6 none 2 47 [.ref o, .int p1, .int p2, .int p3] S none S' := by
  unfold f_X7_handOn at hf
  refine jq_enterS (by decide) (Nat.le_of_ble_eq_true rfl) fun p e s m args below meth c ls H locs hX hJ hl => ?_
  have hl : lv_has ls 6 [(0, .ref o), (1, .int p1), (2, .int p2), (3, .int p3)] := hl
  have hx := hX.1
  have hb := hX.2.1
  have hm := hX.2.2.1
  have ho := hX.2.2.2.1
  have ht := hX.2.2.2.2.1
  have hn := hX.2.2.2.2.2.1.2.1
  refine lv_iconst (v := 4) hx hb dX7_handOn_0 (by decide) ?_
  refine lv_iload_n hx hb dX7_handOn_1 rfl (lv_at hl 2 rfl) ?_
  refine lv_iload_n hx hb dX7_handOn_2 rfl (lv_at hl 3 rfl) ?_
  refine va_mmax hx hb (hm.trans hl.1.symm) ho (ht _ qw597) (ht _ qw171) (ht _ qw10) (ht _ qm_max) (Nat.le_of_ble_eq_true rfl) (Nat.le_of_ble_eq_true rfl) (wJ.cl hJ) (wJ.sl hJ) dX7_handOn_3 ?_
  refine lv_isub hx hb dX7_handOn_6 ?_
  refine lv_istore (lv' := [(4, .int ((4 : Int32) - (if p2 < p3 then p3 else p2))), (0, .ref o), (1, .int p1), (2, .int p2), (3, .int p3)]) hx hb dX7_handOn_7 hl (by decide) rfl (fun ls hl' => ?_)
  clear hl
  have hl := hl'
  clear hl'
  refine lv_iconst (v := 0) hx hb dX7_handOn_9 (by decide) ?_
  refine lv_istore (lv' := [(5, .int 0), (4, .int ((4 : Int32) - (if p2 < p3 then p3 else p2))), (0, .ref o), (1, .int p1), (2, .int p2), (3, .int p3)]) hx hb dX7_handOn_10 hl (by decide) rfl (fun ls hl' => ?_)
  clear hl
  have hl := hl'
  clear hl'
  replace hl := lv_sub hl (l' := [(0, .ref o), (1, .int p1), (2, .int p2), (3, .int p3), (4, .int ((4 : Int32) - (if p2 < p3 then p3 else p2))), (5, .int 0)]) [2, 3, 4, 5, 1, 0] rfl
  exact w_X7_handOn_b12 12 o p1 p2 p3 ((4 : Int32) - (if p2 < p3 then p3 else p2)) 0 S S' r H locs ls hX hJ hf hl
theorem dX7_arrange_0 : decode cX7_arrange 0 = .ok (.aload_n 1, 1) := by decide +kernel
theorem dX7_arrange_1 : decode cX7_arrange 1 = .ok (.getfield 135, 3) := by decide +kernel
theorem dX7_arrange_4 : decode cX7_arrange 4 = .ok (.istore_n 3, 1) := by decide +kernel
theorem dX7_arrange_5 : decode cX7_arrange 5 = .ok (.aload_n 1, 1) := by decide +kernel
theorem dX7_arrange_6 : decode cX7_arrange 6 = .ok (.getfield 68, 3) := by decide +kernel
theorem dX7_arrange_9 : decode cX7_arrange 9 = .ok (.tableswitch 112 11 13 #[27, 46, 88], 27) := by decide +kernel
theorem dX7_arrange_36 : decode cX7_arrange 36 = .ok (.aload_n 0, 1) := by decide +kernel
theorem dX7_arrange_37 : decode cX7_arrange 37 = .ok (.iload_n 2, 1) := by decide +kernel
theorem dX7_arrange_38 : decode cX7_arrange 38 = .ok (.iconst 0, 1) := by decide +kernel
theorem dX7_arrange_39 : decode cX7_arrange 39 = .ok (.iconst 0, 1) := by decide +kernel
theorem dX7_arrange_40 : decode cX7_arrange 40 = .ok (.invokevirtual 194, 3) := by decide +kernel
theorem dX7_arrange_43 : decode cX7_arrange 43 = .ok (.aload_n 0, 1) := by decide +kernel
theorem dX7_arrange_44 : decode cX7_arrange 44 = .ok (.iload_n 2, 1) := by decide +kernel
theorem dX7_arrange_45 : decode cX7_arrange 45 = .ok (.iload_n 3, 1) := by decide +kernel
theorem dX7_arrange_46 : decode cX7_arrange 46 = .ok (.iconst 1, 1) := by decide +kernel
theorem dX7_arrange_47 : decode cX7_arrange 47 = .ok (.iadd, 1) := by decide +kernel
theorem dX7_arrange_48 : decode cX7_arrange 48 = .ok (.iload_n 3, 1) := by decide +kernel
theorem dX7_arrange_49 : decode cX7_arrange 49 = .ok (.invokevirtual 194, 3) := by decide +kernel
theorem dX7_arrange_52 : decode cX7_arrange 52 = .ok (.goto 88, 3) := by decide +kernel
theorem dX7_arrange_140 : decode cX7_arrange 140 = .ok (.aload_n 0, 1) := by decide +kernel
theorem dX7_arrange_141 : decode cX7_arrange 141 = .ok (.aload_n 1, 1) := by decide +kernel
theorem dX7_arrange_142 : decode cX7_arrange 142 = .ok (.getfield 71, 3) := by decide +kernel
theorem dX7_arrange_145 : decode cX7_arrange 145 = .ok (.iload_n 2, 1) := by decide +kernel
theorem dX7_arrange_146 : decode cX7_arrange 146 = .ok (.iconst 1, 1) := by decide +kernel
theorem dX7_arrange_147 : decode cX7_arrange 147 = .ok (.iadd, 1) := by decide +kernel
theorem dX7_arrange_148 : decode cX7_arrange 148 = .ok (.invokevirtual 198, 3) := by decide +kernel
theorem dX7_arrange_151 : decode cX7_arrange 151 = .ok (.lreturn, 1) := by decide +kernel
theorem dX7_arrange_55 : decode cX7_arrange 55 = .ok (.aload_n 0, 1) := by decide +kernel
theorem dX7_arrange_56 : decode cX7_arrange 56 = .ok (.iload_n 2, 1) := by decide +kernel
theorem dX7_arrange_57 : decode cX7_arrange 57 = .ok (.iconst 0, 1) := by decide +kernel
theorem dX7_arrange_58 : decode cX7_arrange 58 = .ok (.iconst 0, 1) := by decide +kernel
theorem dX7_arrange_59 : decode cX7_arrange 59 = .ok (.invokevirtual 194, 3) := by decide +kernel
theorem dX7_arrange_62 : decode cX7_arrange 62 = .ok (.aload_n 0, 1) := by decide +kernel
theorem dX7_arrange_63 : decode cX7_arrange 63 = .ok (.iload_n 2, 1) := by decide +kernel
theorem dX7_arrange_64 : decode cX7_arrange 64 = .ok (.iconst 1, 1) := by decide +kernel
theorem dX7_arrange_65 : decode cX7_arrange 65 = .ok (.iadd, 1) := by decide +kernel
theorem dX7_arrange_66 : decode cX7_arrange 66 = .ok (.iload_n 3, 1) := by decide +kernel
theorem dX7_arrange_67 : decode cX7_arrange 67 = .ok (.aload_n 0, 1) := by decide +kernel
theorem dX7_arrange_68 : decode cX7_arrange 68 = .ok (.iload_n 2, 1) := by decide +kernel
theorem dX7_arrange_69 : decode cX7_arrange 69 = .ok (.iload_n 3, 1) := by decide +kernel
theorem dX7_arrange_70 : decode cX7_arrange 70 = .ok (.iconst 1, 1) := by decide +kernel
theorem dX7_arrange_71 : decode cX7_arrange 71 = .ok (.iadd, 1) := by decide +kernel
theorem dX7_arrange_72 : decode cX7_arrange 72 = .ok (.invokevirtual 45, 3) := by decide +kernel
theorem dX7_arrange_75 : decode cX7_arrange 75 = .ok (.invokevirtual 49, 3) := by decide +kernel
theorem dX7_arrange_78 : decode cX7_arrange 78 = .ok (.aload_n 0, 1) := by decide +kernel
theorem dX7_arrange_79 : decode cX7_arrange 79 = .ok (.iload_n 2, 1) := by decide +kernel
theorem dX7_arrange_80 : decode cX7_arrange 80 = .ok (.iconst 1, 1) := by decide +kernel
theorem dX7_arrange_81 : decode cX7_arrange 81 = .ok (.iadd, 1) := by decide +kernel
theorem dX7_arrange_82 : decode cX7_arrange 82 = .ok (.iload_n 3, 1) := by decide +kernel
theorem dX7_arrange_83 : decode cX7_arrange 83 = .ok (.iconst 1, 1) := by decide +kernel
theorem dX7_arrange_84 : decode cX7_arrange 84 = .ok (.iadd, 1) := by decide +kernel
theorem dX7_arrange_85 : decode cX7_arrange 85 = .ok (.aload_n 0, 1) := by decide +kernel
theorem dX7_arrange_86 : decode cX7_arrange 86 = .ok (.iload_n 2, 1) := by decide +kernel
theorem dX7_arrange_87 : decode cX7_arrange 87 = .ok (.iload_n 3, 1) := by decide +kernel
theorem dX7_arrange_88 : decode cX7_arrange 88 = .ok (.invokevirtual 45, 3) := by decide +kernel
theorem dX7_arrange_91 : decode cX7_arrange 91 = .ok (.invokevirtual 49, 3) := by decide +kernel
theorem dX7_arrange_94 : decode cX7_arrange 94 = .ok (.goto 46, 3) := by decide +kernel
theorem dX7_arrange_97 : decode cX7_arrange 97 = .ok (.aload_n 0, 1) := by decide +kernel
theorem dX7_arrange_98 : decode cX7_arrange 98 = .ok (.iload_n 2, 1) := by decide +kernel
theorem dX7_arrange_99 : decode cX7_arrange 99 = .ok (.iconst 0, 1) := by decide +kernel
theorem dX7_arrange_100 : decode cX7_arrange 100 = .ok (.iconst 1, 1) := by decide +kernel
theorem dX7_arrange_101 : decode cX7_arrange 101 = .ok (.invokevirtual 194, 3) := by decide +kernel
theorem dX7_arrange_104 : decode cX7_arrange 104 = .ok (.aload_n 0, 1) := by decide +kernel
theorem dX7_arrange_105 : decode cX7_arrange 105 = .ok (.iload_n 2, 1) := by decide +kernel
theorem dX7_arrange_106 : decode cX7_arrange 106 = .ok (.iconst 1, 1) := by decide +kernel
theorem dX7_arrange_107 : decode cX7_arrange 107 = .ok (.iadd, 1) := by decide +kernel
theorem dX7_arrange_108 : decode cX7_arrange 108 = .ok (.iconst 0, 1) := by decide +kernel
theorem dX7_arrange_109 : decode cX7_arrange 109 = .ok (.aload_n 0, 1) := by decide +kernel
theorem dX7_arrange_110 : decode cX7_arrange 110 = .ok (.iload_n 2, 1) := by decide +kernel
theorem dX7_arrange_111 : decode cX7_arrange 111 = .ok (.iconst 0, 1) := by decide +kernel
theorem dX7_arrange_112 : decode cX7_arrange 112 = .ok (.invokevirtual 45, 3) := by decide +kernel
theorem dX7_arrange_115 : decode cX7_arrange 115 = .ok (.invokevirtual 49, 3) := by decide +kernel
theorem dX7_arrange_118 : decode cX7_arrange 118 = .ok (.goto 22, 3) := by decide +kernel
theorem dX7_arrange_121 : decode cX7_arrange 121 = .ok (.aload_n 0, 1) := by decide +kernel
theorem dX7_arrange_122 : decode cX7_arrange 122 = .ok (.iload_n 2, 1) := by decide +kernel
theorem dX7_arrange_123 : decode cX7_arrange 123 = .ok (.iconst 0, 1) := by decide +kernel
theorem dX7_arrange_124 : decode cX7_arrange 124 = .ok (.iconst 1, 1) := by decide +kernel
theorem dX7_arrange_125 : decode cX7_arrange 125 = .ok (.invokevirtual 194, 3) := by decide +kernel
theorem dX7_arrange_128 : decode cX7_arrange 128 = .ok (.aload_n 0, 1) := by decide +kernel
theorem dX7_arrange_129 : decode cX7_arrange 129 = .ok (.iload_n 2, 1) := by decide +kernel
theorem dX7_arrange_130 : decode cX7_arrange 130 = .ok (.iconst 1, 1) := by decide +kernel
theorem dX7_arrange_131 : decode cX7_arrange 131 = .ok (.iadd, 1) := by decide +kernel
theorem dX7_arrange_132 : decode cX7_arrange 132 = .ok (.iconst 0, 1) := by decide +kernel
theorem dX7_arrange_133 : decode cX7_arrange 133 = .ok (.aload_n 1, 1) := by decide +kernel
theorem dX7_arrange_134 : decode cX7_arrange 134 = .ok (.getfield 117, 3) := by decide +kernel
theorem dX7_arrange_137 : decode cX7_arrange 137 = .ok (.invokevirtual 49, 3) := by decide +kernel
theorem hy_X7_arrange : yX7_arrange.cls ≠ "java/lang/invoke/MethodHandle" ∧ yX7_arrange.cls ≠ "java/lang/invoke/VarHandle" ∧ (parseMethodDescriptor yX7_arrange.desc).map (fun d => d.parameters.length) = some 2 := ⟨by decide, by decide, by decide +kernel⟩
def f_X7_arrange (P : Nat → Int32 → Int32 → wS → Option (Int64 × wS)) (o : Nat) (p1 : Nat) (p2 : Int32) (S : wS) : Option ((Int64) × wS) :=
  o_gI 1 2 p1 S fun x1 =>
  o_gI 1 0 p1 S fun x2 =>
  if x2 = 11 then (
  o_ck (s_K S o = 7) (o_call (f_X7_handOn o p2 0 0 S) fun _ S1 =>
  o_ck (s_K S1 o = 7) (o_call (f_X7_handOn o p2 (x1 + (1 : Int32)) x1 S1) fun _ S2 =>
  o_gI 1 1 p1 S2 fun x3 =>
  o_ck (s_K S2 o = 7) (o_call (P o x3 (p2 + (1 : Int32)) S2) fun x4 S3 =>
  some (x4, S3))))) else (
  if x2 = 12 then (
  o_ck (s_K S o = 7) (o_call (f_X7_handOn o p2 0 0 S) fun _ S4 =>
  o_ck (s_K S4 o = 7) (o_call (f_X7_taken o p2 (x1 + (1 : Int32)) S4) fun x5 S5 =>
  o_ck (s_K S5 o = 7) (o_call (f_X7_hand o (p2 + (1 : Int32)) x1 x5 S5) fun _ S6 =>
  o_ck (s_K S6 o = 7) (o_call (f_X7_taken o p2 x1 S6) fun x6 S7 =>
  o_ck (s_K S7 o = 7) (o_call (f_X7_hand o (p2 + (1 : Int32)) (x1 + (1 : Int32)) x6 S7) fun _ S8 =>
  o_gI 1 1 p1 S8 fun x7 =>
  o_ck (s_K S8 o = 7) (o_call (P o x7 (p2 + (1 : Int32)) S8) fun x8 S9 =>
  some (x8, S9)))))))) else (
  if x2 = 13 then (
  o_ck (s_K S o = 7) (o_call (f_X7_handOn o p2 0 1 S) fun _ S10 =>
  o_ck (s_K S10 o = 7) (o_call (f_X7_taken o p2 0 S10) fun x9 S11 =>
  o_ck (s_K S11 o = 7) (o_call (f_X7_hand o (p2 + (1 : Int32)) 0 x9 S11) fun _ S12 =>
  o_gI 1 1 p1 S12 fun x10 =>
  o_ck (s_K S12 o = 7) (o_call (P o x10 (p2 + (1 : Int32)) S12) fun x11 S13 =>
  some (x11, S13)))))) else (
  o_ck (s_K S o = 7) (o_call (f_X7_handOn o p2 0 1 S) fun _ S14 =>
  o_gL 1 0 p1 S14 fun x12 =>
  o_ck (s_K S14 o = 7) (o_call (f_X7_hand o (p2 + (1 : Int32)) 0 x12 S14) fun _ S15 =>
  o_gI 1 1 p1 S15 fun x13 =>
  o_ck (s_K S15 o = 7) (o_call (P o x13 (p2 + (1 : Int32)) S15) fun x14 S16 =>
  some (x14, S16)))))))
set_option maxHeartbeats 4000000 in
set_option maxRecDepth 100000 in
theorem c_X7_arrange {l : Launch} {D : va_G} {Y : Nat → ClassId} {aR : Nat → Nat} {A : Nat → Prop} {P : Nat → Int32 → Int32 → wS → Option (Int64 × wS)} {F G : Nat} (hP : ∀ (o : Nat) (x y : Int32) (S : wS) (r : Int64) (S' : wS), P o x y S = some (r, S') → jq_S l D Y aR A yX7_perform cX7_perform 4 (some .long) F G [.ref o, .int x, .int y] S (some (.long r)) S') (hF : 40 ≤ F) (hG : 1000 ≤ G) {o : Nat} {p1 : Nat} {p2 : Int32} {S S' : wS} {r : Int64} (hf : f_X7_arrange P o p1 p2 S = some (r, S')) : jq_S l D Y aR A yX7_arrange cX7_arrange 4 (some .long) (F + 1) (G + 60) [.ref o, .ref p1, .int p2] S (some (.long r)) S' := by
  unfold f_X7_arrange at hf
  refine jq_enterS (by decide) (Nat.le_of_ble_eq_true rfl) fun p e s m args below meth c ls H locs hX hJ hl => ?_
  have hl : lv_has ls 4 [(0, .ref o), (1, .ref p1), (2, .int p2)] := hl
  have hx := hX.1
  have hb := hX.2.1
  have hm := hX.2.2.1
  have ho := hX.2.2.2.1
  have ht := hX.2.2.2.2.1
  have hn := hX.2.2.2.2.2.1.2.1
  refine lv_aload_n hx hb dX7_arrange_0 rfl (lv_at hl 1 rfl) ?_
  replace hf := o_gI_e hf
  obtain ⟨hk1, x1, hx1, hf⟩ := hf
  refine gn_X0_b hX hJ hk1 hx1 qn278 dX7_arrange_1 ?_
  refine lv_istore_n (lv' := [(3, .int x1), (0, .ref o), (1, .ref p1), (2, .int p2)]) hx hb dX7_arrange_4 rfl hl (by decide) rfl (fun ls hl' => ?_)
  clear hl
  have hl := hl'
  clear hl'
  refine lv_aload_n hx hb dX7_arrange_5 rfl (lv_at hl 2 rfl) ?_
  replace hf := o_gI_e hf
  obtain ⟨hk2, x2, hx2, hf⟩ := hf
  refine gn_X0_sort hX hJ hk2 hx2 qn272 dX7_arrange_6 ?_
  by_cases c1 : x2 = 11
  · replace hf := o_t hf c1
    refine lv_tableIn (off := 27) (tgt := 36) hx hb dX7_arrange_9 (by rcases c1 with rfl <;> decide) (by rcases c1 with rfl <;> decide) (by rcases c1 with rfl <;> rfl) (by decide) ?_
    refine lv_aload_n hx hb dX7_arrange_36 rfl (lv_at hl 1 rfl) ?_
    refine lv_iload_n hx hb dX7_arrange_37 rfl (lv_at hl 3 rfl) ?_
    refine lv_iconst (v := 0) hx hb dX7_arrange_38 (by decide) ?_
    refine lv_iconst (v := 0) hx hb dX7_arrange_39 (by decide) ?_
    replace hf := o_ck_e hf
    obtain ⟨hk3, hf⟩ := hf
    replace hf := o_call_e hf
    obtain ⟨_, S1, hq1, hf⟩ := hf
    refine jq_doS hX hJ (jq_okV (As := [.int p2, .int 0, .int 0]) (rest := []) hx hb hm ho ht (wJ.recv hX hJ (by rw [hk3]; decide) (wE_X7 hk3) rfl) qw593 qw595 qs58 qw596 qw5 hy_X7_handOn rfl hl.1 (Nat.le_of_ble_eq_true rfl) dX7_arrange_40) (c_X7_handOn hq1) (by omega) (by omega) (fun H locs hJ' => ?_)
    clear hJ
    have hJ := hJ'
    clear hJ'
    refine lv_aload_n hx hb dX7_arrange_43 rfl (lv_at hl 1 rfl) ?_
    refine lv_iload_n hx hb dX7_arrange_44 rfl (lv_at hl 3 rfl) ?_
    refine lv_iload_n hx hb dX7_arrange_45 rfl (lv_at hl 0 rfl) ?_
    refine lv_iconst (v := 1) hx hb dX7_arrange_46 (by decide) ?_
    refine lv_iadd hx hb dX7_arrange_47 ?_
    refine lv_iload_n hx hb dX7_arrange_48 rfl (lv_at hl 0 rfl) ?_
    replace hf := o_ck_e hf
    obtain ⟨hk4, hf⟩ := hf
    replace hf := o_call_e hf
    obtain ⟨_, S2, hq2, hf⟩ := hf
    refine jq_doS hX hJ (jq_okV (As := [.int p2, .int (x1 + (1 : Int32)), .int x1]) (rest := []) hx hb hm ho ht (wJ.recv hX hJ (by rw [hk4]; decide) (wE_X7 hk4) rfl) qw593 qw595 qs58 qw596 qw5 hy_X7_handOn rfl hl.1 (Nat.le_of_ble_eq_true rfl) dX7_arrange_49) (c_X7_handOn hq2) (by omega) (by omega) (fun H locs hJ' => ?_)
    clear hJ
    have hJ := hJ'
    clear hJ'
    refine lv_goto (tgt := 140) hx hb dX7_arrange_52 (by decide) ?_
    refine lv_aload_n hx hb dX7_arrange_140 rfl (lv_at hl 1 rfl) ?_
    refine lv_aload_n hx hb dX7_arrange_141 rfl (lv_at hl 2 rfl) ?_
    replace hf := o_gI_e hf
    obtain ⟨hk5, x3, hx3, hf⟩ := hf
    refine gn_X0_a hX hJ hk5 hx3 qn275 dX7_arrange_142 ?_
    refine lv_iload_n hx hb dX7_arrange_145 rfl (lv_at hl 3 rfl) ?_
    refine lv_iconst (v := 1) hx hb dX7_arrange_146 (by decide) ?_
    refine lv_iadd hx hb dX7_arrange_147 ?_
    replace hf := o_ck_e hf
    obtain ⟨hk6, hf⟩ := hf
    replace hf := o_call_e hf
    obtain ⟨x4, S3, hq3, hf⟩ := hf
    refine jq_doS hX hJ (jq_okV (As := [.int x3, .int (p2 + (1 : Int32))]) (rest := []) hx hb hm ho ht (wJ.recv hX hJ (by rw [hk6]; decide) (wE_X7 hk6) rfl) qw599 qw533 qs45 qw534 qw5 hy_X7_perform rfl hl.1 (Nat.le_of_ble_eq_true rfl) dX7_arrange_148) (hP _ _ _ _ _ _ hq3) (by omega) (by omega) (fun H locs hJ' => ?_)
    clear hJ
    have hJ := hJ'
    clear hJ'
    obtain ⟨rfl, rfl⟩ := Prod.mk.inj (Option.some.inj hf)
    exact jq_lret hX hJ.2.2 dX7_arrange_151 ⟨rfl, rfl, rfl, hJ.1, hJ.2.1⟩
  replace hf := o_f hf c1
  by_cases c2 : x2 = 12
  · replace hf := o_t hf c2
    refine lv_tableIn (off := 46) (tgt := 55) hx hb dX7_arrange_9 (by rcases c2 with rfl <;> decide) (by rcases c2 with rfl <;> decide) (by rcases c2 with rfl <;> rfl) (by decide) ?_
    refine lv_aload_n hx hb dX7_arrange_55 rfl (lv_at hl 1 rfl) ?_
    refine lv_iload_n hx hb dX7_arrange_56 rfl (lv_at hl 3 rfl) ?_
    refine lv_iconst (v := 0) hx hb dX7_arrange_57 (by decide) ?_
    refine lv_iconst (v := 0) hx hb dX7_arrange_58 (by decide) ?_
    replace hf := o_ck_e hf
    obtain ⟨hk7, hf⟩ := hf
    replace hf := o_call_e hf
    obtain ⟨_, S4, hq4, hf⟩ := hf
    refine jq_doS hX hJ (jq_okV (As := [.int p2, .int 0, .int 0]) (rest := []) hx hb hm ho ht (wJ.recv hX hJ (by rw [hk7]; decide) (wE_X7 hk7) rfl) qw593 qw595 qs58 qw596 qw5 hy_X7_handOn rfl hl.1 (Nat.le_of_ble_eq_true rfl) dX7_arrange_59) (c_X7_handOn hq4) (by omega) (by omega) (fun H locs hJ' => ?_)
    clear hJ
    have hJ := hJ'
    clear hJ'
    refine lv_aload_n hx hb dX7_arrange_62 rfl (lv_at hl 1 rfl) ?_
    refine lv_iload_n hx hb dX7_arrange_63 rfl (lv_at hl 3 rfl) ?_
    refine lv_iconst (v := 1) hx hb dX7_arrange_64 (by decide) ?_
    refine lv_iadd hx hb dX7_arrange_65 ?_
    refine lv_iload_n hx hb dX7_arrange_66 rfl (lv_at hl 0 rfl) ?_
    refine lv_aload_n hx hb dX7_arrange_67 rfl (lv_at hl 1 rfl) ?_
    refine lv_iload_n hx hb dX7_arrange_68 rfl (lv_at hl 3 rfl) ?_
    refine lv_iload_n hx hb dX7_arrange_69 rfl (lv_at hl 0 rfl) ?_
    refine lv_iconst (v := 1) hx hb dX7_arrange_70 (by decide) ?_
    refine lv_iadd hx hb dX7_arrange_71 ?_
    replace hf := o_ck_e hf
    obtain ⟨hk8, hf⟩ := hf
    replace hf := o_call_e hf
    obtain ⟨x5, S5, hq5, hf⟩ := hf
    refine jq_doS hX hJ (jq_okV (As := [.int p2, .int (x1 + (1 : Int32))]) (rest := [.int x1, .int (p2 + (1 : Int32)), .ref o]) hx hb hm ho ht (wJ.recv hX hJ (by rw [hk8]; decide) (wE_X7 hk8) rfl) qw540 qw542 qs47 qw543 qw5 hy_X7_taken rfl hl.1 (Nat.le_of_ble_eq_true rfl) dX7_arrange_72) (c_X7_taken hq5) (by omega) (by omega) (fun H locs hJ' => ?_)
    clear hJ
    have hJ := hJ'
    clear hJ'
    replace hf := o_ck_e hf
    obtain ⟨hk9, hf⟩ := hf
    replace hf := o_call_e hf
    obtain ⟨_, S6, hq6, hf⟩ := hf
    refine jq_doS hX hJ (jq_okV (As := [.int (p2 + (1 : Int32)), .int x1, .long x5]) (rest := []) hx hb hm ho ht (wJ.recv hX hJ (by rw [hk9]; decide) (wE_X7 hk9) rfl) qw598 qw526 qs44 qw527 qw5 hy_X7_hand rfl hl.1 (Nat.le_of_ble_eq_true rfl) dX7_arrange_75) (c_X7_hand hq6) (by omega) (by omega) (fun H locs hJ' => ?_)
    clear hJ
    have hJ := hJ'
    clear hJ'
    refine lv_aload_n hx hb dX7_arrange_78 rfl (lv_at hl 1 rfl) ?_
    refine lv_iload_n hx hb dX7_arrange_79 rfl (lv_at hl 3 rfl) ?_
    refine lv_iconst (v := 1) hx hb dX7_arrange_80 (by decide) ?_
    refine lv_iadd hx hb dX7_arrange_81 ?_
    refine lv_iload_n hx hb dX7_arrange_82 rfl (lv_at hl 0 rfl) ?_
    refine lv_iconst (v := 1) hx hb dX7_arrange_83 (by decide) ?_
    refine lv_iadd hx hb dX7_arrange_84 ?_
    refine lv_aload_n hx hb dX7_arrange_85 rfl (lv_at hl 1 rfl) ?_
    refine lv_iload_n hx hb dX7_arrange_86 rfl (lv_at hl 3 rfl) ?_
    refine lv_iload_n hx hb dX7_arrange_87 rfl (lv_at hl 0 rfl) ?_
    replace hf := o_ck_e hf
    obtain ⟨hk10, hf⟩ := hf
    replace hf := o_call_e hf
    obtain ⟨x6, S7, hq7, hf⟩ := hf
    refine jq_doS hX hJ (jq_okV (As := [.int p2, .int x1]) (rest := [.int (x1 + (1 : Int32)), .int (p2 + (1 : Int32)), .ref o]) hx hb hm ho ht (wJ.recv hX hJ (by rw [hk10]; decide) (wE_X7 hk10) rfl) qw540 qw542 qs47 qw543 qw5 hy_X7_taken rfl hl.1 (Nat.le_of_ble_eq_true rfl) dX7_arrange_88) (c_X7_taken hq7) (by omega) (by omega) (fun H locs hJ' => ?_)
    clear hJ
    have hJ := hJ'
    clear hJ'
    replace hf := o_ck_e hf
    obtain ⟨hk11, hf⟩ := hf
    replace hf := o_call_e hf
    obtain ⟨_, S8, hq8, hf⟩ := hf
    refine jq_doS hX hJ (jq_okV (As := [.int (p2 + (1 : Int32)), .int (x1 + (1 : Int32)), .long x6]) (rest := []) hx hb hm ho ht (wJ.recv hX hJ (by rw [hk11]; decide) (wE_X7 hk11) rfl) qw598 qw526 qs44 qw527 qw5 hy_X7_hand rfl hl.1 (Nat.le_of_ble_eq_true rfl) dX7_arrange_91) (c_X7_hand hq8) (by omega) (by omega) (fun H locs hJ' => ?_)
    clear hJ
    have hJ := hJ'
    clear hJ'
    refine lv_goto (tgt := 140) hx hb dX7_arrange_94 (by decide) ?_
    refine lv_aload_n hx hb dX7_arrange_140 rfl (lv_at hl 1 rfl) ?_
    refine lv_aload_n hx hb dX7_arrange_141 rfl (lv_at hl 2 rfl) ?_
    replace hf := o_gI_e hf
    obtain ⟨hk12, x7, hx7, hf⟩ := hf
    refine gn_X0_a hX hJ hk12 hx7 qn275 dX7_arrange_142 ?_
    refine lv_iload_n hx hb dX7_arrange_145 rfl (lv_at hl 3 rfl) ?_
    refine lv_iconst (v := 1) hx hb dX7_arrange_146 (by decide) ?_
    refine lv_iadd hx hb dX7_arrange_147 ?_
    replace hf := o_ck_e hf
    obtain ⟨hk13, hf⟩ := hf
    replace hf := o_call_e hf
    obtain ⟨x8, S9, hq9, hf⟩ := hf
    refine jq_doS hX hJ (jq_okV (As := [.int x7, .int (p2 + (1 : Int32))]) (rest := []) hx hb hm ho ht (wJ.recv hX hJ (by rw [hk13]; decide) (wE_X7 hk13) rfl) qw599 qw533 qs45 qw534 qw5 hy_X7_perform rfl hl.1 (Nat.le_of_ble_eq_true rfl) dX7_arrange_148) (hP _ _ _ _ _ _ hq9) (by omega) (by omega) (fun H locs hJ' => ?_)
    clear hJ
    have hJ := hJ'
    clear hJ'
    obtain ⟨rfl, rfl⟩ := Prod.mk.inj (Option.some.inj hf)
    exact jq_lret hX hJ.2.2 dX7_arrange_151 ⟨rfl, rfl, rfl, hJ.1, hJ.2.1⟩
  replace hf := o_f hf c2
  by_cases c3 : x2 = 13
  · replace hf := o_t hf c3
    refine lv_tableIn (off := 88) (tgt := 97) hx hb dX7_arrange_9 (by rcases c3 with rfl <;> decide) (by rcases c3 with rfl <;> decide) (by rcases c3 with rfl <;> rfl) (by decide) ?_
    refine lv_aload_n hx hb dX7_arrange_97 rfl (lv_at hl 1 rfl) ?_
    refine lv_iload_n hx hb dX7_arrange_98 rfl (lv_at hl 3 rfl) ?_
    refine lv_iconst (v := 0) hx hb dX7_arrange_99 (by decide) ?_
    refine lv_iconst (v := 1) hx hb dX7_arrange_100 (by decide) ?_
    replace hf := o_ck_e hf
    obtain ⟨hk14, hf⟩ := hf
    replace hf := o_call_e hf
    obtain ⟨_, S10, hq10, hf⟩ := hf
    refine jq_doS hX hJ (jq_okV (As := [.int p2, .int 0, .int 1]) (rest := []) hx hb hm ho ht (wJ.recv hX hJ (by rw [hk14]; decide) (wE_X7 hk14) rfl) qw593 qw595 qs58 qw596 qw5 hy_X7_handOn rfl hl.1 (Nat.le_of_ble_eq_true rfl) dX7_arrange_101) (c_X7_handOn hq10) (by omega) (by omega) (fun H locs hJ' => ?_)
    clear hJ
    have hJ := hJ'
    clear hJ'
    refine lv_aload_n hx hb dX7_arrange_104 rfl (lv_at hl 1 rfl) ?_
    refine lv_iload_n hx hb dX7_arrange_105 rfl (lv_at hl 3 rfl) ?_
    refine lv_iconst (v := 1) hx hb dX7_arrange_106 (by decide) ?_
    refine lv_iadd hx hb dX7_arrange_107 ?_
    refine lv_iconst (v := 0) hx hb dX7_arrange_108 (by decide) ?_
    refine lv_aload_n hx hb dX7_arrange_109 rfl (lv_at hl 1 rfl) ?_
    refine lv_iload_n hx hb dX7_arrange_110 rfl (lv_at hl 3 rfl) ?_
    refine lv_iconst (v := 0) hx hb dX7_arrange_111 (by decide) ?_
    replace hf := o_ck_e hf
    obtain ⟨hk15, hf⟩ := hf
    replace hf := o_call_e hf
    obtain ⟨x9, S11, hq11, hf⟩ := hf
    refine jq_doS hX hJ (jq_okV (As := [.int p2, .int 0]) (rest := [.int 0, .int (p2 + (1 : Int32)), .ref o]) hx hb hm ho ht (wJ.recv hX hJ (by rw [hk15]; decide) (wE_X7 hk15) rfl) qw540 qw542 qs47 qw543 qw5 hy_X7_taken rfl hl.1 (Nat.le_of_ble_eq_true rfl) dX7_arrange_112) (c_X7_taken hq11) (by omega) (by omega) (fun H locs hJ' => ?_)
    clear hJ
    have hJ := hJ'
    clear hJ'
    replace hf := o_ck_e hf
    obtain ⟨hk16, hf⟩ := hf
    replace hf := o_call_e hf
    obtain ⟨_, S12, hq12, hf⟩ := hf
    refine jq_doS hX hJ (jq_okV (As := [.int (p2 + (1 : Int32)), .int 0, .long x9]) (rest := []) hx hb hm ho ht (wJ.recv hX hJ (by rw [hk16]; decide) (wE_X7 hk16) rfl) qw598 qw526 qs44 qw527 qw5 hy_X7_hand rfl hl.1 (Nat.le_of_ble_eq_true rfl) dX7_arrange_115) (c_X7_hand hq12) (by omega) (by omega) (fun H locs hJ' => ?_)
    clear hJ
    have hJ := hJ'
    clear hJ'
    refine lv_goto (tgt := 140) hx hb dX7_arrange_118 (by decide) ?_
    refine lv_aload_n hx hb dX7_arrange_140 rfl (lv_at hl 1 rfl) ?_
    refine lv_aload_n hx hb dX7_arrange_141 rfl (lv_at hl 2 rfl) ?_
    replace hf := o_gI_e hf
    obtain ⟨hk17, x10, hx10, hf⟩ := hf
    refine gn_X0_a hX hJ hk17 hx10 qn275 dX7_arrange_142 ?_
    refine lv_iload_n hx hb dX7_arrange_145 rfl (lv_at hl 3 rfl) ?_
    refine lv_iconst (v := 1) hx hb dX7_arrange_146 (by decide) ?_
    refine lv_iadd hx hb dX7_arrange_147 ?_
    replace hf := o_ck_e hf
    obtain ⟨hk18, hf⟩ := hf
    replace hf := o_call_e hf
    obtain ⟨x11, S13, hq13, hf⟩ := hf
    refine jq_doS hX hJ (jq_okV (As := [.int x10, .int (p2 + (1 : Int32))]) (rest := []) hx hb hm ho ht (wJ.recv hX hJ (by rw [hk18]; decide) (wE_X7 hk18) rfl) qw599 qw533 qs45 qw534 qw5 hy_X7_perform rfl hl.1 (Nat.le_of_ble_eq_true rfl) dX7_arrange_148) (hP _ _ _ _ _ _ hq13) (by omega) (by omega) (fun H locs hJ' => ?_)
    clear hJ
    have hJ := hJ'
    clear hJ'
    obtain ⟨rfl, rfl⟩ := Prod.mk.inj (Option.some.inj hf)
    exact jq_lret hX hJ.2.2 dX7_arrange_151 ⟨rfl, rfl, rfl, hJ.1, hJ.2.1⟩
  replace hf := o_f hf c3
  refine lv_tableOut (tgt := 121) hx hb dX7_arrange_9 (by have e0 := sw_ne c1 (n := 11) (by decide); have e1 := sw_ne c2 (n := 12) (by decide); have e2 := sw_ne c3 (n := 13) (by decide); omega) (by decide) ?_
  refine lv_aload_n hx hb dX7_arrange_121 rfl (lv_at hl 1 rfl) ?_
  refine lv_iload_n hx hb dX7_arrange_122 rfl (lv_at hl 3 rfl) ?_
  refine lv_iconst (v := 0) hx hb dX7_arrange_123 (by decide) ?_
  refine lv_iconst (v := 1) hx hb dX7_arrange_124 (by decide) ?_
  replace hf := o_ck_e hf
  obtain ⟨hk19, hf⟩ := hf
  replace hf := o_call_e hf
  obtain ⟨_, S14, hq14, hf⟩ := hf
  refine jq_doS hX hJ (jq_okV (As := [.int p2, .int 0, .int 1]) (rest := []) hx hb hm ho ht (wJ.recv hX hJ (by rw [hk19]; decide) (wE_X7 hk19) rfl) qw593 qw595 qs58 qw596 qw5 hy_X7_handOn rfl hl.1 (Nat.le_of_ble_eq_true rfl) dX7_arrange_125) (c_X7_handOn hq14) (by omega) (by omega) (fun H locs hJ' => ?_)
  clear hJ
  have hJ := hJ'
  clear hJ'
  refine lv_aload_n hx hb dX7_arrange_128 rfl (lv_at hl 1 rfl) ?_
  refine lv_iload_n hx hb dX7_arrange_129 rfl (lv_at hl 3 rfl) ?_
  refine lv_iconst (v := 1) hx hb dX7_arrange_130 (by decide) ?_
  refine lv_iadd hx hb dX7_arrange_131 ?_
  refine lv_iconst (v := 0) hx hb dX7_arrange_132 (by decide) ?_
  refine lv_aload_n hx hb dX7_arrange_133 rfl (lv_at hl 2 rfl) ?_
  replace hf := o_gL_e hf
  obtain ⟨hk20, x12, hx12, hf⟩ := hf
  refine gn_X0_v hX hJ hk20 hx12 qn284 dX7_arrange_134 ?_
  replace hf := o_ck_e hf
  obtain ⟨hk21, hf⟩ := hf
  replace hf := o_call_e hf
  obtain ⟨_, S15, hq15, hf⟩ := hf
  refine jq_doS hX hJ (jq_okV (As := [.int (p2 + (1 : Int32)), .int 0, .long x12]) (rest := []) hx hb hm ho ht (wJ.recv hX hJ (by rw [hk21]; decide) (wE_X7 hk21) rfl) qw598 qw526 qs44 qw527 qw5 hy_X7_hand rfl hl.1 (Nat.le_of_ble_eq_true rfl) dX7_arrange_137) (c_X7_hand hq15) (by omega) (by omega) (fun H locs hJ' => ?_)
  clear hJ
  have hJ := hJ'
  clear hJ'
  refine lv_aload_n hx hb dX7_arrange_140 rfl (lv_at hl 1 rfl) ?_
  refine lv_aload_n hx hb dX7_arrange_141 rfl (lv_at hl 2 rfl) ?_
  replace hf := o_gI_e hf
  obtain ⟨hk22, x13, hx13, hf⟩ := hf
  refine gn_X0_a hX hJ hk22 hx13 qn275 dX7_arrange_142 ?_
  refine lv_iload_n hx hb dX7_arrange_145 rfl (lv_at hl 3 rfl) ?_
  refine lv_iconst (v := 1) hx hb dX7_arrange_146 (by decide) ?_
  refine lv_iadd hx hb dX7_arrange_147 ?_
  replace hf := o_ck_e hf
  obtain ⟨hk23, hf⟩ := hf
  replace hf := o_call_e hf
  obtain ⟨x14, S16, hq16, hf⟩ := hf
  refine jq_doS hX hJ (jq_okV (As := [.int x13, .int (p2 + (1 : Int32))]) (rest := []) hx hb hm ho ht (wJ.recv hX hJ (by rw [hk23]; decide) (wE_X7 hk23) rfl) qw599 qw533 qs45 qw534 qw5 hy_X7_perform rfl hl.1 (Nat.le_of_ble_eq_true rfl) dX7_arrange_148) (hP _ _ _ _ _ _ hq16) (by omega) (by omega) (fun H locs hJ' => ?_)
  clear hJ
  have hJ := hJ'
  clear hJ'
  obtain ⟨rfl, rfl⟩ := Prod.mk.inj (Option.some.inj hf)
  exact jq_lret hX hJ.2.2 dX7_arrange_151 ⟨rfl, rfl, rfl, hJ.1, hJ.2.1⟩
theorem dX7_filter_0 : decode cX7_filter 0 = .ok (.aload_n 0, 1) := by decide +kernel
theorem dX7_filter_1 : decode cX7_filter 1 = .ok (.iload_n 2, 1) := by decide +kernel
theorem dX7_filter_2 : decode cX7_filter 2 = .ok (.iconst 1, 1) := by decide +kernel
theorem dX7_filter_3 : decode cX7_filter 3 = .ok (.iadd, 1) := by decide +kernel
theorem dX7_filter_4 : decode cX7_filter 4 = .ok (.iconst 0, 1) := by decide +kernel
theorem dX7_filter_5 : decode cX7_filter 5 = .ok (.aload_n 0, 1) := by decide +kernel
theorem dX7_filter_6 : decode cX7_filter 6 = .ok (.iload_n 2, 1) := by decide +kernel
theorem dX7_filter_7 : decode cX7_filter 7 = .ok (.aload_n 1, 1) := by decide +kernel
theorem dX7_filter_8 : decode cX7_filter 8 = .ok (.getfield 135, 3) := by decide +kernel
theorem dX7_filter_11 : decode cX7_filter 11 = .ok (.invokevirtual 45, 3) := by decide +kernel
theorem dX7_filter_14 : decode cX7_filter 14 = .ok (.invokevirtual 49, 3) := by decide +kernel
theorem dX7_filter_17 : decode cX7_filter 17 = .ok (.aload_n 0, 1) := by decide +kernel
theorem dX7_filter_18 : decode cX7_filter 18 = .ok (.aload_n 1, 1) := by decide +kernel
theorem dX7_filter_19 : decode cX7_filter 19 = .ok (.getfield 201, 3) := by decide +kernel
theorem dX7_filter_22 : decode cX7_filter 22 = .ok (.iload_n 2, 1) := by decide +kernel
theorem dX7_filter_23 : decode cX7_filter 23 = .ok (.iconst 1, 1) := by decide +kernel
theorem dX7_filter_24 : decode cX7_filter 24 = .ok (.iadd, 1) := by decide +kernel
theorem dX7_filter_25 : decode cX7_filter 25 = .ok (.invokevirtual 198, 3) := by decide +kernel
theorem dX7_filter_28 : decode cX7_filter 28 = .ok (.lstore_n 3, 1) := by decide +kernel
theorem dX7_filter_29 : decode cX7_filter 29 = .ok (.aload_n 0, 1) := by decide +kernel
theorem dX7_filter_30 : decode cX7_filter 30 = .ok (.getfield 33, 3) := by decide +kernel
theorem dX7_filter_33 : decode cX7_filter 33 = .ok (.ifCond .eq 5, 3) := by decide +kernel
theorem dX7_filter_38 : decode cX7_filter 38 = .ok (.aload_n 0, 1) := by decide +kernel
theorem dX7_filter_39 : decode cX7_filter 39 = .ok (.iload_n 2, 1) := by decide +kernel
theorem dX7_filter_40 : decode cX7_filter 40 = .ok (.iconst 0, 1) := by decide +kernel
theorem dX7_filter_41 : decode cX7_filter 41 = .ok (.iconst 0, 1) := by decide +kernel
theorem dX7_filter_42 : decode cX7_filter 42 = .ok (.invokevirtual 194, 3) := by decide +kernel
theorem dX7_filter_45 : decode cX7_filter 45 = .ok (.aload_n 0, 1) := by decide +kernel
theorem dX7_filter_46 : decode cX7_filter 46 = .ok (.iload_n 2, 1) := by decide +kernel
theorem dX7_filter_47 : decode cX7_filter 47 = .ok (.iconst 1, 1) := by decide +kernel
theorem dX7_filter_48 : decode cX7_filter 48 = .ok (.iadd, 1) := by decide +kernel
theorem dX7_filter_49 : decode cX7_filter 49 = .ok (.aload_n 1, 1) := by decide +kernel
theorem dX7_filter_50 : decode cX7_filter 50 = .ok (.getfield 135, 3) := by decide +kernel
theorem dX7_filter_53 : decode cX7_filter 53 = .ok (.lload_n 3, 1) := by decide +kernel
theorem dX7_filter_54 : decode cX7_filter 54 = .ok (.invokevirtual 49, 3) := by decide +kernel
theorem dX7_filter_57 : decode cX7_filter 57 = .ok (.aload_n 0, 1) := by decide +kernel
theorem dX7_filter_58 : decode cX7_filter 58 = .ok (.aload_n 1, 1) := by decide +kernel
theorem dX7_filter_59 : decode cX7_filter 59 = .ok (.getfield 71, 3) := by decide +kernel
theorem dX7_filter_62 : decode cX7_filter 62 = .ok (.iload_n 2, 1) := by decide +kernel
theorem dX7_filter_63 : decode cX7_filter 63 = .ok (.iconst 1, 1) := by decide +kernel
theorem dX7_filter_64 : decode cX7_filter 64 = .ok (.iadd, 1) := by decide +kernel
theorem dX7_filter_65 : decode cX7_filter 65 = .ok (.invokevirtual 198, 3) := by decide +kernel
theorem dX7_filter_68 : decode cX7_filter 68 = .ok (.lreturn, 1) := by decide +kernel
theorem dX7_filter_36 : decode cX7_filter 36 = .ok (.lconst 0, 1) := by decide +kernel
theorem dX7_filter_37 : decode cX7_filter 37 = .ok (.lreturn, 1) := by decide +kernel
theorem hy_X7_filter : yX7_filter.cls ≠ "java/lang/invoke/MethodHandle" ∧ yX7_filter.cls ≠ "java/lang/invoke/VarHandle" ∧ (parseMethodDescriptor yX7_filter.desc).map (fun d => d.parameters.length) = some 2 := ⟨by decide, by decide, by decide +kernel⟩
def f_X7_filter (P : Nat → Int32 → Int32 → wS → Option (Int64 × wS)) (o : Nat) (p1 : Nat) (p2 : Int32) (S : wS) : Option ((Int64) × wS) :=
  o_gI 1 2 p1 S fun x1 =>
  o_ck (s_K S o = 7) (o_call (f_X7_taken o p2 x1 S) fun x2 S1 =>
  o_ck (s_K S1 o = 7) (o_call (f_X7_hand o (p2 + (1 : Int32)) 0 x2 S1) fun _ S2 =>
  o_gI 1 3 p1 S2 fun x3 =>
  o_ck (s_K S2 o = 7) (o_call (P o x3 (p2 + (1 : Int32)) S2) fun x4 S3 =>
  o_gI 7 11 o S3 fun x5 =>
  if x5 = 0 then (
  o_ck (s_K S3 o = 7) (o_call (f_X7_handOn o p2 0 0 S3) fun _ S4 =>
  o_gI 1 2 p1 S4 fun x6 =>
  o_ck (s_K S4 o = 7) (o_call (f_X7_hand o (p2 + (1 : Int32)) x6 x4 S4) fun _ S5 =>
  o_gI 1 1 p1 S5 fun x7 =>
  o_ck (s_K S5 o = 7) (o_call (P o x7 (p2 + (1 : Int32)) S5) fun x8 S6 =>
  some (x8, S6))))) else (
  some (0, S3)))))
set_option maxHeartbeats 4000000 in
set_option maxRecDepth 100000 in
theorem c_X7_filter {l : Launch} {D : va_G} {Y : Nat → ClassId} {aR : Nat → Nat} {A : Nat → Prop} {P : Nat → Int32 → Int32 → wS → Option (Int64 × wS)} {F G : Nat} (hP : ∀ (o : Nat) (x y : Int32) (S : wS) (r : Int64) (S' : wS), P o x y S = some (r, S') → jq_S l D Y aR A yX7_perform cX7_perform 4 (some .long) F G [.ref o, .int x, .int y] S (some (.long r)) S') (hF : 40 ≤ F) (hG : 1000 ≤ G) {o : Nat} {p1 : Nat} {p2 : Int32} {S S' : wS} {r : Int64} (hf : f_X7_filter P o p1 p2 S = some (r, S')) : jq_S l D Y aR A yX7_filter cX7_filter 5 (some .long) (F + 1) (G + 60) [.ref o, .ref p1, .int p2] S (some (.long r)) S' := by
  unfold f_X7_filter at hf
  refine jq_enterS (by decide) (Nat.le_of_ble_eq_true rfl) fun p e s m args below meth c ls H locs hX hJ hl => ?_
  have hl : lv_has ls 5 [(0, .ref o), (1, .ref p1), (2, .int p2)] := hl
  have hx := hX.1
  have hb := hX.2.1
  have hm := hX.2.2.1
  have ho := hX.2.2.2.1
  have ht := hX.2.2.2.2.1
  have hn := hX.2.2.2.2.2.1.2.1
  refine lv_aload_n hx hb dX7_filter_0 rfl (lv_at hl 0 rfl) ?_
  refine lv_iload_n hx hb dX7_filter_1 rfl (lv_at hl 2 rfl) ?_
  refine lv_iconst (v := 1) hx hb dX7_filter_2 (by decide) ?_
  refine lv_iadd hx hb dX7_filter_3 ?_
  refine lv_iconst (v := 0) hx hb dX7_filter_4 (by decide) ?_
  refine lv_aload_n hx hb dX7_filter_5 rfl (lv_at hl 0 rfl) ?_
  refine lv_iload_n hx hb dX7_filter_6 rfl (lv_at hl 2 rfl) ?_
  refine lv_aload_n hx hb dX7_filter_7 rfl (lv_at hl 1 rfl) ?_
  replace hf := o_gI_e hf
  obtain ⟨hk1, x1, hx1, hf⟩ := hf
  refine gn_X0_b hX hJ hk1 hx1 qn278 dX7_filter_8 ?_
  replace hf := o_ck_e hf
  obtain ⟨hk2, hf⟩ := hf
  replace hf := o_call_e hf
  obtain ⟨x2, S1, hq1, hf⟩ := hf
  refine jq_doS hX hJ (jq_okV (As := [.int p2, .int x1]) (rest := [.int 0, .int (p2 + (1 : Int32)), .ref o]) hx hb hm ho ht (wJ.recv hX hJ (by rw [hk2]; decide) (wE_X7 hk2) rfl) qw540 qw542 qs47 qw543 qw5 hy_X7_taken rfl hl.1 (Nat.le_of_ble_eq_true rfl) dX7_filter_11) (c_X7_taken hq1) (by omega) (by omega) (fun H locs hJ' => ?_)
  clear hJ
  have hJ := hJ'
  clear hJ'
  replace hf := o_ck_e hf
  obtain ⟨hk3, hf⟩ := hf
  replace hf := o_call_e hf
  obtain ⟨_, S2, hq2, hf⟩ := hf
  refine jq_doS hX hJ (jq_okV (As := [.int (p2 + (1 : Int32)), .int 0, .long x2]) (rest := []) hx hb hm ho ht (wJ.recv hX hJ (by rw [hk3]; decide) (wE_X7 hk3) rfl) qw598 qw526 qs44 qw527 qw5 hy_X7_hand rfl hl.1 (Nat.le_of_ble_eq_true rfl) dX7_filter_14) (c_X7_hand hq2) (by omega) (by omega) (fun H locs hJ' => ?_)
  clear hJ
  have hJ := hJ'
  clear hJ'
  refine lv_aload_n hx hb dX7_filter_17 rfl (lv_at hl 0 rfl) ?_
  refine lv_aload_n hx hb dX7_filter_18 rfl (lv_at hl 1 rfl) ?_
  replace hf := o_gI_e hf
  obtain ⟨hk4, x3, hx3, hf⟩ := hf
  refine gn_X0_c hX hJ hk4 hx3 qn281 dX7_filter_19 ?_
  refine lv_iload_n hx hb dX7_filter_22 rfl (lv_at hl 2 rfl) ?_
  refine lv_iconst (v := 1) hx hb dX7_filter_23 (by decide) ?_
  refine lv_iadd hx hb dX7_filter_24 ?_
  replace hf := o_ck_e hf
  obtain ⟨hk5, hf⟩ := hf
  replace hf := o_call_e hf
  obtain ⟨x4, S3, hq3, hf⟩ := hf
  refine jq_doS hX hJ (jq_okV (As := [.int x3, .int (p2 + (1 : Int32))]) (rest := []) hx hb hm ho ht (wJ.recv hX hJ (by rw [hk5]; decide) (wE_X7 hk5) rfl) qw599 qw533 qs45 qw534 qw5 hy_X7_perform rfl hl.1 (Nat.le_of_ble_eq_true rfl) dX7_filter_25) (hP _ _ _ _ _ _ hq3) (by omega) (by omega) (fun H locs hJ' => ?_)
  clear hJ
  have hJ := hJ'
  clear hJ'
  refine lv_lstore_n (lv' := [(3, .long x4), (0, .ref o), (1, .ref p1), (2, .int p2)]) hx hb dX7_filter_28 rfl hl (by decide) rfl (fun ls hl' => ?_)
  clear hl
  have hl := hl'
  clear hl'
  refine lv_aload_n hx hb dX7_filter_29 rfl (lv_at hl 1 rfl) ?_
  replace hf := o_gI_e hf
  obtain ⟨hk6, x5, hx5, hf⟩ := hf
  refine gf_X7_failure hX hJ hk6 hx5 qw85 dX7_filter_30 ?_
  refine lv_if_eq (tgt := 38) hx hb dX7_filter_33 (by decide) (fun c1 => ?_) (fun c1 => ?_)
  · replace hf := o_t hf c1
    refine lv_aload_n hx hb dX7_filter_38 rfl (lv_at hl 1 rfl) ?_
    refine lv_iload_n hx hb dX7_filter_39 rfl (lv_at hl 3 rfl) ?_
    refine lv_iconst (v := 0) hx hb dX7_filter_40 (by decide) ?_
    refine lv_iconst (v := 0) hx hb dX7_filter_41 (by decide) ?_
    replace hf := o_ck_e hf
    obtain ⟨hk7, hf⟩ := hf
    replace hf := o_call_e hf
    obtain ⟨_, S4, hq4, hf⟩ := hf
    refine jq_doS hX hJ (jq_okV (As := [.int p2, .int 0, .int 0]) (rest := []) hx hb hm ho ht (wJ.recv hX hJ (by rw [hk7]; decide) (wE_X7 hk7) rfl) qw593 qw595 qs58 qw596 qw5 hy_X7_handOn rfl hl.1 (Nat.le_of_ble_eq_true rfl) dX7_filter_42) (c_X7_handOn hq4) (by omega) (by omega) (fun H locs hJ' => ?_)
    clear hJ
    have hJ := hJ'
    clear hJ'
    refine lv_aload_n hx hb dX7_filter_45 rfl (lv_at hl 1 rfl) ?_
    refine lv_iload_n hx hb dX7_filter_46 rfl (lv_at hl 3 rfl) ?_
    refine lv_iconst (v := 1) hx hb dX7_filter_47 (by decide) ?_
    refine lv_iadd hx hb dX7_filter_48 ?_
    refine lv_aload_n hx hb dX7_filter_49 rfl (lv_at hl 2 rfl) ?_
    replace hf := o_gI_e hf
    obtain ⟨hk8, x6, hx6, hf⟩ := hf
    refine gn_X0_b hX hJ hk8 hx6 qn278 dX7_filter_50 ?_
    refine lv_lload_n hx hb dX7_filter_53 rfl (lv_at hl 0 rfl) ?_
    replace hf := o_ck_e hf
    obtain ⟨hk9, hf⟩ := hf
    replace hf := o_call_e hf
    obtain ⟨_, S5, hq5, hf⟩ := hf
    refine jq_doS hX hJ (jq_okV (As := [.int (p2 + (1 : Int32)), .int x6, .long x4]) (rest := []) hx hb hm ho ht (wJ.recv hX hJ (by rw [hk9]; decide) (wE_X7 hk9) rfl) qw598 qw526 qs44 qw527 qw5 hy_X7_hand rfl hl.1 (Nat.le_of_ble_eq_true rfl) dX7_filter_54) (c_X7_hand hq5) (by omega) (by omega) (fun H locs hJ' => ?_)
    clear hJ
    have hJ := hJ'
    clear hJ'
    refine lv_aload_n hx hb dX7_filter_57 rfl (lv_at hl 1 rfl) ?_
    refine lv_aload_n hx hb dX7_filter_58 rfl (lv_at hl 2 rfl) ?_
    replace hf := o_gI_e hf
    obtain ⟨hk10, x7, hx7, hf⟩ := hf
    refine gn_X0_a hX hJ hk10 hx7 qn275 dX7_filter_59 ?_
    refine lv_iload_n hx hb dX7_filter_62 rfl (lv_at hl 3 rfl) ?_
    refine lv_iconst (v := 1) hx hb dX7_filter_63 (by decide) ?_
    refine lv_iadd hx hb dX7_filter_64 ?_
    replace hf := o_ck_e hf
    obtain ⟨hk11, hf⟩ := hf
    replace hf := o_call_e hf
    obtain ⟨x8, S6, hq6, hf⟩ := hf
    refine jq_doS hX hJ (jq_okV (As := [.int x7, .int (p2 + (1 : Int32))]) (rest := []) hx hb hm ho ht (wJ.recv hX hJ (by rw [hk11]; decide) (wE_X7 hk11) rfl) qw599 qw533 qs45 qw534 qw5 hy_X7_perform rfl hl.1 (Nat.le_of_ble_eq_true rfl) dX7_filter_65) (hP _ _ _ _ _ _ hq6) (by omega) (by omega) (fun H locs hJ' => ?_)
    clear hJ
    have hJ := hJ'
    clear hJ'
    obtain ⟨rfl, rfl⟩ := Prod.mk.inj (Option.some.inj hf)
    exact jq_lret hX hJ.2.2 dX7_filter_68 ⟨rfl, rfl, rfl, hJ.1, hJ.2.1⟩
  · replace hf := o_f hf c1
    refine lv_lconst (v := 0) hx hb dX7_filter_36 (by decide) ?_
    obtain ⟨rfl, rfl⟩ := Prod.mk.inj (Option.some.inj hf)
    exact jq_lret hX hJ.2.2 dX7_filter_37 ⟨rfl, rfl, rfl, hJ.1, hJ.2.1⟩
theorem dX7_fold_0 : decode cX7_fold 0 = .ok (.aload_n 0, 1) := by decide +kernel
theorem dX7_fold_1 : decode cX7_fold 1 = .ok (.iload_n 2, 1) := by decide +kernel
theorem dX7_fold_2 : decode cX7_fold 2 = .ok (.iconst 0, 1) := by decide +kernel
theorem dX7_fold_3 : decode cX7_fold 3 = .ok (.iconst 0, 1) := by decide +kernel
theorem dX7_fold_4 : decode cX7_fold 4 = .ok (.invokevirtual 194, 3) := by decide +kernel
theorem dX7_fold_7 : decode cX7_fold 7 = .ok (.aload_n 0, 1) := by decide +kernel
theorem dX7_fold_8 : decode cX7_fold 8 = .ok (.aload_n 1, 1) := by decide +kernel
theorem dX7_fold_9 : decode cX7_fold 9 = .ok (.getfield 135, 3) := by decide +kernel
theorem dX7_fold_12 : decode cX7_fold 12 = .ok (.iload_n 2, 1) := by decide +kernel
theorem dX7_fold_13 : decode cX7_fold 13 = .ok (.iconst 1, 1) := by decide +kernel
theorem dX7_fold_14 : decode cX7_fold 14 = .ok (.iadd, 1) := by decide +kernel
theorem dX7_fold_15 : decode cX7_fold 15 = .ok (.invokevirtual 198, 3) := by decide +kernel
theorem dX7_fold_18 : decode cX7_fold 18 = .ok (.lstore_n 3, 1) := by decide +kernel
theorem dX7_fold_19 : decode cX7_fold 19 = .ok (.aload_n 0, 1) := by decide +kernel
theorem dX7_fold_20 : decode cX7_fold 20 = .ok (.getfield 33, 3) := by decide +kernel
theorem dX7_fold_23 : decode cX7_fold 23 = .ok (.ifCond .eq 5, 3) := by decide +kernel
theorem dX7_fold_28 : decode cX7_fold 28 = .ok (.aload_n 0, 1) := by decide +kernel
theorem dX7_fold_29 : decode cX7_fold 29 = .ok (.iload_n 2, 1) := by decide +kernel
theorem dX7_fold_30 : decode cX7_fold 30 = .ok (.iconst 0, 1) := by decide +kernel
theorem dX7_fold_31 : decode cX7_fold 31 = .ok (.iconst 1, 1) := by decide +kernel
theorem dX7_fold_32 : decode cX7_fold 32 = .ok (.invokevirtual 194, 3) := by decide +kernel
theorem dX7_fold_35 : decode cX7_fold 35 = .ok (.aload_n 0, 1) := by decide +kernel
theorem dX7_fold_36 : decode cX7_fold 36 = .ok (.iload_n 2, 1) := by decide +kernel
theorem dX7_fold_37 : decode cX7_fold 37 = .ok (.iconst 1, 1) := by decide +kernel
theorem dX7_fold_38 : decode cX7_fold 38 = .ok (.iadd, 1) := by decide +kernel
theorem dX7_fold_39 : decode cX7_fold 39 = .ok (.iconst 0, 1) := by decide +kernel
theorem dX7_fold_40 : decode cX7_fold 40 = .ok (.lload_n 3, 1) := by decide +kernel
theorem dX7_fold_41 : decode cX7_fold 41 = .ok (.invokevirtual 49, 3) := by decide +kernel
theorem dX7_fold_44 : decode cX7_fold 44 = .ok (.aload_n 0, 1) := by decide +kernel
theorem dX7_fold_45 : decode cX7_fold 45 = .ok (.aload_n 1, 1) := by decide +kernel
theorem dX7_fold_46 : decode cX7_fold 46 = .ok (.getfield 71, 3) := by decide +kernel
theorem dX7_fold_49 : decode cX7_fold 49 = .ok (.iload_n 2, 1) := by decide +kernel
theorem dX7_fold_50 : decode cX7_fold 50 = .ok (.iconst 1, 1) := by decide +kernel
theorem dX7_fold_51 : decode cX7_fold 51 = .ok (.iadd, 1) := by decide +kernel
theorem dX7_fold_52 : decode cX7_fold 52 = .ok (.invokevirtual 198, 3) := by decide +kernel
theorem dX7_fold_55 : decode cX7_fold 55 = .ok (.lreturn, 1) := by decide +kernel
theorem dX7_fold_26 : decode cX7_fold 26 = .ok (.lconst 0, 1) := by decide +kernel
theorem dX7_fold_27 : decode cX7_fold 27 = .ok (.lreturn, 1) := by decide +kernel
theorem hy_X7_fold : yX7_fold.cls ≠ "java/lang/invoke/MethodHandle" ∧ yX7_fold.cls ≠ "java/lang/invoke/VarHandle" ∧ (parseMethodDescriptor yX7_fold.desc).map (fun d => d.parameters.length) = some 2 := ⟨by decide, by decide, by decide +kernel⟩
def f_X7_fold (P : Nat → Int32 → Int32 → wS → Option (Int64 × wS)) (o : Nat) (p1 : Nat) (p2 : Int32) (S : wS) : Option ((Int64) × wS) :=
  o_ck (s_K S o = 7) (o_call (f_X7_handOn o p2 0 0 S) fun _ S1 =>
  o_gI 1 2 p1 S1 fun x1 =>
  o_ck (s_K S1 o = 7) (o_call (P o x1 (p2 + (1 : Int32)) S1) fun x2 S2 =>
  o_gI 7 11 o S2 fun x3 =>
  if x3 = 0 then (
  o_ck (s_K S2 o = 7) (o_call (f_X7_handOn o p2 0 1 S2) fun _ S3 =>
  o_ck (s_K S3 o = 7) (o_call (f_X7_hand o (p2 + (1 : Int32)) 0 x2 S3) fun _ S4 =>
  o_gI 1 1 p1 S4 fun x4 =>
  o_ck (s_K S4 o = 7) (o_call (P o x4 (p2 + (1 : Int32)) S4) fun x5 S5 =>
  some (x5, S5))))) else (
  some (0, S2))))
set_option maxHeartbeats 4000000 in
set_option maxRecDepth 100000 in
theorem c_X7_fold {l : Launch} {D : va_G} {Y : Nat → ClassId} {aR : Nat → Nat} {A : Nat → Prop} {P : Nat → Int32 → Int32 → wS → Option (Int64 × wS)} {F G : Nat} (hP : ∀ (o : Nat) (x y : Int32) (S : wS) (r : Int64) (S' : wS), P o x y S = some (r, S') → jq_S l D Y aR A yX7_perform cX7_perform 4 (some .long) F G [.ref o, .int x, .int y] S (some (.long r)) S') (hF : 40 ≤ F) (hG : 1000 ≤ G) {o : Nat} {p1 : Nat} {p2 : Int32} {S S' : wS} {r : Int64} (hf : f_X7_fold P o p1 p2 S = some (r, S')) : jq_S l D Y aR A yX7_fold cX7_fold 5 (some .long) (F + 1) (G + 60) [.ref o, .ref p1, .int p2] S (some (.long r)) S' := by
  unfold f_X7_fold at hf
  refine jq_enterS (by decide) (Nat.le_of_ble_eq_true rfl) fun p e s m args below meth c ls H locs hX hJ hl => ?_
  have hl : lv_has ls 5 [(0, .ref o), (1, .ref p1), (2, .int p2)] := hl
  have hx := hX.1
  have hb := hX.2.1
  have hm := hX.2.2.1
  have ho := hX.2.2.2.1
  have ht := hX.2.2.2.2.1
  have hn := hX.2.2.2.2.2.1.2.1
  refine lv_aload_n hx hb dX7_fold_0 rfl (lv_at hl 0 rfl) ?_
  refine lv_iload_n hx hb dX7_fold_1 rfl (lv_at hl 2 rfl) ?_
  refine lv_iconst (v := 0) hx hb dX7_fold_2 (by decide) ?_
  refine lv_iconst (v := 0) hx hb dX7_fold_3 (by decide) ?_
  replace hf := o_ck_e hf
  obtain ⟨hk1, hf⟩ := hf
  replace hf := o_call_e hf
  obtain ⟨_, S1, hq1, hf⟩ := hf
  refine jq_doS hX hJ (jq_okV (As := [.int p2, .int 0, .int 0]) (rest := []) hx hb hm ho ht (wJ.recv hX hJ (by rw [hk1]; decide) (wE_X7 hk1) rfl) qw593 qw595 qs58 qw596 qw5 hy_X7_handOn rfl hl.1 (Nat.le_of_ble_eq_true rfl) dX7_fold_4) (c_X7_handOn hq1) (by omega) (by omega) (fun H locs hJ' => ?_)
  clear hJ
  have hJ := hJ'
  clear hJ'
  refine lv_aload_n hx hb dX7_fold_7 rfl (lv_at hl 0 rfl) ?_
  refine lv_aload_n hx hb dX7_fold_8 rfl (lv_at hl 1 rfl) ?_
  replace hf := o_gI_e hf
  obtain ⟨hk2, x1, hx1, hf⟩ := hf
  refine gn_X0_b hX hJ hk2 hx1 qn278 dX7_fold_9 ?_
  refine lv_iload_n hx hb dX7_fold_12 rfl (lv_at hl 2 rfl) ?_
  refine lv_iconst (v := 1) hx hb dX7_fold_13 (by decide) ?_
  refine lv_iadd hx hb dX7_fold_14 ?_
  replace hf := o_ck_e hf
  obtain ⟨hk3, hf⟩ := hf
  replace hf := o_call_e hf
  obtain ⟨x2, S2, hq2, hf⟩ := hf
  refine jq_doS hX hJ (jq_okV (As := [.int x1, .int (p2 + (1 : Int32))]) (rest := []) hx hb hm ho ht (wJ.recv hX hJ (by rw [hk3]; decide) (wE_X7 hk3) rfl) qw599 qw533 qs45 qw534 qw5 hy_X7_perform rfl hl.1 (Nat.le_of_ble_eq_true rfl) dX7_fold_15) (hP _ _ _ _ _ _ hq2) (by omega) (by omega) (fun H locs hJ' => ?_)
  clear hJ
  have hJ := hJ'
  clear hJ'
  refine lv_lstore_n (lv' := [(3, .long x2), (0, .ref o), (1, .ref p1), (2, .int p2)]) hx hb dX7_fold_18 rfl hl (by decide) rfl (fun ls hl' => ?_)
  clear hl
  have hl := hl'
  clear hl'
  refine lv_aload_n hx hb dX7_fold_19 rfl (lv_at hl 1 rfl) ?_
  replace hf := o_gI_e hf
  obtain ⟨hk4, x3, hx3, hf⟩ := hf
  refine gf_X7_failure hX hJ hk4 hx3 qw85 dX7_fold_20 ?_
  refine lv_if_eq (tgt := 28) hx hb dX7_fold_23 (by decide) (fun c1 => ?_) (fun c1 => ?_)
  · replace hf := o_t hf c1
    refine lv_aload_n hx hb dX7_fold_28 rfl (lv_at hl 1 rfl) ?_
    refine lv_iload_n hx hb dX7_fold_29 rfl (lv_at hl 3 rfl) ?_
    refine lv_iconst (v := 0) hx hb dX7_fold_30 (by decide) ?_
    refine lv_iconst (v := 1) hx hb dX7_fold_31 (by decide) ?_
    replace hf := o_ck_e hf
    obtain ⟨hk5, hf⟩ := hf
    replace hf := o_call_e hf
    obtain ⟨_, S3, hq3, hf⟩ := hf
    refine jq_doS hX hJ (jq_okV (As := [.int p2, .int 0, .int 1]) (rest := []) hx hb hm ho ht (wJ.recv hX hJ (by rw [hk5]; decide) (wE_X7 hk5) rfl) qw593 qw595 qs58 qw596 qw5 hy_X7_handOn rfl hl.1 (Nat.le_of_ble_eq_true rfl) dX7_fold_32) (c_X7_handOn hq3) (by omega) (by omega) (fun H locs hJ' => ?_)
    clear hJ
    have hJ := hJ'
    clear hJ'
    refine lv_aload_n hx hb dX7_fold_35 rfl (lv_at hl 1 rfl) ?_
    refine lv_iload_n hx hb dX7_fold_36 rfl (lv_at hl 3 rfl) ?_
    refine lv_iconst (v := 1) hx hb dX7_fold_37 (by decide) ?_
    refine lv_iadd hx hb dX7_fold_38 ?_
    refine lv_iconst (v := 0) hx hb dX7_fold_39 (by decide) ?_
    refine lv_lload_n hx hb dX7_fold_40 rfl (lv_at hl 0 rfl) ?_
    replace hf := o_ck_e hf
    obtain ⟨hk6, hf⟩ := hf
    replace hf := o_call_e hf
    obtain ⟨_, S4, hq4, hf⟩ := hf
    refine jq_doS hX hJ (jq_okV (As := [.int (p2 + (1 : Int32)), .int 0, .long x2]) (rest := []) hx hb hm ho ht (wJ.recv hX hJ (by rw [hk6]; decide) (wE_X7 hk6) rfl) qw598 qw526 qs44 qw527 qw5 hy_X7_hand rfl hl.1 (Nat.le_of_ble_eq_true rfl) dX7_fold_41) (c_X7_hand hq4) (by omega) (by omega) (fun H locs hJ' => ?_)
    clear hJ
    have hJ := hJ'
    clear hJ'
    refine lv_aload_n hx hb dX7_fold_44 rfl (lv_at hl 1 rfl) ?_
    refine lv_aload_n hx hb dX7_fold_45 rfl (lv_at hl 2 rfl) ?_
    replace hf := o_gI_e hf
    obtain ⟨hk7, x4, hx4, hf⟩ := hf
    refine gn_X0_a hX hJ hk7 hx4 qn275 dX7_fold_46 ?_
    refine lv_iload_n hx hb dX7_fold_49 rfl (lv_at hl 3 rfl) ?_
    refine lv_iconst (v := 1) hx hb dX7_fold_50 (by decide) ?_
    refine lv_iadd hx hb dX7_fold_51 ?_
    replace hf := o_ck_e hf
    obtain ⟨hk8, hf⟩ := hf
    replace hf := o_call_e hf
    obtain ⟨x5, S5, hq5, hf⟩ := hf
    refine jq_doS hX hJ (jq_okV (As := [.int x4, .int (p2 + (1 : Int32))]) (rest := []) hx hb hm ho ht (wJ.recv hX hJ (by rw [hk8]; decide) (wE_X7 hk8) rfl) qw599 qw533 qs45 qw534 qw5 hy_X7_perform rfl hl.1 (Nat.le_of_ble_eq_true rfl) dX7_fold_52) (hP _ _ _ _ _ _ hq5) (by omega) (by omega) (fun H locs hJ' => ?_)
    clear hJ
    have hJ := hJ'
    clear hJ'
    obtain ⟨rfl, rfl⟩ := Prod.mk.inj (Option.some.inj hf)
    exact jq_lret hX hJ.2.2 dX7_fold_55 ⟨rfl, rfl, rfl, hJ.1, hJ.2.1⟩
  · replace hf := o_f hf c1
    refine lv_lconst (v := 0) hx hb dX7_fold_26 (by decide) ?_
    obtain ⟨rfl, rfl⟩ := Prod.mk.inj (Option.some.inj hf)
    exact jq_lret hX hJ.2.2 dX7_fold_27 ⟨rfl, rfl, rfl, hJ.1, hJ.2.1⟩
theorem dX7_thenOther_0 : decode cX7_thenOther 0 = .ok (.aload_n 0, 1) := by decide +kernel
theorem dX7_thenOther_1 : decode cX7_thenOther 1 = .ok (.iload_n 2, 1) := by decide +kernel
theorem dX7_thenOther_2 : decode cX7_thenOther 2 = .ok (.iconst 0, 1) := by decide +kernel
theorem dX7_thenOther_3 : decode cX7_thenOther 3 = .ok (.iconst 0, 1) := by decide +kernel
theorem dX7_thenOther_4 : decode cX7_thenOther 4 = .ok (.invokevirtual 194, 3) := by decide +kernel
theorem dX7_thenOther_7 : decode cX7_thenOther 7 = .ok (.aload_n 0, 1) := by decide +kernel
theorem dX7_thenOther_8 : decode cX7_thenOther 8 = .ok (.aload_n 1, 1) := by decide +kernel
theorem dX7_thenOther_9 : decode cX7_thenOther 9 = .ok (.getfield 71, 3) := by decide +kernel
theorem dX7_thenOther_12 : decode cX7_thenOther 12 = .ok (.iload_n 2, 1) := by decide +kernel
theorem dX7_thenOther_13 : decode cX7_thenOther 13 = .ok (.iconst 1, 1) := by decide +kernel
theorem dX7_thenOther_14 : decode cX7_thenOther 14 = .ok (.iadd, 1) := by decide +kernel
theorem dX7_thenOther_15 : decode cX7_thenOther 15 = .ok (.invokevirtual 198, 3) := by decide +kernel
theorem dX7_thenOther_18 : decode cX7_thenOther 18 = .ok (.lstore_n 3, 1) := by decide +kernel
theorem dX7_thenOther_19 : decode cX7_thenOther 19 = .ok (.aload_n 0, 1) := by decide +kernel
theorem dX7_thenOther_20 : decode cX7_thenOther 20 = .ok (.getfield 33, 3) := by decide +kernel
theorem dX7_thenOther_23 : decode cX7_thenOther 23 = .ok (.ifCond .eq 5, 3) := by decide +kernel
theorem dX7_thenOther_28 : decode cX7_thenOther 28 = .ok (.aload_n 0, 1) := by decide +kernel
theorem dX7_thenOther_29 : decode cX7_thenOther 29 = .ok (.iload_n 2, 1) := by decide +kernel
theorem dX7_thenOther_30 : decode cX7_thenOther 30 = .ok (.iconst 1, 1) := by decide +kernel
theorem dX7_thenOther_31 : decode cX7_thenOther 31 = .ok (.iadd, 1) := by decide +kernel
theorem dX7_thenOther_32 : decode cX7_thenOther 32 = .ok (.iconst 0, 1) := by decide +kernel
theorem dX7_thenOther_33 : decode cX7_thenOther 33 = .ok (.lload_n 3, 1) := by decide +kernel
theorem dX7_thenOther_34 : decode cX7_thenOther 34 = .ok (.invokevirtual 49, 3) := by decide +kernel
theorem dX7_thenOther_37 : decode cX7_thenOther 37 = .ok (.aload_n 0, 1) := by decide +kernel
theorem dX7_thenOther_38 : decode cX7_thenOther 38 = .ok (.aload_n 1, 1) := by decide +kernel
theorem dX7_thenOther_39 : decode cX7_thenOther 39 = .ok (.getfield 135, 3) := by decide +kernel
theorem dX7_thenOther_42 : decode cX7_thenOther 42 = .ok (.iload_n 2, 1) := by decide +kernel
theorem dX7_thenOther_43 : decode cX7_thenOther 43 = .ok (.iconst 1, 1) := by decide +kernel
theorem dX7_thenOther_44 : decode cX7_thenOther 44 = .ok (.iadd, 1) := by decide +kernel
theorem dX7_thenOther_45 : decode cX7_thenOther 45 = .ok (.invokevirtual 198, 3) := by decide +kernel
theorem dX7_thenOther_48 : decode cX7_thenOther 48 = .ok (.lreturn, 1) := by decide +kernel
theorem dX7_thenOther_26 : decode cX7_thenOther 26 = .ok (.lconst 0, 1) := by decide +kernel
theorem dX7_thenOther_27 : decode cX7_thenOther 27 = .ok (.lreturn, 1) := by decide +kernel
theorem hy_X7_thenOther : yX7_thenOther.cls ≠ "java/lang/invoke/MethodHandle" ∧ yX7_thenOther.cls ≠ "java/lang/invoke/VarHandle" ∧ (parseMethodDescriptor yX7_thenOther.desc).map (fun d => d.parameters.length) = some 2 := ⟨by decide, by decide, by decide +kernel⟩
def f_X7_thenOther (P : Nat → Int32 → Int32 → wS → Option (Int64 × wS)) (o : Nat) (p1 : Nat) (p2 : Int32) (S : wS) : Option ((Int64) × wS) :=
  o_ck (s_K S o = 7) (o_call (f_X7_handOn o p2 0 0 S) fun _ S1 =>
  o_gI 1 1 p1 S1 fun x1 =>
  o_ck (s_K S1 o = 7) (o_call (P o x1 (p2 + (1 : Int32)) S1) fun x2 S2 =>
  o_gI 7 11 o S2 fun x3 =>
  if x3 = 0 then (
  o_ck (s_K S2 o = 7) (o_call (f_X7_hand o (p2 + (1 : Int32)) 0 x2 S2) fun _ S3 =>
  o_gI 1 2 p1 S3 fun x4 =>
  o_ck (s_K S3 o = 7) (o_call (P o x4 (p2 + (1 : Int32)) S3) fun x5 S4 =>
  some (x5, S4)))) else (
  some (0, S2))))
set_option maxHeartbeats 4000000 in
set_option maxRecDepth 100000 in
theorem c_X7_thenOther {l : Launch} {D : va_G} {Y : Nat → ClassId} {aR : Nat → Nat} {A : Nat → Prop} {P : Nat → Int32 → Int32 → wS → Option (Int64 × wS)} {F G : Nat} (hP : ∀ (o : Nat) (x y : Int32) (S : wS) (r : Int64) (S' : wS), P o x y S = some (r, S') → jq_S l D Y aR A yX7_perform cX7_perform 4 (some .long) F G [.ref o, .int x, .int y] S (some (.long r)) S') (hF : 40 ≤ F) (hG : 1000 ≤ G) {o : Nat} {p1 : Nat} {p2 : Int32} {S S' : wS} {r : Int64} (hf : f_X7_thenOther P o p1 p2 S = some (r, S')) : jq_S l D Y aR A yX7_thenOther cX7_thenOther 5 (some .long) (F + 1) (G + 60) [.ref o, .ref p1, .int p2] S (some (.long r)) S' := by
  unfold f_X7_thenOther at hf
  refine jq_enterS (by decide) (Nat.le_of_ble_eq_true rfl) fun p e s m args below meth c ls H locs hX hJ hl => ?_
  have hl : lv_has ls 5 [(0, .ref o), (1, .ref p1), (2, .int p2)] := hl
  have hx := hX.1
  have hb := hX.2.1
  have hm := hX.2.2.1
  have ho := hX.2.2.2.1
  have ht := hX.2.2.2.2.1
  have hn := hX.2.2.2.2.2.1.2.1
  refine lv_aload_n hx hb dX7_thenOther_0 rfl (lv_at hl 0 rfl) ?_
  refine lv_iload_n hx hb dX7_thenOther_1 rfl (lv_at hl 2 rfl) ?_
  refine lv_iconst (v := 0) hx hb dX7_thenOther_2 (by decide) ?_
  refine lv_iconst (v := 0) hx hb dX7_thenOther_3 (by decide) ?_
  replace hf := o_ck_e hf
  obtain ⟨hk1, hf⟩ := hf
  replace hf := o_call_e hf
  obtain ⟨_, S1, hq1, hf⟩ := hf
  refine jq_doS hX hJ (jq_okV (As := [.int p2, .int 0, .int 0]) (rest := []) hx hb hm ho ht (wJ.recv hX hJ (by rw [hk1]; decide) (wE_X7 hk1) rfl) qw593 qw595 qs58 qw596 qw5 hy_X7_handOn rfl hl.1 (Nat.le_of_ble_eq_true rfl) dX7_thenOther_4) (c_X7_handOn hq1) (by omega) (by omega) (fun H locs hJ' => ?_)
  clear hJ
  have hJ := hJ'
  clear hJ'
  refine lv_aload_n hx hb dX7_thenOther_7 rfl (lv_at hl 0 rfl) ?_
  refine lv_aload_n hx hb dX7_thenOther_8 rfl (lv_at hl 1 rfl) ?_
  replace hf := o_gI_e hf
  obtain ⟨hk2, x1, hx1, hf⟩ := hf
  refine gn_X0_a hX hJ hk2 hx1 qn275 dX7_thenOther_9 ?_
  refine lv_iload_n hx hb dX7_thenOther_12 rfl (lv_at hl 2 rfl) ?_
  refine lv_iconst (v := 1) hx hb dX7_thenOther_13 (by decide) ?_
  refine lv_iadd hx hb dX7_thenOther_14 ?_
  replace hf := o_ck_e hf
  obtain ⟨hk3, hf⟩ := hf
  replace hf := o_call_e hf
  obtain ⟨x2, S2, hq2, hf⟩ := hf
  refine jq_doS hX hJ (jq_okV (As := [.int x1, .int (p2 + (1 : Int32))]) (rest := []) hx hb hm ho ht (wJ.recv hX hJ (by rw [hk3]; decide) (wE_X7 hk3) rfl) qw599 qw533 qs45 qw534 qw5 hy_X7_perform rfl hl.1 (Nat.le_of_ble_eq_true rfl) dX7_thenOther_15) (hP _ _ _ _ _ _ hq2) (by omega) (by omega) (fun H locs hJ' => ?_)
  clear hJ
  have hJ := hJ'
  clear hJ'
  refine lv_lstore_n (lv' := [(3, .long x2), (0, .ref o), (1, .ref p1), (2, .int p2)]) hx hb dX7_thenOther_18 rfl hl (by decide) rfl (fun ls hl' => ?_)
  clear hl
  have hl := hl'
  clear hl'
  refine lv_aload_n hx hb dX7_thenOther_19 rfl (lv_at hl 1 rfl) ?_
  replace hf := o_gI_e hf
  obtain ⟨hk4, x3, hx3, hf⟩ := hf
  refine gf_X7_failure hX hJ hk4 hx3 qw85 dX7_thenOther_20 ?_
  refine lv_if_eq (tgt := 28) hx hb dX7_thenOther_23 (by decide) (fun c1 => ?_) (fun c1 => ?_)
  · replace hf := o_t hf c1
    refine lv_aload_n hx hb dX7_thenOther_28 rfl (lv_at hl 1 rfl) ?_
    refine lv_iload_n hx hb dX7_thenOther_29 rfl (lv_at hl 3 rfl) ?_
    refine lv_iconst (v := 1) hx hb dX7_thenOther_30 (by decide) ?_
    refine lv_iadd hx hb dX7_thenOther_31 ?_
    refine lv_iconst (v := 0) hx hb dX7_thenOther_32 (by decide) ?_
    refine lv_lload_n hx hb dX7_thenOther_33 rfl (lv_at hl 0 rfl) ?_
    replace hf := o_ck_e hf
    obtain ⟨hk5, hf⟩ := hf
    replace hf := o_call_e hf
    obtain ⟨_, S3, hq3, hf⟩ := hf
    refine jq_doS hX hJ (jq_okV (As := [.int (p2 + (1 : Int32)), .int 0, .long x2]) (rest := []) hx hb hm ho ht (wJ.recv hX hJ (by rw [hk5]; decide) (wE_X7 hk5) rfl) qw598 qw526 qs44 qw527 qw5 hy_X7_hand rfl hl.1 (Nat.le_of_ble_eq_true rfl) dX7_thenOther_34) (c_X7_hand hq3) (by omega) (by omega) (fun H locs hJ' => ?_)
    clear hJ
    have hJ := hJ'
    clear hJ'
    refine lv_aload_n hx hb dX7_thenOther_37 rfl (lv_at hl 1 rfl) ?_
    refine lv_aload_n hx hb dX7_thenOther_38 rfl (lv_at hl 2 rfl) ?_
    replace hf := o_gI_e hf
    obtain ⟨hk6, x4, hx4, hf⟩ := hf
    refine gn_X0_b hX hJ hk6 hx4 qn278 dX7_thenOther_39 ?_
    refine lv_iload_n hx hb dX7_thenOther_42 rfl (lv_at hl 3 rfl) ?_
    refine lv_iconst (v := 1) hx hb dX7_thenOther_43 (by decide) ?_
    refine lv_iadd hx hb dX7_thenOther_44 ?_
    replace hf := o_ck_e hf
    obtain ⟨hk7, hf⟩ := hf
    replace hf := o_call_e hf
    obtain ⟨x5, S4, hq4, hf⟩ := hf
    refine jq_doS hX hJ (jq_okV (As := [.int x4, .int (p2 + (1 : Int32))]) (rest := []) hx hb hm ho ht (wJ.recv hX hJ (by rw [hk7]; decide) (wE_X7 hk7) rfl) qw599 qw533 qs45 qw534 qw5 hy_X7_perform rfl hl.1 (Nat.le_of_ble_eq_true rfl) dX7_thenOther_45) (hP _ _ _ _ _ _ hq4) (by omega) (by omega) (fun H locs hJ' => ?_)
    clear hJ
    have hJ := hJ'
    clear hJ'
    obtain ⟨rfl, rfl⟩ := Prod.mk.inj (Option.some.inj hf)
    exact jq_lret hX hJ.2.2 dX7_thenOther_48 ⟨rfl, rfl, rfl, hJ.1, hJ.2.1⟩
  · replace hf := o_f hf c1
    refine lv_lconst (v := 0) hx hb dX7_thenOther_26 (by decide) ?_
    obtain ⟨rfl, rfl⟩ := Prod.mk.inj (Option.some.inj hf)
    exact jq_lret hX hJ.2.2 dX7_thenOther_27 ⟨rfl, rfl, rfl, hJ.1, hJ.2.1⟩
theorem dX7_guard_0 : decode cX7_guard 0 = .ok (.aload_n 0, 1) := by decide +kernel
theorem dX7_guard_1 : decode cX7_guard 1 = .ok (.iload_n 2, 1) := by decide +kernel
theorem dX7_guard_2 : decode cX7_guard 2 = .ok (.iconst 0, 1) := by decide +kernel
theorem dX7_guard_3 : decode cX7_guard 3 = .ok (.iconst 0, 1) := by decide +kernel
theorem dX7_guard_4 : decode cX7_guard 4 = .ok (.invokevirtual 194, 3) := by decide +kernel
theorem dX7_guard_7 : decode cX7_guard 7 = .ok (.aload_n 0, 1) := by decide +kernel
theorem dX7_guard_8 : decode cX7_guard 8 = .ok (.aload_n 1, 1) := by decide +kernel
theorem dX7_guard_9 : decode cX7_guard 9 = .ok (.getfield 71, 3) := by decide +kernel
theorem dX7_guard_12 : decode cX7_guard 12 = .ok (.iload_n 2, 1) := by decide +kernel
theorem dX7_guard_13 : decode cX7_guard 13 = .ok (.iconst 1, 1) := by decide +kernel
theorem dX7_guard_14 : decode cX7_guard 14 = .ok (.iadd, 1) := by decide +kernel
theorem dX7_guard_15 : decode cX7_guard 15 = .ok (.invokevirtual 198, 3) := by decide +kernel
theorem dX7_guard_18 : decode cX7_guard 18 = .ok (.lstore_n 3, 1) := by decide +kernel
theorem dX7_guard_19 : decode cX7_guard 19 = .ok (.aload_n 0, 1) := by decide +kernel
theorem dX7_guard_20 : decode cX7_guard 20 = .ok (.getfield 33, 3) := by decide +kernel
theorem dX7_guard_23 : decode cX7_guard 23 = .ok (.ifCond .eq 5, 3) := by decide +kernel
theorem dX7_guard_28 : decode cX7_guard 28 = .ok (.aload_n 0, 1) := by decide +kernel
theorem dX7_guard_29 : decode cX7_guard 29 = .ok (.lload_n 3, 1) := by decide +kernel
theorem dX7_guard_30 : decode cX7_guard 30 = .ok (.lconst 0, 1) := by decide +kernel
theorem dX7_guard_31 : decode cX7_guard 31 = .ok (.lcmp, 1) := by decide +kernel
theorem dX7_guard_42 : decode cX7_guard 42 = .ok (.aload_n 1, 1) := by decide +kernel
theorem dX7_guard_43 : decode cX7_guard 43 = .ok (.getfield 201, 3) := by decide +kernel
theorem dX7_guard_46 : decode cX7_guard 46 = .ok (.iload_n 2, 1) := by decide +kernel
theorem dX7_guard_47 : decode cX7_guard 47 = .ok (.iconst 1, 1) := by decide +kernel
theorem dX7_guard_48 : decode cX7_guard 48 = .ok (.iadd, 1) := by decide +kernel
theorem dX7_guard_49 : decode cX7_guard 49 = .ok (.invokevirtual 198, 3) := by decide +kernel
theorem dX7_guard_52 : decode cX7_guard 52 = .ok (.lreturn, 1) := by decide +kernel
theorem dX7_guard_35 : decode cX7_guard 35 = .ok (.aload_n 1, 1) := by decide +kernel
theorem dX7_guard_36 : decode cX7_guard 36 = .ok (.getfield 135, 3) := by decide +kernel
theorem dX7_guard_39 : decode cX7_guard 39 = .ok (.goto 7, 3) := by decide +kernel
theorem dX7_guard_32 : decode cX7_guard 32 = .ok (.ifCond .eq 10, 3) := by decide +kernel
theorem dX7_guard_26 : decode cX7_guard 26 = .ok (.lconst 0, 1) := by decide +kernel
theorem dX7_guard_27 : decode cX7_guard 27 = .ok (.lreturn, 1) := by decide +kernel
theorem hy_X7_guard : yX7_guard.cls ≠ "java/lang/invoke/MethodHandle" ∧ yX7_guard.cls ≠ "java/lang/invoke/VarHandle" ∧ (parseMethodDescriptor yX7_guard.desc).map (fun d => d.parameters.length) = some 2 := ⟨by decide, by decide, by decide +kernel⟩
def f_X7_guard (P : Nat → Int32 → Int32 → wS → Option (Int64 × wS)) (o : Nat) (p1 : Nat) (p2 : Int32) (S : wS) : Option ((Int64) × wS) :=
  o_ck (s_K S o = 7) (o_call (f_X7_handOn o p2 0 0 S) fun _ S1 =>
  o_gI 1 1 p1 S1 fun x1 =>
  o_ck (s_K S1 o = 7) (o_call (P o x1 (p2 + (1 : Int32)) S1) fun x2 S2 =>
  o_gI 7 11 o S2 fun x3 =>
  if x3 = 0 then (
  if x2 = 0 then (
  o_gI 1 3 p1 S2 fun x4 =>
  o_ck (s_K S2 o = 7) (o_call (P o x4 (p2 + (1 : Int32)) S2) fun x5 S3 =>
  some (x5, S3))) else (
  o_gI 1 2 p1 S2 fun x6 =>
  o_ck (s_K S2 o = 7) (o_call (P o x6 (p2 + (1 : Int32)) S2) fun x7 S4 =>
  some (x7, S4)))) else (
  some (0, S2))))
set_option maxHeartbeats 4000000 in
set_option maxRecDepth 100000 in
theorem c_X7_guard {l : Launch} {D : va_G} {Y : Nat → ClassId} {aR : Nat → Nat} {A : Nat → Prop} {P : Nat → Int32 → Int32 → wS → Option (Int64 × wS)} {F G : Nat} (hP : ∀ (o : Nat) (x y : Int32) (S : wS) (r : Int64) (S' : wS), P o x y S = some (r, S') → jq_S l D Y aR A yX7_perform cX7_perform 4 (some .long) F G [.ref o, .int x, .int y] S (some (.long r)) S') (hF : 40 ≤ F) (hG : 1000 ≤ G) {o : Nat} {p1 : Nat} {p2 : Int32} {S S' : wS} {r : Int64} (hf : f_X7_guard P o p1 p2 S = some (r, S')) : jq_S l D Y aR A yX7_guard cX7_guard 5 (some .long) (F + 1) (G + 60) [.ref o, .ref p1, .int p2] S (some (.long r)) S' := by
  unfold f_X7_guard at hf
  refine jq_enterS (by decide) (Nat.le_of_ble_eq_true rfl) fun p e s m args below meth c ls H locs hX hJ hl => ?_
  have hl : lv_has ls 5 [(0, .ref o), (1, .ref p1), (2, .int p2)] := hl
  have hx := hX.1
  have hb := hX.2.1
  have hm := hX.2.2.1
  have ho := hX.2.2.2.1
  have ht := hX.2.2.2.2.1
  have hn := hX.2.2.2.2.2.1.2.1
  refine lv_aload_n hx hb dX7_guard_0 rfl (lv_at hl 0 rfl) ?_
  refine lv_iload_n hx hb dX7_guard_1 rfl (lv_at hl 2 rfl) ?_
  refine lv_iconst (v := 0) hx hb dX7_guard_2 (by decide) ?_
  refine lv_iconst (v := 0) hx hb dX7_guard_3 (by decide) ?_
  replace hf := o_ck_e hf
  obtain ⟨hk1, hf⟩ := hf
  replace hf := o_call_e hf
  obtain ⟨_, S1, hq1, hf⟩ := hf
  refine jq_doS hX hJ (jq_okV (As := [.int p2, .int 0, .int 0]) (rest := []) hx hb hm ho ht (wJ.recv hX hJ (by rw [hk1]; decide) (wE_X7 hk1) rfl) qw593 qw595 qs58 qw596 qw5 hy_X7_handOn rfl hl.1 (Nat.le_of_ble_eq_true rfl) dX7_guard_4) (c_X7_handOn hq1) (by omega) (by omega) (fun H locs hJ' => ?_)
  clear hJ
  have hJ := hJ'
  clear hJ'
  refine lv_aload_n hx hb dX7_guard_7 rfl (lv_at hl 0 rfl) ?_
  refine lv_aload_n hx hb dX7_guard_8 rfl (lv_at hl 1 rfl) ?_
  replace hf := o_gI_e hf
  obtain ⟨hk2, x1, hx1, hf⟩ := hf
  refine gn_X0_a hX hJ hk2 hx1 qn275 dX7_guard_9 ?_
  refine lv_iload_n hx hb dX7_guard_12 rfl (lv_at hl 2 rfl) ?_
  refine lv_iconst (v := 1) hx hb dX7_guard_13 (by decide) ?_
  refine lv_iadd hx hb dX7_guard_14 ?_
  replace hf := o_ck_e hf
  obtain ⟨hk3, hf⟩ := hf
  replace hf := o_call_e hf
  obtain ⟨x2, S2, hq2, hf⟩ := hf
  refine jq_doS hX hJ (jq_okV (As := [.int x1, .int (p2 + (1 : Int32))]) (rest := []) hx hb hm ho ht (wJ.recv hX hJ (by rw [hk3]; decide) (wE_X7 hk3) rfl) qw599 qw533 qs45 qw534 qw5 hy_X7_perform rfl hl.1 (Nat.le_of_ble_eq_true rfl) dX7_guard_15) (hP _ _ _ _ _ _ hq2) (by omega) (by omega) (fun H locs hJ' => ?_)
  clear hJ
  have hJ := hJ'
  clear hJ'
  refine lv_lstore_n (lv' := [(3, .long x2), (0, .ref o), (1, .ref p1), (2, .int p2)]) hx hb dX7_guard_18 rfl hl (by decide) rfl (fun ls hl' => ?_)
  clear hl
  have hl := hl'
  clear hl'
  refine lv_aload_n hx hb dX7_guard_19 rfl (lv_at hl 1 rfl) ?_
  replace hf := o_gI_e hf
  obtain ⟨hk4, x3, hx3, hf⟩ := hf
  refine gf_X7_failure hX hJ hk4 hx3 qw85 dX7_guard_20 ?_
  refine lv_if_eq (tgt := 28) hx hb dX7_guard_23 (by decide) (fun c1 => ?_) (fun c1 => ?_)
  · replace hf := o_t hf c1
    refine lv_aload_n hx hb dX7_guard_28 rfl (lv_at hl 1 rfl) ?_
    refine lv_lload_n hx hb dX7_guard_29 rfl (lv_at hl 0 rfl) ?_
    refine lv_lconst (v := 0) hx hb dX7_guard_30 (by decide) ?_
    refine W.lcmp hx hb dX7_guard_31 ?_
    refine lv_if_eq (tgt := 42) hx hb dX7_guard_32 (by decide) (fun c2 => ?_) (fun c2 => ?_)
    · replace hf := o_t hf (qc_eq.mp c2)
      refine lv_aload_n hx hb dX7_guard_42 rfl (lv_at hl 2 rfl) ?_
      replace hf := o_gI_e hf
      obtain ⟨hk5, x4, hx4, hf⟩ := hf
      refine gn_X0_c hX hJ hk5 hx4 qn281 dX7_guard_43 ?_
      refine lv_iload_n hx hb dX7_guard_46 rfl (lv_at hl 3 rfl) ?_
      refine lv_iconst (v := 1) hx hb dX7_guard_47 (by decide) ?_
      refine lv_iadd hx hb dX7_guard_48 ?_
      replace hf := o_ck_e hf
      obtain ⟨hk6, hf⟩ := hf
      replace hf := o_call_e hf
      obtain ⟨x5, S3, hq3, hf⟩ := hf
      refine jq_doS hX hJ (jq_okV (As := [.int x4, .int (p2 + (1 : Int32))]) (rest := []) hx hb hm ho ht (wJ.recv hX hJ (by rw [hk6]; decide) (wE_X7 hk6) rfl) qw599 qw533 qs45 qw534 qw5 hy_X7_perform rfl hl.1 (Nat.le_of_ble_eq_true rfl) dX7_guard_49) (hP _ _ _ _ _ _ hq3) (by omega) (by omega) (fun H locs hJ' => ?_)
      clear hJ
      have hJ := hJ'
      clear hJ'
      obtain ⟨rfl, rfl⟩ := Prod.mk.inj (Option.some.inj hf)
      exact jq_lret hX hJ.2.2 dX7_guard_52 ⟨rfl, rfl, rfl, hJ.1, hJ.2.1⟩
    · replace hf := o_f hf (fun z => c2 (qc_eq.mpr z))
      refine lv_aload_n hx hb dX7_guard_35 rfl (lv_at hl 2 rfl) ?_
      replace hf := o_gI_e hf
      obtain ⟨hk7, x6, hx6, hf⟩ := hf
      refine gn_X0_b hX hJ hk7 hx6 qn278 dX7_guard_36 ?_
      refine lv_goto (tgt := 46) hx hb dX7_guard_39 (by decide) ?_
      refine lv_iload_n hx hb dX7_guard_46 rfl (lv_at hl 3 rfl) ?_
      refine lv_iconst (v := 1) hx hb dX7_guard_47 (by decide) ?_
      refine lv_iadd hx hb dX7_guard_48 ?_
      replace hf := o_ck_e hf
      obtain ⟨hk8, hf⟩ := hf
      replace hf := o_call_e hf
      obtain ⟨x7, S4, hq4, hf⟩ := hf
      refine jq_doS hX hJ (jq_okV (As := [.int x6, .int (p2 + (1 : Int32))]) (rest := []) hx hb hm ho ht (wJ.recv hX hJ (by rw [hk8]; decide) (wE_X7 hk8) rfl) qw599 qw533 qs45 qw534 qw5 hy_X7_perform rfl hl.1 (Nat.le_of_ble_eq_true rfl) dX7_guard_49) (hP _ _ _ _ _ _ hq4) (by omega) (by omega) (fun H locs hJ' => ?_)
      clear hJ
      have hJ := hJ'
      clear hJ'
      obtain ⟨rfl, rfl⟩ := Prod.mk.inj (Option.some.inj hf)
      exact jq_lret hX hJ.2.2 dX7_guard_52 ⟨rfl, rfl, rfl, hJ.1, hJ.2.1⟩
  · replace hf := o_f hf c1
    refine lv_lconst (v := 0) hx hb dX7_guard_26 (by decide) ?_
    obtain ⟨rfl, rfl⟩ := Prod.mk.inj (Option.some.inj hf)
    exact jq_lret hX hJ.2.2 dX7_guard_27 ⟨rfl, rfl, rfl, hJ.1, hJ.2.1⟩
theorem dX7_catchFailure_0 : decode cX7_catchFailure 0 = .ok (.aload_n 0, 1) := by decide +kernel
theorem dX7_catchFailure_1 : decode cX7_catchFailure 1 = .ok (.iload_n 2, 1) := by decide +kernel
theorem dX7_catchFailure_2 : decode cX7_catchFailure 2 = .ok (.iconst 0, 1) := by decide +kernel
theorem dX7_catchFailure_3 : decode cX7_catchFailure 3 = .ok (.iconst 0, 1) := by decide +kernel
theorem dX7_catchFailure_4 : decode cX7_catchFailure 4 = .ok (.invokevirtual 194, 3) := by decide +kernel
theorem dX7_catchFailure_7 : decode cX7_catchFailure 7 = .ok (.aload_n 0, 1) := by decide +kernel
theorem dX7_catchFailure_8 : decode cX7_catchFailure 8 = .ok (.aload_n 1, 1) := by decide +kernel
theorem dX7_catchFailure_9 : decode cX7_catchFailure 9 = .ok (.getfield 71, 3) := by decide +kernel
theorem dX7_catchFailure_12 : decode cX7_catchFailure 12 = .ok (.iload_n 2, 1) := by decide +kernel
theorem dX7_catchFailure_13 : decode cX7_catchFailure 13 = .ok (.iconst 1, 1) := by decide +kernel
theorem dX7_catchFailure_14 : decode cX7_catchFailure 14 = .ok (.iadd, 1) := by decide +kernel
theorem dX7_catchFailure_15 : decode cX7_catchFailure 15 = .ok (.invokevirtual 198, 3) := by decide +kernel
theorem dX7_catchFailure_18 : decode cX7_catchFailure 18 = .ok (.lstore_n 3, 1) := by decide +kernel
theorem dX7_catchFailure_19 : decode cX7_catchFailure 19 = .ok (.aload_n 0, 1) := by decide +kernel
theorem dX7_catchFailure_20 : decode cX7_catchFailure 20 = .ok (.getfield 33, 3) := by decide +kernel
theorem dX7_catchFailure_23 : decode cX7_catchFailure 23 = .ok (.istore 5, 2) := by decide +kernel
theorem dX7_catchFailure_25 : decode cX7_catchFailure 25 = .ok (.iload 5, 2) := by decide +kernel
theorem dX7_catchFailure_27 : decode cX7_catchFailure 27 = .ok (.ifCond .eq 27, 3) := by decide +kernel
theorem dX7_catchFailure_54 : decode cX7_catchFailure 54 = .ok (.lload_n 3, 1) := by decide +kernel
theorem dX7_catchFailure_55 : decode cX7_catchFailure 55 = .ok (.lreturn, 1) := by decide +kernel
theorem dX7_catchFailure_30 : decode cX7_catchFailure 30 = .ok (.iload 5, 2) := by decide +kernel
theorem dX7_catchFailure_32 : decode cX7_catchFailure 32 = .ok (.bipush 7, 2) := by decide +kernel
theorem dX7_catchFailure_34 : decode cX7_catchFailure 34 = .ok (.if_icmp .eq 20, 3) := by decide +kernel
theorem dX7_catchFailure_37 : decode cX7_catchFailure 37 = .ok (.aload_n 1, 1) := by decide +kernel
theorem dX7_catchFailure_38 : decode cX7_catchFailure 38 = .ok (.getfield 135, 3) := by decide +kernel
theorem dX7_catchFailure_41 : decode cX7_catchFailure 41 = .ok (.iconst (-1), 1) := by decide +kernel
theorem dX7_catchFailure_42 : decode cX7_catchFailure 42 = .ok (.if_icmp .eq 14, 3) := by decide +kernel
theorem dX7_catchFailure_45 : decode cX7_catchFailure 45 = .ok (.aload_n 1, 1) := by decide +kernel
theorem dX7_catchFailure_46 : decode cX7_catchFailure 46 = .ok (.getfield 135, 3) := by decide +kernel
theorem dX7_catchFailure_49 : decode cX7_catchFailure 49 = .ok (.iload 5, 2) := by decide +kernel
theorem dX7_catchFailure_51 : decode cX7_catchFailure 51 = .ok (.if_icmp .eq 5, 3) := by decide +kernel
theorem dX7_catchFailure_56 : decode cX7_catchFailure 56 = .ok (.aload_n 0, 1) := by decide +kernel
theorem dX7_catchFailure_57 : decode cX7_catchFailure 57 = .ok (.iconst 0, 1) := by decide +kernel
theorem dX7_catchFailure_58 : decode cX7_catchFailure 58 = .ok (.putfield 33, 3) := by decide +kernel
theorem dX7_catchFailure_61 : decode cX7_catchFailure 61 = .ok (.aload_n 0, 1) := by decide +kernel
theorem dX7_catchFailure_62 : decode cX7_catchFailure 62 = .ok (.iload_n 2, 1) := by decide +kernel
theorem dX7_catchFailure_63 : decode cX7_catchFailure 63 = .ok (.iconst 0, 1) := by decide +kernel
theorem dX7_catchFailure_64 : decode cX7_catchFailure 64 = .ok (.iconst 1, 1) := by decide +kernel
theorem dX7_catchFailure_65 : decode cX7_catchFailure 65 = .ok (.invokevirtual 194, 3) := by decide +kernel
theorem dX7_catchFailure_68 : decode cX7_catchFailure 68 = .ok (.aload_n 0, 1) := by decide +kernel
theorem dX7_catchFailure_69 : decode cX7_catchFailure 69 = .ok (.iload_n 2, 1) := by decide +kernel
theorem dX7_catchFailure_70 : decode cX7_catchFailure 70 = .ok (.iconst 1, 1) := by decide +kernel
theorem dX7_catchFailure_71 : decode cX7_catchFailure 71 = .ok (.iadd, 1) := by decide +kernel
theorem dX7_catchFailure_72 : decode cX7_catchFailure 72 = .ok (.iconst 0, 1) := by decide +kernel
theorem dX7_catchFailure_73 : decode cX7_catchFailure 73 = .ok (.iload 5, 2) := by decide +kernel
theorem dX7_catchFailure_75 : decode cX7_catchFailure 75 = .ok (.i2l, 1) := by decide +kernel
theorem dX7_catchFailure_76 : decode cX7_catchFailure 76 = .ok (.invokevirtual 49, 3) := by decide +kernel
theorem dX7_catchFailure_79 : decode cX7_catchFailure 79 = .ok (.aload_n 0, 1) := by decide +kernel
theorem dX7_catchFailure_80 : decode cX7_catchFailure 80 = .ok (.aload_n 1, 1) := by decide +kernel
theorem dX7_catchFailure_81 : decode cX7_catchFailure 81 = .ok (.getfield 201, 3) := by decide +kernel
theorem dX7_catchFailure_84 : decode cX7_catchFailure 84 = .ok (.iload_n 2, 1) := by decide +kernel
theorem dX7_catchFailure_85 : decode cX7_catchFailure 85 = .ok (.iconst 1, 1) := by decide +kernel
theorem dX7_catchFailure_86 : decode cX7_catchFailure 86 = .ok (.iadd, 1) := by decide +kernel
theorem dX7_catchFailure_87 : decode cX7_catchFailure 87 = .ok (.invokevirtual 198, 3) := by decide +kernel
theorem dX7_catchFailure_90 : decode cX7_catchFailure 90 = .ok (.lreturn, 1) := by decide +kernel
theorem hy_X7_catchFailure : yX7_catchFailure.cls ≠ "java/lang/invoke/MethodHandle" ∧ yX7_catchFailure.cls ≠ "java/lang/invoke/VarHandle" ∧ (parseMethodDescriptor yX7_catchFailure.desc).map (fun d => d.parameters.length) = some 2 := ⟨by decide, by decide, by decide +kernel⟩
def f_X7_catchFailure_b56 (P : Nat → Int32 → Int32 → wS → Option (Int64 × wS)) (l0 : Nat) (l1 : Nat) (l2 : Int32) (l5 : Int32) (S : wS) : Option ((Int64) × wS) :=
  o_pI 7 11 l0 0 S fun S1 =>
  o_ck (s_K S1 l0 = 7) (o_call (f_X7_handOn l0 l2 0 1 S1) fun _ S2 =>
  o_ck (s_K S2 l0 = 7) (o_call (f_X7_hand l0 (l2 + (1 : Int32)) 0 ((l5).toInt64) S2) fun _ S3 =>
  o_gI 1 3 l1 S3 fun x1 =>
  o_ck (s_K S3 l0 = 7) (o_call (P l0 x1 (l2 + (1 : Int32)) S3) fun x2 S4 =>
  some (x2, S4))))
set_option maxHeartbeats 4000000 in
set_option maxRecDepth 100000 in
theorem w_X7_catchFailure_b56 {l : Launch} {D : va_G} {Y : Nat → ClassId} {aR : Nat → Nat} {A : Nat → Prop} {p : Program} {e : Env} {s : State} {m : MethodId} {args : Array Value} {below : List Frame} {meth : Method} {c : Code} {S0 : wS} {P : Nat → Int32 → Int32 → wS → Option (Int64 × wS)} {F G : Nat} (hP : ∀ (o : Nat) (x y : Int32) (S : wS) (r : Int64) (S' : wS), P o x y S = some (r, S') → jq_S l D Y aR A yX7_perform cX7_perform 4 (some .long) F G [.ref o, .int x, .int y] S (some (.long r)) S') (hF : 40 ≤ F) (hG : 1000 ≤ G) : ∀ (l0 : Nat) (l1 : Nat) (l2 : Int32) (l5 : Int32) (S S' : wS) (r : Int64) (H : Heap) (locs : List Loc) (ls : Array Slot), jq_X D Y aR A p s m args meth c cX7_catchFailure RX7 "catchFailure" 6 (some .long) → wJ D Y A s S0 S H locs → f_X7_catchFailure_b56 P l0 l1 l2 l5 S = some (r, S') → lv_has ls 6 [(0, .ref l0), (1, .ref l1), (2, .int l2), (5, .int l5)] → W p l e { frames := (F + 1), cells := s_lm S0 - s_nx S0, slots := s_sm S0 - s_sl S0, locals := (G + 60) } s m args below meth c H locs (s_nx S - s_nx S0) (s_sl S - s_sl S0) (jq_Z below A (fun v k n H => v = (some (.long r)) ∧ k = s_nx S' - s_nx S0 ∧ n = s_sl S' - s_sl S0 ∧ wG S0 S' ∧ wH D Y A S' H) s) (F0 m 56 ls []) := by
  intro l0 l1 l2 l5 S S' r H locs ls hX hJ hf hl
  unfold f_X7_catchFailure_b56 at hf
  have hx := hX.1
  have hb := hX.2.1
  have hm := hX.2.2.1
  have ho := hX.2.2.2.1
  have ht := hX.2.2.2.2.1
  have hn := hX.2.2.2.2.2.1.2.1
  refine lv_aload_n hx hb dX7_catchFailure_56 rfl (lv_at hl 0 rfl) ?_
  refine lv_iconst (v := 0) hx hb dX7_catchFailure_57 (by decide) ?_
  replace hf := o_pI_e hf
  obtain ⟨hk5, S1, hS1, hf⟩ := hf
  refine pf_X7_failure hX hJ hk5 hS1 qw85 dX7_catchFailure_58 (fun H locs hJ' => ?_)
  clear hJ
  have hJ := hJ'
  clear hJ'
  refine lv_aload_n hx hb dX7_catchFailure_61 rfl (lv_at hl 0 rfl) ?_
  refine lv_iload_n hx hb dX7_catchFailure_62 rfl (lv_at hl 2 rfl) ?_
  refine lv_iconst (v := 0) hx hb dX7_catchFailure_63 (by decide) ?_
  refine lv_iconst (v := 1) hx hb dX7_catchFailure_64 (by decide) ?_
  replace hf := o_ck_e hf
  obtain ⟨hk1, hf⟩ := hf
  replace hf := o_call_e hf
  obtain ⟨_, S2, hq1, hf⟩ := hf
  refine jq_doS hX hJ (jq_okV (As := [.int l2, .int 0, .int 1]) (rest := []) hx hb hm ho ht (wJ.recv hX hJ (by rw [hk1]; decide) (wE_X7 hk1) rfl) qw593 qw595 qs58 qw596 qw5 hy_X7_handOn rfl hl.1 (Nat.le_of_ble_eq_true rfl) dX7_catchFailure_65) (c_X7_handOn hq1) (by omega) (by omega) (fun H locs hJ' => ?_)
  clear hJ
  have hJ := hJ'
  clear hJ'
  refine lv_aload_n hx hb dX7_catchFailure_68 rfl (lv_at hl 0 rfl) ?_
  refine lv_iload_n hx hb dX7_catchFailure_69 rfl (lv_at hl 2 rfl) ?_
  refine lv_iconst (v := 1) hx hb dX7_catchFailure_70 (by decide) ?_
  refine lv_iadd hx hb dX7_catchFailure_71 ?_
  refine lv_iconst (v := 0) hx hb dX7_catchFailure_72 (by decide) ?_
  refine lv_iload hx hb dX7_catchFailure_73 (lv_at hl 3 rfl) ?_
  refine lv_i2l hx hb dX7_catchFailure_75 rfl ?_
  replace hf := o_ck_e hf
  obtain ⟨hk2, hf⟩ := hf
  replace hf := o_call_e hf
  obtain ⟨_, S3, hq2, hf⟩ := hf
  refine jq_doS hX hJ (jq_okV (As := [.int (l2 + (1 : Int32)), .int 0, .long ((l5).toInt64)]) (rest := []) hx hb hm ho ht (wJ.recv hX hJ (by rw [hk2]; decide) (wE_X7 hk2) rfl) qw598 qw526 qs44 qw527 qw5 hy_X7_hand rfl hl.1 (Nat.le_of_ble_eq_true rfl) dX7_catchFailure_76) (c_X7_hand hq2) (by omega) (by omega) (fun H locs hJ' => ?_)
  clear hJ
  have hJ := hJ'
  clear hJ'
  refine lv_aload_n hx hb dX7_catchFailure_79 rfl (lv_at hl 0 rfl) ?_
  refine lv_aload_n hx hb dX7_catchFailure_80 rfl (lv_at hl 1 rfl) ?_
  replace hf := o_gI_e hf
  obtain ⟨hk3, x1, hx1, hf⟩ := hf
  refine gn_X0_c hX hJ hk3 hx1 qn281 dX7_catchFailure_81 ?_
  refine lv_iload_n hx hb dX7_catchFailure_84 rfl (lv_at hl 2 rfl) ?_
  refine lv_iconst (v := 1) hx hb dX7_catchFailure_85 (by decide) ?_
  refine lv_iadd hx hb dX7_catchFailure_86 ?_
  replace hf := o_ck_e hf
  obtain ⟨hk4, hf⟩ := hf
  replace hf := o_call_e hf
  obtain ⟨x2, S4, hq3, hf⟩ := hf
  refine jq_doS hX hJ (jq_okV (As := [.int x1, .int (l2 + (1 : Int32))]) (rest := []) hx hb hm ho ht (wJ.recv hX hJ (by rw [hk4]; decide) (wE_X7 hk4) rfl) qw599 qw533 qs45 qw534 qw5 hy_X7_perform rfl hl.1 (Nat.le_of_ble_eq_true rfl) dX7_catchFailure_87) (hP _ _ _ _ _ _ hq3) (by omega) (by omega) (fun H locs hJ' => ?_)
  clear hJ
  have hJ := hJ'
  clear hJ'
  obtain ⟨rfl, rfl⟩ := Prod.mk.inj (Option.some.inj hf)
  exact jq_lret hX hJ.2.2 dX7_catchFailure_90 ⟨rfl, rfl, rfl, hJ.1, hJ.2.1⟩
def f_X7_catchFailure (P : Nat → Int32 → Int32 → wS → Option (Int64 × wS)) (o : Nat) (p1 : Nat) (p2 : Int32) (S : wS) : Option ((Int64) × wS) :=
  o_ck (s_K S o = 7) (o_call (f_X7_handOn o p2 0 0 S) fun _ S1 =>
  o_gI 1 1 p1 S1 fun x1 =>
  o_ck (s_K S1 o = 7) (o_call (P o x1 (p2 + (1 : Int32)) S1) fun x2 S2 =>
  o_gI 7 11 o S2 fun x3 =>
  if x3 = 0 then (
  some (x2, S2)) else (
  if x3 = 7 then (
  some (x2, S2)) else (
  o_gI 1 2 p1 S2 fun x4 =>
  if x4 = (-1) then (
  f_X7_catchFailure_b56 P o p1 p2 x3 S2) else (
  o_gI 1 2 p1 S2 fun x5 =>
  if x5 = x3 then (
  f_X7_catchFailure_b56 P o p1 p2 x3 S2) else (
  some (x2, S2)))))))
set_option maxHeartbeats 4000000 in
set_option maxRecDepth 100000 in
theorem c_X7_catchFailure {l : Launch} {D : va_G} {Y : Nat → ClassId} {aR : Nat → Nat} {A : Nat → Prop} {P : Nat → Int32 → Int32 → wS → Option (Int64 × wS)} {F G : Nat} (hP : ∀ (o : Nat) (x y : Int32) (S : wS) (r : Int64) (S' : wS), P o x y S = some (r, S') → jq_S l D Y aR A yX7_perform cX7_perform 4 (some .long) F G [.ref o, .int x, .int y] S (some (.long r)) S') (hF : 40 ≤ F) (hG : 1000 ≤ G) {o : Nat} {p1 : Nat} {p2 : Int32} {S S' : wS} {r : Int64} (hf : f_X7_catchFailure P o p1 p2 S = some (r, S')) : jq_S l D Y aR A yX7_catchFailure cX7_catchFailure 6 (some .long) (F + 1) (G + 60) [.ref o, .ref p1, .int p2] S (some (.long r)) S' := by
  unfold f_X7_catchFailure at hf
  refine jq_enterS (by decide) (Nat.le_of_ble_eq_true rfl) fun p e s m args below meth c ls H locs hX hJ hl => ?_
  have hl : lv_has ls 6 [(0, .ref o), (1, .ref p1), (2, .int p2)] := hl
  have hx := hX.1
  have hb := hX.2.1
  have hm := hX.2.2.1
  have ho := hX.2.2.2.1
  have ht := hX.2.2.2.2.1
  have hn := hX.2.2.2.2.2.1.2.1
  refine lv_aload_n hx hb dX7_catchFailure_0 rfl (lv_at hl 0 rfl) ?_
  refine lv_iload_n hx hb dX7_catchFailure_1 rfl (lv_at hl 2 rfl) ?_
  refine lv_iconst (v := 0) hx hb dX7_catchFailure_2 (by decide) ?_
  refine lv_iconst (v := 0) hx hb dX7_catchFailure_3 (by decide) ?_
  replace hf := o_ck_e hf
  obtain ⟨hk1, hf⟩ := hf
  replace hf := o_call_e hf
  obtain ⟨_, S1, hq1, hf⟩ := hf
  refine jq_doS hX hJ (jq_okV (As := [.int p2, .int 0, .int 0]) (rest := []) hx hb hm ho ht (wJ.recv hX hJ (by rw [hk1]; decide) (wE_X7 hk1) rfl) qw593 qw595 qs58 qw596 qw5 hy_X7_handOn rfl hl.1 (Nat.le_of_ble_eq_true rfl) dX7_catchFailure_4) (c_X7_handOn hq1) (by omega) (by omega) (fun H locs hJ' => ?_)
  clear hJ
  have hJ := hJ'
  clear hJ'
  refine lv_aload_n hx hb dX7_catchFailure_7 rfl (lv_at hl 0 rfl) ?_
  refine lv_aload_n hx hb dX7_catchFailure_8 rfl (lv_at hl 1 rfl) ?_
  replace hf := o_gI_e hf
  obtain ⟨hk2, x1, hx1, hf⟩ := hf
  refine gn_X0_a hX hJ hk2 hx1 qn275 dX7_catchFailure_9 ?_
  refine lv_iload_n hx hb dX7_catchFailure_12 rfl (lv_at hl 2 rfl) ?_
  refine lv_iconst (v := 1) hx hb dX7_catchFailure_13 (by decide) ?_
  refine lv_iadd hx hb dX7_catchFailure_14 ?_
  replace hf := o_ck_e hf
  obtain ⟨hk3, hf⟩ := hf
  replace hf := o_call_e hf
  obtain ⟨x2, S2, hq2, hf⟩ := hf
  refine jq_doS hX hJ (jq_okV (As := [.int x1, .int (p2 + (1 : Int32))]) (rest := []) hx hb hm ho ht (wJ.recv hX hJ (by rw [hk3]; decide) (wE_X7 hk3) rfl) qw599 qw533 qs45 qw534 qw5 hy_X7_perform rfl hl.1 (Nat.le_of_ble_eq_true rfl) dX7_catchFailure_15) (hP _ _ _ _ _ _ hq2) (by omega) (by omega) (fun H locs hJ' => ?_)
  clear hJ
  have hJ := hJ'
  clear hJ'
  refine lv_lstore_n (lv' := [(3, .long x2), (0, .ref o), (1, .ref p1), (2, .int p2)]) hx hb dX7_catchFailure_18 rfl hl (by decide) rfl (fun ls hl' => ?_)
  clear hl
  have hl := hl'
  clear hl'
  refine lv_aload_n hx hb dX7_catchFailure_19 rfl (lv_at hl 1 rfl) ?_
  replace hf := o_gI_e hf
  obtain ⟨hk4, x3, hx3, hf⟩ := hf
  refine gf_X7_failure hX hJ hk4 hx3 qw85 dX7_catchFailure_20 ?_
  refine lv_istore (lv' := [(5, .int x3), (3, .long x2), (0, .ref o), (1, .ref p1), (2, .int p2)]) hx hb dX7_catchFailure_23 hl (by decide) rfl (fun ls hl' => ?_)
  clear hl
  have hl := hl'
  clear hl'
  refine lv_iload hx hb dX7_catchFailure_25 (lv_at hl 0 rfl) ?_
  refine lv_if_eq (tgt := 54) hx hb dX7_catchFailure_27 (by decide) (fun c1 => ?_) (fun c1 => ?_)
  · replace hf := o_t hf c1
    refine lv_lload_n hx hb dX7_catchFailure_54 rfl (lv_at hl 1 rfl) ?_
    obtain ⟨rfl, rfl⟩ := Prod.mk.inj (Option.some.inj hf)
    exact jq_lret hX hJ.2.2 dX7_catchFailure_55 ⟨rfl, rfl, rfl, hJ.1, hJ.2.1⟩
  · replace hf := o_f hf c1
    refine lv_iload hx hb dX7_catchFailure_30 (lv_at hl 0 rfl) ?_
    refine lv_bipush (v := 7) hx hb dX7_catchFailure_32 (by decide) ?_
    refine lv_icmp_eq (tgt := 54) hx hb dX7_catchFailure_34 (by decide) (fun c2 => ?_) (fun c2 => ?_)
    · replace hf := o_t hf c2
      refine lv_lload_n hx hb dX7_catchFailure_54 rfl (lv_at hl 1 rfl) ?_
      obtain ⟨rfl, rfl⟩ := Prod.mk.inj (Option.some.inj hf)
      exact jq_lret hX hJ.2.2 dX7_catchFailure_55 ⟨rfl, rfl, rfl, hJ.1, hJ.2.1⟩
    · replace hf := o_f hf c2
      refine lv_aload_n hx hb dX7_catchFailure_37 rfl (lv_at hl 3 rfl) ?_
      replace hf := o_gI_e hf
      obtain ⟨hk5, x4, hx4, hf⟩ := hf
      refine gn_X0_b hX hJ hk5 hx4 qn278 dX7_catchFailure_38 ?_
      refine lv_iconst (v := (-1)) hx hb dX7_catchFailure_41 (by decide) ?_
      refine lv_icmp_eq (tgt := 56) hx hb dX7_catchFailure_42 (by decide) (fun c3 => ?_) (fun c3 => ?_)
      · replace hf := o_t hf c3
        replace hl := lv_sub hl (l' := [(0, .ref o), (1, .ref p1), (2, .int p2), (5, .int x3)]) [2, 3, 4, 0] rfl
        exact w_X7_catchFailure_b56 hP hF hG o p1 p2 x3 S2 S' r H locs ls hX hJ hf hl
      · replace hf := o_f hf c3
        refine lv_aload_n hx hb dX7_catchFailure_45 rfl (lv_at hl 3 rfl) ?_
        replace hf := o_gI_e hf
        obtain ⟨hk6, x5, hx5, hf⟩ := hf
        refine gn_X0_b hX hJ hk6 hx5 qn278 dX7_catchFailure_46 ?_
        refine lv_iload hx hb dX7_catchFailure_49 (lv_at hl 0 rfl) ?_
        refine lv_icmp_eq (tgt := 56) hx hb dX7_catchFailure_51 (by decide) (fun c4 => ?_) (fun c4 => ?_)
        · replace hf := o_t hf c4
          replace hl := lv_sub hl (l' := [(0, .ref o), (1, .ref p1), (2, .int p2), (5, .int x3)]) [2, 3, 4, 0] rfl
          exact w_X7_catchFailure_b56 hP hF hG o p1 p2 x3 S2 S' r H locs ls hX hJ hf hl
        · replace hf := o_f hf c4
          refine lv_lload_n hx hb dX7_catchFailure_54 rfl (lv_at hl 1 rfl) ?_
          obtain ⟨rfl, rfl⟩ := Prod.mk.inj (Option.some.inj hf)
          exact jq_lret hX hJ.2.2 dX7_catchFailure_55 ⟨rfl, rfl, rfl, hJ.1, hJ.2.1⟩
theorem dX7_doAtLast_0 : decode cX7_doAtLast 0 = .ok (.aload_n 0, 1) := by decide +kernel
theorem dX7_doAtLast_1 : decode cX7_doAtLast 1 = .ok (.iload_n 2, 1) := by decide +kernel
theorem dX7_doAtLast_2 : decode cX7_doAtLast 2 = .ok (.iconst 0, 1) := by decide +kernel
theorem dX7_doAtLast_3 : decode cX7_doAtLast 3 = .ok (.iconst 0, 1) := by decide +kernel
theorem dX7_doAtLast_4 : decode cX7_doAtLast 4 = .ok (.invokevirtual 194, 3) := by decide +kernel
theorem dX7_doAtLast_7 : decode cX7_doAtLast 7 = .ok (.aload_n 0, 1) := by decide +kernel
theorem dX7_doAtLast_8 : decode cX7_doAtLast 8 = .ok (.aload_n 1, 1) := by decide +kernel
theorem dX7_doAtLast_9 : decode cX7_doAtLast 9 = .ok (.getfield 71, 3) := by decide +kernel
theorem dX7_doAtLast_12 : decode cX7_doAtLast 12 = .ok (.iload_n 2, 1) := by decide +kernel
theorem dX7_doAtLast_13 : decode cX7_doAtLast 13 = .ok (.iconst 1, 1) := by decide +kernel
theorem dX7_doAtLast_14 : decode cX7_doAtLast 14 = .ok (.iadd, 1) := by decide +kernel
theorem dX7_doAtLast_15 : decode cX7_doAtLast 15 = .ok (.invokevirtual 198, 3) := by decide +kernel
theorem dX7_doAtLast_18 : decode cX7_doAtLast 18 = .ok (.lstore_n 3, 1) := by decide +kernel
theorem dX7_doAtLast_19 : decode cX7_doAtLast 19 = .ok (.aload_n 0, 1) := by decide +kernel
theorem dX7_doAtLast_20 : decode cX7_doAtLast 20 = .ok (.getfield 33, 3) := by decide +kernel
theorem dX7_doAtLast_23 : decode cX7_doAtLast 23 = .ok (.istore 5, 2) := by decide +kernel
theorem dX7_doAtLast_25 : decode cX7_doAtLast 25 = .ok (.iload 5, 2) := by decide +kernel
theorem dX7_doAtLast_27 : decode cX7_doAtLast 27 = .ok (.bipush 7, 2) := by decide +kernel
theorem dX7_doAtLast_29 : decode cX7_doAtLast 29 = .ok (.if_icmp .ne 5, 3) := by decide +kernel
theorem dX7_doAtLast_34 : decode cX7_doAtLast 34 = .ok (.aload_n 0, 1) := by decide +kernel
theorem dX7_doAtLast_35 : decode cX7_doAtLast 35 = .ok (.iconst 0, 1) := by decide +kernel
theorem dX7_doAtLast_36 : decode cX7_doAtLast 36 = .ok (.putfield 33, 3) := by decide +kernel
theorem dX7_doAtLast_39 : decode cX7_doAtLast 39 = .ok (.aload_n 0, 1) := by decide +kernel
theorem dX7_doAtLast_40 : decode cX7_doAtLast 40 = .ok (.iload_n 2, 1) := by decide +kernel
theorem dX7_doAtLast_41 : decode cX7_doAtLast 41 = .ok (.iconst 0, 1) := by decide +kernel
theorem dX7_doAtLast_42 : decode cX7_doAtLast 42 = .ok (.iconst 2, 1) := by decide +kernel
theorem dX7_doAtLast_43 : decode cX7_doAtLast 43 = .ok (.invokevirtual 194, 3) := by decide +kernel
theorem dX7_doAtLast_46 : decode cX7_doAtLast 46 = .ok (.aload_n 0, 1) := by decide +kernel
theorem dX7_doAtLast_47 : decode cX7_doAtLast 47 = .ok (.iload_n 2, 1) := by decide +kernel
theorem dX7_doAtLast_48 : decode cX7_doAtLast 48 = .ok (.iconst 1, 1) := by decide +kernel
theorem dX7_doAtLast_49 : decode cX7_doAtLast 49 = .ok (.iadd, 1) := by decide +kernel
theorem dX7_doAtLast_50 : decode cX7_doAtLast 50 = .ok (.iconst 0, 1) := by decide +kernel
theorem dX7_doAtLast_51 : decode cX7_doAtLast 51 = .ok (.iload 5, 2) := by decide +kernel
theorem dX7_doAtLast_53 : decode cX7_doAtLast 53 = .ok (.i2l, 1) := by decide +kernel
theorem dX7_doAtLast_54 : decode cX7_doAtLast 54 = .ok (.invokevirtual 49, 3) := by decide +kernel
theorem dX7_doAtLast_57 : decode cX7_doAtLast 57 = .ok (.aload_n 0, 1) := by decide +kernel
theorem dX7_doAtLast_58 : decode cX7_doAtLast 58 = .ok (.iload_n 2, 1) := by decide +kernel
theorem dX7_doAtLast_59 : decode cX7_doAtLast 59 = .ok (.iconst 1, 1) := by decide +kernel
theorem dX7_doAtLast_60 : decode cX7_doAtLast 60 = .ok (.iadd, 1) := by decide +kernel
theorem dX7_doAtLast_61 : decode cX7_doAtLast 61 = .ok (.iconst 1, 1) := by decide +kernel
theorem dX7_doAtLast_62 : decode cX7_doAtLast 62 = .ok (.iload 5, 2) := by decide +kernel
theorem dX7_doAtLast_64 : decode cX7_doAtLast 64 = .ok (.ifCond .ne 7, 3) := by decide +kernel
theorem dX7_doAtLast_71 : decode cX7_doAtLast 71 = .ok (.aload_n 1, 1) := by decide +kernel
theorem dX7_doAtLast_72 : decode cX7_doAtLast 72 = .ok (.getfield 204, 3) := by decide +kernel
theorem dX7_doAtLast_75 : decode cX7_doAtLast 75 = .ok (.getfield 208, 3) := by decide +kernel
theorem dX7_doAtLast_78 : decode cX7_doAtLast 78 = .ok (.invokestatic 213, 3) := by decide +kernel
theorem dX7_doAtLast_67 : decode cX7_doAtLast 67 = .ok (.lload_n 3, 1) := by decide +kernel
theorem dX7_doAtLast_68 : decode cX7_doAtLast 68 = .ok (.goto 13, 3) := by decide +kernel
theorem dX7_doAtLast_32 : decode cX7_doAtLast 32 = .ok (.lconst 0, 1) := by decide +kernel
theorem dX7_doAtLast_33 : decode cX7_doAtLast 33 = .ok (.lreturn, 1) := by decide +kernel
theorem dX7_doAtLast_81 : decode cX7_doAtLast 81 = .ok (.invokevirtual 49, 3) := by decide +kernel
theorem dX7_doAtLast_84 : decode cX7_doAtLast 84 = .ok (.aload_n 0, 1) := by decide +kernel
theorem dX7_doAtLast_85 : decode cX7_doAtLast 85 = .ok (.aload_n 1, 1) := by decide +kernel
theorem dX7_doAtLast_86 : decode cX7_doAtLast 86 = .ok (.getfield 135, 3) := by decide +kernel
theorem dX7_doAtLast_89 : decode cX7_doAtLast 89 = .ok (.iload_n 2, 1) := by decide +kernel
theorem dX7_doAtLast_90 : decode cX7_doAtLast 90 = .ok (.iconst 1, 1) := by decide +kernel
theorem dX7_doAtLast_91 : decode cX7_doAtLast 91 = .ok (.iadd, 1) := by decide +kernel
theorem dX7_doAtLast_92 : decode cX7_doAtLast 92 = .ok (.invokevirtual 198, 3) := by decide +kernel
theorem dX7_doAtLast_95 : decode cX7_doAtLast 95 = .ok (.lstore 6, 2) := by decide +kernel
theorem dX7_doAtLast_97 : decode cX7_doAtLast 97 = .ok (.aload_n 0, 1) := by decide +kernel
theorem dX7_doAtLast_98 : decode cX7_doAtLast 98 = .ok (.getfield 33, 3) := by decide +kernel
theorem dX7_doAtLast_101 : decode cX7_doAtLast 101 = .ok (.ifCond .ne 9, 3) := by decide +kernel
theorem dX7_doAtLast_110 : decode cX7_doAtLast 110 = .ok (.lload 6, 2) := by decide +kernel
theorem dX7_doAtLast_112 : decode cX7_doAtLast 112 = .ok (.lreturn, 1) := by decide +kernel
theorem dX7_doAtLast_104 : decode cX7_doAtLast 104 = .ok (.aload_n 0, 1) := by decide +kernel
theorem dX7_doAtLast_105 : decode cX7_doAtLast 105 = .ok (.iload 5, 2) := by decide +kernel
theorem dX7_doAtLast_107 : decode cX7_doAtLast 107 = .ok (.putfield 33, 3) := by decide +kernel
theorem hy_X7_doAtLast : yX7_doAtLast.cls ≠ "java/lang/invoke/MethodHandle" ∧ yX7_doAtLast.cls ≠ "java/lang/invoke/VarHandle" ∧ (parseMethodDescriptor yX7_doAtLast.desc).map (fun d => d.parameters.length) = some 2 := ⟨by decide, by decide, by decide +kernel⟩
def f_X7_doAtLast_b81 (P : Nat → Int32 → Int32 → wS → Option (Int64 × wS)) (l0 : Nat) (l1 : Nat) (l2 : Int32) (l5 : Int32) (t0 : Int64) (t1 : Int32) (t2 : Int32) (t3 : Nat) (S : wS) : Option ((Int64) × wS) :=
  o_ck (s_K S t3 = 7) (o_call (f_X7_hand t3 t2 t1 t0 S) fun _ S1 =>
  o_gI 1 2 l1 S1 fun x1 =>
  o_ck (s_K S1 l0 = 7) (o_call (P l0 x1 (l2 + (1 : Int32)) S1) fun x2 S2 =>
  o_gI 7 11 l0 S2 fun x3 =>
  if x3 = 0 then (
  o_pI 7 11 l0 l5 S2 fun S3 =>
  some (x2, S3)) else (
  some (x2, S2))))
set_option maxHeartbeats 4000000 in
set_option maxRecDepth 100000 in
theorem w_X7_doAtLast_b81 {l : Launch} {D : va_G} {Y : Nat → ClassId} {aR : Nat → Nat} {A : Nat → Prop} {p : Program} {e : Env} {s : State} {m : MethodId} {args : Array Value} {below : List Frame} {meth : Method} {c : Code} {S0 : wS} {P : Nat → Int32 → Int32 → wS → Option (Int64 × wS)} {F G : Nat} (hP : ∀ (o : Nat) (x y : Int32) (S : wS) (r : Int64) (S' : wS), P o x y S = some (r, S') → jq_S l D Y aR A yX7_perform cX7_perform 4 (some .long) F G [.ref o, .int x, .int y] S (some (.long r)) S') (hF : 40 ≤ F) (hG : 1000 ≤ G) : ∀ (l0 : Nat) (l1 : Nat) (l2 : Int32) (l5 : Int32) (t0 : Int64) (t1 : Int32) (t2 : Int32) (t3 : Nat) (S S' : wS) (r : Int64) (H : Heap) (locs : List Loc) (ls : Array Slot), jq_X D Y aR A p s m args meth c cX7_doAtLast RX7 "doAtLast" 8 (some .long) → wJ D Y A s S0 S H locs → f_X7_doAtLast_b81 P l0 l1 l2 l5 t0 t1 t2 t3 S = some (r, S') → lv_has ls 8 [(0, .ref l0), (1, .ref l1), (2, .int l2), (5, .int l5)] → W p l e { frames := (F + 1), cells := s_lm S0 - s_nx S0, slots := s_sm S0 - s_sl S0, locals := (G + 60) } s m args below meth c H locs (s_nx S - s_nx S0) (s_sl S - s_sl S0) (jq_Z below A (fun v k n H => v = (some (.long r)) ∧ k = s_nx S' - s_nx S0 ∧ n = s_sl S' - s_sl S0 ∧ wG S0 S' ∧ wH D Y A S' H) s) (F0 m 81 ls [.long t0, .int t1, .int t2, .ref t3]) := by
  intro l0 l1 l2 l5 t0 t1 t2 t3 S S' r H locs ls hX hJ hf hl
  unfold f_X7_doAtLast_b81 at hf
  have hx := hX.1
  have hb := hX.2.1
  have hm := hX.2.2.1
  have ho := hX.2.2.2.1
  have ht := hX.2.2.2.2.1
  have hn := hX.2.2.2.2.2.1.2.1
  replace hf := o_ck_e hf
  obtain ⟨hk1, hf⟩ := hf
  replace hf := o_call_e hf
  obtain ⟨_, S1, hq1, hf⟩ := hf
  refine jq_doS hX hJ (jq_okV (As := [.int t2, .int t1, .long t0]) (rest := []) hx hb hm ho ht (wJ.recv hX hJ (by rw [hk1]; decide) (wE_X7 hk1) rfl) qw598 qw526 qs44 qw527 qw5 hy_X7_hand rfl hl.1 (Nat.le_of_ble_eq_true rfl) dX7_doAtLast_81) (c_X7_hand hq1) (by omega) (by omega) (fun H locs hJ' => ?_)
  clear hJ
  have hJ := hJ'
  clear hJ'
  refine lv_aload_n hx hb dX7_doAtLast_84 rfl (lv_at hl 0 rfl) ?_
  refine lv_aload_n hx hb dX7_doAtLast_85 rfl (lv_at hl 1 rfl) ?_
  replace hf := o_gI_e hf
  obtain ⟨hk2, x1, hx1, hf⟩ := hf
  refine gn_X0_b hX hJ hk2 hx1 qn278 dX7_doAtLast_86 ?_
  refine lv_iload_n hx hb dX7_doAtLast_89 rfl (lv_at hl 2 rfl) ?_
  refine lv_iconst (v := 1) hx hb dX7_doAtLast_90 (by decide) ?_
  refine lv_iadd hx hb dX7_doAtLast_91 ?_
  replace hf := o_ck_e hf
  obtain ⟨hk3, hf⟩ := hf
  replace hf := o_call_e hf
  obtain ⟨x2, S2, hq2, hf⟩ := hf
  refine jq_doS hX hJ (jq_okV (As := [.int x1, .int (l2 + (1 : Int32))]) (rest := []) hx hb hm ho ht (wJ.recv hX hJ (by rw [hk3]; decide) (wE_X7 hk3) rfl) qw599 qw533 qs45 qw534 qw5 hy_X7_perform rfl hl.1 (Nat.le_of_ble_eq_true rfl) dX7_doAtLast_92) (hP _ _ _ _ _ _ hq2) (by omega) (by omega) (fun H locs hJ' => ?_)
  clear hJ
  have hJ := hJ'
  clear hJ'
  refine lv_lstore (lv' := [(6, .long x2), (0, .ref l0), (1, .ref l1), (2, .int l2), (5, .int l5)]) hx hb dX7_doAtLast_95 hl (by decide) rfl (fun ls hl' => ?_)
  clear hl
  have hl := hl'
  clear hl'
  refine lv_aload_n hx hb dX7_doAtLast_97 rfl (lv_at hl 1 rfl) ?_
  replace hf := o_gI_e hf
  obtain ⟨hk4, x3, hx3, hf⟩ := hf
  refine gf_X7_failure hX hJ hk4 hx3 qw85 dX7_doAtLast_98 ?_
  refine lv_if_ne (tgt := 110) hx hb dX7_doAtLast_101 (by decide) (fun c1 => ?_) (fun c1 => ?_)
  · replace hf := o_f hf c1
    refine lv_lload hx hb dX7_doAtLast_110 (lv_at hl 0 rfl) ?_
    obtain ⟨rfl, rfl⟩ := Prod.mk.inj (Option.some.inj hf)
    exact jq_lret hX hJ.2.2 dX7_doAtLast_112 ⟨rfl, rfl, rfl, hJ.1, hJ.2.1⟩
  · replace hf := o_t hf c1
    refine lv_aload_n hx hb dX7_doAtLast_104 rfl (lv_at hl 1 rfl) ?_
    refine lv_iload hx hb dX7_doAtLast_105 (lv_at hl 4 rfl) ?_
    replace hf := o_pI_e hf
    obtain ⟨hk5, S3, hS3, hf⟩ := hf
    refine pf_X7_failure hX hJ hk5 hS3 qw85 dX7_doAtLast_107 (fun H locs hJ' => ?_)
    clear hJ
    have hJ := hJ'
    clear hJ'
    refine lv_lload hx hb dX7_doAtLast_110 (lv_at hl 0 rfl) ?_
    obtain ⟨rfl, rfl⟩ := Prod.mk.inj (Option.some.inj hf)
    exact jq_lret hX hJ.2.2 dX7_doAtLast_112 ⟨rfl, rfl, rfl, hJ.1, hJ.2.1⟩
def f_X7_doAtLast (P : Nat → Int32 → Int32 → wS → Option (Int64 × wS)) (o : Nat) (p1 : Nat) (p2 : Int32) (S : wS) : Option ((Int64) × wS) :=
  o_ck (s_K S o = 7) (o_call (f_X7_handOn o p2 0 0 S) fun _ S1 =>
  o_gI 1 1 p1 S1 fun x1 =>
  o_ck (s_K S1 o = 7) (o_call (P o x1 (p2 + (1 : Int32)) S1) fun x2 S2 =>
  o_gI 7 11 o S2 fun x3 =>
  if x3 = 7 then (
  some (0, S2)) else (
  o_pI 7 11 o 0 S2 fun S3 =>
  o_ck (s_K S3 o = 7) (o_call (f_X7_handOn o p2 0 2 S3) fun _ S4 =>
  o_ck (s_K S4 o = 7) (o_call (f_X7_hand o (p2 + (1 : Int32)) 0 ((x3).toInt64) S4) fun _ S5 =>
  if x3 = 0 then (
  f_X7_doAtLast_b81 P o p1 p2 x3 x2 1 (p2 + (1 : Int32)) o S5) else (
  o_gR 1 0 p1 S5 fun x4 =>
  o_cs x4 (none) (fun a1 =>
  o_gI 8 12 a1 S5 fun x5 =>
  o_cP (f_X2_nothing x5) fun x6 =>
  f_X7_doAtLast_b81 P o p1 p2 x3 x6 1 (p2 + (1 : Int32)) o S5)))))))
set_option maxHeartbeats 4000000 in
set_option maxRecDepth 100000 in
theorem c_X7_doAtLast {l : Launch} {D : va_G} {Y : Nat → ClassId} {aR : Nat → Nat} {A : Nat → Prop} {P : Nat → Int32 → Int32 → wS → Option (Int64 × wS)} {F G : Nat} (hP : ∀ (o : Nat) (x y : Int32) (S : wS) (r : Int64) (S' : wS), P o x y S = some (r, S') → jq_S l D Y aR A yX7_perform cX7_perform 4 (some .long) F G [.ref o, .int x, .int y] S (some (.long r)) S') (hF : 40 ≤ F) (hG : 1000 ≤ G) {o : Nat} {p1 : Nat} {p2 : Int32} {S S' : wS} {r : Int64} (hf : f_X7_doAtLast P o p1 p2 S = some (r, S')) : jq_S l D Y aR A yX7_doAtLast cX7_doAtLast 8 (some .long) (F + 1) (G + 60) [.ref o, .ref p1, .int p2] S (some (.long r)) S' := by
  unfold f_X7_doAtLast at hf
  refine jq_enterS (by decide) (Nat.le_of_ble_eq_true rfl) fun p e s m args below meth c ls H locs hX hJ hl => ?_
  have hl : lv_has ls 8 [(0, .ref o), (1, .ref p1), (2, .int p2)] := hl
  have hx := hX.1
  have hb := hX.2.1
  have hm := hX.2.2.1
  have ho := hX.2.2.2.1
  have ht := hX.2.2.2.2.1
  have hn := hX.2.2.2.2.2.1.2.1
  refine lv_aload_n hx hb dX7_doAtLast_0 rfl (lv_at hl 0 rfl) ?_
  refine lv_iload_n hx hb dX7_doAtLast_1 rfl (lv_at hl 2 rfl) ?_
  refine lv_iconst (v := 0) hx hb dX7_doAtLast_2 (by decide) ?_
  refine lv_iconst (v := 0) hx hb dX7_doAtLast_3 (by decide) ?_
  replace hf := o_ck_e hf
  obtain ⟨hk1, hf⟩ := hf
  replace hf := o_call_e hf
  obtain ⟨_, S1, hq1, hf⟩ := hf
  refine jq_doS hX hJ (jq_okV (As := [.int p2, .int 0, .int 0]) (rest := []) hx hb hm ho ht (wJ.recv hX hJ (by rw [hk1]; decide) (wE_X7 hk1) rfl) qw593 qw595 qs58 qw596 qw5 hy_X7_handOn rfl hl.1 (Nat.le_of_ble_eq_true rfl) dX7_doAtLast_4) (c_X7_handOn hq1) (by omega) (by omega) (fun H locs hJ' => ?_)
  clear hJ
  have hJ := hJ'
  clear hJ'
  refine lv_aload_n hx hb dX7_doAtLast_7 rfl (lv_at hl 0 rfl) ?_
  refine lv_aload_n hx hb dX7_doAtLast_8 rfl (lv_at hl 1 rfl) ?_
  replace hf := o_gI_e hf
  obtain ⟨hk2, x1, hx1, hf⟩ := hf
  refine gn_X0_a hX hJ hk2 hx1 qn275 dX7_doAtLast_9 ?_
  refine lv_iload_n hx hb dX7_doAtLast_12 rfl (lv_at hl 2 rfl) ?_
  refine lv_iconst (v := 1) hx hb dX7_doAtLast_13 (by decide) ?_
  refine lv_iadd hx hb dX7_doAtLast_14 ?_
  replace hf := o_ck_e hf
  obtain ⟨hk3, hf⟩ := hf
  replace hf := o_call_e hf
  obtain ⟨x2, S2, hq2, hf⟩ := hf
  refine jq_doS hX hJ (jq_okV (As := [.int x1, .int (p2 + (1 : Int32))]) (rest := []) hx hb hm ho ht (wJ.recv hX hJ (by rw [hk3]; decide) (wE_X7 hk3) rfl) qw599 qw533 qs45 qw534 qw5 hy_X7_perform rfl hl.1 (Nat.le_of_ble_eq_true rfl) dX7_doAtLast_15) (hP _ _ _ _ _ _ hq2) (by omega) (by omega) (fun H locs hJ' => ?_)
  clear hJ
  have hJ := hJ'
  clear hJ'
  refine lv_lstore_n (lv' := [(3, .long x2), (0, .ref o), (1, .ref p1), (2, .int p2)]) hx hb dX7_doAtLast_18 rfl hl (by decide) rfl (fun ls hl' => ?_)
  clear hl
  have hl := hl'
  clear hl'
  refine lv_aload_n hx hb dX7_doAtLast_19 rfl (lv_at hl 1 rfl) ?_
  replace hf := o_gI_e hf
  obtain ⟨hk4, x3, hx3, hf⟩ := hf
  refine gf_X7_failure hX hJ hk4 hx3 qw85 dX7_doAtLast_20 ?_
  refine lv_istore (lv' := [(5, .int x3), (3, .long x2), (0, .ref o), (1, .ref p1), (2, .int p2)]) hx hb dX7_doAtLast_23 hl (by decide) rfl (fun ls hl' => ?_)
  clear hl
  have hl := hl'
  clear hl'
  refine lv_iload hx hb dX7_doAtLast_25 (lv_at hl 0 rfl) ?_
  refine lv_bipush (v := 7) hx hb dX7_doAtLast_27 (by decide) ?_
  refine lv_icmp_ne (tgt := 34) hx hb dX7_doAtLast_29 (by decide) (fun c1 => ?_) (fun c1 => ?_)
  · replace hf := o_f hf c1
    refine lv_aload_n hx hb dX7_doAtLast_34 rfl (lv_at hl 2 rfl) ?_
    refine lv_iconst (v := 0) hx hb dX7_doAtLast_35 (by decide) ?_
    replace hf := o_pI_e hf
    obtain ⟨hk9, S3, hS3, hf⟩ := hf
    refine pf_X7_failure hX hJ hk9 hS3 qw85 dX7_doAtLast_36 (fun H locs hJ' => ?_)
    clear hJ
    have hJ := hJ'
    clear hJ'
    refine lv_aload_n hx hb dX7_doAtLast_39 rfl (lv_at hl 2 rfl) ?_
    refine lv_iload_n hx hb dX7_doAtLast_40 rfl (lv_at hl 4 rfl) ?_
    refine lv_iconst (v := 0) hx hb dX7_doAtLast_41 (by decide) ?_
    refine lv_iconst (v := 2) hx hb dX7_doAtLast_42 (by decide) ?_
    replace hf := o_ck_e hf
    obtain ⟨hk5, hf⟩ := hf
    replace hf := o_call_e hf
    obtain ⟨_, S4, hq3, hf⟩ := hf
    refine jq_doS hX hJ (jq_okV (As := [.int p2, .int 0, .int 2]) (rest := []) hx hb hm ho ht (wJ.recv hX hJ (by rw [hk5]; decide) (wE_X7 hk5) rfl) qw593 qw595 qs58 qw596 qw5 hy_X7_handOn rfl hl.1 (Nat.le_of_ble_eq_true rfl) dX7_doAtLast_43) (c_X7_handOn hq3) (by omega) (by omega) (fun H locs hJ' => ?_)
    clear hJ
    have hJ := hJ'
    clear hJ'
    refine lv_aload_n hx hb dX7_doAtLast_46 rfl (lv_at hl 2 rfl) ?_
    refine lv_iload_n hx hb dX7_doAtLast_47 rfl (lv_at hl 4 rfl) ?_
    refine lv_iconst (v := 1) hx hb dX7_doAtLast_48 (by decide) ?_
    refine lv_iadd hx hb dX7_doAtLast_49 ?_
    refine lv_iconst (v := 0) hx hb dX7_doAtLast_50 (by decide) ?_
    refine lv_iload hx hb dX7_doAtLast_51 (lv_at hl 0 rfl) ?_
    refine lv_i2l hx hb dX7_doAtLast_53 rfl ?_
    replace hf := o_ck_e hf
    obtain ⟨hk6, hf⟩ := hf
    replace hf := o_call_e hf
    obtain ⟨_, S5, hq4, hf⟩ := hf
    refine jq_doS hX hJ (jq_okV (As := [.int (p2 + (1 : Int32)), .int 0, .long ((x3).toInt64)]) (rest := []) hx hb hm ho ht (wJ.recv hX hJ (by rw [hk6]; decide) (wE_X7 hk6) rfl) qw598 qw526 qs44 qw527 qw5 hy_X7_hand rfl hl.1 (Nat.le_of_ble_eq_true rfl) dX7_doAtLast_54) (c_X7_hand hq4) (by omega) (by omega) (fun H locs hJ' => ?_)
    clear hJ
    have hJ := hJ'
    clear hJ'
    refine lv_aload_n hx hb dX7_doAtLast_57 rfl (lv_at hl 2 rfl) ?_
    refine lv_iload_n hx hb dX7_doAtLast_58 rfl (lv_at hl 4 rfl) ?_
    refine lv_iconst (v := 1) hx hb dX7_doAtLast_59 (by decide) ?_
    refine lv_iadd hx hb dX7_doAtLast_60 ?_
    refine lv_iconst (v := 1) hx hb dX7_doAtLast_61 (by decide) ?_
    refine lv_iload hx hb dX7_doAtLast_62 (lv_at hl 0 rfl) ?_
    refine lv_if_ne (tgt := 71) hx hb dX7_doAtLast_64 (by decide) (fun c2 => ?_) (fun c2 => ?_)
    · replace hf := o_f hf c2
      refine lv_aload_n hx hb dX7_doAtLast_71 rfl (lv_at hl 3 rfl) ?_
      replace hf := o_gR_e hf
      obtain ⟨hk7, x4, hx4, hf⟩ := hf
      refine gn_X0_type hX hJ hk7 hx4 qn288 dX7_doAtLast_72 ?_
      replace hf := o_cs_e hf
      rcases hf with ⟨hr1, hf⟩ | ⟨a1, hr1, hf⟩
      · subst hr1
        cases hf
      · subst hr1
        replace hf := o_gI_e hf
        obtain ⟨hk8, x5, hx5, hf⟩ := hf
        refine gn_X9_result hX hJ hk8 hx5 qn112 dX7_doAtLast_75 ?_
        replace hf := o_cP_e hf
        obtain ⟨x6, hq5, hf⟩ := hf
        refine jq_doPS hX hJ (jq_okSN (As := [.int x5]) (rest := [.int 1, .int (p2 + (1 : Int32)), .ref o]) hx hb hm ho ht hn qn624 qw625 qw626 qw8 hy_X2_nothing rfl hl.1 (Nat.le_of_ble_eq_true rfl) dX7_doAtLast_78) (c_X2_nothing hq5) (by omega) (by omega) (fun locs hJ' => ?_)
        clear hJ
        have hJ := hJ'
        clear hJ'
        replace hl := lv_sub hl (l' := [(0, .ref o), (1, .ref p1), (2, .int p2), (5, .int x3)]) [2, 3, 4, 0] rfl
        exact w_X7_doAtLast_b81 hP hF hG o p1 p2 x3 x6 1 (p2 + (1 : Int32)) o S5 S' r H locs ls hX hJ hf hl
    · replace hf := o_t hf c2
      refine lv_lload_n hx hb dX7_doAtLast_67 rfl (lv_at hl 1 rfl) ?_
      refine lv_goto (tgt := 81) hx hb dX7_doAtLast_68 (by decide) ?_
      replace hl := lv_sub hl (l' := [(0, .ref o), (1, .ref p1), (2, .int p2), (5, .int x3)]) [2, 3, 4, 0] rfl
      exact w_X7_doAtLast_b81 hP hF hG o p1 p2 x3 x2 1 (p2 + (1 : Int32)) o S5 S' r H locs ls hX hJ hf hl
  · replace hf := o_t hf c1
    refine lv_lconst (v := 0) hx hb dX7_doAtLast_32 (by decide) ?_
    obtain ⟨rfl, rfl⟩ := Prod.mk.inj (Option.some.inj hf)
    exact jq_lret hX hJ.2.2 dX7_doAtLast_33 ⟨rfl, rfl, rfl, hJ.1, hJ.2.1⟩
theorem dX7_loop_0 : decode cX7_loop 0 = .ok (.aload_n 0, 1) := by decide +kernel
theorem dX7_loop_1 : decode cX7_loop 1 = .ok (.iload_n 2, 1) := by decide +kernel
theorem dX7_loop_2 : decode cX7_loop 2 = .ok (.iconst 0, 1) := by decide +kernel
theorem dX7_loop_3 : decode cX7_loop 3 = .ok (.invokevirtual 45, 3) := by decide +kernel
theorem dX7_loop_6 : decode cX7_loop 6 = .ok (.ldc2_w 216, 3) := by decide +kernel
theorem dX7_loop_9 : decode cX7_loop 9 = .ok (.invokestatic 218, 3) := by decide +kernel
theorem dX7_loop_12 : decode cX7_loop 12 = .ok (.lstore_n 3, 1) := by decide +kernel
theorem dX7_loop_13 : decode cX7_loop 13 = .ok (.aload_n 0, 1) := by decide +kernel
theorem dX7_loop_14 : decode cX7_loop 14 = .ok (.iload_n 2, 1) := by decide +kernel
theorem dX7_loop_15 : decode cX7_loop 15 = .ok (.iconst 1, 1) := by decide +kernel
theorem dX7_loop_16 : decode cX7_loop 16 = .ok (.invokevirtual 45, 3) := by decide +kernel
theorem dX7_loop_19 : decode cX7_loop 19 = .ok (.lstore 5, 2) := by decide +kernel
theorem dX7_loop_21 : decode cX7_loop 21 = .ok (.iconst 0, 1) := by decide +kernel
theorem dX7_loop_22 : decode cX7_loop 22 = .ok (.istore 7, 2) := by decide +kernel
theorem dX7_loop_24 : decode cX7_loop 24 = .ok (.iload 7, 2) := by decide +kernel
theorem dX7_loop_26 : decode cX7_loop 26 = .ok (.i2l, 1) := by decide +kernel
theorem dX7_loop_27 : decode cX7_loop 27 = .ok (.lload_n 3, 1) := by decide +kernel
theorem dX7_loop_28 : decode cX7_loop 28 = .ok (.lcmp, 1) := by decide +kernel
theorem dX7_loop_86 : decode cX7_loop 86 = .ok (.lload 5, 2) := by decide +kernel
theorem dX7_loop_88 : decode cX7_loop 88 = .ok (.lreturn, 1) := by decide +kernel
theorem dX7_loop_32 : decode cX7_loop 32 = .ok (.aload_n 0, 1) := by decide +kernel
theorem dX7_loop_33 : decode cX7_loop 33 = .ok (.getfield 33, 3) := by decide +kernel
theorem dX7_loop_36 : decode cX7_loop 36 = .ok (.ifCond .ne 50, 3) := by decide +kernel
theorem dX7_loop_39 : decode cX7_loop 39 = .ok (.aload_n 0, 1) := by decide +kernel
theorem dX7_loop_40 : decode cX7_loop 40 = .ok (.iload_n 2, 1) := by decide +kernel
theorem dX7_loop_41 : decode cX7_loop 41 = .ok (.iconst 0, 1) := by decide +kernel
theorem dX7_loop_42 : decode cX7_loop 42 = .ok (.iconst 0, 1) := by decide +kernel
theorem dX7_loop_43 : decode cX7_loop 43 = .ok (.invokevirtual 194, 3) := by decide +kernel
theorem dX7_loop_46 : decode cX7_loop 46 = .ok (.aload_n 0, 1) := by decide +kernel
theorem dX7_loop_47 : decode cX7_loop 47 = .ok (.iload_n 2, 1) := by decide +kernel
theorem dX7_loop_48 : decode cX7_loop 48 = .ok (.iconst 1, 1) := by decide +kernel
theorem dX7_loop_49 : decode cX7_loop 49 = .ok (.iadd, 1) := by decide +kernel
theorem dX7_loop_50 : decode cX7_loop 50 = .ok (.iconst 0, 1) := by decide +kernel
theorem dX7_loop_51 : decode cX7_loop 51 = .ok (.lload 5, 2) := by decide +kernel
theorem dX7_loop_53 : decode cX7_loop 53 = .ok (.invokevirtual 49, 3) := by decide +kernel
theorem dX7_loop_56 : decode cX7_loop 56 = .ok (.aload_n 0, 1) := by decide +kernel
theorem dX7_loop_57 : decode cX7_loop 57 = .ok (.iload_n 2, 1) := by decide +kernel
theorem dX7_loop_58 : decode cX7_loop 58 = .ok (.iconst 1, 1) := by decide +kernel
theorem dX7_loop_59 : decode cX7_loop 59 = .ok (.iadd, 1) := by decide +kernel
theorem dX7_loop_60 : decode cX7_loop 60 = .ok (.iconst 1, 1) := by decide +kernel
theorem dX7_loop_61 : decode cX7_loop 61 = .ok (.iload 7, 2) := by decide +kernel
theorem dX7_loop_63 : decode cX7_loop 63 = .ok (.i2l, 1) := by decide +kernel
theorem dX7_loop_64 : decode cX7_loop 64 = .ok (.invokevirtual 49, 3) := by decide +kernel
theorem dX7_loop_67 : decode cX7_loop 67 = .ok (.aload_n 0, 1) := by decide +kernel
theorem dX7_loop_68 : decode cX7_loop 68 = .ok (.aload_n 1, 1) := by decide +kernel
theorem dX7_loop_69 : decode cX7_loop 69 = .ok (.getfield 71, 3) := by decide +kernel
theorem dX7_loop_72 : decode cX7_loop 72 = .ok (.iload_n 2, 1) := by decide +kernel
theorem dX7_loop_73 : decode cX7_loop 73 = .ok (.iconst 1, 1) := by decide +kernel
theorem dX7_loop_74 : decode cX7_loop 74 = .ok (.iadd, 1) := by decide +kernel
theorem dX7_loop_75 : decode cX7_loop 75 = .ok (.invokevirtual 198, 3) := by decide +kernel
theorem dX7_loop_78 : decode cX7_loop 78 = .ok (.lstore 5, 2) := by decide +kernel
theorem dX7_loop_80 : decode cX7_loop 80 = .ok (.iinc 7 1, 3) := by decide +kernel
theorem dX7_loop_83 : decode cX7_loop 83 = .ok (.goto (-59), 3) := by decide +kernel
theorem dX7_loop_29 : decode cX7_loop 29 = .ok (.ifCond .ge 57, 3) := by decide +kernel
theorem hy_X7_loop : yX7_loop.cls ≠ "java/lang/invoke/MethodHandle" ∧ yX7_loop.cls ≠ "java/lang/invoke/VarHandle" ∧ (parseMethodDescriptor yX7_loop.desc).map (fun d => d.parameters.length) = some 2 := ⟨by decide, by decide, by decide +kernel⟩
def f_X7_loop_b24 (P : Nat → Int32 → Int32 → wS → Option (Int64 × wS)) : Nat → Nat → Nat → Int32 → Int64 → Int64 → Int32 → wS → Option ((Int64) × wS)
  | 0, _, _, _, _, _, _, _ => none
  | n + 1, l0, l1, l2, l3, l5, l7, S => 
  if l3 ≤ ((l7).toInt64) then (
  some (l5, S)) else (
  o_gI 7 11 l0 S fun x1 =>
  if x1 = 0 then (
  o_ck (s_K S l0 = 7) (o_call (f_X7_handOn l0 l2 0 0 S) fun _ S1 =>
  o_ck (s_K S1 l0 = 7) (o_call (f_X7_hand l0 (l2 + (1 : Int32)) 0 l5 S1) fun _ S2 =>
  o_ck (s_K S2 l0 = 7) (o_call (f_X7_hand l0 (l2 + (1 : Int32)) 1 ((l7).toInt64) S2) fun _ S3 =>
  o_gI 1 1 l1 S3 fun x2 =>
  o_ck (s_K S3 l0 = 7) (o_call (P l0 x2 (l2 + (1 : Int32)) S3) fun x3 S4 =>
  o_let (l7 + 1) fun x4 =>
  f_X7_loop_b24 P n l0 l1 l2 l3 x3 x4 S4))))) else (
  some (l5, S)))
set_option maxHeartbeats 4000000 in
set_option maxRecDepth 100000 in
theorem w_X7_loop_b24 {l : Launch} {D : va_G} {Y : Nat → ClassId} {aR : Nat → Nat} {A : Nat → Prop} {p : Program} {e : Env} {s : State} {m : MethodId} {args : Array Value} {below : List Frame} {meth : Method} {c : Code} {S0 : wS} {P : Nat → Int32 → Int32 → wS → Option (Int64 × wS)} {F G : Nat} (hP : ∀ (o : Nat) (x y : Int32) (S : wS) (r : Int64) (S' : wS), P o x y S = some (r, S') → jq_S l D Y aR A yX7_perform cX7_perform 4 (some .long) F G [.ref o, .int x, .int y] S (some (.long r)) S') (hF : 40 ≤ F) (hG : 1000 ≤ G) : ∀ (n : Nat) (l0 : Nat) (l1 : Nat) (l2 : Int32) (l3 : Int64) (l5 : Int64) (l7 : Int32) (S S' : wS) (r : Int64) (H : Heap) (locs : List Loc) (ls : Array Slot), jq_X D Y aR A p s m args meth c cX7_loop RX7 "loop" 8 (some .long) → wJ D Y A s S0 S H locs → f_X7_loop_b24 P n l0 l1 l2 l3 l5 l7 S = some (r, S') → lv_has ls 8 [(0, .ref l0), (1, .ref l1), (2, .int l2), (3, .long l3), (5, .long l5), (7, .int l7)] → W p l e { frames := (F + 1), cells := s_lm S0 - s_nx S0, slots := s_sm S0 - s_sl S0, locals := (G + 60) } s m args below meth c H locs (s_nx S - s_nx S0) (s_sl S - s_sl S0) (jq_Z below A (fun v k n H => v = (some (.long r)) ∧ k = s_nx S' - s_nx S0 ∧ n = s_sl S' - s_sl S0 ∧ wG S0 S' ∧ wH D Y A S' H) s) (F0 m 24 ls []) := by
  intro n
  induction n with
  | zero =>
    intro l0 l1 l2 l3 l5 l7 S S' r H locs ls hX hJ hf hl
    cases hf
  | succ n ih =>
    intro l0 l1 l2 l3 l5 l7 S S' r H locs ls hX hJ hf hl
    rw [f_X7_loop_b24.eq_2] at hf
    have hx := hX.1
    have hb := hX.2.1
    have hm := hX.2.2.1
    have ho := hX.2.2.2.1
    have ht := hX.2.2.2.2.1
    have hn := hX.2.2.2.2.2.1.2.1
    refine lv_iload hx hb dX7_loop_24 (lv_at hl 5 rfl) ?_
    refine lv_i2l hx hb dX7_loop_26 rfl ?_
    refine lv_lload_n hx hb dX7_loop_27 rfl (lv_at hl 3 rfl) ?_
    refine W.lcmp hx hb dX7_loop_28 ?_
    refine lv_if_ge (tgt := 86) hx hb dX7_loop_29 (by decide) (fun c1 => ?_) (fun c1 => ?_)
    · replace hf := o_t hf (qc_ge.mp c1)
      refine lv_lload hx hb dX7_loop_86 (lv_at hl 4 rfl) ?_
      obtain ⟨rfl, rfl⟩ := Prod.mk.inj (Option.some.inj hf)
      exact jq_lret hX hJ.2.2 dX7_loop_88 ⟨rfl, rfl, rfl, hJ.1, hJ.2.1⟩
    · replace hf := o_f hf (fun z => c1 (qc_ge.mpr z))
      refine lv_aload_n hx hb dX7_loop_32 rfl (lv_at hl 0 rfl) ?_
      replace hf := o_gI_e hf
      obtain ⟨hk1, x1, hx1, hf⟩ := hf
      refine gf_X7_failure hX hJ hk1 hx1 qw85 dX7_loop_33 ?_
      refine lv_if_ne (tgt := 86) hx hb dX7_loop_36 (by decide) (fun c2 => ?_) (fun c2 => ?_)
      · replace hf := o_f hf c2
        refine lv_lload hx hb dX7_loop_86 (lv_at hl 4 rfl) ?_
        obtain ⟨rfl, rfl⟩ := Prod.mk.inj (Option.some.inj hf)
        exact jq_lret hX hJ.2.2 dX7_loop_88 ⟨rfl, rfl, rfl, hJ.1, hJ.2.1⟩
      · replace hf := o_t hf c2
        refine lv_aload_n hx hb dX7_loop_39 rfl (lv_at hl 0 rfl) ?_
        refine lv_iload_n hx hb dX7_loop_40 rfl (lv_at hl 2 rfl) ?_
        refine lv_iconst (v := 0) hx hb dX7_loop_41 (by decide) ?_
        refine lv_iconst (v := 0) hx hb dX7_loop_42 (by decide) ?_
        replace hf := o_ck_e hf
        obtain ⟨hk2, hf⟩ := hf
        replace hf := o_call_e hf
        obtain ⟨_, S1, hq1, hf⟩ := hf
        refine jq_doS hX hJ (jq_okV (As := [.int l2, .int 0, .int 0]) (rest := []) hx hb hm ho ht (wJ.recv hX hJ (by rw [hk2]; decide) (wE_X7 hk2) rfl) qw593 qw595 qs58 qw596 qw5 hy_X7_handOn rfl hl.1 (Nat.le_of_ble_eq_true rfl) dX7_loop_43) (c_X7_handOn hq1) (by omega) (by omega) (fun H locs hJ' => ?_)
        clear hJ
        have hJ := hJ'
        clear hJ'
        refine lv_aload_n hx hb dX7_loop_46 rfl (lv_at hl 0 rfl) ?_
        refine lv_iload_n hx hb dX7_loop_47 rfl (lv_at hl 2 rfl) ?_
        refine lv_iconst (v := 1) hx hb dX7_loop_48 (by decide) ?_
        refine lv_iadd hx hb dX7_loop_49 ?_
        refine lv_iconst (v := 0) hx hb dX7_loop_50 (by decide) ?_
        refine lv_lload hx hb dX7_loop_51 (lv_at hl 4 rfl) ?_
        replace hf := o_ck_e hf
        obtain ⟨hk3, hf⟩ := hf
        replace hf := o_call_e hf
        obtain ⟨_, S2, hq2, hf⟩ := hf
        refine jq_doS hX hJ (jq_okV (As := [.int (l2 + (1 : Int32)), .int 0, .long l5]) (rest := []) hx hb hm ho ht (wJ.recv hX hJ (by rw [hk3]; decide) (wE_X7 hk3) rfl) qw598 qw526 qs44 qw527 qw5 hy_X7_hand rfl hl.1 (Nat.le_of_ble_eq_true rfl) dX7_loop_53) (c_X7_hand hq2) (by omega) (by omega) (fun H locs hJ' => ?_)
        clear hJ
        have hJ := hJ'
        clear hJ'
        refine lv_aload_n hx hb dX7_loop_56 rfl (lv_at hl 0 rfl) ?_
        refine lv_iload_n hx hb dX7_loop_57 rfl (lv_at hl 2 rfl) ?_
        refine lv_iconst (v := 1) hx hb dX7_loop_58 (by decide) ?_
        refine lv_iadd hx hb dX7_loop_59 ?_
        refine lv_iconst (v := 1) hx hb dX7_loop_60 (by decide) ?_
        refine lv_iload hx hb dX7_loop_61 (lv_at hl 5 rfl) ?_
        refine lv_i2l hx hb dX7_loop_63 rfl ?_
        replace hf := o_ck_e hf
        obtain ⟨hk4, hf⟩ := hf
        replace hf := o_call_e hf
        obtain ⟨_, S3, hq3, hf⟩ := hf
        refine jq_doS hX hJ (jq_okV (As := [.int (l2 + (1 : Int32)), .int 1, .long ((l7).toInt64)]) (rest := []) hx hb hm ho ht (wJ.recv hX hJ (by rw [hk4]; decide) (wE_X7 hk4) rfl) qw598 qw526 qs44 qw527 qw5 hy_X7_hand rfl hl.1 (Nat.le_of_ble_eq_true rfl) dX7_loop_64) (c_X7_hand hq3) (by omega) (by omega) (fun H locs hJ' => ?_)
        clear hJ
        have hJ := hJ'
        clear hJ'
        refine lv_aload_n hx hb dX7_loop_67 rfl (lv_at hl 0 rfl) ?_
        refine lv_aload_n hx hb dX7_loop_68 rfl (lv_at hl 1 rfl) ?_
        replace hf := o_gI_e hf
        obtain ⟨hk5, x2, hx2, hf⟩ := hf
        refine gn_X0_a hX hJ hk5 hx2 qn275 dX7_loop_69 ?_
        refine lv_iload_n hx hb dX7_loop_72 rfl (lv_at hl 2 rfl) ?_
        refine lv_iconst (v := 1) hx hb dX7_loop_73 (by decide) ?_
        refine lv_iadd hx hb dX7_loop_74 ?_
        replace hf := o_ck_e hf
        obtain ⟨hk6, hf⟩ := hf
        replace hf := o_call_e hf
        obtain ⟨x3, S4, hq4, hf⟩ := hf
        refine jq_doS hX hJ (jq_okV (As := [.int x2, .int (l2 + (1 : Int32))]) (rest := []) hx hb hm ho ht (wJ.recv hX hJ (by rw [hk6]; decide) (wE_X7 hk6) rfl) qw599 qw533 qs45 qw534 qw5 hy_X7_perform rfl hl.1 (Nat.le_of_ble_eq_true rfl) dX7_loop_75) (hP _ _ _ _ _ _ hq4) (by omega) (by omega) (fun H locs hJ' => ?_)
        clear hJ
        have hJ := hJ'
        clear hJ'
        refine lv_lstore (lv' := [(5, .long x3), (0, .ref l0), (1, .ref l1), (2, .int l2), (3, .long l3), (7, .int l7)]) hx hb dX7_loop_78 hl (by decide) rfl (fun ls hl' => ?_)
        clear hl
        have hl := hl'
        clear hl'
        replace hf := o_let_e hf
        obtain ⟨x4, hx4, hf⟩ := hf
        refine lv_iinc (v := x4) (lv' := [(7, .int x4), (5, .long x3), (0, .ref l0), (1, .ref l1), (2, .int l2), (3, .long l3)]) hx hb dX7_loop_80 hl (k := 5) rfl (by rw [← hx4]; rfl) (by decide) rfl (fun ls hl' => ?_)
        clear hl
        have hl := hl'
        clear hl'
        refine lv_goto (tgt := 24) hx hb dX7_loop_83 (by decide) ?_
        replace hl := lv_sub hl (l' := [(0, .ref l0), (1, .ref l1), (2, .int l2), (3, .long l3), (5, .long x3), (7, .int x4)]) [2, 3, 4, 5, 1, 0] rfl
        exact ih l0 l1 l2 l3 x3 x4 S4 S' r H locs ls hX hJ hf hl
def f_X7_loop (P : Nat → Int32 → Int32 → wS → Option (Int64 × wS)) (o : Nat) (p1 : Nat) (p2 : Int32) (S : wS) : Option ((Int64) × wS) :=
  o_ck (s_K S o = 7) (o_call (f_X7_taken o p2 0 S) fun x1 S1 =>
  o_ck (s_K S1 o = 7) (o_call (f_X7_taken o p2 1 S1) fun x2 S2 =>
  f_X7_loop_b24 P 3000 o p1 p2 (if 2001 < x1 then 2001 else x1) x2 0 S2))
set_option maxHeartbeats 4000000 in
set_option maxRecDepth 100000 in
theorem c_X7_loop {l : Launch} {D : va_G} {Y : Nat → ClassId} {aR : Nat → Nat} {A : Nat → Prop} {P : Nat → Int32 → Int32 → wS → Option (Int64 × wS)} {F G : Nat} (hP : ∀ (o : Nat) (x y : Int32) (S : wS) (r : Int64) (S' : wS), P o x y S = some (r, S') → jq_S l D Y aR A yX7_perform cX7_perform 4 (some .long) F G [.ref o, .int x, .int y] S (some (.long r)) S') (hF : 40 ≤ F) (hG : 1000 ≤ G) {o : Nat} {p1 : Nat} {p2 : Int32} {S S' : wS} {r : Int64} (hf : f_X7_loop P o p1 p2 S = some (r, S')) : jq_S l D Y aR A yX7_loop cX7_loop 8 (some .long) (F + 1) (G + 60) [.ref o, .ref p1, .int p2] S (some (.long r)) S' := by
  unfold f_X7_loop at hf
  refine jq_enterS (by decide) (Nat.le_of_ble_eq_true rfl) fun p e s m args below meth c ls H locs hX hJ hl => ?_
  have hl : lv_has ls 8 [(0, .ref o), (1, .ref p1), (2, .int p2)] := hl
  have hx := hX.1
  have hb := hX.2.1
  have hm := hX.2.2.1
  have ho := hX.2.2.2.1
  have ht := hX.2.2.2.2.1
  have hn := hX.2.2.2.2.2.1.2.1
  refine lv_aload_n hx hb dX7_loop_0 rfl (lv_at hl 0 rfl) ?_
  refine lv_iload_n hx hb dX7_loop_1 rfl (lv_at hl 2 rfl) ?_
  refine lv_iconst (v := 0) hx hb dX7_loop_2 (by decide) ?_
  replace hf := o_ck_e hf
  obtain ⟨hk1, hf⟩ := hf
  replace hf := o_call_e hf
  obtain ⟨x1, S1, hq1, hf⟩ := hf
  refine jq_doS hX hJ (jq_okV (As := [.int p2, .int 0]) (rest := []) hx hb hm ho ht (wJ.recv hX hJ (by rw [hk1]; decide) (wE_X7 hk1) rfl) qw540 qw542 qs47 qw543 qw5 hy_X7_taken rfl hl.1 (Nat.le_of_ble_eq_true rfl) dX7_loop_3) (c_X7_taken hq1) (by omega) (by omega) (fun H locs hJ' => ?_)
  clear hJ
  have hJ := hJ'
  clear hJ'
  refine lv_ldc2 (v := 2001) hx hb ho (ht _ qw632) dX7_loop_6 ?_
  refine va_mmin_long hx hb (hm.trans hl.1.symm) ho (ht _ qw633) (ht _ qw634) (ht _ qw10) (ht _ qm_minl) (Nat.succ_le_succ (Nat.zero_le _)) (Nat.le_trans (m := 60) (Nat.le_of_ble_eq_true rfl) (Nat.le_add_left 60 _)) (wJ.cl hJ) (wJ.sl hJ) dX7_loop_9 ?_
  refine lv_lstore_n (lv' := [(3, .long (if 2001 < x1 then 2001 else x1)), (0, .ref o), (1, .ref p1), (2, .int p2)]) hx hb dX7_loop_12 rfl hl (by decide) rfl (fun ls hl' => ?_)
  clear hl
  have hl := hl'
  clear hl'
  refine lv_aload_n hx hb dX7_loop_13 rfl (lv_at hl 1 rfl) ?_
  refine lv_iload_n hx hb dX7_loop_14 rfl (lv_at hl 3 rfl) ?_
  refine lv_iconst (v := 1) hx hb dX7_loop_15 (by decide) ?_
  replace hf := o_ck_e hf
  obtain ⟨hk2, hf⟩ := hf
  replace hf := o_call_e hf
  obtain ⟨x2, S2, hq2, hf⟩ := hf
  refine jq_doS hX hJ (jq_okV (As := [.int p2, .int 1]) (rest := []) hx hb hm ho ht (wJ.recv hX hJ (by rw [hk2]; decide) (wE_X7 hk2) rfl) qw540 qw542 qs47 qw543 qw5 hy_X7_taken rfl hl.1 (Nat.le_of_ble_eq_true rfl) dX7_loop_16) (c_X7_taken hq2) (by omega) (by omega) (fun H locs hJ' => ?_)
  clear hJ
  have hJ := hJ'
  clear hJ'
  refine lv_lstore (lv' := [(5, .long x2), (3, .long (if 2001 < x1 then 2001 else x1)), (0, .ref o), (1, .ref p1), (2, .int p2)]) hx hb dX7_loop_19 hl (by decide) rfl (fun ls hl' => ?_)
  clear hl
  have hl := hl'
  clear hl'
  refine lv_iconst (v := 0) hx hb dX7_loop_21 (by decide) ?_
  refine lv_istore (lv' := [(7, .int 0), (5, .long x2), (3, .long (if 2001 < x1 then 2001 else x1)), (0, .ref o), (1, .ref p1), (2, .int p2)]) hx hb dX7_loop_22 hl (by decide) rfl (fun ls hl' => ?_)
  clear hl
  have hl := hl'
  clear hl'
  replace hl := lv_sub hl (l' := [(0, .ref o), (1, .ref p1), (2, .int p2), (3, .long (if 2001 < x1 then 2001 else x1)), (5, .long x2), (7, .int 0)]) [3, 4, 5, 2, 1, 0] rfl
  exact w_X7_loop_b24 hP hF hG 3000 o p1 p2 (if 2001 < x1 then 2001 else x1) x2 0 S2 S' r H locs ls hX hJ hf hl
theorem dX7_widen_0 : decode cX7_widen 0 = .ok (.aload_n 0, 1) := by decide +kernel
theorem dX7_widen_1 : decode cX7_widen 1 = .ok (.getfield 9, 3) := by decide +kernel
theorem dX7_widen_4 : decode cX7_widen 4 = .ok (.aload_n 1, 1) := by decide +kernel
theorem dX7_widen_5 : decode cX7_widen 5 = .ok (.getfield 71, 3) := by decide +kernel
theorem dX7_widen_8 : decode cX7_widen 8 = .ok (.invokevirtual 221, 3) := by decide +kernel
theorem dX7_widen_11 : decode cX7_widen 11 = .ok (.astore_n 3, 1) := by decide +kernel
theorem dX7_widen_12 : decode cX7_widen 12 = .ok (.aload_n 3, 1) := by decide +kernel
theorem dX7_widen_13 : decode cX7_widen 13 = .ok (.ifnonnull 12, 3) := by decide +kernel
theorem dX7_widen_25 : decode cX7_widen 25 = .ok (.aload_n 1, 1) := by decide +kernel
theorem dX7_widen_26 : decode cX7_widen 26 = .ok (.getfield 204, 3) := by decide +kernel
theorem dX7_widen_29 : decode cX7_widen 29 = .ok (.astore 4, 2) := by decide +kernel
theorem dX7_widen_31 : decode cX7_widen 31 = .ok (.iconst 0, 1) := by decide +kernel
theorem dX7_widen_32 : decode cX7_widen 32 = .ok (.istore 5, 2) := by decide +kernel
theorem dX7_widen_16 : decode cX7_widen 16 = .ok (.aload_n 0, 1) := by decide +kernel
theorem dX7_widen_17 : decode cX7_widen 17 = .ok (.aload_n 1, 1) := by decide +kernel
theorem dX7_widen_18 : decode cX7_widen 18 = .ok (.getfield 53, 3) := by decide +kernel
theorem dX7_widen_21 : decode cX7_widen 21 = .ok (.invokevirtual 64, 3) := by decide +kernel
theorem dX7_widen_24 : decode cX7_widen 24 = .ok (.lreturn, 1) := by decide +kernel
theorem dX7_widen_34 : decode cX7_widen 34 = .ok (.iload 5, 2) := by decide +kernel
theorem dX7_widen_36 : decode cX7_widen 36 = .ok (.aload 4, 2) := by decide +kernel
theorem dX7_widen_38 : decode cX7_widen 38 = .ok (.getfield 225, 3) := by decide +kernel
theorem dX7_widen_41 : decode cX7_widen 41 = .ok (.if_icmp .ge 45, 3) := by decide +kernel
theorem dX7_widen_86 : decode cX7_widen 86 = .ok (.aload_n 0, 1) := by decide +kernel
theorem dX7_widen_87 : decode cX7_widen 87 = .ok (.aload_n 1, 1) := by decide +kernel
theorem dX7_widen_88 : decode cX7_widen 88 = .ok (.getfield 71, 3) := by decide +kernel
theorem dX7_widen_91 : decode cX7_widen 91 = .ok (.iload_n 2, 1) := by decide +kernel
theorem dX7_widen_92 : decode cX7_widen 92 = .ok (.iconst 1, 1) := by decide +kernel
theorem dX7_widen_93 : decode cX7_widen 93 = .ok (.iadd, 1) := by decide +kernel
theorem dX7_widen_94 : decode cX7_widen 94 = .ok (.invokevirtual 198, 3) := by decide +kernel
theorem dX7_widen_97 : decode cX7_widen 97 = .ok (.lstore 5, 2) := by decide +kernel
theorem dX7_widen_99 : decode cX7_widen 99 = .ok (.aload_n 0, 1) := by decide +kernel
theorem dX7_widen_100 : decode cX7_widen 100 = .ok (.getfield 33, 3) := by decide +kernel
theorem dX7_widen_103 : decode cX7_widen 103 = .ok (.ifCond .eq 7, 3) := by decide +kernel
theorem dX7_widen_110 : decode cX7_widen 110 = .ok (.aload_n 3, 1) := by decide +kernel
theorem dX7_widen_111 : decode cX7_widen 111 = .ok (.getfield 208, 3) := by decide +kernel
theorem dX7_widen_114 : decode cX7_widen 114 = .ok (.aload 4, 2) := by decide +kernel
theorem dX7_widen_116 : decode cX7_widen 116 = .ok (.getfield 208, 3) := by decide +kernel
theorem dX7_widen_119 : decode cX7_widen 119 = .ok (.lload 5, 2) := by decide +kernel
theorem dX7_widen_121 : decode cX7_widen 121 = .ok (.invokestatic 231, 3) := by decide +kernel
theorem dX7_widen_124 : decode cX7_widen 124 = .ok (.lreturn, 1) := by decide +kernel
theorem dX7_widen_106 : decode cX7_widen 106 = .ok (.lconst 0, 1) := by decide +kernel
theorem dX7_widen_107 : decode cX7_widen 107 = .ok (.goto 17, 3) := by decide +kernel
theorem dX7_widen_44 : decode cX7_widen 44 = .ok (.aload_n 0, 1) := by decide +kernel
theorem dX7_widen_45 : decode cX7_widen 45 = .ok (.iload_n 2, 1) := by decide +kernel
theorem dX7_widen_46 : decode cX7_widen 46 = .ok (.iload 5, 2) := by decide +kernel
theorem dX7_widen_48 : decode cX7_widen 48 = .ok (.invokevirtual 45, 3) := by decide +kernel
theorem dX7_widen_51 : decode cX7_widen 51 = .ok (.lstore 6, 2) := by decide +kernel
theorem dX7_widen_53 : decode cX7_widen 53 = .ok (.aload_n 0, 1) := by decide +kernel
theorem dX7_widen_54 : decode cX7_widen 54 = .ok (.iload_n 2, 1) := by decide +kernel
theorem dX7_widen_55 : decode cX7_widen 55 = .ok (.iconst 1, 1) := by decide +kernel
theorem dX7_widen_56 : decode cX7_widen 56 = .ok (.iadd, 1) := by decide +kernel
theorem dX7_widen_57 : decode cX7_widen 57 = .ok (.iload 5, 2) := by decide +kernel
theorem dX7_widen_59 : decode cX7_widen 59 = .ok (.aload 4, 2) := by decide +kernel
theorem dX7_widen_61 : decode cX7_widen 61 = .ok (.iload 5, 2) := by decide +kernel
theorem dX7_widen_63 : decode cX7_widen 63 = .ok (.invokevirtual 227, 3) := by decide +kernel
theorem dX7_widen_66 : decode cX7_widen 66 = .ok (.aload_n 3, 1) := by decide +kernel
theorem dX7_widen_67 : decode cX7_widen 67 = .ok (.iload 5, 2) := by decide +kernel
theorem dX7_widen_69 : decode cX7_widen 69 = .ok (.invokevirtual 227, 3) := by decide +kernel
theorem dX7_widen_72 : decode cX7_widen 72 = .ok (.lload 6, 2) := by decide +kernel
theorem dX7_widen_74 : decode cX7_widen 74 = .ok (.invokestatic 231, 3) := by decide +kernel
theorem dX7_widen_77 : decode cX7_widen 77 = .ok (.invokevirtual 49, 3) := by decide +kernel
theorem dX7_widen_80 : decode cX7_widen 80 = .ok (.iinc 5 1, 3) := by decide +kernel
theorem dX7_widen_83 : decode cX7_widen 83 = .ok (.goto (-49), 3) := by decide +kernel
theorem hy_X7_widen : yX7_widen.cls ≠ "java/lang/invoke/MethodHandle" ∧ yX7_widen.cls ≠ "java/lang/invoke/VarHandle" ∧ (parseMethodDescriptor yX7_widen.desc).map (fun d => d.parameters.length) = some 2 := ⟨by decide, by decide, by decide +kernel⟩
def f_X7_widen_b34 (P : Nat → Int32 → Int32 → wS → Option (Int64 × wS)) : Nat → Nat → Nat → Int32 → Nat → Nat → Int32 → wS → Option ((Int64) × wS)
  | 0, _, _, _, _, _, _, _ => none
  | n + 1, l0, l1, l2, l3, l4, l5, S => 
  o_gI 8 13 l4 S fun x1 =>
  if x1 ≤ l5 then (
  o_gI 1 1 l1 S fun x2 =>
  o_ck (s_K S l0 = 7) (o_call (P l0 x2 (l2 + (1 : Int32)) S) fun x3 S1 =>
  o_gI 7 11 l0 S1 fun x4 =>
  if x4 = 0 then (
  o_gI 8 12 l3 S1 fun x5 =>
  o_gI 8 12 l4 S1 fun x6 =>
  o_cP (f_X2_widened x5 x6 x3) fun x7 =>
  some (x7, S1)) else (
  some (0, S1)))) else (
  o_ck (s_K S l0 = 7) (o_call (f_X7_taken l0 l2 l5 S) fun x8 S2 =>
  o_ck (s_K S2 l4 = 8) (o_call (f_X9_kind l4 l5 S2) fun x9 S3 =>
  o_ck (s_K S3 l3 = 8) (o_call (f_X9_kind l3 l5 S3) fun x10 S4 =>
  o_cP (f_X2_widened x9 x10 x8) fun x11 =>
  o_ck (s_K S4 l0 = 7) (o_call (f_X7_hand l0 (l2 + (1 : Int32)) l5 x11 S4) fun _ S5 =>
  o_let (l5 + 1) fun x12 =>
  f_X7_widen_b34 P n l0 l1 l2 l3 l4 x12 S5)))))
set_option maxHeartbeats 4000000 in
set_option maxRecDepth 100000 in
theorem w_X7_widen_b34 {l : Launch} {D : va_G} {Y : Nat → ClassId} {aR : Nat → Nat} {A : Nat → Prop} {p : Program} {e : Env} {s : State} {m : MethodId} {args : Array Value} {below : List Frame} {meth : Method} {c : Code} {S0 : wS} {P : Nat → Int32 → Int32 → wS → Option (Int64 × wS)} {F G : Nat} (hP : ∀ (o : Nat) (x y : Int32) (S : wS) (r : Int64) (S' : wS), P o x y S = some (r, S') → jq_S l D Y aR A yX7_perform cX7_perform 4 (some .long) F G [.ref o, .int x, .int y] S (some (.long r)) S') (hF : 40 ≤ F) (hG : 1000 ≤ G) : ∀ (n : Nat) (l0 : Nat) (l1 : Nat) (l2 : Int32) (l3 : Nat) (l4 : Nat) (l5 : Int32) (S S' : wS) (r : Int64) (H : Heap) (locs : List Loc) (ls : Array Slot), jq_X D Y aR A p s m args meth c cX7_widen RX7 "widen" 8 (some .long) → wJ D Y A s S0 S H locs → f_X7_widen_b34 P n l0 l1 l2 l3 l4 l5 S = some (r, S') → lv_has ls 8 [(0, .ref l0), (1, .ref l1), (2, .int l2), (3, .ref l3), (4, .ref l4), (5, .int l5)] → W p l e { frames := (F + 1), cells := s_lm S0 - s_nx S0, slots := s_sm S0 - s_sl S0, locals := (G + 60) } s m args below meth c H locs (s_nx S - s_nx S0) (s_sl S - s_sl S0) (jq_Z below A (fun v k n H => v = (some (.long r)) ∧ k = s_nx S' - s_nx S0 ∧ n = s_sl S' - s_sl S0 ∧ wG S0 S' ∧ wH D Y A S' H) s) (F0 m 34 ls []) := by
  intro n
  induction n with
  | zero =>
    intro l0 l1 l2 l3 l4 l5 S S' r H locs ls hX hJ hf hl
    cases hf
  | succ n ih =>
    intro l0 l1 l2 l3 l4 l5 S S' r H locs ls hX hJ hf hl
    rw [f_X7_widen_b34.eq_2] at hf
    have hx := hX.1
    have hb := hX.2.1
    have hm := hX.2.2.1
    have ho := hX.2.2.2.1
    have ht := hX.2.2.2.2.1
    have hn := hX.2.2.2.2.2.1.2.1
    refine lv_iload hx hb dX7_widen_34 (lv_at hl 5 rfl) ?_
    refine lv_aload hx hb dX7_widen_36 (lv_at hl 4 rfl) ?_
    replace hf := o_gI_e hf
    obtain ⟨hk1, x1, hx1, hf⟩ := hf
    refine gn_X9_many hX hJ hk1 hx1 qn116 dX7_widen_38 ?_
    refine lv_icmp_ge (tgt := 86) hx hb dX7_widen_41 (by decide) (fun c1 => ?_) (fun c1 => ?_)
    · replace hf := o_t hf c1
      refine lv_aload_n hx hb dX7_widen_86 rfl (lv_at hl 0 rfl) ?_
      refine lv_aload_n hx hb dX7_widen_87 rfl (lv_at hl 1 rfl) ?_
      replace hf := o_gI_e hf
      obtain ⟨hk2, x2, hx2, hf⟩ := hf
      refine gn_X0_a hX hJ hk2 hx2 qn275 dX7_widen_88 ?_
      refine lv_iload_n hx hb dX7_widen_91 rfl (lv_at hl 2 rfl) ?_
      refine lv_iconst (v := 1) hx hb dX7_widen_92 (by decide) ?_
      refine lv_iadd hx hb dX7_widen_93 ?_
      replace hf := o_ck_e hf
      obtain ⟨hk3, hf⟩ := hf
      replace hf := o_call_e hf
      obtain ⟨x3, S1, hq1, hf⟩ := hf
      refine jq_doS hX hJ (jq_okV (As := [.int x2, .int (l2 + (1 : Int32))]) (rest := []) hx hb hm ho ht (wJ.recv hX hJ (by rw [hk3]; decide) (wE_X7 hk3) rfl) qw599 qw533 qs45 qw534 qw5 hy_X7_perform rfl hl.1 (Nat.le_of_ble_eq_true rfl) dX7_widen_94) (hP _ _ _ _ _ _ hq1) (by omega) (by omega) (fun H locs hJ' => ?_)
      clear hJ
      have hJ := hJ'
      clear hJ'
      refine lv_lstore (lv' := [(5, .long x3), (0, .ref l0), (1, .ref l1), (2, .int l2), (3, .ref l3), (4, .ref l4)]) hx hb dX7_widen_97 hl (by decide) rfl (fun ls hl' => ?_)
      clear hl
      have hl := hl'
      clear hl'
      refine lv_aload_n hx hb dX7_widen_99 rfl (lv_at hl 1 rfl) ?_
      replace hf := o_gI_e hf
      obtain ⟨hk4, x4, hx4, hf⟩ := hf
      refine gf_X7_failure hX hJ hk4 hx4 qw85 dX7_widen_100 ?_
      refine lv_if_eq (tgt := 110) hx hb dX7_widen_103 (by decide) (fun c2 => ?_) (fun c2 => ?_)
      · replace hf := o_t hf c2
        refine lv_aload_n hx hb dX7_widen_110 rfl (lv_at hl 4 rfl) ?_
        replace hf := o_gI_e hf
        obtain ⟨hk5, x5, hx5, hf⟩ := hf
        refine gn_X9_result hX hJ hk5 hx5 qn112 dX7_widen_111 ?_
        refine lv_aload hx hb dX7_widen_114 (lv_at hl 5 rfl) ?_
        replace hf := o_gI_e hf
        obtain ⟨hk6, x6, hx6, hf⟩ := hf
        refine gn_X9_result hX hJ hk6 hx6 qn112 dX7_widen_116 ?_
        refine lv_lload hx hb dX7_widen_119 (lv_at hl 0 rfl) ?_
        replace hf := o_cP_e hf
        obtain ⟨x7, hq2, hf⟩ := hf
        refine jq_doPS hX hJ (jq_okSN (As := [.int x5, .int x6, .long x3]) (rest := []) hx hb hm ho ht hn qn642 qw489 qw490 qw8 hy_X2_widened rfl hl.1 (Nat.le_of_ble_eq_true rfl) dX7_widen_121) (c_X2_widened hq2) (by omega) (by omega) (fun locs hJ' => ?_)
        clear hJ
        have hJ := hJ'
        clear hJ'
        obtain ⟨rfl, rfl⟩ := Prod.mk.inj (Option.some.inj hf)
        exact jq_lret hX hJ.2.2 dX7_widen_124 ⟨rfl, rfl, rfl, hJ.1, hJ.2.1⟩
      · replace hf := o_f hf c2
        refine lv_lconst (v := 0) hx hb dX7_widen_106 (by decide) ?_
        refine lv_goto (tgt := 124) hx hb dX7_widen_107 (by decide) ?_
        obtain ⟨rfl, rfl⟩ := Prod.mk.inj (Option.some.inj hf)
        exact jq_lret hX hJ.2.2 dX7_widen_124 ⟨rfl, rfl, rfl, hJ.1, hJ.2.1⟩
    · replace hf := o_f hf c1
      refine lv_aload_n hx hb dX7_widen_44 rfl (lv_at hl 0 rfl) ?_
      refine lv_iload_n hx hb dX7_widen_45 rfl (lv_at hl 2 rfl) ?_
      refine lv_iload hx hb dX7_widen_46 (lv_at hl 5 rfl) ?_
      replace hf := o_ck_e hf
      obtain ⟨hk7, hf⟩ := hf
      replace hf := o_call_e hf
      obtain ⟨x8, S2, hq3, hf⟩ := hf
      refine jq_doS hX hJ (jq_okV (As := [.int l2, .int l5]) (rest := []) hx hb hm ho ht (wJ.recv hX hJ (by rw [hk7]; decide) (wE_X7 hk7) rfl) qw540 qw542 qs47 qw543 qw5 hy_X7_taken rfl hl.1 (Nat.le_of_ble_eq_true rfl) dX7_widen_48) (c_X7_taken hq3) (by omega) (by omega) (fun H locs hJ' => ?_)
      clear hJ
      have hJ := hJ'
      clear hJ'
      refine lv_lstore (lv' := [(6, .long x8), (0, .ref l0), (1, .ref l1), (2, .int l2), (3, .ref l3), (4, .ref l4), (5, .int l5)]) hx hb dX7_widen_51 hl (by decide) rfl (fun ls hl' => ?_)
      clear hl
      have hl := hl'
      clear hl'
      refine lv_aload_n hx hb dX7_widen_53 rfl (lv_at hl 1 rfl) ?_
      refine lv_iload_n hx hb dX7_widen_54 rfl (lv_at hl 3 rfl) ?_
      refine lv_iconst (v := 1) hx hb dX7_widen_55 (by decide) ?_
      refine lv_iadd hx hb dX7_widen_56 ?_
      refine lv_iload hx hb dX7_widen_57 (lv_at hl 6 rfl) ?_
      refine lv_aload hx hb dX7_widen_59 (lv_at hl 5 rfl) ?_
      refine lv_iload hx hb dX7_widen_61 (lv_at hl 6 rfl) ?_
      replace hf := o_ck_e hf
      obtain ⟨hk8, hf⟩ := hf
      replace hf := o_call_e hf
      obtain ⟨x9, S3, hq4, hf⟩ := hf
      refine jq_doS hX hJ (jq_okVN (As := [.int l5]) (rest := [.int l5, .int (l2 + (1 : Int32)), .ref l0]) hx hb hm ho ht hn (wJ.recv hX hJ (by rw [hk8]; decide) (wE_X9 hk8) rfl) qn641 qw351 qs19 qw352 qw6 hy_X9_kind rfl hl.1 (Nat.le_of_ble_eq_true rfl) dX7_widen_63) (c_X9_kind hq4) (by omega) (by omega) (fun H locs hJ' => ?_)
      clear hJ
      have hJ := hJ'
      clear hJ'
      refine lv_aload_n hx hb dX7_widen_66 rfl (lv_at hl 4 rfl) ?_
      refine lv_iload hx hb dX7_widen_67 (lv_at hl 6 rfl) ?_
      replace hf := o_ck_e hf
      obtain ⟨hk9, hf⟩ := hf
      replace hf := o_call_e hf
      obtain ⟨x10, S4, hq5, hf⟩ := hf
      refine jq_doS hX hJ (jq_okVN (As := [.int l5]) (rest := [.int x9, .int l5, .int (l2 + (1 : Int32)), .ref l0]) hx hb hm ho ht hn (wJ.recv hX hJ (by rw [hk9]; decide) (wE_X9 hk9) rfl) qn641 qw351 qs19 qw352 qw6 hy_X9_kind rfl hl.1 (Nat.le_of_ble_eq_true rfl) dX7_widen_69) (c_X9_kind hq5) (by omega) (by omega) (fun H locs hJ' => ?_)
      clear hJ
      have hJ := hJ'
      clear hJ'
      refine lv_lload hx hb dX7_widen_72 (lv_at hl 0 rfl) ?_
      replace hf := o_cP_e hf
      obtain ⟨x11, hq6, hf⟩ := hf
      refine jq_doPS hX hJ (jq_okSN (As := [.int x9, .int x10, .long x8]) (rest := [.int l5, .int (l2 + (1 : Int32)), .ref l0]) hx hb hm ho ht hn qn642 qw489 qw490 qw8 hy_X2_widened rfl hl.1 (Nat.le_of_ble_eq_true rfl) dX7_widen_74) (c_X2_widened hq6) (by omega) (by omega) (fun locs hJ' => ?_)
      clear hJ
      have hJ := hJ'
      clear hJ'
      replace hf := o_ck_e hf
      obtain ⟨hk10, hf⟩ := hf
      replace hf := o_call_e hf
      obtain ⟨_, S5, hq7, hf⟩ := hf
      refine jq_doS hX hJ (jq_okV (As := [.int (l2 + (1 : Int32)), .int l5, .long x11]) (rest := []) hx hb hm ho ht (wJ.recv hX hJ (by rw [hk10]; decide) (wE_X7 hk10) rfl) qw598 qw526 qs44 qw527 qw5 hy_X7_hand rfl hl.1 (Nat.le_of_ble_eq_true rfl) dX7_widen_77) (c_X7_hand hq7) (by omega) (by omega) (fun H locs hJ' => ?_)
      clear hJ
      have hJ := hJ'
      clear hJ'
      replace hf := o_let_e hf
      obtain ⟨x12, hx12, hf⟩ := hf
      refine lv_iinc (v := x12) (lv' := [(5, .int x12), (6, .long x8), (0, .ref l0), (1, .ref l1), (2, .int l2), (3, .ref l3), (4, .ref l4)]) hx hb dX7_widen_80 hl (k := 6) rfl (by rw [← hx12]; rfl) (by decide) rfl (fun ls hl' => ?_)
      clear hl
      have hl := hl'
      clear hl'
      refine lv_goto (tgt := 34) hx hb dX7_widen_83 (by decide) ?_
      replace hl := lv_sub hl (l' := [(0, .ref l0), (1, .ref l1), (2, .int l2), (3, .ref l3), (4, .ref l4), (5, .int x12)]) [2, 3, 4, 5, 6, 0] rfl
      exact ih l0 l1 l2 l3 l4 x12 S5 S' r H locs ls hX hJ hf hl
def f_X7_widen (P : Nat → Int32 → Int32 → wS → Option (Int64 × wS)) (o : Nat) (p1 : Nat) (p2 : Int32) (S : wS) : Option ((Int64) × wS) :=
  o_gR 7 6 o S fun x1 =>
  o_gI 1 1 p1 S fun x2 =>
  o_cs x1 (none) (fun a1 =>
  o_ck (s_K S a1 = 2) (o_call (f_X1_typeAt a1 x2 S) fun x3 S1 =>
  o_cs x3 (o_gI 1 4 p1 S1 fun x5 =>
  o_ck (s_K S1 o = 7) (o_call (f_X7_spent o x5 S1) fun x6 S2 =>
  some (x6, S2))) (fun a2 =>
  o_gR 1 0 p1 S1 fun x4 =>
  o_cs x4 (none) (fun a3 =>
  f_X7_widen_b34 P 12 o p1 p2 a2 a3 0 S1))))
set_option maxHeartbeats 4000000 in
set_option maxRecDepth 100000 in
theorem c_X7_widen {l : Launch} {D : va_G} {Y : Nat → ClassId} {aR : Nat → Nat} {A : Nat → Prop} {P : Nat → Int32 → Int32 → wS → Option (Int64 × wS)} {F G : Nat} (hP : ∀ (o : Nat) (x y : Int32) (S : wS) (r : Int64) (S' : wS), P o x y S = some (r, S') → jq_S l D Y aR A yX7_perform cX7_perform 4 (some .long) F G [.ref o, .int x, .int y] S (some (.long r)) S') (hF : 40 ≤ F) (hG : 1000 ≤ G) {o : Nat} {p1 : Nat} {p2 : Int32} {S S' : wS} {r : Int64} (hf : f_X7_widen P o p1 p2 S = some (r, S')) : jq_S l D Y aR A yX7_widen cX7_widen 8 (some .long) (F + 1) (G + 60) [.ref o, .ref p1, .int p2] S (some (.long r)) S' := by
  unfold f_X7_widen at hf
  refine jq_enterS (by decide) (Nat.le_of_ble_eq_true rfl) fun p e s m args below meth c ls H locs hX hJ hl => ?_
  have hl : lv_has ls 8 [(0, .ref o), (1, .ref p1), (2, .int p2)] := hl
  have hx := hX.1
  have hb := hX.2.1
  have hm := hX.2.2.1
  have ho := hX.2.2.2.1
  have ht := hX.2.2.2.2.1
  have hn := hX.2.2.2.2.2.1.2.1
  refine lv_aload_n hx hb dX7_widen_0 rfl (lv_at hl 0 rfl) ?_
  replace hf := o_gR_e hf
  obtain ⟨hk1, x1, hx1, hf⟩ := hf
  refine gf_X7_handles hX hJ hk1 hx1 qw76 dX7_widen_1 ?_
  refine lv_aload_n hx hb dX7_widen_4 rfl (lv_at hl 1 rfl) ?_
  replace hf := o_gI_e hf
  obtain ⟨hk2, x2, hx2, hf⟩ := hf
  refine gn_X0_a hX hJ hk2 hx2 qn275 dX7_widen_5 ?_
  replace hf := o_cs_e hf
  rcases hf with ⟨hr1, hf⟩ | ⟨a1, hr1, hf⟩
  · subst hr1
    cases hf
  · subst hr1
    replace hf := o_ck_e hf
    obtain ⟨hk3, hf⟩ := hf
    replace hf := o_call_e hf
    obtain ⟨x3, S1, hq1, hf⟩ := hf
    refine jq_doS hX hJ (jq_okVN (As := [.int x2]) (rest := []) hx hb hm ho ht hn (wJ.recv hX hJ (by rw [hk3]; decide) (wE_X1 hk3) rfl) qn640 qw335 qs16 qw336 qw3 hy_X1_typeAt rfl hl.1 (Nat.le_of_ble_eq_true rfl) dX7_widen_8) (c_X1_typeAt hq1) (by omega) (by omega) (fun H locs hJ' => ?_)
    clear hJ
    have hJ := hJ'
    clear hJ'
    replace hf := o_cs_e hf
    rcases hf with ⟨hr2, hf⟩ | ⟨a2, hr2, hf⟩
    · subst hr2
      refine lv_astore_nN (lv' := [(3, .null), (0, .ref o), (1, .ref p1), (2, .int p2)]) hx hb dX7_widen_11 rfl hl (by decide) rfl (fun ls hl' => ?_)
      clear hl
      have hl := hl'
      clear hl'
      refine lv_aload_nN hx hb dX7_widen_12 rfl (lv_at hl 0 rfl) ?_
      refine lv_ifnonnullN hx hb dX7_widen_13 ?_
      refine lv_aload_n hx hb dX7_widen_16 rfl (lv_at hl 1 rfl) ?_
      refine lv_aload_n hx hb dX7_widen_17 rfl (lv_at hl 2 rfl) ?_
      replace hf := o_gI_e hf
      obtain ⟨hk5, x5, hx5, hf⟩ := hf
      refine gn_X0_number hX hJ hk5 hx5 qn291 dX7_widen_18 ?_
      replace hf := o_ck_e hf
      obtain ⟨hk6, hf⟩ := hf
      replace hf := o_call_e hf
      obtain ⟨x6, S2, hq2, hf⟩ := hf
      refine jq_doS hX hJ (jq_okV (As := [.int x5]) (rest := []) hx hb hm ho ht (wJ.recv hX hJ (by rw [hk6]; decide) (wE_X7 hk6) rfl) qw536 qw538 qs46 qw539 qw5 hy_X7_spent rfl hl.1 (Nat.le_of_ble_eq_true rfl) dX7_widen_21) (c_X7_spent hq2) (by omega) (by omega) (fun H locs hJ' => ?_)
      clear hJ
      have hJ := hJ'
      clear hJ'
      obtain ⟨rfl, rfl⟩ := Prod.mk.inj (Option.some.inj hf)
      exact jq_lret hX hJ.2.2 dX7_widen_24 ⟨rfl, rfl, rfl, hJ.1, hJ.2.1⟩
    · subst hr2
      refine lv_astore_n (lv' := [(3, .ref a2), (0, .ref o), (1, .ref p1), (2, .int p2)]) hx hb dX7_widen_11 rfl hl (by decide) rfl (fun ls hl' => ?_)
      clear hl
      have hl := hl'
      clear hl'
      refine lv_aload_n hx hb dX7_widen_12 rfl (lv_at hl 0 rfl) ?_
      refine lv_ifnonnull (tgt := 25) hx hb dX7_widen_13 (by decide) ?_
      refine lv_aload_n hx hb dX7_widen_25 rfl (lv_at hl 2 rfl) ?_
      replace hf := o_gR_e hf
      obtain ⟨hk4, x4, hx4, hf⟩ := hf
      refine gn_X0_type hX hJ hk4 hx4 qn288 dX7_widen_26 ?_
      replace hf := o_cs_e hf
      rcases hf with ⟨hr3, hf⟩ | ⟨a3, hr3, hf⟩
      · subst hr3
        refine lv_astoreN (lv' := [(4, .null), (3, .ref a2), (0, .ref o), (1, .ref p1), (2, .int p2)]) hx hb dX7_widen_29 hl (by decide) rfl (fun ls hl' => ?_)
        clear hl
        have hl := hl'
        clear hl'
        refine lv_iconst (v := 0) hx hb dX7_widen_31 (by decide) ?_
        refine lv_istore (lv' := [(5, .int 0), (4, .null), (3, .ref a2), (0, .ref o), (1, .ref p1), (2, .int p2)]) hx hb dX7_widen_32 hl (by decide) rfl (fun ls hl' => ?_)
        clear hl
        have hl := hl'
        clear hl'
        cases hf
      · subst hr3
        refine lv_astore (lv' := [(4, .ref a3), (3, .ref a2), (0, .ref o), (1, .ref p1), (2, .int p2)]) hx hb dX7_widen_29 hl (by decide) rfl (fun ls hl' => ?_)
        clear hl
        have hl := hl'
        clear hl'
        refine lv_iconst (v := 0) hx hb dX7_widen_31 (by decide) ?_
        refine lv_istore (lv' := [(5, .int 0), (4, .ref a3), (3, .ref a2), (0, .ref o), (1, .ref p1), (2, .int p2)]) hx hb dX7_widen_32 hl (by decide) rfl (fun ls hl' => ?_)
        clear hl
        have hl := hl'
        clear hl'
        replace hl := lv_sub hl (l' := [(0, .ref o), (1, .ref p1), (2, .int p2), (3, .ref a2), (4, .ref a3), (5, .int 0)]) [3, 4, 5, 2, 1, 0] rfl
        exact w_X7_widen_b34 hP hF hG 12 o p1 p2 a2 a3 0 S1 S' r H locs ls hX hJ hf hl
theorem dX7_read_0 : decode cX7_read 0 = .ok (.aload_n 0, 1) := by decide +kernel
theorem dX7_read_1 : decode cX7_read 1 = .ok (.getfield 15, 3) := by decide +kernel
theorem dX7_read_4 : decode cX7_read 4 = .ok (.lload_n 2, 1) := by decide +kernel
theorem dX7_read_5 : decode cX7_read 5 = .ok (.invokevirtual 149, 3) := by decide +kernel
theorem dX7_read_8 : decode cX7_read 8 = .ok (.astore 6, 2) := by decide +kernel
theorem dX7_read_10 : decode cX7_read 10 = .ok (.aload 6, 2) := by decide +kernel
theorem dX7_read_12 : decode cX7_read 12 = .ok (.ifnonnull 10, 3) := by decide +kernel
theorem dX7_read_22 : decode cX7_read 22 = .ok (.aload 6, 2) := by decide +kernel
theorem dX7_read_24 : decode cX7_read 24 = .ok (.lload 4, 2) := by decide +kernel
theorem dX7_read_26 : decode cX7_read 26 = .ok (.invokevirtual 152, 3) := by decide +kernel
theorem dX7_read_29 : decode cX7_read 29 = .ok (.ifCond .eq 13, 3) := by decide +kernel
theorem dX7_read_42 : decode cX7_read 42 = .ok (.aload_n 0, 1) := by decide +kernel
theorem dX7_read_43 : decode cX7_read 43 = .ok (.aload_n 1, 1) := by decide +kernel
theorem dX7_read_44 : decode cX7_read 44 = .ok (.iconst 2, 1) := by decide +kernel
theorem dX7_read_45 : decode cX7_read 45 = .ok (.invokevirtual 138, 3) := by decide +kernel
theorem dX7_read_48 : decode cX7_read 48 = .ok (.lreturn, 1) := by decide +kernel
theorem dX7_read_32 : decode cX7_read 32 = .ok (.aload 6, 2) := by decide +kernel
theorem dX7_read_34 : decode cX7_read 34 = .ok (.lload 4, 2) := by decide +kernel
theorem dX7_read_36 : decode cX7_read 36 = .ok (.invokevirtual 158, 3) := by decide +kernel
theorem dX7_read_39 : decode cX7_read 39 = .ok (.goto 9, 3) := by decide +kernel
theorem dX7_read_15 : decode cX7_read 15 = .ok (.aload_n 0, 1) := by decide +kernel
theorem dX7_read_16 : decode cX7_read 16 = .ok (.aload_n 1, 1) := by decide +kernel
theorem dX7_read_17 : decode cX7_read 17 = .ok (.iconst 1, 1) := by decide +kernel
theorem dX7_read_18 : decode cX7_read 18 = .ok (.invokevirtual 138, 3) := by decide +kernel
theorem dX7_read_21 : decode cX7_read 21 = .ok (.lreturn, 1) := by decide +kernel
theorem hy_X7_read : yX7_read.cls ≠ "java/lang/invoke/MethodHandle" ∧ yX7_read.cls ≠ "java/lang/invoke/VarHandle" ∧ (parseMethodDescriptor yX7_read.desc).map (fun d => d.parameters.length) = some 3 := ⟨by decide, by decide, by decide +kernel⟩
def f_X7_read (o : Nat) (p1 : Nat) (p2 : Int64) (p3 : Int64) (S : wS) : Option ((Int64) × wS) :=
  o_gR 7 7 o S fun x1 =>
  o_cs x1 (none) (fun a1 =>
  o_ck (s_K S a1 = 6) (o_call (f_X6_at a1 p2 S) fun x2 S1 =>
  o_cs x2 (o_ck (s_K S1 o = 7) (o_call (f_X7_fail o p1 1 S1) fun x6 S5 =>
  some (x6, S5))) (fun a2 =>
  o_ck (s_K S1 a2 = 5) (o_call (f_X5_has a2 p3 S1) fun x3 S2 =>
  if x3 = 0 then (
  o_ck (s_K S2 o = 7) (o_call (f_X7_fail o p1 2 S2) fun x4 S3 =>
  some (x4, S3))) else (
  o_ck (s_K S2 a2 = 5) (o_call (f_X5_get a2 p3 S2) fun x5 S4 =>
  some (x5, S4)))))))
set_option maxHeartbeats 4000000 in
set_option maxRecDepth 100000 in
theorem c_X7_read {l : Launch} {D : va_G} {Y : Nat → ClassId} {aR : Nat → Nat} {A : Nat → Prop} {o : Nat} {p1 : Nat} {p2 : Int64} {p3 : Int64} {S S' : wS} {r : Int64} (hf : f_X7_read o p1 p2 p3 S = some (r, S')) : jq_S l D Y aR A yX7_read cX7_read 7 (some .long) 2 44 [.ref o, .ref p1, .long p2, .long p3] S (some (.long r)) S' := by
  unfold f_X7_read at hf
  refine jq_enterS (by decide) (Nat.le_of_ble_eq_true rfl) fun p e s m args below meth c ls H locs hX hJ hl => ?_
  have hl : lv_has ls 7 [(0, .ref o), (1, .ref p1), (2, .long p2), (4, .long p3)] := hl
  have hx := hX.1
  have hb := hX.2.1
  have hm := hX.2.2.1
  have ho := hX.2.2.2.1
  have ht := hX.2.2.2.2.1
  have hn := hX.2.2.2.2.2.1.2.1
  refine lv_aload_n hx hb dX7_read_0 rfl (lv_at hl 0 rfl) ?_
  replace hf := o_gR_e hf
  obtain ⟨hk1, x1, hx1, hf⟩ := hf
  refine gf_X7_rows hX hJ hk1 hx1 qw77 dX7_read_1 ?_
  refine lv_lload_n hx hb dX7_read_4 rfl (lv_at hl 2 rfl) ?_
  replace hf := o_cs_e hf
  rcases hf with ⟨hr1, hf⟩ | ⟨a1, hr1, hf⟩
  · subst hr1
    cases hf
  · subst hr1
    replace hf := o_ck_e hf
    obtain ⟨hk2, hf⟩ := hf
    replace hf := o_call_e hf
    obtain ⟨x2, S1, hq1, hf⟩ := hf
    refine jq_doS hX hJ (jq_okVN (As := [.long p2]) (rest := []) hx hb hm ho ht hn (wJ.recv hX hJ (by rw [hk2]; decide) (wE_X6 hk2) rfl) qn651 qw188 qs1 qw189 qw2 hy_X6_at rfl hl.1 (Nat.le_of_ble_eq_true rfl) dX7_read_5) (c_X6_at hq1) (Nat.le_of_ble_eq_true rfl) (Nat.le_of_ble_eq_true rfl) (fun H locs hJ' => ?_)
    clear hJ
    have hJ := hJ'
    clear hJ'
    replace hf := o_cs_e hf
    rcases hf with ⟨hr2, hf⟩ | ⟨a2, hr2, hf⟩
    · subst hr2
      refine lv_astoreN (lv' := [(6, .null), (0, .ref o), (1, .ref p1), (2, .long p2), (4, .long p3)]) hx hb dX7_read_8 hl (by decide) rfl (fun ls hl' => ?_)
      clear hl
      have hl := hl'
      clear hl'
      refine lv_aloadN hx hb dX7_read_10 (lv_at hl 0 rfl) ?_
      refine lv_ifnonnullN hx hb dX7_read_12 ?_
      refine lv_aload_n hx hb dX7_read_15 rfl (lv_at hl 1 rfl) ?_
      refine lv_aload_n hx hb dX7_read_16 rfl (lv_at hl 2 rfl) ?_
      refine lv_iconst (v := 1) hx hb dX7_read_17 (by decide) ?_
      replace hf := o_ck_e hf
      obtain ⟨hk6, hf⟩ := hf
      replace hf := o_call_e hf
      obtain ⟨x6, S5, hq5, hf⟩ := hf
      refine jq_doS hX hJ (jq_okV (As := [.ref p1, .int 1]) (rest := []) hx hb hm ho ht (wJ.recv hX hJ (by rw [hk6]; decide) (wE_X7 hk6) rfl) qw574 qw576 qs54 qw577 qw5 hy_X7_fail rfl hl.1 (Nat.le_of_ble_eq_true rfl) dX7_read_18) (c_X7_fail hq5) (Nat.le_of_ble_eq_true rfl) (Nat.le_of_ble_eq_true rfl) (fun H locs hJ' => ?_)
      clear hJ
      have hJ := hJ'
      clear hJ'
      obtain ⟨rfl, rfl⟩ := Prod.mk.inj (Option.some.inj hf)
      exact jq_lret hX hJ.2.2 dX7_read_21 ⟨rfl, rfl, rfl, hJ.1, hJ.2.1⟩
    · subst hr2
      refine lv_astore (lv' := [(6, .ref a2), (0, .ref o), (1, .ref p1), (2, .long p2), (4, .long p3)]) hx hb dX7_read_8 hl (by decide) rfl (fun ls hl' => ?_)
      clear hl
      have hl := hl'
      clear hl'
      refine lv_aload hx hb dX7_read_10 (lv_at hl 0 rfl) ?_
      refine lv_ifnonnull (tgt := 22) hx hb dX7_read_12 (by decide) ?_
      refine lv_aload hx hb dX7_read_22 (lv_at hl 0 rfl) ?_
      refine lv_lload hx hb dX7_read_24 (lv_at hl 4 rfl) ?_
      replace hf := o_ck_e hf
      obtain ⟨hk3, hf⟩ := hf
      replace hf := o_call_e hf
      obtain ⟨x3, S2, hq2, hf⟩ := hf
      refine jq_doS hX hJ (jq_okVN (As := [.long p3]) (rest := []) hx hb hm ho ht hn (wJ.recv hX hJ (by rw [hk3]; decide) (wE_X5 hk3) rfl) qn652 qw192 qs2 qw193 qw9 hy_X5_has rfl hl.1 (Nat.le_of_ble_eq_true rfl) dX7_read_26) (c_X5_has hq2) (Nat.le_of_ble_eq_true rfl) (Nat.le_of_ble_eq_true rfl) (fun H locs hJ' => ?_)
      clear hJ
      have hJ := hJ'
      clear hJ'
      refine lv_if_eq (tgt := 42) hx hb dX7_read_29 (by decide) (fun c1 => ?_) (fun c1 => ?_)
      · replace hf := o_t hf c1
        refine lv_aload_n hx hb dX7_read_42 rfl (lv_at hl 1 rfl) ?_
        refine lv_aload_n hx hb dX7_read_43 rfl (lv_at hl 2 rfl) ?_
        refine lv_iconst (v := 2) hx hb dX7_read_44 (by decide) ?_
        replace hf := o_ck_e hf
        obtain ⟨hk4, hf⟩ := hf
        replace hf := o_call_e hf
        obtain ⟨x4, S3, hq3, hf⟩ := hf
        refine jq_doS hX hJ (jq_okV (As := [.ref p1, .int 2]) (rest := []) hx hb hm ho ht (wJ.recv hX hJ (by rw [hk4]; decide) (wE_X7 hk4) rfl) qw574 qw576 qs54 qw577 qw5 hy_X7_fail rfl hl.1 (Nat.le_of_ble_eq_true rfl) dX7_read_45) (c_X7_fail hq3) (Nat.le_of_ble_eq_true rfl) (Nat.le_of_ble_eq_true rfl) (fun H locs hJ' => ?_)
        clear hJ
        have hJ := hJ'
        clear hJ'
        obtain ⟨rfl, rfl⟩ := Prod.mk.inj (Option.some.inj hf)
        exact jq_lret hX hJ.2.2 dX7_read_48 ⟨rfl, rfl, rfl, hJ.1, hJ.2.1⟩
      · replace hf := o_f hf c1
        refine lv_aload hx hb dX7_read_32 (lv_at hl 0 rfl) ?_
        refine lv_lload hx hb dX7_read_34 (lv_at hl 4 rfl) ?_
        replace hf := o_ck_e hf
        obtain ⟨hk5, hf⟩ := hf
        replace hf := o_call_e hf
        obtain ⟨x5, S4, hq4, hf⟩ := hf
        refine jq_doS hX hJ (jq_okVN (As := [.long p3]) (rest := []) hx hb hm ho ht hn (wJ.recv hX hJ (by rw [hk5]; decide) (wE_X5 hk5) rfl) qn653 qw234 qs9 qw235 qw9 hy_X5_get rfl hl.1 (Nat.le_of_ble_eq_true rfl) dX7_read_36) (c_X5_get hq4) (Nat.le_of_ble_eq_true rfl) (Nat.le_of_ble_eq_true rfl) (fun H locs hJ' => ?_)
        clear hJ
        have hJ := hJ'
        clear hJ'
        refine lv_goto (tgt := 48) hx hb dX7_read_39 (by decide) ?_
        obtain ⟨rfl, rfl⟩ := Prod.mk.inj (Option.some.inj hf)
        exact jq_lret hX hJ.2.2 dX7_read_48 ⟨rfl, rfl, rfl, hJ.1, hJ.2.1⟩
theorem dX7_write_0 : decode cX7_write 0 = .ok (.aload_n 0, 1) := by decide +kernel
theorem dX7_write_1 : decode cX7_write 1 = .ok (.aload_n 1, 1) := by decide +kernel
theorem dX7_write_2 : decode cX7_write 2 = .ok (.lload_n 2, 1) := by decide +kernel
theorem dX7_write_3 : decode cX7_write 3 = .ok (.lload 4, 2) := by decide +kernel
theorem dX7_write_5 : decode cX7_write 5 = .ok (.invokevirtual 121, 3) := by decide +kernel
theorem dX7_write_8 : decode cX7_write 8 = .ok (.lstore 8, 2) := by decide +kernel
theorem dX7_write_10 : decode cX7_write 10 = .ok (.aload_n 0, 1) := by decide +kernel
theorem dX7_write_11 : decode cX7_write 11 = .ok (.getfield 15, 3) := by decide +kernel
theorem dX7_write_14 : decode cX7_write 14 = .ok (.lload_n 2, 1) := by decide +kernel
theorem dX7_write_15 : decode cX7_write 15 = .ok (.invokevirtual 149, 3) := by decide +kernel
theorem dX7_write_18 : decode cX7_write 18 = .ok (.astore 10, 2) := by decide +kernel
theorem dX7_write_20 : decode cX7_write 20 = .ok (.aload_n 0, 1) := by decide +kernel
theorem dX7_write_21 : decode cX7_write 21 = .ok (.getfield 33, 3) := by decide +kernel
theorem dX7_write_24 : decode cX7_write 24 = .ok (.ifCond .ne 17, 3) := by decide +kernel
theorem dX7_write_41 : decode cX7_write 41 = .ok (.lload 8, 2) := by decide +kernel
theorem dX7_write_43 : decode cX7_write 43 = .ok (.lreturn, 1) := by decide +kernel
theorem dX7_write_27 : decode cX7_write 27 = .ok (.aload 10, 2) := by decide +kernel
theorem dX7_write_29 : decode cX7_write 29 = .ok (.ifnull 12, 3) := by decide +kernel
theorem dX7_write_32 : decode cX7_write 32 = .ok (.aload 10, 2) := by decide +kernel
theorem dX7_write_34 : decode cX7_write 34 = .ok (.lload 4, 2) := by decide +kernel
theorem dX7_write_36 : decode cX7_write 36 = .ok (.lload 6, 2) := by decide +kernel
theorem dX7_write_38 : decode cX7_write 38 = .ok (.invokevirtual 162, 3) := by decide +kernel
theorem hy_X7_write : yX7_write.cls ≠ "java/lang/invoke/MethodHandle" ∧ yX7_write.cls ≠ "java/lang/invoke/VarHandle" ∧ (parseMethodDescriptor yX7_write.desc).map (fun d => d.parameters.length) = some 4 := ⟨by decide, by decide, by decide +kernel⟩
def f_X7_write (o : Nat) (p1 : Nat) (p2 : Int64) (p3 : Int64) (p4 : Int64) (S : wS) : Option ((Int64) × wS) :=
  o_ck (s_K S o = 7) (o_call (f_X7_read o p1 p2 p3 S) fun x1 S1 =>
  o_gR 7 7 o S1 fun x2 =>
  o_cs x2 (none) (fun a1 =>
  o_ck (s_K S1 a1 = 6) (o_call (f_X6_at a1 p2 S1) fun x3 S2 =>
  o_cs x3 (o_gI 7 11 o S2 fun x5 =>
  if x5 = 0 then (
  some (x1, S2)) else (
  some (x1, S2))) (fun a2 =>
  o_gI 7 11 o S2 fun x4 =>
  if x4 = 0 then (
  o_ck (s_K S2 a2 = 5) (o_call (f_X5_set a2 p3 p4 S2) fun _ S3 =>
  some (x1, S3))) else (
  some (x1, S2))))))
set_option maxHeartbeats 4000000 in
set_option maxRecDepth 100000 in
theorem c_X7_write {l : Launch} {D : va_G} {Y : Nat → ClassId} {aR : Nat → Nat} {A : Nat → Prop} {o : Nat} {p1 : Nat} {p2 : Int64} {p3 : Int64} {p4 : Int64} {S S' : wS} {r : Int64} (hf : f_X7_write o p1 p2 p3 p4 S = some (r, S')) : jq_S l D Y aR A yX7_write cX7_write 11 (some .long) 3 70 [.ref o, .ref p1, .long p2, .long p3, .long p4] S (some (.long r)) S' := by
  unfold f_X7_write at hf
  refine jq_enterS (by decide) (Nat.le_of_ble_eq_true rfl) fun p e s m args below meth c ls H locs hX hJ hl => ?_
  have hl : lv_has ls 11 [(0, .ref o), (1, .ref p1), (2, .long p2), (4, .long p3), (6, .long p4)] := hl
  have hx := hX.1
  have hb := hX.2.1
  have hm := hX.2.2.1
  have ho := hX.2.2.2.1
  have ht := hX.2.2.2.2.1
  have hn := hX.2.2.2.2.2.1.2.1
  refine lv_aload_n hx hb dX7_write_0 rfl (lv_at hl 0 rfl) ?_
  refine lv_aload_n hx hb dX7_write_1 rfl (lv_at hl 1 rfl) ?_
  refine lv_lload_n hx hb dX7_write_2 rfl (lv_at hl 2 rfl) ?_
  refine lv_lload hx hb dX7_write_3 (lv_at hl 3 rfl) ?_
  replace hf := o_ck_e hf
  obtain ⟨hk1, hf⟩ := hf
  replace hf := o_call_e hf
  obtain ⟨x1, S1, hq1, hf⟩ := hf
  refine jq_doS hX hJ (jq_okV (As := [.ref p1, .long p2, .long p3]) (rest := []) hx hb hm ho ht (wJ.recv hX hJ (by rw [hk1]; decide) (wE_X7 hk1) rfl) qw647 qw649 qs68 qw650 qw5 hy_X7_read rfl hl.1 (Nat.le_of_ble_eq_true rfl) dX7_write_5) (c_X7_read hq1) (Nat.le_of_ble_eq_true rfl) (Nat.le_of_ble_eq_true rfl) (fun H locs hJ' => ?_)
  clear hJ
  have hJ := hJ'
  clear hJ'
  refine lv_lstore (lv' := [(8, .long x1), (0, .ref o), (1, .ref p1), (2, .long p2), (4, .long p3), (6, .long p4)]) hx hb dX7_write_8 hl (by decide) rfl (fun ls hl' => ?_)
  clear hl
  have hl := hl'
  clear hl'
  refine lv_aload_n hx hb dX7_write_10 rfl (lv_at hl 1 rfl) ?_
  replace hf := o_gR_e hf
  obtain ⟨hk2, x2, hx2, hf⟩ := hf
  refine gf_X7_rows hX hJ hk2 hx2 qw77 dX7_write_11 ?_
  refine lv_lload_n hx hb dX7_write_14 rfl (lv_at hl 3 rfl) ?_
  replace hf := o_cs_e hf
  rcases hf with ⟨hr1, hf⟩ | ⟨a1, hr1, hf⟩
  · subst hr1
    cases hf
  · subst hr1
    replace hf := o_ck_e hf
    obtain ⟨hk3, hf⟩ := hf
    replace hf := o_call_e hf
    obtain ⟨x3, S2, hq2, hf⟩ := hf
    refine jq_doS hX hJ (jq_okVN (As := [.long p2]) (rest := []) hx hb hm ho ht hn (wJ.recv hX hJ (by rw [hk3]; decide) (wE_X6 hk3) rfl) qn651 qw188 qs1 qw189 qw2 hy_X6_at rfl hl.1 (Nat.le_of_ble_eq_true rfl) dX7_write_15) (c_X6_at hq2) (Nat.le_of_ble_eq_true rfl) (Nat.le_of_ble_eq_true rfl) (fun H locs hJ' => ?_)
    clear hJ
    have hJ := hJ'
    clear hJ'
    replace hf := o_cs_e hf
    rcases hf with ⟨hr2, hf⟩ | ⟨a2, hr2, hf⟩
    · subst hr2
      refine lv_astoreN (lv' := [(10, .null), (8, .long x1), (0, .ref o), (1, .ref p1), (2, .long p2), (4, .long p3), (6, .long p4)]) hx hb dX7_write_18 hl (by decide) rfl (fun ls hl' => ?_)
      clear hl
      have hl := hl'
      clear hl'
      refine lv_aload_n hx hb dX7_write_20 rfl (lv_at hl 2 rfl) ?_
      replace hf := o_gI_e hf
      obtain ⟨hk6, x5, hx5, hf⟩ := hf
      refine gf_X7_failure hX hJ hk6 hx5 qw85 dX7_write_21 ?_
      refine lv_if_ne (tgt := 41) hx hb dX7_write_24 (by decide) (fun c2 => ?_) (fun c2 => ?_)
      · replace hf := o_f hf c2
        refine lv_lload hx hb dX7_write_41 (lv_at hl 1 rfl) ?_
        obtain ⟨rfl, rfl⟩ := Prod.mk.inj (Option.some.inj hf)
        exact jq_lret hX hJ.2.2 dX7_write_43 ⟨rfl, rfl, rfl, hJ.1, hJ.2.1⟩
      · replace hf := o_t hf c2
        refine lv_aloadN hx hb dX7_write_27 (lv_at hl 0 rfl) ?_
        refine lv_ifnullN (tgt := 41) hx hb dX7_write_29 (by decide) ?_
        refine lv_lload hx hb dX7_write_41 (lv_at hl 1 rfl) ?_
        obtain ⟨rfl, rfl⟩ := Prod.mk.inj (Option.some.inj hf)
        exact jq_lret hX hJ.2.2 dX7_write_43 ⟨rfl, rfl, rfl, hJ.1, hJ.2.1⟩
    · subst hr2
      refine lv_astore (lv' := [(10, .ref a2), (8, .long x1), (0, .ref o), (1, .ref p1), (2, .long p2), (4, .long p3), (6, .long p4)]) hx hb dX7_write_18 hl (by decide) rfl (fun ls hl' => ?_)
      clear hl
      have hl := hl'
      clear hl'
      refine lv_aload_n hx hb dX7_write_20 rfl (lv_at hl 2 rfl) ?_
      replace hf := o_gI_e hf
      obtain ⟨hk4, x4, hx4, hf⟩ := hf
      refine gf_X7_failure hX hJ hk4 hx4 qw85 dX7_write_21 ?_
      refine lv_if_ne (tgt := 41) hx hb dX7_write_24 (by decide) (fun c1 => ?_) (fun c1 => ?_)
      · replace hf := o_f hf c1
        refine lv_lload hx hb dX7_write_41 (lv_at hl 1 rfl) ?_
        obtain ⟨rfl, rfl⟩ := Prod.mk.inj (Option.some.inj hf)
        exact jq_lret hX hJ.2.2 dX7_write_43 ⟨rfl, rfl, rfl, hJ.1, hJ.2.1⟩
      · replace hf := o_t hf c1
        refine lv_aload hx hb dX7_write_27 (lv_at hl 0 rfl) ?_
        refine lv_ifnull hx hb dX7_write_29 ?_
        refine lv_aload hx hb dX7_write_32 (lv_at hl 0 rfl) ?_
        refine lv_lload hx hb dX7_write_34 (lv_at hl 5 rfl) ?_
        refine lv_lload hx hb dX7_write_36 (lv_at hl 6 rfl) ?_
        replace hf := o_ck_e hf
        obtain ⟨hk5, hf⟩ := hf
        replace hf := o_call_e hf
        obtain ⟨_, S3, hq3, hf⟩ := hf
        refine jq_doS hX hJ (jq_okVN (As := [.long p3, .long p4]) (rest := []) hx hb hm ho ht hn (wJ.recv hX hJ (by rw [hk5]; decide) (wE_X5 hk5) rfl) qn658 qw225 qs8 qw226 qw9 hy_X5_set rfl hl.1 (Nat.le_of_ble_eq_true rfl) dX7_write_38) (c_X5_set hq3) (Nat.le_of_ble_eq_true rfl) (Nat.le_of_ble_eq_true rfl) (fun H locs hJ' => ?_)
        clear hJ
        have hJ := hJ'
        clear hJ'
        refine lv_lload hx hb dX7_write_41 (lv_at hl 1 rfl) ?_
        obtain ⟨rfl, rfl⟩ := Prod.mk.inj (Option.some.inj hf)
        exact jq_lret hX hJ.2.2 dX7_write_43 ⟨rfl, rfl, rfl, hJ.1, hJ.2.1⟩
theorem dX7_sizeOf_0 : decode cX7_sizeOf 0 = .ok (.aload_n 0, 1) := by decide +kernel
theorem dX7_sizeOf_1 : decode cX7_sizeOf 1 = .ok (.getfield 15, 3) := by decide +kernel
theorem dX7_sizeOf_4 : decode cX7_sizeOf 4 = .ok (.lload_n 2, 1) := by decide +kernel
theorem dX7_sizeOf_5 : decode cX7_sizeOf 5 = .ok (.invokevirtual 149, 3) := by decide +kernel
theorem dX7_sizeOf_8 : decode cX7_sizeOf 8 = .ok (.astore 4, 2) := by decide +kernel
theorem dX7_sizeOf_10 : decode cX7_sizeOf 10 = .ok (.aload 4, 2) := by decide +kernel
theorem dX7_sizeOf_12 : decode cX7_sizeOf 12 = .ok (.ifnonnull 12, 3) := by decide +kernel
theorem dX7_sizeOf_24 : decode cX7_sizeOf 24 = .ok (.aload 4, 2) := by decide +kernel
theorem dX7_sizeOf_26 : decode cX7_sizeOf 26 = .ok (.invokevirtual 166, 3) := by decide +kernel
theorem dX7_sizeOf_29 : decode cX7_sizeOf 29 = .ok (.i2l, 1) := by decide +kernel
theorem dX7_sizeOf_30 : decode cX7_sizeOf 30 = .ok (.lreturn, 1) := by decide +kernel
theorem dX7_sizeOf_15 : decode cX7_sizeOf 15 = .ok (.aload_n 0, 1) := by decide +kernel
theorem dX7_sizeOf_16 : decode cX7_sizeOf 16 = .ok (.aload_n 1, 1) := by decide +kernel
theorem dX7_sizeOf_17 : decode cX7_sizeOf 17 = .ok (.iconst 1, 1) := by decide +kernel
theorem dX7_sizeOf_18 : decode cX7_sizeOf 18 = .ok (.invokevirtual 138, 3) := by decide +kernel
theorem dX7_sizeOf_21 : decode cX7_sizeOf 21 = .ok (.goto 9, 3) := by decide +kernel
theorem hy_X7_sizeOf : yX7_sizeOf.cls ≠ "java/lang/invoke/MethodHandle" ∧ yX7_sizeOf.cls ≠ "java/lang/invoke/VarHandle" ∧ (parseMethodDescriptor yX7_sizeOf.desc).map (fun d => d.parameters.length) = some 2 := ⟨by decide, by decide, by decide +kernel⟩
def f_X7_sizeOf (o : Nat) (p1 : Nat) (p2 : Int64) (S : wS) : Option ((Int64) × wS) :=
  o_gR 7 7 o S fun x1 =>
  o_cs x1 (none) (fun a1 =>
  o_ck (s_K S a1 = 6) (o_call (f_X6_at a1 p2 S) fun x2 S1 =>
  o_cs x2 (o_ck (s_K S1 o = 7) (o_call (f_X7_fail o p1 1 S1) fun x4 S3 =>
  some (x4, S3))) (fun a2 =>
  o_ck (s_K S1 a2 = 5) (o_call (f_X5_many a2 S1) fun x3 S2 =>
  some ((x3).toInt64, S2)))))
set_option maxHeartbeats 4000000 in
set_option maxRecDepth 100000 in
theorem c_X7_sizeOf {l : Launch} {D : va_G} {Y : Nat → ClassId} {aR : Nat → Nat} {A : Nat → Prop} {o : Nat} {p1 : Nat} {p2 : Int64} {S S' : wS} {r : Int64} (hf : f_X7_sizeOf o p1 p2 S = some (r, S')) : jq_S l D Y aR A yX7_sizeOf cX7_sizeOf 5 (some .long) 1 22 [.ref o, .ref p1, .long p2] S (some (.long r)) S' := by
  unfold f_X7_sizeOf at hf
  refine jq_enterS (by decide) (Nat.le_of_ble_eq_true rfl) fun p e s m args below meth c ls H locs hX hJ hl => ?_
  have hl : lv_has ls 5 [(0, .ref o), (1, .ref p1), (2, .long p2)] := hl
  have hx := hX.1
  have hb := hX.2.1
  have hm := hX.2.2.1
  have ho := hX.2.2.2.1
  have ht := hX.2.2.2.2.1
  have hn := hX.2.2.2.2.2.1.2.1
  refine lv_aload_n hx hb dX7_sizeOf_0 rfl (lv_at hl 0 rfl) ?_
  replace hf := o_gR_e hf
  obtain ⟨hk1, x1, hx1, hf⟩ := hf
  refine gf_X7_rows hX hJ hk1 hx1 qw77 dX7_sizeOf_1 ?_
  refine lv_lload_n hx hb dX7_sizeOf_4 rfl (lv_at hl 2 rfl) ?_
  replace hf := o_cs_e hf
  rcases hf with ⟨hr1, hf⟩ | ⟨a1, hr1, hf⟩
  · subst hr1
    cases hf
  · subst hr1
    replace hf := o_ck_e hf
    obtain ⟨hk2, hf⟩ := hf
    replace hf := o_call_e hf
    obtain ⟨x2, S1, hq1, hf⟩ := hf
    refine jq_doS hX hJ (jq_okVN (As := [.long p2]) (rest := []) hx hb hm ho ht hn (wJ.recv hX hJ (by rw [hk2]; decide) (wE_X6 hk2) rfl) qn651 qw188 qs1 qw189 qw2 hy_X6_at rfl hl.1 (Nat.le_of_ble_eq_true rfl) dX7_sizeOf_5) (c_X6_at hq1) (Nat.le_of_ble_eq_true rfl) (Nat.le_of_ble_eq_true rfl) (fun H locs hJ' => ?_)
    clear hJ
    have hJ := hJ'
    clear hJ'
    replace hf := o_cs_e hf
    rcases hf with ⟨hr2, hf⟩ | ⟨a2, hr2, hf⟩
    · subst hr2
      refine lv_astoreN (lv' := [(4, .null), (0, .ref o), (1, .ref p1), (2, .long p2)]) hx hb dX7_sizeOf_8 hl (by decide) rfl (fun ls hl' => ?_)
      clear hl
      have hl := hl'
      clear hl'
      refine lv_aloadN hx hb dX7_sizeOf_10 (lv_at hl 0 rfl) ?_
      refine lv_ifnonnullN hx hb dX7_sizeOf_12 ?_
      refine lv_aload_n hx hb dX7_sizeOf_15 rfl (lv_at hl 1 rfl) ?_
      refine lv_aload_n hx hb dX7_sizeOf_16 rfl (lv_at hl 2 rfl) ?_
      refine lv_iconst (v := 1) hx hb dX7_sizeOf_17 (by decide) ?_
      replace hf := o_ck_e hf
      obtain ⟨hk4, hf⟩ := hf
      replace hf := o_call_e hf
      obtain ⟨x4, S3, hq3, hf⟩ := hf
      refine jq_doS hX hJ (jq_okV (As := [.ref p1, .int 1]) (rest := []) hx hb hm ho ht (wJ.recv hX hJ (by rw [hk4]; decide) (wE_X7 hk4) rfl) qw574 qw576 qs54 qw577 qw5 hy_X7_fail rfl hl.1 (Nat.le_of_ble_eq_true rfl) dX7_sizeOf_18) (c_X7_fail hq3) (Nat.le_of_ble_eq_true rfl) (Nat.le_of_ble_eq_true rfl) (fun H locs hJ' => ?_)
      clear hJ
      have hJ := hJ'
      clear hJ'
      refine lv_goto (tgt := 30) hx hb dX7_sizeOf_21 (by decide) ?_
      obtain ⟨rfl, rfl⟩ := Prod.mk.inj (Option.some.inj hf)
      exact jq_lret hX hJ.2.2 dX7_sizeOf_30 ⟨rfl, rfl, rfl, hJ.1, hJ.2.1⟩
    · subst hr2
      refine lv_astore (lv' := [(4, .ref a2), (0, .ref o), (1, .ref p1), (2, .long p2)]) hx hb dX7_sizeOf_8 hl (by decide) rfl (fun ls hl' => ?_)
      clear hl
      have hl := hl'
      clear hl'
      refine lv_aload hx hb dX7_sizeOf_10 (lv_at hl 0 rfl) ?_
      refine lv_ifnonnull (tgt := 24) hx hb dX7_sizeOf_12 (by decide) ?_
      refine lv_aload hx hb dX7_sizeOf_24 (lv_at hl 0 rfl) ?_
      replace hf := o_ck_e hf
      obtain ⟨hk3, hf⟩ := hf
      replace hf := o_call_e hf
      obtain ⟨x3, S2, hq2, hf⟩ := hf
      refine jq_doS hX hJ (jq_okVN (As := []) (rest := []) hx hb hm ho ht hn (wJ.recv hX hJ (by rw [hk3]; decide) (wE_X5 hk3) rfl) qn663 qw242 qs10 qw243 qw9 hy_X5_many rfl hl.1 (Nat.le_of_ble_eq_true rfl) dX7_sizeOf_26) (c_X5_many hq2) (Nat.le_of_ble_eq_true rfl) (Nat.le_of_ble_eq_true rfl) (fun H locs hJ' => ?_)
      clear hJ
      have hJ := hJ'
      clear hJ'
      refine lv_i2l hx hb dX7_sizeOf_29 rfl ?_
      obtain ⟨rfl, rfl⟩ := Prod.mk.inj (Option.some.inj hf)
      exact jq_lret hX hJ.2.2 dX7_sizeOf_30 ⟨rfl, rfl, rfl, hJ.1, hJ.2.1⟩
theorem dX7_newRow_0 : decode cX7_newRow 0 = .ok (.lload_n 2, 1) := by decide +kernel
theorem dX7_newRow_1 : decode cX7_newRow 1 = .ok (.lconst 0, 1) := by decide +kernel
theorem dX7_newRow_2 : decode cX7_newRow 2 = .ok (.lcmp, 1) := by decide +kernel
theorem dX7_newRow_13 : decode cX7_newRow 13 = .ok (.lload_n 2, 1) := by decide +kernel
theorem dX7_newRow_14 : decode cX7_newRow 14 = .ok (.ldc2_w 170, 3) := by decide +kernel
theorem dX7_newRow_17 : decode cX7_newRow 17 = .ok (.lcmp, 1) := by decide +kernel
theorem dX7_newRow_26 : decode cX7_newRow 26 = .ok (.aload_n 0, 1) := by decide +kernel
theorem dX7_newRow_27 : decode cX7_newRow 27 = .ok (.getfield 15, 3) := by decide +kernel
theorem dX7_newRow_30 : decode cX7_newRow 30 = .ok (.aload_n 1, 1) := by decide +kernel
theorem dX7_newRow_31 : decode cX7_newRow 31 = .ok (.getfield 71, 3) := by decide +kernel
theorem dX7_newRow_34 : decode cX7_newRow 34 = .ok (.lload_n 2, 1) := by decide +kernel
theorem dX7_newRow_35 : decode cX7_newRow 35 = .ok (.l2i, 1) := by decide +kernel
theorem dX7_newRow_36 : decode cX7_newRow 36 = .ok (.invokevirtual 172, 3) := by decide +kernel
theorem dX7_newRow_39 : decode cX7_newRow 39 = .ok (.istore 4, 2) := by decide +kernel
theorem dX7_newRow_41 : decode cX7_newRow 41 = .ok (.iload 4, 2) := by decide +kernel
theorem dX7_newRow_43 : decode cX7_newRow 43 = .ok (.bipush (-2), 2) := by decide +kernel
theorem dX7_newRow_45 : decode cX7_newRow 45 = .ok (.if_icmp .ne 13, 3) := by decide +kernel
theorem dX7_newRow_58 : decode cX7_newRow 58 = .ok (.iload 4, 2) := by decide +kernel
theorem dX7_newRow_60 : decode cX7_newRow 60 = .ok (.i2l, 1) := by decide +kernel
theorem dX7_newRow_61 : decode cX7_newRow 61 = .ok (.lreturn, 1) := by decide +kernel
theorem dX7_newRow_48 : decode cX7_newRow 48 = .ok (.aload_n 0, 1) := by decide +kernel
theorem dX7_newRow_49 : decode cX7_newRow 49 = .ok (.aload_n 1, 1) := by decide +kernel
theorem dX7_newRow_50 : decode cX7_newRow 50 = .ok (.bipush 6, 2) := by decide +kernel
theorem dX7_newRow_52 : decode cX7_newRow 52 = .ok (.invokevirtual 138, 3) := by decide +kernel
theorem dX7_newRow_55 : decode cX7_newRow 55 = .ok (.goto 6, 3) := by decide +kernel
theorem dX7_newRow_21 : decode cX7_newRow 21 = .ok (.bipush (-2), 2) := by decide +kernel
theorem dX7_newRow_23 : decode cX7_newRow 23 = .ok (.goto 16, 3) := by decide +kernel
theorem dX7_newRow_18 : decode cX7_newRow 18 = .ok (.ifCond .le 8, 3) := by decide +kernel
theorem dX7_newRow_6 : decode cX7_newRow 6 = .ok (.aload_n 0, 1) := by decide +kernel
theorem dX7_newRow_7 : decode cX7_newRow 7 = .ok (.aload_n 1, 1) := by decide +kernel
theorem dX7_newRow_8 : decode cX7_newRow 8 = .ok (.iconst 4, 1) := by decide +kernel
theorem dX7_newRow_9 : decode cX7_newRow 9 = .ok (.invokevirtual 138, 3) := by decide +kernel
theorem dX7_newRow_12 : decode cX7_newRow 12 = .ok (.lreturn, 1) := by decide +kernel
theorem dX7_newRow_3 : decode cX7_newRow 3 = .ok (.ifCond .ge 10, 3) := by decide +kernel
theorem hy_X7_newRow : yX7_newRow.cls ≠ "java/lang/invoke/MethodHandle" ∧ yX7_newRow.cls ≠ "java/lang/invoke/VarHandle" ∧ (parseMethodDescriptor yX7_newRow.desc).map (fun d => d.parameters.length) = some 2 := ⟨by decide, by decide, by decide +kernel⟩
def f_X7_newRow (o : Nat) (p1 : Nat) (p2 : Int64) (S : wS) : Option ((Int64) × wS) :=
  if 0 ≤ p2 then (
  if p2 ≤ 8 then (
  o_gR 7 7 o S fun x1 =>
  o_gI 1 1 p1 S fun x2 =>
  o_cs x1 (none) (fun a1 =>
  o_ck (s_K S a1 = 6) (o_call (f_X6_added a1 x2 ((p2).toInt32) S) fun x3 S1 =>
  if x3 = (-2) then (
  o_ck (s_K S1 o = 7) (o_call (f_X7_fail o p1 6 S1) fun x4 S2 =>
  some (x4, S2))) else (
  some ((x3).toInt64, S1))))) else (
  o_ck (s_K S o = 7) (o_call (f_X7_fail o p1 6 S) fun x5 S3 =>
  some (x5, S3)))) else (
  o_ck (s_K S o = 7) (o_call (f_X7_fail o p1 4 S) fun x6 S4 =>
  some (x6, S4)))
set_option maxHeartbeats 4000000 in
set_option maxRecDepth 100000 in
theorem c_X7_newRow {l : Launch} {D : va_G} {Y : Nat → ClassId} {aR : Nat → Nat} {A : Nat → Prop} {o : Nat} {p1 : Nat} {p2 : Int64} {S S' : wS} {r : Int64} (hf : f_X7_newRow o p1 p2 S = some (r, S')) : jq_S l D Y aR A yX7_newRow cX7_newRow 5 (some .long) 3 61 [.ref o, .ref p1, .long p2] S (some (.long r)) S' := by
  unfold f_X7_newRow at hf
  refine jq_enterS (by decide) (Nat.le_of_ble_eq_true rfl) fun p e s m args below meth c ls H locs hX hJ hl => ?_
  have hl : lv_has ls 5 [(0, .ref o), (1, .ref p1), (2, .long p2)] := hl
  have hx := hX.1
  have hb := hX.2.1
  have hm := hX.2.2.1
  have ho := hX.2.2.2.1
  have ht := hX.2.2.2.2.1
  have hn := hX.2.2.2.2.2.1.2.1
  refine lv_lload_n hx hb dX7_newRow_0 rfl (lv_at hl 2 rfl) ?_
  refine lv_lconst (v := 0) hx hb dX7_newRow_1 (by decide) ?_
  refine W.lcmp hx hb dX7_newRow_2 ?_
  refine lv_if_ge (tgt := 13) hx hb dX7_newRow_3 (by decide) (fun c1 => ?_) (fun c1 => ?_)
  · replace hf := o_t hf (qc_ge.mp c1)
    refine lv_lload_n hx hb dX7_newRow_13 rfl (lv_at hl 2 rfl) ?_
    refine lv_ldc2 (v := 8) hx hb ho (ht _ qw668) dX7_newRow_14 ?_
    refine W.lcmp hx hb dX7_newRow_17 ?_
    refine lv_if_le (tgt := 26) hx hb dX7_newRow_18 (by decide) (fun c2 => ?_) (fun c2 => ?_)
    · replace hf := o_t hf (qc_le.mp c2)
      refine lv_aload_n hx hb dX7_newRow_26 rfl (lv_at hl 0 rfl) ?_
      replace hf := o_gR_e hf
      obtain ⟨hk1, x1, hx1, hf⟩ := hf
      refine gf_X7_rows hX hJ hk1 hx1 qw77 dX7_newRow_27 ?_
      refine lv_aload_n hx hb dX7_newRow_30 rfl (lv_at hl 1 rfl) ?_
      replace hf := o_gI_e hf
      obtain ⟨hk2, x2, hx2, hf⟩ := hf
      refine gn_X0_a hX hJ hk2 hx2 qn275 dX7_newRow_31 ?_
      refine lv_lload_n hx hb dX7_newRow_34 rfl (lv_at hl 2 rfl) ?_
      refine lv_l2i hx hb dX7_newRow_35 rfl ?_
      replace hf := o_cs_e hf
      rcases hf with ⟨hr1, hf⟩ | ⟨a1, hr1, hf⟩
      · subst hr1
        cases hf
      · subst hr1
        replace hf := o_ck_e hf
        obtain ⟨hk3, hf⟩ := hf
        replace hf := o_call_e hf
        obtain ⟨x3, S1, hq1, hf⟩ := hf
        refine jq_doS hX hJ (jq_okVN (As := [.int x2, .int ((p2).toInt32)]) (rest := []) hx hb hm ho ht hn (wJ.recv hX hJ (by rw [hk3]; decide) (wE_X6 hk3) rfl) qn669 qw160 qs0 qw161 qw2 hy_X6_added rfl hl.1 (Nat.le_of_ble_eq_true rfl) dX7_newRow_36) (c_X6_added hq1) (Nat.le_of_ble_eq_true rfl) (Nat.le_of_ble_eq_true rfl) (fun H locs hJ' => ?_)
        clear hJ
        have hJ := hJ'
        clear hJ'
        refine lv_istore (lv' := [(4, .int x3), (0, .ref o), (1, .ref p1), (2, .long p2)]) hx hb dX7_newRow_39 hl (by decide) rfl (fun ls hl' => ?_)
        clear hl
        have hl := hl'
        clear hl'
        refine lv_iload hx hb dX7_newRow_41 (lv_at hl 0 rfl) ?_
        refine lv_bipush (v := (-2)) hx hb dX7_newRow_43 (by decide) ?_
        refine lv_icmp_ne (tgt := 58) hx hb dX7_newRow_45 (by decide) (fun c3 => ?_) (fun c3 => ?_)
        · replace hf := o_f hf c3
          refine lv_iload hx hb dX7_newRow_58 (lv_at hl 0 rfl) ?_
          refine lv_i2l hx hb dX7_newRow_60 rfl ?_
          obtain ⟨rfl, rfl⟩ := Prod.mk.inj (Option.some.inj hf)
          exact jq_lret hX hJ.2.2 dX7_newRow_61 ⟨rfl, rfl, rfl, hJ.1, hJ.2.1⟩
        · replace hf := o_t hf c3
          refine lv_aload_n hx hb dX7_newRow_48 rfl (lv_at hl 1 rfl) ?_
          refine lv_aload_n hx hb dX7_newRow_49 rfl (lv_at hl 2 rfl) ?_
          refine lv_bipush (v := 6) hx hb dX7_newRow_50 (by decide) ?_
          replace hf := o_ck_e hf
          obtain ⟨hk4, hf⟩ := hf
          replace hf := o_call_e hf
          obtain ⟨x4, S2, hq2, hf⟩ := hf
          refine jq_doS hX hJ (jq_okV (As := [.ref p1, .int 6]) (rest := []) hx hb hm ho ht (wJ.recv hX hJ (by rw [hk4]; decide) (wE_X7 hk4) rfl) qw574 qw576 qs54 qw577 qw5 hy_X7_fail rfl hl.1 (Nat.le_of_ble_eq_true rfl) dX7_newRow_52) (c_X7_fail hq2) (Nat.le_of_ble_eq_true rfl) (Nat.le_of_ble_eq_true rfl) (fun H locs hJ' => ?_)
          clear hJ
          have hJ := hJ'
          clear hJ'
          refine lv_goto (tgt := 61) hx hb dX7_newRow_55 (by decide) ?_
          obtain ⟨rfl, rfl⟩ := Prod.mk.inj (Option.some.inj hf)
          exact jq_lret hX hJ.2.2 dX7_newRow_61 ⟨rfl, rfl, rfl, hJ.1, hJ.2.1⟩
    · replace hf := o_f hf (fun z => c2 (qc_le.mpr z))
      refine lv_bipush (v := (-2)) hx hb dX7_newRow_21 (by decide) ?_
      refine lv_goto (tgt := 39) hx hb dX7_newRow_23 (by decide) ?_
      refine lv_istore (lv' := [(4, .int (-2)), (0, .ref o), (1, .ref p1), (2, .long p2)]) hx hb dX7_newRow_39 hl (by decide) rfl (fun ls hl' => ?_)
      clear hl
      have hl := hl'
      clear hl'
      refine lv_iload hx hb dX7_newRow_41 (lv_at hl 0 rfl) ?_
      refine lv_bipush (v := (-2)) hx hb dX7_newRow_43 (by decide) ?_
      refine lv_icmp_ne (tgt := 58) hx hb dX7_newRow_45 (by decide) (fun z => absurd (by decide) z) (fun _ => ?_)
      refine lv_aload_n hx hb dX7_newRow_48 rfl (lv_at hl 1 rfl) ?_
      refine lv_aload_n hx hb dX7_newRow_49 rfl (lv_at hl 2 rfl) ?_
      refine lv_bipush (v := 6) hx hb dX7_newRow_50 (by decide) ?_
      replace hf := o_ck_e hf
      obtain ⟨hk5, hf⟩ := hf
      replace hf := o_call_e hf
      obtain ⟨x5, S3, hq3, hf⟩ := hf
      refine jq_doS hX hJ (jq_okV (As := [.ref p1, .int 6]) (rest := []) hx hb hm ho ht (wJ.recv hX hJ (by rw [hk5]; decide) (wE_X7 hk5) rfl) qw574 qw576 qs54 qw577 qw5 hy_X7_fail rfl hl.1 (Nat.le_of_ble_eq_true rfl) dX7_newRow_52) (c_X7_fail hq3) (Nat.le_of_ble_eq_true rfl) (Nat.le_of_ble_eq_true rfl) (fun H locs hJ' => ?_)
      clear hJ
      have hJ := hJ'
      clear hJ'
      refine lv_goto (tgt := 61) hx hb dX7_newRow_55 (by decide) ?_
      obtain ⟨rfl, rfl⟩ := Prod.mk.inj (Option.some.inj hf)
      exact jq_lret hX hJ.2.2 dX7_newRow_61 ⟨rfl, rfl, rfl, hJ.1, hJ.2.1⟩
  · replace hf := o_f hf (fun z => c1 (qc_ge.mpr z))
    refine lv_aload_n hx hb dX7_newRow_6 rfl (lv_at hl 0 rfl) ?_
    refine lv_aload_n hx hb dX7_newRow_7 rfl (lv_at hl 1 rfl) ?_
    refine lv_iconst (v := 4) hx hb dX7_newRow_8 (by decide) ?_
    replace hf := o_ck_e hf
    obtain ⟨hk6, hf⟩ := hf
    replace hf := o_call_e hf
    obtain ⟨x6, S4, hq4, hf⟩ := hf
    refine jq_doS hX hJ (jq_okV (As := [.ref p1, .int 4]) (rest := []) hx hb hm ho ht (wJ.recv hX hJ (by rw [hk6]; decide) (wE_X7 hk6) rfl) qw574 qw576 qs54 qw577 qw5 hy_X7_fail rfl hl.1 (Nat.le_of_ble_eq_true rfl) dX7_newRow_9) (c_X7_fail hq4) (Nat.le_of_ble_eq_true rfl) (Nat.le_of_ble_eq_true rfl) (fun H locs hJ' => ?_)
    clear hJ
    have hJ := hJ'
    clear hJ'
    obtain ⟨rfl, rfl⟩ := Prod.mk.inj (Option.some.inj hf)
    exact jq_lret hX hJ.2.2 dX7_newRow_12 ⟨rfl, rfl, rfl, hJ.1, hJ.2.1⟩
theorem dX7_act_0 : decode cX7_act 0 = .ok (.aload_n 0, 1) := by decide +kernel
theorem dX7_act_1 : decode cX7_act 1 = .ok (.iload_n 2, 1) := by decide +kernel
theorem dX7_act_2 : decode cX7_act 2 = .ok (.iconst 0, 1) := by decide +kernel
theorem dX7_act_3 : decode cX7_act 3 = .ok (.invokevirtual 45, 3) := by decide +kernel
theorem dX7_act_6 : decode cX7_act 6 = .ok (.lstore_n 3, 1) := by decide +kernel
theorem dX7_act_7 : decode cX7_act 7 = .ok (.aload_n 0, 1) := by decide +kernel
theorem dX7_act_8 : decode cX7_act 8 = .ok (.iload_n 2, 1) := by decide +kernel
theorem dX7_act_9 : decode cX7_act 9 = .ok (.iconst 1, 1) := by decide +kernel
theorem dX7_act_10 : decode cX7_act 10 = .ok (.invokevirtual 45, 3) := by decide +kernel
theorem dX7_act_13 : decode cX7_act 13 = .ok (.lstore 5, 2) := by decide +kernel
theorem dX7_act_15 : decode cX7_act 15 = .ok (.aload_n 1, 1) := by decide +kernel
theorem dX7_act_16 : decode cX7_act 16 = .ok (.getfield 68, 3) := by decide +kernel
theorem dX7_act_19 : decode cX7_act 19 = .ok (.tableswitch 111 0 9 #[53, 58, 60, 69, 84, 91, 111, 111, 111, 98], 53) := by decide +kernel
theorem dX7_act_72 : decode cX7_act 72 = .ok (.aload_n 1, 1) := by decide +kernel
theorem dX7_act_73 : decode cX7_act 73 = .ok (.getfield 117, 3) := by decide +kernel
theorem dX7_act_76 : decode cX7_act 76 = .ok (.lreturn, 1) := by decide +kernel
theorem dX7_act_77 : decode cX7_act 77 = .ok (.lload_n 3, 1) := by decide +kernel
theorem dX7_act_78 : decode cX7_act 78 = .ok (.lreturn, 1) := by decide +kernel
theorem dX7_act_79 : decode cX7_act 79 = .ok (.aload_n 0, 1) := by decide +kernel
theorem dX7_act_80 : decode cX7_act 80 = .ok (.aload_n 1, 1) := by decide +kernel
theorem dX7_act_81 : decode cX7_act 81 = .ok (.lload_n 3, 1) := by decide +kernel
theorem dX7_act_82 : decode cX7_act 82 = .ok (.lload 5, 2) := by decide +kernel
theorem dX7_act_84 : decode cX7_act 84 = .ok (.invokevirtual 121, 3) := by decide +kernel
theorem dX7_act_87 : decode cX7_act 87 = .ok (.lreturn, 1) := by decide +kernel
theorem dX7_act_88 : decode cX7_act 88 = .ok (.aload_n 0, 1) := by decide +kernel
theorem dX7_act_89 : decode cX7_act 89 = .ok (.aload_n 1, 1) := by decide +kernel
theorem dX7_act_90 : decode cX7_act 90 = .ok (.lload_n 3, 1) := by decide +kernel
theorem dX7_act_91 : decode cX7_act 91 = .ok (.lload 5, 2) := by decide +kernel
theorem dX7_act_93 : decode cX7_act 93 = .ok (.aload_n 0, 1) := by decide +kernel
theorem dX7_act_94 : decode cX7_act 94 = .ok (.iload_n 2, 1) := by decide +kernel
theorem dX7_act_95 : decode cX7_act 95 = .ok (.iconst 2, 1) := by decide +kernel
theorem dX7_act_96 : decode cX7_act 96 = .ok (.invokevirtual 45, 3) := by decide +kernel
theorem dX7_act_99 : decode cX7_act 99 = .ok (.invokevirtual 124, 3) := by decide +kernel
theorem dX7_act_102 : decode cX7_act 102 = .ok (.lreturn, 1) := by decide +kernel
theorem dX7_act_103 : decode cX7_act 103 = .ok (.aload_n 0, 1) := by decide +kernel
theorem dX7_act_104 : decode cX7_act 104 = .ok (.aload_n 1, 1) := by decide +kernel
theorem dX7_act_105 : decode cX7_act 105 = .ok (.lload_n 3, 1) := by decide +kernel
theorem dX7_act_106 : decode cX7_act 106 = .ok (.invokevirtual 128, 3) := by decide +kernel
theorem dX7_act_109 : decode cX7_act 109 = .ok (.lreturn, 1) := by decide +kernel
theorem dX7_act_110 : decode cX7_act 110 = .ok (.aload_n 0, 1) := by decide +kernel
theorem dX7_act_111 : decode cX7_act 111 = .ok (.aload_n 1, 1) := by decide +kernel
theorem dX7_act_112 : decode cX7_act 112 = .ok (.lload_n 3, 1) := by decide +kernel
theorem dX7_act_113 : decode cX7_act 113 = .ok (.invokevirtual 132, 3) := by decide +kernel
theorem dX7_act_116 : decode cX7_act 116 = .ok (.lreturn, 1) := by decide +kernel
theorem dX7_act_117 : decode cX7_act 117 = .ok (.aload_n 0, 1) := by decide +kernel
theorem dX7_act_118 : decode cX7_act 118 = .ok (.aload_n 1, 1) := by decide +kernel
theorem dX7_act_119 : decode cX7_act 119 = .ok (.bipush 20, 2) := by decide +kernel
theorem dX7_act_121 : decode cX7_act 121 = .ok (.aload_n 1, 1) := by decide +kernel
theorem dX7_act_122 : decode cX7_act 122 = .ok (.getfield 135, 3) := by decide +kernel
theorem dX7_act_125 : decode cX7_act 125 = .ok (.iadd, 1) := by decide +kernel
theorem dX7_act_126 : decode cX7_act 126 = .ok (.invokevirtual 138, 3) := by decide +kernel
theorem dX7_act_129 : decode cX7_act 129 = .ok (.lreturn, 1) := by decide +kernel
theorem dX7_act_130 : decode cX7_act 130 = .ok (.aload_n 0, 1) := by decide +kernel
theorem dX7_act_131 : decode cX7_act 131 = .ok (.getfield 15, 3) := by decide +kernel
theorem dX7_act_134 : decode cX7_act 134 = .ok (.bipush 8, 2) := by decide +kernel
theorem dX7_act_136 : decode cX7_act 136 = .ok (.aload_n 1, 1) := by decide +kernel
theorem dX7_act_137 : decode cX7_act 137 = .ok (.getfield 71, 3) := by decide +kernel
theorem dX7_act_140 : decode cX7_act 140 = .ok (.iadd, 1) := by decide +kernel
theorem dX7_act_141 : decode cX7_act 141 = .ok (.lload_n 3, 1) := by decide +kernel
theorem dX7_act_142 : decode cX7_act 142 = .ok (.invokevirtual 143, 3) := by decide +kernel
theorem dX7_act_145 : decode cX7_act 145 = .ok (.ifCond .eq 7, 3) := by decide +kernel
theorem dX7_act_152 : decode cX7_act 152 = .ok (.aload_n 0, 1) := by decide +kernel
theorem dX7_act_153 : decode cX7_act 153 = .ok (.aload_n 1, 1) := by decide +kernel
theorem dX7_act_154 : decode cX7_act 154 = .ok (.iconst 5, 1) := by decide +kernel
theorem dX7_act_155 : decode cX7_act 155 = .ok (.invokevirtual 138, 3) := by decide +kernel
theorem dX7_act_158 : decode cX7_act 158 = .ok (.lreturn, 1) := by decide +kernel
theorem dX7_act_148 : decode cX7_act 148 = .ok (.lload_n 3, 1) := by decide +kernel
theorem dX7_act_149 : decode cX7_act 149 = .ok (.goto 9, 3) := by decide +kernel
theorem hy_X7_act : yX7_act.cls ≠ "java/lang/invoke/MethodHandle" ∧ yX7_act.cls ≠ "java/lang/invoke/VarHandle" ∧ (parseMethodDescriptor yX7_act.desc).map (fun d => d.parameters.length) = some 2 := ⟨by decide, by decide, by decide +kernel⟩
def f_X7_act (o : Nat) (p1 : Nat) (p2 : Int32) (S : wS) : Option ((Int64) × wS) :=
  o_ck (s_K S o = 7) (o_call (f_X7_taken o p2 0 S) fun x1 S1 =>
  o_ck (s_K S1 o = 7) (o_call (f_X7_taken o p2 1 S1) fun x2 S2 =>
  o_gI 1 0 p1 S2 fun x3 =>
  if x3 = 0 then (
  o_gL 1 0 p1 S2 fun x4 =>
  some (x4, S2)) else (
  if x3 = 1 then (
  some (x1, S2)) else (
  if x3 = 2 then (
  o_ck (s_K S2 o = 7) (o_call (f_X7_read o p1 x1 x2 S2) fun x5 S3 =>
  some (x5, S3))) else (
  if x3 = 3 then (
  o_ck (s_K S2 o = 7) (o_call (f_X7_taken o p2 2 S2) fun x6 S4 =>
  o_ck (s_K S4 o = 7) (o_call (f_X7_write o p1 x1 x2 x6 S4) fun x7 S5 =>
  some (x7, S5)))) else (
  if x3 = 4 then (
  o_ck (s_K S2 o = 7) (o_call (f_X7_sizeOf o p1 x1 S2) fun x8 S6 =>
  some (x8, S6))) else (
  if x3 = 5 then (
  o_ck (s_K S2 o = 7) (o_call (f_X7_newRow o p1 x1 S2) fun x9 S7 =>
  some (x9, S7))) else (
  if x3 = 9 then (
  o_gI 1 2 p1 S2 fun x10 =>
  o_ck (s_K S2 o = 7) (o_call (f_X7_fail o p1 ((20 : Int32) + x10) S2) fun x11 S8 =>
  some (x11, S8))) else (
  if x3 = 6 ∨ x3 = 7 ∨ x3 = 8 then (
  o_gR 7 7 o S2 fun x12 =>
  o_gI 1 1 p1 S2 fun x13 =>
  o_cs x12 (none) (fun a1 =>
  o_ck (s_K S2 a1 = 6) (o_call (f_X6_mayBe a1 ((8 : Int32) + x13) x1 S2) fun x14 S9 =>
  if x14 = 0 then (
  o_ck (s_K S9 o = 7) (o_call (f_X7_fail o p1 5 S9) fun x15 S10 =>
  some (x15, S10))) else (
  some (x1, S9))))) else (
  o_gR 7 7 o S2 fun x16 =>
  o_gI 1 1 p1 S2 fun x17 =>
  o_cs x16 (none) (fun a2 =>
  o_ck (s_K S2 a2 = 6) (o_call (f_X6_mayBe a2 ((8 : Int32) + x17) x1 S2) fun x18 S11 =>
  if x18 = 0 then (
  o_ck (s_K S11 o = 7) (o_call (f_X7_fail o p1 5 S11) fun x19 S12 =>
  some (x19, S12))) else (
  some (x1, S11))))))))))))))
set_option maxHeartbeats 4000000 in
set_option maxRecDepth 100000 in
theorem c_X7_act {l : Launch} {D : va_G} {Y : Nat → ClassId} {aR : Nat → Nat} {A : Nat → Prop} {o : Nat} {p1 : Nat} {p2 : Int32} {S S' : wS} {r : Int64} (hf : f_X7_act o p1 p2 S = some (r, S')) : jq_S l D Y aR A yX7_act cX7_act 7 (some .long) 4 100 [.ref o, .ref p1, .int p2] S (some (.long r)) S' := by
  unfold f_X7_act at hf
  refine jq_enterS (by decide) (Nat.le_of_ble_eq_true rfl) fun p e s m args below meth c ls H locs hX hJ hl => ?_
  have hl : lv_has ls 7 [(0, .ref o), (1, .ref p1), (2, .int p2)] := hl
  have hx := hX.1
  have hb := hX.2.1
  have hm := hX.2.2.1
  have ho := hX.2.2.2.1
  have ht := hX.2.2.2.2.1
  have hn := hX.2.2.2.2.2.1.2.1
  refine lv_aload_n hx hb dX7_act_0 rfl (lv_at hl 0 rfl) ?_
  refine lv_iload_n hx hb dX7_act_1 rfl (lv_at hl 2 rfl) ?_
  refine lv_iconst (v := 0) hx hb dX7_act_2 (by decide) ?_
  replace hf := o_ck_e hf
  obtain ⟨hk1, hf⟩ := hf
  replace hf := o_call_e hf
  obtain ⟨x1, S1, hq1, hf⟩ := hf
  refine jq_doS hX hJ (jq_okV (As := [.int p2, .int 0]) (rest := []) hx hb hm ho ht (wJ.recv hX hJ (by rw [hk1]; decide) (wE_X7 hk1) rfl) qw540 qw542 qs47 qw543 qw5 hy_X7_taken rfl hl.1 (Nat.le_of_ble_eq_true rfl) dX7_act_3) (c_X7_taken hq1) (Nat.le_of_ble_eq_true rfl) (Nat.le_of_ble_eq_true rfl) (fun H locs hJ' => ?_)
  clear hJ
  have hJ := hJ'
  clear hJ'
  refine lv_lstore_n (lv' := [(3, .long x1), (0, .ref o), (1, .ref p1), (2, .int p2)]) hx hb dX7_act_6 rfl hl (by decide) rfl (fun ls hl' => ?_)
  clear hl
  have hl := hl'
  clear hl'
  refine lv_aload_n hx hb dX7_act_7 rfl (lv_at hl 1 rfl) ?_
  refine lv_iload_n hx hb dX7_act_8 rfl (lv_at hl 3 rfl) ?_
  refine lv_iconst (v := 1) hx hb dX7_act_9 (by decide) ?_
  replace hf := o_ck_e hf
  obtain ⟨hk2, hf⟩ := hf
  replace hf := o_call_e hf
  obtain ⟨x2, S2, hq2, hf⟩ := hf
  refine jq_doS hX hJ (jq_okV (As := [.int p2, .int 1]) (rest := []) hx hb hm ho ht (wJ.recv hX hJ (by rw [hk2]; decide) (wE_X7 hk2) rfl) qw540 qw542 qs47 qw543 qw5 hy_X7_taken rfl hl.1 (Nat.le_of_ble_eq_true rfl) dX7_act_10) (c_X7_taken hq2) (Nat.le_of_ble_eq_true rfl) (Nat.le_of_ble_eq_true rfl) (fun H locs hJ' => ?_)
  clear hJ
  have hJ := hJ'
  clear hJ'
  refine lv_lstore (lv' := [(5, .long x2), (3, .long x1), (0, .ref o), (1, .ref p1), (2, .int p2)]) hx hb dX7_act_13 hl (by decide) rfl (fun ls hl' => ?_)
  clear hl
  have hl := hl'
  clear hl'
  refine lv_aload_n hx hb dX7_act_15 rfl (lv_at hl 3 rfl) ?_
  replace hf := o_gI_e hf
  obtain ⟨hk3, x3, hx3, hf⟩ := hf
  refine gn_X0_sort hX hJ hk3 hx3 qn272 dX7_act_16 ?_
  by_cases c1 : x3 = 0
  · replace hf := o_t hf c1
    refine lv_tableIn (off := 53) (tgt := 72) hx hb dX7_act_19 (by rcases c1 with rfl <;> decide) (by rcases c1 with rfl <;> decide) (by rcases c1 with rfl <;> rfl) (by decide) ?_
    refine lv_aload_n hx hb dX7_act_72 rfl (lv_at hl 3 rfl) ?_
    replace hf := o_gL_e hf
    obtain ⟨hk4, x4, hx4, hf⟩ := hf
    refine gn_X0_v hX hJ hk4 hx4 qn284 dX7_act_73 ?_
    obtain ⟨rfl, rfl⟩ := Prod.mk.inj (Option.some.inj hf)
    exact jq_lret hX hJ.2.2 dX7_act_76 ⟨rfl, rfl, rfl, hJ.1, hJ.2.1⟩
  replace hf := o_f hf c1
  by_cases c2 : x3 = 1
  · replace hf := o_t hf c2
    refine lv_tableIn (off := 58) (tgt := 77) hx hb dX7_act_19 (by rcases c2 with rfl <;> decide) (by rcases c2 with rfl <;> decide) (by rcases c2 with rfl <;> rfl) (by decide) ?_
    refine lv_lload_n hx hb dX7_act_77 rfl (lv_at hl 1 rfl) ?_
    obtain ⟨rfl, rfl⟩ := Prod.mk.inj (Option.some.inj hf)
    exact jq_lret hX hJ.2.2 dX7_act_78 ⟨rfl, rfl, rfl, hJ.1, hJ.2.1⟩
  replace hf := o_f hf c2
  by_cases c3 : x3 = 2
  · replace hf := o_t hf c3
    refine lv_tableIn (off := 60) (tgt := 79) hx hb dX7_act_19 (by rcases c3 with rfl <;> decide) (by rcases c3 with rfl <;> decide) (by rcases c3 with rfl <;> rfl) (by decide) ?_
    refine lv_aload_n hx hb dX7_act_79 rfl (lv_at hl 2 rfl) ?_
    refine lv_aload_n hx hb dX7_act_80 rfl (lv_at hl 3 rfl) ?_
    refine lv_lload_n hx hb dX7_act_81 rfl (lv_at hl 1 rfl) ?_
    refine lv_lload hx hb dX7_act_82 (lv_at hl 0 rfl) ?_
    replace hf := o_ck_e hf
    obtain ⟨hk5, hf⟩ := hf
    replace hf := o_call_e hf
    obtain ⟨x5, S3, hq3, hf⟩ := hf
    refine jq_doS hX hJ (jq_okV (As := [.ref p1, .long x1, .long x2]) (rest := []) hx hb hm ho ht (wJ.recv hX hJ (by rw [hk5]; decide) (wE_X7 hk5) rfl) qw647 qw649 qs68 qw650 qw5 hy_X7_read rfl hl.1 (Nat.le_of_ble_eq_true rfl) dX7_act_84) (c_X7_read hq3) (Nat.le_of_ble_eq_true rfl) (Nat.le_of_ble_eq_true rfl) (fun H locs hJ' => ?_)
    clear hJ
    have hJ := hJ'
    clear hJ'
    obtain ⟨rfl, rfl⟩ := Prod.mk.inj (Option.some.inj hf)
    exact jq_lret hX hJ.2.2 dX7_act_87 ⟨rfl, rfl, rfl, hJ.1, hJ.2.1⟩
  replace hf := o_f hf c3
  by_cases c4 : x3 = 3
  · replace hf := o_t hf c4
    refine lv_tableIn (off := 69) (tgt := 88) hx hb dX7_act_19 (by rcases c4 with rfl <;> decide) (by rcases c4 with rfl <;> decide) (by rcases c4 with rfl <;> rfl) (by decide) ?_
    refine lv_aload_n hx hb dX7_act_88 rfl (lv_at hl 2 rfl) ?_
    refine lv_aload_n hx hb dX7_act_89 rfl (lv_at hl 3 rfl) ?_
    refine lv_lload_n hx hb dX7_act_90 rfl (lv_at hl 1 rfl) ?_
    refine lv_lload hx hb dX7_act_91 (lv_at hl 0 rfl) ?_
    refine lv_aload_n hx hb dX7_act_93 rfl (lv_at hl 2 rfl) ?_
    refine lv_iload_n hx hb dX7_act_94 rfl (lv_at hl 4 rfl) ?_
    refine lv_iconst (v := 2) hx hb dX7_act_95 (by decide) ?_
    replace hf := o_ck_e hf
    obtain ⟨hk6, hf⟩ := hf
    replace hf := o_call_e hf
    obtain ⟨x6, S4, hq4, hf⟩ := hf
    refine jq_doS hX hJ (jq_okV (As := [.int p2, .int 2]) (rest := [.long x2, .long x1, .ref p1, .ref o]) hx hb hm ho ht (wJ.recv hX hJ (by rw [hk6]; decide) (wE_X7 hk6) rfl) qw540 qw542 qs47 qw543 qw5 hy_X7_taken rfl hl.1 (Nat.le_of_ble_eq_true rfl) dX7_act_96) (c_X7_taken hq4) (Nat.le_of_ble_eq_true rfl) (Nat.le_of_ble_eq_true rfl) (fun H locs hJ' => ?_)
    clear hJ
    have hJ := hJ'
    clear hJ'
    replace hf := o_ck_e hf
    obtain ⟨hk7, hf⟩ := hf
    replace hf := o_call_e hf
    obtain ⟨x7, S5, hq5, hf⟩ := hf
    refine jq_doS hX hJ (jq_okV (As := [.ref p1, .long x1, .long x2, .long x6]) (rest := []) hx hb hm ho ht (wJ.recv hX hJ (by rw [hk7]; decide) (wE_X7 hk7) rfl) qw654 qw656 qs69 qw657 qw5 hy_X7_write rfl hl.1 (Nat.le_of_ble_eq_true rfl) dX7_act_99) (c_X7_write hq5) (Nat.le_of_ble_eq_true rfl) (Nat.le_of_ble_eq_true rfl) (fun H locs hJ' => ?_)
    clear hJ
    have hJ := hJ'
    clear hJ'
    obtain ⟨rfl, rfl⟩ := Prod.mk.inj (Option.some.inj hf)
    exact jq_lret hX hJ.2.2 dX7_act_102 ⟨rfl, rfl, rfl, hJ.1, hJ.2.1⟩
  replace hf := o_f hf c4
  by_cases c5 : x3 = 4
  · replace hf := o_t hf c5
    refine lv_tableIn (off := 84) (tgt := 103) hx hb dX7_act_19 (by rcases c5 with rfl <;> decide) (by rcases c5 with rfl <;> decide) (by rcases c5 with rfl <;> rfl) (by decide) ?_
    refine lv_aload_n hx hb dX7_act_103 rfl (lv_at hl 2 rfl) ?_
    refine lv_aload_n hx hb dX7_act_104 rfl (lv_at hl 3 rfl) ?_
    refine lv_lload_n hx hb dX7_act_105 rfl (lv_at hl 1 rfl) ?_
    replace hf := o_ck_e hf
    obtain ⟨hk8, hf⟩ := hf
    replace hf := o_call_e hf
    obtain ⟨x8, S6, hq6, hf⟩ := hf
    refine jq_doS hX hJ (jq_okV (As := [.ref p1, .long x1]) (rest := []) hx hb hm ho ht (wJ.recv hX hJ (by rw [hk8]; decide) (wE_X7 hk8) rfl) qw659 qw661 qs70 qw662 qw5 hy_X7_sizeOf rfl hl.1 (Nat.le_of_ble_eq_true rfl) dX7_act_106) (c_X7_sizeOf hq6) (Nat.le_of_ble_eq_true rfl) (Nat.le_of_ble_eq_true rfl) (fun H locs hJ' => ?_)
    clear hJ
    have hJ := hJ'
    clear hJ'
    obtain ⟨rfl, rfl⟩ := Prod.mk.inj (Option.some.inj hf)
    exact jq_lret hX hJ.2.2 dX7_act_109 ⟨rfl, rfl, rfl, hJ.1, hJ.2.1⟩
  replace hf := o_f hf c5
  by_cases c6 : x3 = 5
  · replace hf := o_t hf c6
    refine lv_tableIn (off := 91) (tgt := 110) hx hb dX7_act_19 (by rcases c6 with rfl <;> decide) (by rcases c6 with rfl <;> decide) (by rcases c6 with rfl <;> rfl) (by decide) ?_
    refine lv_aload_n hx hb dX7_act_110 rfl (lv_at hl 2 rfl) ?_
    refine lv_aload_n hx hb dX7_act_111 rfl (lv_at hl 3 rfl) ?_
    refine lv_lload_n hx hb dX7_act_112 rfl (lv_at hl 1 rfl) ?_
    replace hf := o_ck_e hf
    obtain ⟨hk9, hf⟩ := hf
    replace hf := o_call_e hf
    obtain ⟨x9, S7, hq7, hf⟩ := hf
    refine jq_doS hX hJ (jq_okV (As := [.ref p1, .long x1]) (rest := []) hx hb hm ho ht (wJ.recv hX hJ (by rw [hk9]; decide) (wE_X7 hk9) rfl) qw664 qw666 qs71 qw667 qw5 hy_X7_newRow rfl hl.1 (Nat.le_of_ble_eq_true rfl) dX7_act_113) (c_X7_newRow hq7) (Nat.le_of_ble_eq_true rfl) (Nat.le_of_ble_eq_true rfl) (fun H locs hJ' => ?_)
    clear hJ
    have hJ := hJ'
    clear hJ'
    obtain ⟨rfl, rfl⟩ := Prod.mk.inj (Option.some.inj hf)
    exact jq_lret hX hJ.2.2 dX7_act_116 ⟨rfl, rfl, rfl, hJ.1, hJ.2.1⟩
  replace hf := o_f hf c6
  by_cases c7 : x3 = 9
  · replace hf := o_t hf c7
    refine lv_tableIn (off := 98) (tgt := 117) hx hb dX7_act_19 (by rcases c7 with rfl <;> decide) (by rcases c7 with rfl <;> decide) (by rcases c7 with rfl <;> rfl) (by decide) ?_
    refine lv_aload_n hx hb dX7_act_117 rfl (lv_at hl 2 rfl) ?_
    refine lv_aload_n hx hb dX7_act_118 rfl (lv_at hl 3 rfl) ?_
    refine lv_bipush (v := 20) hx hb dX7_act_119 (by decide) ?_
    refine lv_aload_n hx hb dX7_act_121 rfl (lv_at hl 3 rfl) ?_
    replace hf := o_gI_e hf
    obtain ⟨hk10, x10, hx10, hf⟩ := hf
    refine gn_X0_b hX hJ hk10 hx10 qn278 dX7_act_122 ?_
    refine lv_iadd hx hb dX7_act_125 ?_
    replace hf := o_ck_e hf
    obtain ⟨hk11, hf⟩ := hf
    replace hf := o_call_e hf
    obtain ⟨x11, S8, hq8, hf⟩ := hf
    refine jq_doS hX hJ (jq_okV (As := [.ref p1, .int ((20 : Int32) + x10)]) (rest := []) hx hb hm ho ht (wJ.recv hX hJ (by rw [hk11]; decide) (wE_X7 hk11) rfl) qw574 qw576 qs54 qw577 qw5 hy_X7_fail rfl hl.1 (Nat.le_of_ble_eq_true rfl) dX7_act_126) (c_X7_fail hq8) (Nat.le_of_ble_eq_true rfl) (Nat.le_of_ble_eq_true rfl) (fun H locs hJ' => ?_)
    clear hJ
    have hJ := hJ'
    clear hJ'
    obtain ⟨rfl, rfl⟩ := Prod.mk.inj (Option.some.inj hf)
    exact jq_lret hX hJ.2.2 dX7_act_129 ⟨rfl, rfl, rfl, hJ.1, hJ.2.1⟩
  replace hf := o_f hf c7
  by_cases c8 : x3 = 6 ∨ x3 = 7 ∨ x3 = 8
  · replace hf := o_t hf c8
    refine lv_tableIn (off := 111) (tgt := 130) hx hb dX7_act_19 (by rcases c8 with rfl | rfl | rfl <;> decide) (by rcases c8 with rfl | rfl | rfl <;> decide) (by rcases c8 with rfl | rfl | rfl <;> rfl) (by decide) ?_
    refine lv_aload_n hx hb dX7_act_130 rfl (lv_at hl 2 rfl) ?_
    replace hf := o_gR_e hf
    obtain ⟨hk12, x12, hx12, hf⟩ := hf
    refine gf_X7_rows hX hJ hk12 hx12 qw77 dX7_act_131 ?_
    refine lv_bipush (v := 8) hx hb dX7_act_134 (by decide) ?_
    refine lv_aload_n hx hb dX7_act_136 rfl (lv_at hl 3 rfl) ?_
    replace hf := o_gI_e hf
    obtain ⟨hk13, x13, hx13, hf⟩ := hf
    refine gn_X0_a hX hJ hk13 hx13 qn275 dX7_act_137 ?_
    refine lv_iadd hx hb dX7_act_140 ?_
    refine lv_lload_n hx hb dX7_act_141 rfl (lv_at hl 1 rfl) ?_
    replace hf := o_cs_e hf
    rcases hf with ⟨hr1, hf⟩ | ⟨a1, hr1, hf⟩
    · subst hr1
      cases hf
    · subst hr1
      replace hf := o_ck_e hf
      obtain ⟨hk14, hf⟩ := hf
      replace hf := o_call_e hf
      obtain ⟨x14, S9, hq9, hf⟩ := hf
      refine jq_doS hX hJ (jq_okVN (As := [.int ((8 : Int32) + x13), .long x1]) (rest := []) hx hb hm ho ht hn (wJ.recv hX hJ (by rw [hk14]; decide) (wE_X6 hk14) rfl) qn670 qw355 qs20 qw356 qw2 hy_X6_mayBe rfl hl.1 (Nat.le_of_ble_eq_true rfl) dX7_act_142) (c_X6_mayBe hq9) (Nat.le_of_ble_eq_true rfl) (Nat.le_of_ble_eq_true rfl) (fun H locs hJ' => ?_)
      clear hJ
      have hJ := hJ'
      clear hJ'
      refine lv_if_eq (tgt := 152) hx hb dX7_act_145 (by decide) (fun c9 => ?_) (fun c9 => ?_)
      · replace hf := o_t hf c9
        refine lv_aload_n hx hb dX7_act_152 rfl (lv_at hl 2 rfl) ?_
        refine lv_aload_n hx hb dX7_act_153 rfl (lv_at hl 3 rfl) ?_
        refine lv_iconst (v := 5) hx hb dX7_act_154 (by decide) ?_
        replace hf := o_ck_e hf
        obtain ⟨hk15, hf⟩ := hf
        replace hf := o_call_e hf
        obtain ⟨x15, S10, hq10, hf⟩ := hf
        refine jq_doS hX hJ (jq_okV (As := [.ref p1, .int 5]) (rest := []) hx hb hm ho ht (wJ.recv hX hJ (by rw [hk15]; decide) (wE_X7 hk15) rfl) qw574 qw576 qs54 qw577 qw5 hy_X7_fail rfl hl.1 (Nat.le_of_ble_eq_true rfl) dX7_act_155) (c_X7_fail hq10) (Nat.le_of_ble_eq_true rfl) (Nat.le_of_ble_eq_true rfl) (fun H locs hJ' => ?_)
        clear hJ
        have hJ := hJ'
        clear hJ'
        obtain ⟨rfl, rfl⟩ := Prod.mk.inj (Option.some.inj hf)
        exact jq_lret hX hJ.2.2 dX7_act_158 ⟨rfl, rfl, rfl, hJ.1, hJ.2.1⟩
      · replace hf := o_f hf c9
        refine lv_lload_n hx hb dX7_act_148 rfl (lv_at hl 1 rfl) ?_
        refine lv_goto (tgt := 158) hx hb dX7_act_149 (by decide) ?_
        obtain ⟨rfl, rfl⟩ := Prod.mk.inj (Option.some.inj hf)
        exact jq_lret hX hJ.2.2 dX7_act_158 ⟨rfl, rfl, rfl, hJ.1, hJ.2.1⟩
  replace hf := o_f hf c8
  refine lv_tableOut (tgt := 130) hx hb dX7_act_19 (by have e0 := sw_ne c1 (n := 0) (by decide); have e1 := sw_ne c2 (n := 1) (by decide); have e2 := sw_ne c3 (n := 2) (by decide); have e3 := sw_ne c4 (n := 3) (by decide); have e4 := sw_ne c5 (n := 4) (by decide); have e5 := sw_ne c6 (n := 5) (by decide); have e6 := sw_ne c7 (n := 9) (by decide); have e7 := sw_ne (fun z => c8 (Or.inl z)) (n := 6) (by decide); have e8 := sw_ne (fun z => c8 (Or.inr (Or.inl z))) (n := 7) (by decide); have e9 := sw_ne (fun z => c8 (Or.inr (Or.inr z))) (n := 8) (by decide); omega) (by decide) ?_
  refine lv_aload_n hx hb dX7_act_130 rfl (lv_at hl 2 rfl) ?_
  replace hf := o_gR_e hf
  obtain ⟨hk16, x16, hx16, hf⟩ := hf
  refine gf_X7_rows hX hJ hk16 hx16 qw77 dX7_act_131 ?_
  refine lv_bipush (v := 8) hx hb dX7_act_134 (by decide) ?_
  refine lv_aload_n hx hb dX7_act_136 rfl (lv_at hl 3 rfl) ?_
  replace hf := o_gI_e hf
  obtain ⟨hk17, x17, hx17, hf⟩ := hf
  refine gn_X0_a hX hJ hk17 hx17 qn275 dX7_act_137 ?_
  refine lv_iadd hx hb dX7_act_140 ?_
  refine lv_lload_n hx hb dX7_act_141 rfl (lv_at hl 1 rfl) ?_
  replace hf := o_cs_e hf
  rcases hf with ⟨hr2, hf⟩ | ⟨a2, hr2, hf⟩
  · subst hr2
    cases hf
  · subst hr2
    replace hf := o_ck_e hf
    obtain ⟨hk18, hf⟩ := hf
    replace hf := o_call_e hf
    obtain ⟨x18, S11, hq11, hf⟩ := hf
    refine jq_doS hX hJ (jq_okVN (As := [.int ((8 : Int32) + x17), .long x1]) (rest := []) hx hb hm ho ht hn (wJ.recv hX hJ (by rw [hk18]; decide) (wE_X6 hk18) rfl) qn670 qw355 qs20 qw356 qw2 hy_X6_mayBe rfl hl.1 (Nat.le_of_ble_eq_true rfl) dX7_act_142) (c_X6_mayBe hq11) (Nat.le_of_ble_eq_true rfl) (Nat.le_of_ble_eq_true rfl) (fun H locs hJ' => ?_)
    clear hJ
    have hJ := hJ'
    clear hJ'
    refine lv_if_eq (tgt := 152) hx hb dX7_act_145 (by decide) (fun c10 => ?_) (fun c10 => ?_)
    · replace hf := o_t hf c10
      refine lv_aload_n hx hb dX7_act_152 rfl (lv_at hl 2 rfl) ?_
      refine lv_aload_n hx hb dX7_act_153 rfl (lv_at hl 3 rfl) ?_
      refine lv_iconst (v := 5) hx hb dX7_act_154 (by decide) ?_
      replace hf := o_ck_e hf
      obtain ⟨hk19, hf⟩ := hf
      replace hf := o_call_e hf
      obtain ⟨x19, S12, hq12, hf⟩ := hf
      refine jq_doS hX hJ (jq_okV (As := [.ref p1, .int 5]) (rest := []) hx hb hm ho ht (wJ.recv hX hJ (by rw [hk19]; decide) (wE_X7 hk19) rfl) qw574 qw576 qs54 qw577 qw5 hy_X7_fail rfl hl.1 (Nat.le_of_ble_eq_true rfl) dX7_act_155) (c_X7_fail hq12) (Nat.le_of_ble_eq_true rfl) (Nat.le_of_ble_eq_true rfl) (fun H locs hJ' => ?_)
      clear hJ
      have hJ := hJ'
      clear hJ'
      obtain ⟨rfl, rfl⟩ := Prod.mk.inj (Option.some.inj hf)
      exact jq_lret hX hJ.2.2 dX7_act_158 ⟨rfl, rfl, rfl, hJ.1, hJ.2.1⟩
    · replace hf := o_f hf c10
      refine lv_lload_n hx hb dX7_act_148 rfl (lv_at hl 1 rfl) ?_
      refine lv_goto (tgt := 158) hx hb dX7_act_149 (by decide) ?_
      obtain ⟨rfl, rfl⟩ := Prod.mk.inj (Option.some.inj hf)
      exact jq_lret hX hJ.2.2 dX7_act_158 ⟨rfl, rfl, rfl, hJ.1, hJ.2.1⟩
theorem dX7_perform_0 : decode cX7_perform 0 = .ok (.aload_n 0, 1) := by decide +kernel
theorem dX7_perform_1 : decode cX7_perform 1 = .ok (.getfield 9, 3) := by decide +kernel
theorem dX7_perform_4 : decode cX7_perform 4 = .ok (.iload_n 1, 1) := by decide +kernel
theorem dX7_perform_5 : decode cX7_perform 5 = .ok (.invokevirtual 58, 3) := by decide +kernel
theorem dX7_perform_8 : decode cX7_perform 8 = .ok (.astore_n 3, 1) := by decide +kernel
theorem dX7_perform_9 : decode cX7_perform 9 = .ok (.aload_n 3, 1) := by decide +kernel
theorem dX7_perform_10 : decode cX7_perform 10 = .ok (.ifnull 19, 3) := by decide +kernel
theorem dX7_perform_13 : decode cX7_perform 13 = .ok (.iload_n 2, 1) := by decide +kernel
theorem dX7_perform_14 : decode cX7_perform 14 = .ok (.bipush 40, 2) := by decide +kernel
theorem dX7_perform_16 : decode cX7_perform 16 = .ok (.if_icmp .gt 13, 3) := by decide +kernel
theorem dX7_perform_29 : decode cX7_perform 29 = .ok (.aload_n 0, 1) := by decide +kernel
theorem dX7_perform_30 : decode cX7_perform 30 = .ok (.iload_n 1, 1) := by decide +kernel
theorem dX7_perform_31 : decode cX7_perform 31 = .ok (.invokevirtual 64, 3) := by decide +kernel
theorem dX7_perform_34 : decode cX7_perform 34 = .ok (.lreturn, 1) := by decide +kernel
theorem dX7_perform_19 : decode cX7_perform 19 = .ok (.aload_n 0, 1) := by decide +kernel
theorem dX7_perform_20 : decode cX7_perform 20 = .ok (.getfield 27, 3) := by decide +kernel
theorem dX7_perform_23 : decode cX7_perform 23 = .ok (.sipush 2000, 3) := by decide +kernel
theorem dX7_perform_26 : decode cX7_perform 26 = .ok (.if_icmp .ne 9, 3) := by decide +kernel
theorem dX7_perform_35 : decode cX7_perform 35 = .ok (.aload_n 0, 1) := by decide +kernel
theorem dX7_perform_36 : decode cX7_perform 36 = .ok (.dup, 1) := by decide +kernel
theorem dX7_perform_37 : decode cX7_perform 37 = .ok (.getfield 27, 3) := by decide +kernel
theorem dX7_perform_40 : decode cX7_perform 40 = .ok (.iconst 1, 1) := by decide +kernel
theorem dX7_perform_41 : decode cX7_perform 41 = .ok (.iadd, 1) := by decide +kernel
theorem dX7_perform_42 : decode cX7_perform 42 = .ok (.putfield 27, 3) := by decide +kernel
theorem dX7_perform_45 : decode cX7_perform 45 = .ok (.aload_n 3, 1) := by decide +kernel
theorem dX7_perform_46 : decode cX7_perform 46 = .ok (.getfield 68, 3) := by decide +kernel
theorem dX7_perform_49 : decode cX7_perform 49 = .ok (.tableswitch 212 6 22 #[83, 103, 121, 212, 212, 149, 149, 149, 149, 156, 163, 170, 177, 184, 191, 198, 205], 83) := by decide +kernel
theorem dX7_perform_132 : decode cX7_perform 132 = .ok (.aload_n 3, 1) := by decide +kernel
theorem dX7_perform_133 : decode cX7_perform 133 = .ok (.getfield 71, 3) := by decide +kernel
theorem dX7_perform_136 : decode cX7_perform 136 = .ok (.aload_n 0, 1) := by decide +kernel
theorem dX7_perform_137 : decode cX7_perform 137 = .ok (.iload_n 2, 1) := by decide +kernel
theorem dX7_perform_138 : decode cX7_perform 138 = .ok (.iconst 0, 1) := by decide +kernel
theorem dX7_perform_139 : decode cX7_perform 139 = .ok (.invokevirtual 45, 3) := by decide +kernel
theorem dX7_perform_142 : decode cX7_perform 142 = .ok (.aload_n 0, 1) := by decide +kernel
theorem dX7_perform_143 : decode cX7_perform 143 = .ok (.iload_n 2, 1) := by decide +kernel
theorem dX7_perform_144 : decode cX7_perform 144 = .ok (.iconst 1, 1) := by decide +kernel
theorem dX7_perform_145 : decode cX7_perform 145 = .ok (.invokevirtual 45, 3) := by decide +kernel
theorem dX7_perform_148 : decode cX7_perform 148 = .ok (.invokestatic 74, 3) := by decide +kernel
theorem dX7_perform_151 : decode cX7_perform 151 = .ok (.lreturn, 1) := by decide +kernel
theorem dX7_perform_152 : decode cX7_perform 152 = .ok (.aload_n 0, 1) := by decide +kernel
theorem dX7_perform_153 : decode cX7_perform 153 = .ok (.aload_n 3, 1) := by decide +kernel
theorem dX7_perform_154 : decode cX7_perform 154 = .ok (.aload_n 0, 1) := by decide +kernel
theorem dX7_perform_155 : decode cX7_perform 155 = .ok (.iload_n 2, 1) := by decide +kernel
theorem dX7_perform_156 : decode cX7_perform 156 = .ok (.iconst 0, 1) := by decide +kernel
theorem dX7_perform_157 : decode cX7_perform 157 = .ok (.invokevirtual 45, 3) := by decide +kernel
theorem dX7_perform_160 : decode cX7_perform 160 = .ok (.aload_n 0, 1) := by decide +kernel
theorem dX7_perform_161 : decode cX7_perform 161 = .ok (.iload_n 2, 1) := by decide +kernel
theorem dX7_perform_162 : decode cX7_perform 162 = .ok (.iconst 1, 1) := by decide +kernel
theorem dX7_perform_163 : decode cX7_perform 163 = .ok (.invokevirtual 45, 3) := by decide +kernel
theorem dX7_perform_166 : decode cX7_perform 166 = .ok (.invokevirtual 78, 3) := by decide +kernel
theorem dX7_perform_169 : decode cX7_perform 169 = .ok (.lreturn, 1) := by decide +kernel
theorem dX7_perform_170 : decode cX7_perform 170 = .ok (.aload_n 3, 1) := by decide +kernel
theorem dX7_perform_171 : decode cX7_perform 171 = .ok (.getfield 71, 3) := by decide +kernel
theorem dX7_perform_174 : decode cX7_perform 174 = .ok (.aload_n 0, 1) := by decide +kernel
theorem dX7_perform_175 : decode cX7_perform 175 = .ok (.iload_n 2, 1) := by decide +kernel
theorem dX7_perform_176 : decode cX7_perform 176 = .ok (.iconst 0, 1) := by decide +kernel
theorem dX7_perform_177 : decode cX7_perform 177 = .ok (.invokevirtual 45, 3) := by decide +kernel
theorem dX7_perform_180 : decode cX7_perform 180 = .ok (.aload_n 0, 1) := by decide +kernel
theorem dX7_perform_181 : decode cX7_perform 181 = .ok (.iload_n 2, 1) := by decide +kernel
theorem dX7_perform_182 : decode cX7_perform 182 = .ok (.iconst 1, 1) := by decide +kernel
theorem dX7_perform_183 : decode cX7_perform 183 = .ok (.invokevirtual 45, 3) := by decide +kernel
theorem dX7_perform_186 : decode cX7_perform 186 = .ok (.invokestatic 82, 3) := by decide +kernel
theorem dX7_perform_189 : decode cX7_perform 189 = .ok (.ifCond .eq 7, 3) := by decide +kernel
theorem dX7_perform_196 : decode cX7_perform 196 = .ok (.lconst 0, 1) := by decide +kernel
theorem dX7_perform_197 : decode cX7_perform 197 = .ok (.lreturn, 1) := by decide +kernel
theorem dX7_perform_192 : decode cX7_perform 192 = .ok (.lconst 1, 1) := by decide +kernel
theorem dX7_perform_193 : decode cX7_perform 193 = .ok (.goto 4, 3) := by decide +kernel
theorem dX7_perform_198 : decode cX7_perform 198 = .ok (.aload_n 0, 1) := by decide +kernel
theorem dX7_perform_199 : decode cX7_perform 199 = .ok (.aload_n 3, 1) := by decide +kernel
theorem dX7_perform_200 : decode cX7_perform 200 = .ok (.iload_n 2, 1) := by decide +kernel
theorem dX7_perform_201 : decode cX7_perform 201 = .ok (.invokevirtual 86, 3) := by decide +kernel
theorem dX7_perform_204 : decode cX7_perform 204 = .ok (.lreturn, 1) := by decide +kernel
theorem dX7_perform_205 : decode cX7_perform 205 = .ok (.aload_n 0, 1) := by decide +kernel
theorem dX7_perform_206 : decode cX7_perform 206 = .ok (.aload_n 3, 1) := by decide +kernel
theorem dX7_perform_207 : decode cX7_perform 207 = .ok (.iload_n 2, 1) := by decide +kernel
theorem dX7_perform_208 : decode cX7_perform 208 = .ok (.invokevirtual 90, 3) := by decide +kernel
theorem dX7_perform_211 : decode cX7_perform 211 = .ok (.lreturn, 1) := by decide +kernel
theorem dX7_perform_212 : decode cX7_perform 212 = .ok (.aload_n 0, 1) := by decide +kernel
theorem dX7_perform_213 : decode cX7_perform 213 = .ok (.aload_n 3, 1) := by decide +kernel
theorem dX7_perform_214 : decode cX7_perform 214 = .ok (.iload_n 2, 1) := by decide +kernel
theorem dX7_perform_215 : decode cX7_perform 215 = .ok (.invokevirtual 93, 3) := by decide +kernel
theorem dX7_perform_218 : decode cX7_perform 218 = .ok (.lreturn, 1) := by decide +kernel
theorem dX7_perform_219 : decode cX7_perform 219 = .ok (.aload_n 0, 1) := by decide +kernel
theorem dX7_perform_220 : decode cX7_perform 220 = .ok (.aload_n 3, 1) := by decide +kernel
theorem dX7_perform_221 : decode cX7_perform 221 = .ok (.iload_n 2, 1) := by decide +kernel
theorem dX7_perform_222 : decode cX7_perform 222 = .ok (.invokevirtual 96, 3) := by decide +kernel
theorem dX7_perform_225 : decode cX7_perform 225 = .ok (.lreturn, 1) := by decide +kernel
theorem dX7_perform_226 : decode cX7_perform 226 = .ok (.aload_n 0, 1) := by decide +kernel
theorem dX7_perform_227 : decode cX7_perform 227 = .ok (.aload_n 3, 1) := by decide +kernel
theorem dX7_perform_228 : decode cX7_perform 228 = .ok (.iload_n 2, 1) := by decide +kernel
theorem dX7_perform_229 : decode cX7_perform 229 = .ok (.invokevirtual 99, 3) := by decide +kernel
theorem dX7_perform_232 : decode cX7_perform 232 = .ok (.lreturn, 1) := by decide +kernel
theorem dX7_perform_233 : decode cX7_perform 233 = .ok (.aload_n 0, 1) := by decide +kernel
theorem dX7_perform_234 : decode cX7_perform 234 = .ok (.aload_n 3, 1) := by decide +kernel
theorem dX7_perform_235 : decode cX7_perform 235 = .ok (.iload_n 2, 1) := by decide +kernel
theorem dX7_perform_236 : decode cX7_perform 236 = .ok (.invokevirtual 102, 3) := by decide +kernel
theorem dX7_perform_239 : decode cX7_perform 239 = .ok (.lreturn, 1) := by decide +kernel
theorem dX7_perform_240 : decode cX7_perform 240 = .ok (.aload_n 0, 1) := by decide +kernel
theorem dX7_perform_241 : decode cX7_perform 241 = .ok (.aload_n 3, 1) := by decide +kernel
theorem dX7_perform_242 : decode cX7_perform 242 = .ok (.iload_n 2, 1) := by decide +kernel
theorem dX7_perform_243 : decode cX7_perform 243 = .ok (.invokevirtual 105, 3) := by decide +kernel
theorem dX7_perform_246 : decode cX7_perform 246 = .ok (.lreturn, 1) := by decide +kernel
theorem dX7_perform_247 : decode cX7_perform 247 = .ok (.aload_n 0, 1) := by decide +kernel
theorem dX7_perform_248 : decode cX7_perform 248 = .ok (.aload_n 3, 1) := by decide +kernel
theorem dX7_perform_249 : decode cX7_perform 249 = .ok (.iload_n 2, 1) := by decide +kernel
theorem dX7_perform_250 : decode cX7_perform 250 = .ok (.invokevirtual 108, 3) := by decide +kernel
theorem dX7_perform_253 : decode cX7_perform 253 = .ok (.lreturn, 1) := by decide +kernel
theorem dX7_perform_254 : decode cX7_perform 254 = .ok (.aload_n 0, 1) := by decide +kernel
theorem dX7_perform_255 : decode cX7_perform 255 = .ok (.aload_n 3, 1) := by decide +kernel
theorem dX7_perform_256 : decode cX7_perform 256 = .ok (.iload_n 2, 1) := by decide +kernel
theorem dX7_perform_257 : decode cX7_perform 257 = .ok (.invokevirtual 111, 3) := by decide +kernel
theorem dX7_perform_260 : decode cX7_perform 260 = .ok (.lreturn, 1) := by decide +kernel
theorem dX7_perform_261 : decode cX7_perform 261 = .ok (.aload_n 0, 1) := by decide +kernel
theorem dX7_perform_262 : decode cX7_perform 262 = .ok (.aload_n 3, 1) := by decide +kernel
theorem dX7_perform_263 : decode cX7_perform 263 = .ok (.iload_n 2, 1) := by decide +kernel
theorem dX7_perform_264 : decode cX7_perform 264 = .ok (.invokevirtual 114, 3) := by decide +kernel
theorem dX7_perform_267 : decode cX7_perform 267 = .ok (.lreturn, 1) := by decide +kernel
def f_X7_perform : Nat → Nat → Int32 → Int32 → wS → Option ((Int64) × wS)
  | 0, _, _, _, _ => none
  | d + 1, o, p1, p2, S => 
  o_gR 7 6 o S fun x1 =>
  o_cs x1 (none) (fun a1 =>
  o_ck (s_K S a1 = 2) (o_call (f_X1_at a1 p1 S) fun x2 S1 =>
  o_cs x2 (o_ck (s_K S1 o = 7) (o_call (f_X7_spent o p1 S1) fun x30 S23 =>
  some (x30, S23))) (fun a2 =>
  if 40 < p2 then (
  o_ck (s_K S1 o = 7) (o_call (f_X7_spent o p1 S1) fun x3 S2 =>
  some (x3, S2))) else (
  o_gI 7 8 o S1 fun x4 =>
  if x4 = 2000 then (
  o_ck (s_K S1 o = 7) (o_call (f_X7_spent o p1 S1) fun x29 S22 =>
  some (x29, S22))) else (
  o_gI 7 8 o S1 fun x5 =>
  o_pI 7 8 o (x5 + (1 : Int32)) S1 fun S3 =>
  o_gI 1 0 a2 S3 fun x6 =>
  if x6 = 6 then (
  o_gI 1 1 a2 S3 fun x7 =>
  o_ck (s_K S3 o = 7) (o_call (f_X7_taken o p2 0 S3) fun x8 S4 =>
  o_ck (s_K S4 o = 7) (o_call (f_X7_taken o p2 1 S4) fun x9 S5 =>
  o_cP (f_X7_sum x7 x8 x9) fun x10 =>
  some (x10, S5)))) else (
  if x6 = 7 then (
  o_ck (s_K S3 o = 7) (o_call (f_X7_taken o p2 0 S3) fun x11 S6 =>
  o_ck (s_K S6 o = 7) (o_call (f_X7_taken o p2 1 S6) fun x12 S7 =>
  o_ck (s_K S7 o = 7) (o_call (f_X7_quotient o a2 x11 x12 S7) fun x13 S8 =>
  some (x13, S8))))) else (
  if x6 = 8 then (
  o_gI 1 1 a2 S3 fun x14 =>
  o_ck (s_K S3 o = 7) (o_call (f_X7_taken o p2 0 S3) fun x15 S9 =>
  o_ck (s_K S9 o = 7) (o_call (f_X7_taken o p2 1 S9) fun x16 S10 =>
  o_cP (f_X7_isAbove x14 x15 x16) fun x17 =>
  if x17 = 0 then (
  some (0, S10)) else (
  some (1, S10))))) else (
  if x6 = 11 ∨ x6 = 12 ∨ x6 = 13 ∨ x6 = 14 then (
  o_ck (s_K S3 o = 7) (o_call (f_X7_arrange (f_X7_perform d) o a2 p2 S3) fun x18 S11 =>
  some (x18, S11))) else (
  if x6 = 15 then (
  o_ck (s_K S3 o = 7) (o_call (f_X7_filter (f_X7_perform d) o a2 p2 S3) fun x19 S12 =>
  some (x19, S12))) else (
  if x6 = 16 then (
  o_ck (s_K S3 o = 7) (o_call (f_X7_fold (f_X7_perform d) o a2 p2 S3) fun x20 S13 =>
  some (x20, S13))) else (
  if x6 = 17 then (
  o_ck (s_K S3 o = 7) (o_call (f_X7_thenOther (f_X7_perform d) o a2 p2 S3) fun x21 S14 =>
  some (x21, S14))) else (
  if x6 = 18 then (
  o_ck (s_K S3 o = 7) (o_call (f_X7_guard (f_X7_perform d) o a2 p2 S3) fun x22 S15 =>
  some (x22, S15))) else (
  if x6 = 19 then (
  o_ck (s_K S3 o = 7) (o_call (f_X7_catchFailure (f_X7_perform d) o a2 p2 S3) fun x23 S16 =>
  some (x23, S16))) else (
  if x6 = 20 then (
  o_ck (s_K S3 o = 7) (o_call (f_X7_doAtLast (f_X7_perform d) o a2 p2 S3) fun x24 S17 =>
  some (x24, S17))) else (
  if x6 = 21 then (
  o_ck (s_K S3 o = 7) (o_call (f_X7_loop (f_X7_perform d) o a2 p2 S3) fun x25 S18 =>
  some (x25, S18))) else (
  if x6 = 22 then (
  o_ck (s_K S3 o = 7) (o_call (f_X7_widen (f_X7_perform d) o a2 p2 S3) fun x26 S19 =>
  some (x26, S19))) else (
  if x6 = 9 ∨ x6 = 10 then (
  o_ck (s_K S3 o = 7) (o_call (f_X7_act o a2 p2 S3) fun x27 S20 =>
  some (x27, S20))) else (
  o_ck (s_K S3 o = 7) (o_call (f_X7_act o a2 p2 S3) fun x28 S21 =>
  some (x28, S21))))))))))))))))))))
set_option maxHeartbeats 4000000 in
set_option maxRecDepth 100000 in
theorem c_X7_perform {l : Launch} {D : va_G} {Y : Nat → ClassId} {aR : Nat → Nat} {A : Nat → Prop} : ∀ (d : Nat) (o : Nat) (p1 : Int32) (p2 : Int32) (S : wS) (r : Int64) (S' : wS), f_X7_perform d o p1 p2 S = some (r, S') → jq_S l D Y aR A yX7_perform cX7_perform 4 (some .long) (40 + 2 * d) (1000 + 100 * d) [.ref o, .int p1, .int p2] S (some (.long r)) S' := by
  intro d
  induction d with
  | zero =>
    intro o p1 p2 S r S' hf
    cases hf
  | succ d ih =>
    intro o p1 p2 S r S' hf
    rw [f_X7_perform.eq_2] at hf
    refine jq_enterS (by decide) (Nat.le_of_ble_eq_true rfl) fun p e s m args below meth c ls H locs hX hJ hl => ?_
    have hl : lv_has ls 4 [(0, .ref o), (1, .int p1), (2, .int p2)] := hl
    have hx := hX.1
    have hb := hX.2.1
    have hm := hX.2.2.1
    have ho := hX.2.2.2.1
    have ht := hX.2.2.2.2.1
    have hn := hX.2.2.2.2.2.1.2.1
    refine lv_aload_n hx hb dX7_perform_0 rfl (lv_at hl 0 rfl) ?_
    replace hf := o_gR_e hf
    obtain ⟨hk1, x1, hx1, hf⟩ := hf
    refine gf_X7_handles hX hJ hk1 hx1 qw76 dX7_perform_1 ?_
    refine lv_iload_n hx hb dX7_perform_4 rfl (lv_at hl 1 rfl) ?_
    replace hf := o_cs_e hf
    rcases hf with ⟨hr1, hf⟩ | ⟨a1, hr1, hf⟩
    · subst hr1
      cases hf
    · subst hr1
      replace hf := o_ck_e hf
      obtain ⟨hk2, hf⟩ := hf
      replace hf := o_call_e hf
      obtain ⟨x2, S1, hq1, hf⟩ := hf
      refine jq_doS hX hJ (jq_okVN (As := [.int p1]) (rest := []) hx hb hm ho ht hn (wJ.recv hX hJ (by rw [hk2]; decide) (wE_X1 hk2) rfl) qn535 qw323 qs13 qw324 qw3 hy_X1_at rfl hl.1 (Nat.le_of_ble_eq_true rfl) dX7_perform_5) (c_X1_at hq1) (by omega) (by omega) (fun H locs hJ' => ?_)
      clear hJ
      have hJ := hJ'
      clear hJ'
      replace hf := o_cs_e hf
      rcases hf with ⟨hr2, hf⟩ | ⟨a2, hr2, hf⟩
      · subst hr2
        refine lv_astore_nN (lv' := [(3, .null), (0, .ref o), (1, .int p1), (2, .int p2)]) hx hb dX7_perform_8 rfl hl (by decide) rfl (fun ls hl' => ?_)
        clear hl
        have hl := hl'
        clear hl'
        refine lv_aload_nN hx hb dX7_perform_9 rfl (lv_at hl 0 rfl) ?_
        refine lv_ifnullN (tgt := 29) hx hb dX7_perform_10 (by decide) ?_
        refine lv_aload_n hx hb dX7_perform_29 rfl (lv_at hl 1 rfl) ?_
        refine lv_iload_n hx hb dX7_perform_30 rfl (lv_at hl 2 rfl) ?_
        replace hf := o_ck_e hf
        obtain ⟨hk29, hf⟩ := hf
        replace hf := o_call_e hf
        obtain ⟨x30, S23, hq24, hf⟩ := hf
        refine jq_doS hX hJ (jq_okV (As := [.int p1]) (rest := []) hx hb hm ho ht (wJ.recv hX hJ (by rw [hk29]; decide) (wE_X7 hk29) rfl) qw536 qw538 qs46 qw539 qw5 hy_X7_spent rfl hl.1 (Nat.le_of_ble_eq_true rfl) dX7_perform_31) (c_X7_spent hq24) (by omega) (by omega) (fun H locs hJ' => ?_)
        clear hJ
        have hJ := hJ'
        clear hJ'
        obtain ⟨rfl, rfl⟩ := Prod.mk.inj (Option.some.inj hf)
        exact jq_lret hX hJ.2.2 dX7_perform_34 ⟨rfl, rfl, rfl, hJ.1, hJ.2.1⟩
      · subst hr2
        refine lv_astore_n (lv' := [(3, .ref a2), (0, .ref o), (1, .int p1), (2, .int p2)]) hx hb dX7_perform_8 rfl hl (by decide) rfl (fun ls hl' => ?_)
        clear hl
        have hl := hl'
        clear hl'
        refine lv_aload_n hx hb dX7_perform_9 rfl (lv_at hl 0 rfl) ?_
        refine lv_ifnull hx hb dX7_perform_10 ?_
        refine lv_iload_n hx hb dX7_perform_13 rfl (lv_at hl 3 rfl) ?_
        refine lv_bipush (v := 40) hx hb dX7_perform_14 (by decide) ?_
        refine lv_icmp_gt (tgt := 29) hx hb dX7_perform_16 (by decide) (fun c1 => ?_) (fun c1 => ?_)
        · replace hf := o_t hf c1
          refine lv_aload_n hx hb dX7_perform_29 rfl (lv_at hl 1 rfl) ?_
          refine lv_iload_n hx hb dX7_perform_30 rfl (lv_at hl 2 rfl) ?_
          replace hf := o_ck_e hf
          obtain ⟨hk3, hf⟩ := hf
          replace hf := o_call_e hf
          obtain ⟨x3, S2, hq2, hf⟩ := hf
          refine jq_doS hX hJ (jq_okV (As := [.int p1]) (rest := []) hx hb hm ho ht (wJ.recv hX hJ (by rw [hk3]; decide) (wE_X7 hk3) rfl) qw536 qw538 qs46 qw539 qw5 hy_X7_spent rfl hl.1 (Nat.le_of_ble_eq_true rfl) dX7_perform_31) (c_X7_spent hq2) (by omega) (by omega) (fun H locs hJ' => ?_)
          clear hJ
          have hJ := hJ'
          clear hJ'
          obtain ⟨rfl, rfl⟩ := Prod.mk.inj (Option.some.inj hf)
          exact jq_lret hX hJ.2.2 dX7_perform_34 ⟨rfl, rfl, rfl, hJ.1, hJ.2.1⟩
        · replace hf := o_f hf c1
          refine lv_aload_n hx hb dX7_perform_19 rfl (lv_at hl 1 rfl) ?_
          replace hf := o_gI_e hf
          obtain ⟨hk4, x4, hx4, hf⟩ := hf
          refine gf_X7_steps hX hJ hk4 hx4 qw79 dX7_perform_20 ?_
          refine lv_sipush (v := 2000) hx hb dX7_perform_23 (by decide) ?_
          refine lv_icmp_ne (tgt := 35) hx hb dX7_perform_26 (by decide) (fun c2 => ?_) (fun c2 => ?_)
          · replace hf := o_f hf c2
            refine lv_aload_n hx hb dX7_perform_35 rfl (lv_at hl 1 rfl) ?_
            refine lv_dup hx hb dX7_perform_36 rfl ?_
            replace hf := o_gI_e hf
            obtain ⟨hk5, x5, hx5, hf⟩ := hf
            refine gf_X7_steps hX hJ hk5 hx5 qw79 dX7_perform_37 ?_
            refine lv_iconst (v := 1) hx hb dX7_perform_40 (by decide) ?_
            refine lv_iadd hx hb dX7_perform_41 ?_
            replace hf := o_pI_e hf
            obtain ⟨hk27, S3, hS3, hf⟩ := hf
            refine pf_X7_steps hX hJ hk27 hS3 qw79 dX7_perform_42 (fun H locs hJ' => ?_)
            clear hJ
            have hJ := hJ'
            clear hJ'
            refine lv_aload_n hx hb dX7_perform_45 rfl (lv_at hl 0 rfl) ?_
            replace hf := o_gI_e hf
            obtain ⟨hk6, x6, hx6, hf⟩ := hf
            refine gn_X0_sort hX hJ hk6 hx6 qn272 dX7_perform_46 ?_
            by_cases c3 : x6 = 6
            · replace hf := o_t hf c3
              refine lv_tableIn (off := 83) (tgt := 132) hx hb dX7_perform_49 (by rcases c3 with rfl <;> decide) (by rcases c3 with rfl <;> decide) (by rcases c3 with rfl <;> rfl) (by decide) ?_
              refine lv_aload_n hx hb dX7_perform_132 rfl (lv_at hl 0 rfl) ?_
              replace hf := o_gI_e hf
              obtain ⟨hk7, x7, hx7, hf⟩ := hf
              refine gn_X0_a hX hJ hk7 hx7 qn275 dX7_perform_133 ?_
              refine lv_aload_n hx hb dX7_perform_136 rfl (lv_at hl 1 rfl) ?_
              refine lv_iload_n hx hb dX7_perform_137 rfl (lv_at hl 3 rfl) ?_
              refine lv_iconst (v := 0) hx hb dX7_perform_138 (by decide) ?_
              replace hf := o_ck_e hf
              obtain ⟨hk8, hf⟩ := hf
              replace hf := o_call_e hf
              obtain ⟨x8, S4, hq3, hf⟩ := hf
              refine jq_doS hX hJ (jq_okV (As := [.int p2, .int 0]) (rest := [.int x7]) hx hb hm ho ht (wJ.recv hX hJ (by rw [hk8]; decide) (wE_X7 hk8) rfl) qw540 qw542 qs47 qw543 qw5 hy_X7_taken rfl hl.1 (Nat.le_of_ble_eq_true rfl) dX7_perform_139) (c_X7_taken hq3) (by omega) (by omega) (fun H locs hJ' => ?_)
              clear hJ
              have hJ := hJ'
              clear hJ'
              refine lv_aload_n hx hb dX7_perform_142 rfl (lv_at hl 1 rfl) ?_
              refine lv_iload_n hx hb dX7_perform_143 rfl (lv_at hl 3 rfl) ?_
              refine lv_iconst (v := 1) hx hb dX7_perform_144 (by decide) ?_
              replace hf := o_ck_e hf
              obtain ⟨hk9, hf⟩ := hf
              replace hf := o_call_e hf
              obtain ⟨x9, S5, hq4, hf⟩ := hf
              refine jq_doS hX hJ (jq_okV (As := [.int p2, .int 1]) (rest := [.long x8, .int x7]) hx hb hm ho ht (wJ.recv hX hJ (by rw [hk9]; decide) (wE_X7 hk9) rfl) qw540 qw542 qs47 qw543 qw5 hy_X7_taken rfl hl.1 (Nat.le_of_ble_eq_true rfl) dX7_perform_145) (c_X7_taken hq4) (by omega) (by omega) (fun H locs hJ' => ?_)
              clear hJ
              have hJ := hJ'
              clear hJ'
              replace hf := o_cP_e hf
              obtain ⟨x10, hq5, hf⟩ := hf
              refine jq_doPS hX hJ (jq_okS (As := [.int x7, .long x8, .long x9]) (rest := []) hx hb hm ho ht qw544 qw545 qw546 qw5 hy_X7_sum rfl hl.1 (Nat.le_of_ble_eq_true rfl) dX7_perform_148) (c_X7_sum hq5) (by omega) (by omega) (fun locs hJ' => ?_)
              clear hJ
              have hJ := hJ'
              clear hJ'
              obtain ⟨rfl, rfl⟩ := Prod.mk.inj (Option.some.inj hf)
              exact jq_lret hX hJ.2.2 dX7_perform_151 ⟨rfl, rfl, rfl, hJ.1, hJ.2.1⟩
            replace hf := o_f hf c3
            by_cases c4 : x6 = 7
            · replace hf := o_t hf c4
              refine lv_tableIn (off := 103) (tgt := 152) hx hb dX7_perform_49 (by rcases c4 with rfl <;> decide) (by rcases c4 with rfl <;> decide) (by rcases c4 with rfl <;> rfl) (by decide) ?_
              refine lv_aload_n hx hb dX7_perform_152 rfl (lv_at hl 1 rfl) ?_
              refine lv_aload_n hx hb dX7_perform_153 rfl (lv_at hl 0 rfl) ?_
              refine lv_aload_n hx hb dX7_perform_154 rfl (lv_at hl 1 rfl) ?_
              refine lv_iload_n hx hb dX7_perform_155 rfl (lv_at hl 3 rfl) ?_
              refine lv_iconst (v := 0) hx hb dX7_perform_156 (by decide) ?_
              replace hf := o_ck_e hf
              obtain ⟨hk10, hf⟩ := hf
              replace hf := o_call_e hf
              obtain ⟨x11, S6, hq6, hf⟩ := hf
              refine jq_doS hX hJ (jq_okV (As := [.int p2, .int 0]) (rest := [.ref a2, .ref o]) hx hb hm ho ht (wJ.recv hX hJ (by rw [hk10]; decide) (wE_X7 hk10) rfl) qw540 qw542 qs47 qw543 qw5 hy_X7_taken rfl hl.1 (Nat.le_of_ble_eq_true rfl) dX7_perform_157) (c_X7_taken hq6) (by omega) (by omega) (fun H locs hJ' => ?_)
              clear hJ
              have hJ := hJ'
              clear hJ'
              refine lv_aload_n hx hb dX7_perform_160 rfl (lv_at hl 1 rfl) ?_
              refine lv_iload_n hx hb dX7_perform_161 rfl (lv_at hl 3 rfl) ?_
              refine lv_iconst (v := 1) hx hb dX7_perform_162 (by decide) ?_
              replace hf := o_ck_e hf
              obtain ⟨hk11, hf⟩ := hf
              replace hf := o_call_e hf
              obtain ⟨x12, S7, hq7, hf⟩ := hf
              refine jq_doS hX hJ (jq_okV (As := [.int p2, .int 1]) (rest := [.long x11, .ref a2, .ref o]) hx hb hm ho ht (wJ.recv hX hJ (by rw [hk11]; decide) (wE_X7 hk11) rfl) qw540 qw542 qs47 qw543 qw5 hy_X7_taken rfl hl.1 (Nat.le_of_ble_eq_true rfl) dX7_perform_163) (c_X7_taken hq7) (by omega) (by omega) (fun H locs hJ' => ?_)
              clear hJ
              have hJ := hJ'
              clear hJ'
              replace hf := o_ck_e hf
              obtain ⟨hk12, hf⟩ := hf
              replace hf := o_call_e hf
              obtain ⟨x13, S8, hq8, hf⟩ := hf
              refine jq_doS hX hJ (jq_okV (As := [.ref a2, .long x11, .long x12]) (rest := []) hx hb hm ho ht (wJ.recv hX hJ (by rw [hk12]; decide) (wE_X7 hk12) rfl) qw561 qw563 qs51 qw564 qw5 hy_X7_quotient rfl hl.1 (Nat.le_of_ble_eq_true rfl) dX7_perform_166) (c_X7_quotient hq8) (by omega) (by omega) (fun H locs hJ' => ?_)
              clear hJ
              have hJ := hJ'
              clear hJ'
              obtain ⟨rfl, rfl⟩ := Prod.mk.inj (Option.some.inj hf)
              exact jq_lret hX hJ.2.2 dX7_perform_169 ⟨rfl, rfl, rfl, hJ.1, hJ.2.1⟩
            replace hf := o_f hf c4
            by_cases c5 : x6 = 8
            · replace hf := o_t hf c5
              refine lv_tableIn (off := 121) (tgt := 170) hx hb dX7_perform_49 (by rcases c5 with rfl <;> decide) (by rcases c5 with rfl <;> decide) (by rcases c5 with rfl <;> rfl) (by decide) ?_
              refine lv_aload_n hx hb dX7_perform_170 rfl (lv_at hl 0 rfl) ?_
              replace hf := o_gI_e hf
              obtain ⟨hk13, x14, hx14, hf⟩ := hf
              refine gn_X0_a hX hJ hk13 hx14 qn275 dX7_perform_171 ?_
              refine lv_aload_n hx hb dX7_perform_174 rfl (lv_at hl 1 rfl) ?_
              refine lv_iload_n hx hb dX7_perform_175 rfl (lv_at hl 3 rfl) ?_
              refine lv_iconst (v := 0) hx hb dX7_perform_176 (by decide) ?_
              replace hf := o_ck_e hf
              obtain ⟨hk14, hf⟩ := hf
              replace hf := o_call_e hf
              obtain ⟨x15, S9, hq9, hf⟩ := hf
              refine jq_doS hX hJ (jq_okV (As := [.int p2, .int 0]) (rest := [.int x14]) hx hb hm ho ht (wJ.recv hX hJ (by rw [hk14]; decide) (wE_X7 hk14) rfl) qw540 qw542 qs47 qw543 qw5 hy_X7_taken rfl hl.1 (Nat.le_of_ble_eq_true rfl) dX7_perform_177) (c_X7_taken hq9) (by omega) (by omega) (fun H locs hJ' => ?_)
              clear hJ
              have hJ := hJ'
              clear hJ'
              refine lv_aload_n hx hb dX7_perform_180 rfl (lv_at hl 1 rfl) ?_
              refine lv_iload_n hx hb dX7_perform_181 rfl (lv_at hl 3 rfl) ?_
              refine lv_iconst (v := 1) hx hb dX7_perform_182 (by decide) ?_
              replace hf := o_ck_e hf
              obtain ⟨hk15, hf⟩ := hf
              replace hf := o_call_e hf
              obtain ⟨x16, S10, hq10, hf⟩ := hf
              refine jq_doS hX hJ (jq_okV (As := [.int p2, .int 1]) (rest := [.long x15, .int x14]) hx hb hm ho ht (wJ.recv hX hJ (by rw [hk15]; decide) (wE_X7 hk15) rfl) qw540 qw542 qs47 qw543 qw5 hy_X7_taken rfl hl.1 (Nat.le_of_ble_eq_true rfl) dX7_perform_183) (c_X7_taken hq10) (by omega) (by omega) (fun H locs hJ' => ?_)
              clear hJ
              have hJ := hJ'
              clear hJ'
              replace hf := o_cP_e hf
              obtain ⟨x17, hq11, hf⟩ := hf
              refine jq_doPS hX hJ (jq_okS (As := [.int x14, .long x15, .long x16]) (rest := []) hx hb hm ho ht qw578 qw579 qw580 qw5 hy_X7_isAbove rfl hl.1 (Nat.le_of_ble_eq_true rfl) dX7_perform_186) (c_X7_isAbove hq11) (by omega) (by omega) (fun locs hJ' => ?_)
              clear hJ
              have hJ := hJ'
              clear hJ'
              refine lv_if_eq (tgt := 196) hx hb dX7_perform_189 (by decide) (fun c6 => ?_) (fun c6 => ?_)
              · replace hf := o_t hf c6
                refine lv_lconst (v := 0) hx hb dX7_perform_196 (by decide) ?_
                obtain ⟨rfl, rfl⟩ := Prod.mk.inj (Option.some.inj hf)
                exact jq_lret hX hJ.2.2 dX7_perform_197 ⟨rfl, rfl, rfl, hJ.1, hJ.2.1⟩
              · replace hf := o_f hf c6
                refine lv_lconst (v := 1) hx hb dX7_perform_192 (by decide) ?_
                refine lv_goto (tgt := 197) hx hb dX7_perform_193 (by decide) ?_
                obtain ⟨rfl, rfl⟩ := Prod.mk.inj (Option.some.inj hf)
                exact jq_lret hX hJ.2.2 dX7_perform_197 ⟨rfl, rfl, rfl, hJ.1, hJ.2.1⟩
            replace hf := o_f hf c5
            by_cases c7 : x6 = 11 ∨ x6 = 12 ∨ x6 = 13 ∨ x6 = 14
            · replace hf := o_t hf c7
              refine lv_tableIn (off := 149) (tgt := 198) hx hb dX7_perform_49 (by rcases c7 with rfl | rfl | rfl | rfl <;> decide) (by rcases c7 with rfl | rfl | rfl | rfl <;> decide) (by rcases c7 with rfl | rfl | rfl | rfl <;> rfl) (by decide) ?_
              refine lv_aload_n hx hb dX7_perform_198 rfl (lv_at hl 1 rfl) ?_
              refine lv_aload_n hx hb dX7_perform_199 rfl (lv_at hl 0 rfl) ?_
              refine lv_iload_n hx hb dX7_perform_200 rfl (lv_at hl 3 rfl) ?_
              replace hf := o_ck_e hf
              obtain ⟨hk16, hf⟩ := hf
              replace hf := o_call_e hf
              obtain ⟨x18, S11, hq12, hf⟩ := hf
              refine jq_doS hX hJ (jq_okV (As := [.ref a2, .int p2]) (rest := []) hx hb hm ho ht (wJ.recv hX hJ (by rw [hk16]; decide) (wE_X7 hk16) rfl) qw589 qw591 qs57 qw592 qw5 hy_X7_arrange rfl hl.1 (Nat.le_of_ble_eq_true rfl) dX7_perform_201) (c_X7_arrange ih (by omega) (by omega) hq12) (by omega) (by omega) (fun H locs hJ' => ?_)
              clear hJ
              have hJ := hJ'
              clear hJ'
              obtain ⟨rfl, rfl⟩ := Prod.mk.inj (Option.some.inj hf)
              exact jq_lret hX hJ.2.2 dX7_perform_204 ⟨rfl, rfl, rfl, hJ.1, hJ.2.1⟩
            replace hf := o_f hf c7
            by_cases c8 : x6 = 15
            · replace hf := o_t hf c8
              refine lv_tableIn (off := 156) (tgt := 205) hx hb dX7_perform_49 (by rcases c8 with rfl <;> decide) (by rcases c8 with rfl <;> decide) (by rcases c8 with rfl <;> rfl) (by decide) ?_
              refine lv_aload_n hx hb dX7_perform_205 rfl (lv_at hl 1 rfl) ?_
              refine lv_aload_n hx hb dX7_perform_206 rfl (lv_at hl 0 rfl) ?_
              refine lv_iload_n hx hb dX7_perform_207 rfl (lv_at hl 3 rfl) ?_
              replace hf := o_ck_e hf
              obtain ⟨hk17, hf⟩ := hf
              replace hf := o_call_e hf
              obtain ⟨x19, S12, hq13, hf⟩ := hf
              refine jq_doS hX hJ (jq_okV (As := [.ref a2, .int p2]) (rest := []) hx hb hm ho ht (wJ.recv hX hJ (by rw [hk17]; decide) (wE_X7 hk17) rfl) qw600 qw602 qs59 qw603 qw5 hy_X7_filter rfl hl.1 (Nat.le_of_ble_eq_true rfl) dX7_perform_208) (c_X7_filter ih (by omega) (by omega) hq13) (by omega) (by omega) (fun H locs hJ' => ?_)
              clear hJ
              have hJ := hJ'
              clear hJ'
              obtain ⟨rfl, rfl⟩ := Prod.mk.inj (Option.some.inj hf)
              exact jq_lret hX hJ.2.2 dX7_perform_211 ⟨rfl, rfl, rfl, hJ.1, hJ.2.1⟩
            replace hf := o_f hf c8
            by_cases c9 : x6 = 16
            · replace hf := o_t hf c9
              refine lv_tableIn (off := 163) (tgt := 212) hx hb dX7_perform_49 (by rcases c9 with rfl <;> decide) (by rcases c9 with rfl <;> decide) (by rcases c9 with rfl <;> rfl) (by decide) ?_
              refine lv_aload_n hx hb dX7_perform_212 rfl (lv_at hl 1 rfl) ?_
              refine lv_aload_n hx hb dX7_perform_213 rfl (lv_at hl 0 rfl) ?_
              refine lv_iload_n hx hb dX7_perform_214 rfl (lv_at hl 3 rfl) ?_
              replace hf := o_ck_e hf
              obtain ⟨hk18, hf⟩ := hf
              replace hf := o_call_e hf
              obtain ⟨x20, S13, hq14, hf⟩ := hf
              refine jq_doS hX hJ (jq_okV (As := [.ref a2, .int p2]) (rest := []) hx hb hm ho ht (wJ.recv hX hJ (by rw [hk18]; decide) (wE_X7 hk18) rfl) qw604 qw606 qs60 qw607 qw5 hy_X7_fold rfl hl.1 (Nat.le_of_ble_eq_true rfl) dX7_perform_215) (c_X7_fold ih (by omega) (by omega) hq14) (by omega) (by omega) (fun H locs hJ' => ?_)
              clear hJ
              have hJ := hJ'
              clear hJ'
              obtain ⟨rfl, rfl⟩ := Prod.mk.inj (Option.some.inj hf)
              exact jq_lret hX hJ.2.2 dX7_perform_218 ⟨rfl, rfl, rfl, hJ.1, hJ.2.1⟩
            replace hf := o_f hf c9
            by_cases c10 : x6 = 17
            · replace hf := o_t hf c10
              refine lv_tableIn (off := 170) (tgt := 219) hx hb dX7_perform_49 (by rcases c10 with rfl <;> decide) (by rcases c10 with rfl <;> decide) (by rcases c10 with rfl <;> rfl) (by decide) ?_
              refine lv_aload_n hx hb dX7_perform_219 rfl (lv_at hl 1 rfl) ?_
              refine lv_aload_n hx hb dX7_perform_220 rfl (lv_at hl 0 rfl) ?_
              refine lv_iload_n hx hb dX7_perform_221 rfl (lv_at hl 3 rfl) ?_
              replace hf := o_ck_e hf
              obtain ⟨hk19, hf⟩ := hf
              replace hf := o_call_e hf
              obtain ⟨x21, S14, hq15, hf⟩ := hf
              refine jq_doS hX hJ (jq_okV (As := [.ref a2, .int p2]) (rest := []) hx hb hm ho ht (wJ.recv hX hJ (by rw [hk19]; decide) (wE_X7 hk19) rfl) qw608 qw610 qs61 qw611 qw5 hy_X7_thenOther rfl hl.1 (Nat.le_of_ble_eq_true rfl) dX7_perform_222) (c_X7_thenOther ih (by omega) (by omega) hq15) (by omega) (by omega) (fun H locs hJ' => ?_)
              clear hJ
              have hJ := hJ'
              clear hJ'
              obtain ⟨rfl, rfl⟩ := Prod.mk.inj (Option.some.inj hf)
              exact jq_lret hX hJ.2.2 dX7_perform_225 ⟨rfl, rfl, rfl, hJ.1, hJ.2.1⟩
            replace hf := o_f hf c10
            by_cases c11 : x6 = 18
            · replace hf := o_t hf c11
              refine lv_tableIn (off := 177) (tgt := 226) hx hb dX7_perform_49 (by rcases c11 with rfl <;> decide) (by rcases c11 with rfl <;> decide) (by rcases c11 with rfl <;> rfl) (by decide) ?_
              refine lv_aload_n hx hb dX7_perform_226 rfl (lv_at hl 1 rfl) ?_
              refine lv_aload_n hx hb dX7_perform_227 rfl (lv_at hl 0 rfl) ?_
              refine lv_iload_n hx hb dX7_perform_228 rfl (lv_at hl 3 rfl) ?_
              replace hf := o_ck_e hf
              obtain ⟨hk20, hf⟩ := hf
              replace hf := o_call_e hf
              obtain ⟨x22, S15, hq16, hf⟩ := hf
              refine jq_doS hX hJ (jq_okV (As := [.ref a2, .int p2]) (rest := []) hx hb hm ho ht (wJ.recv hX hJ (by rw [hk20]; decide) (wE_X7 hk20) rfl) qw612 qw614 qs62 qw615 qw5 hy_X7_guard rfl hl.1 (Nat.le_of_ble_eq_true rfl) dX7_perform_229) (c_X7_guard ih (by omega) (by omega) hq16) (by omega) (by omega) (fun H locs hJ' => ?_)
              clear hJ
              have hJ := hJ'
              clear hJ'
              obtain ⟨rfl, rfl⟩ := Prod.mk.inj (Option.some.inj hf)
              exact jq_lret hX hJ.2.2 dX7_perform_232 ⟨rfl, rfl, rfl, hJ.1, hJ.2.1⟩
            replace hf := o_f hf c11
            by_cases c12 : x6 = 19
            · replace hf := o_t hf c12
              refine lv_tableIn (off := 184) (tgt := 233) hx hb dX7_perform_49 (by rcases c12 with rfl <;> decide) (by rcases c12 with rfl <;> decide) (by rcases c12 with rfl <;> rfl) (by decide) ?_
              refine lv_aload_n hx hb dX7_perform_233 rfl (lv_at hl 1 rfl) ?_
              refine lv_aload_n hx hb dX7_perform_234 rfl (lv_at hl 0 rfl) ?_
              refine lv_iload_n hx hb dX7_perform_235 rfl (lv_at hl 3 rfl) ?_
              replace hf := o_ck_e hf
              obtain ⟨hk21, hf⟩ := hf
              replace hf := o_call_e hf
              obtain ⟨x23, S16, hq17, hf⟩ := hf
              refine jq_doS hX hJ (jq_okV (As := [.ref a2, .int p2]) (rest := []) hx hb hm ho ht (wJ.recv hX hJ (by rw [hk21]; decide) (wE_X7 hk21) rfl) qw616 qw618 qs63 qw619 qw5 hy_X7_catchFailure rfl hl.1 (Nat.le_of_ble_eq_true rfl) dX7_perform_236) (c_X7_catchFailure ih (by omega) (by omega) hq17) (by omega) (by omega) (fun H locs hJ' => ?_)
              clear hJ
              have hJ := hJ'
              clear hJ'
              obtain ⟨rfl, rfl⟩ := Prod.mk.inj (Option.some.inj hf)
              exact jq_lret hX hJ.2.2 dX7_perform_239 ⟨rfl, rfl, rfl, hJ.1, hJ.2.1⟩
            replace hf := o_f hf c12
            by_cases c13 : x6 = 20
            · replace hf := o_t hf c13
              refine lv_tableIn (off := 191) (tgt := 240) hx hb dX7_perform_49 (by rcases c13 with rfl <;> decide) (by rcases c13 with rfl <;> decide) (by rcases c13 with rfl <;> rfl) (by decide) ?_
              refine lv_aload_n hx hb dX7_perform_240 rfl (lv_at hl 1 rfl) ?_
              refine lv_aload_n hx hb dX7_perform_241 rfl (lv_at hl 0 rfl) ?_
              refine lv_iload_n hx hb dX7_perform_242 rfl (lv_at hl 3 rfl) ?_
              replace hf := o_ck_e hf
              obtain ⟨hk22, hf⟩ := hf
              replace hf := o_call_e hf
              obtain ⟨x24, S17, hq18, hf⟩ := hf
              refine jq_doS hX hJ (jq_okV (As := [.ref a2, .int p2]) (rest := []) hx hb hm ho ht (wJ.recv hX hJ (by rw [hk22]; decide) (wE_X7 hk22) rfl) qw620 qw622 qs64 qw623 qw5 hy_X7_doAtLast rfl hl.1 (Nat.le_of_ble_eq_true rfl) dX7_perform_243) (c_X7_doAtLast ih (by omega) (by omega) hq18) (by omega) (by omega) (fun H locs hJ' => ?_)
              clear hJ
              have hJ := hJ'
              clear hJ'
              obtain ⟨rfl, rfl⟩ := Prod.mk.inj (Option.some.inj hf)
              exact jq_lret hX hJ.2.2 dX7_perform_246 ⟨rfl, rfl, rfl, hJ.1, hJ.2.1⟩
            replace hf := o_f hf c13
            by_cases c14 : x6 = 21
            · replace hf := o_t hf c14
              refine lv_tableIn (off := 198) (tgt := 247) hx hb dX7_perform_49 (by rcases c14 with rfl <;> decide) (by rcases c14 with rfl <;> decide) (by rcases c14 with rfl <;> rfl) (by decide) ?_
              refine lv_aload_n hx hb dX7_perform_247 rfl (lv_at hl 1 rfl) ?_
              refine lv_aload_n hx hb dX7_perform_248 rfl (lv_at hl 0 rfl) ?_
              refine lv_iload_n hx hb dX7_perform_249 rfl (lv_at hl 3 rfl) ?_
              replace hf := o_ck_e hf
              obtain ⟨hk23, hf⟩ := hf
              replace hf := o_call_e hf
              obtain ⟨x25, S18, hq19, hf⟩ := hf
              refine jq_doS hX hJ (jq_okV (As := [.ref a2, .int p2]) (rest := []) hx hb hm ho ht (wJ.recv hX hJ (by rw [hk23]; decide) (wE_X7 hk23) rfl) qw628 qw630 qs65 qw631 qw5 hy_X7_loop rfl hl.1 (Nat.le_of_ble_eq_true rfl) dX7_perform_250) (c_X7_loop ih (by omega) (by omega) hq19) (by omega) (by omega) (fun H locs hJ' => ?_)
              clear hJ
              have hJ := hJ'
              clear hJ'
              obtain ⟨rfl, rfl⟩ := Prod.mk.inj (Option.some.inj hf)
              exact jq_lret hX hJ.2.2 dX7_perform_253 ⟨rfl, rfl, rfl, hJ.1, hJ.2.1⟩
            replace hf := o_f hf c14
            by_cases c15 : x6 = 22
            · replace hf := o_t hf c15
              refine lv_tableIn (off := 205) (tgt := 254) hx hb dX7_perform_49 (by rcases c15 with rfl <;> decide) (by rcases c15 with rfl <;> decide) (by rcases c15 with rfl <;> rfl) (by decide) ?_
              refine lv_aload_n hx hb dX7_perform_254 rfl (lv_at hl 1 rfl) ?_
              refine lv_aload_n hx hb dX7_perform_255 rfl (lv_at hl 0 rfl) ?_
              refine lv_iload_n hx hb dX7_perform_256 rfl (lv_at hl 3 rfl) ?_
              replace hf := o_ck_e hf
              obtain ⟨hk24, hf⟩ := hf
              replace hf := o_call_e hf
              obtain ⟨x26, S19, hq20, hf⟩ := hf
              refine jq_doS hX hJ (jq_okV (As := [.ref a2, .int p2]) (rest := []) hx hb hm ho ht (wJ.recv hX hJ (by rw [hk24]; decide) (wE_X7 hk24) rfl) qw636 qw638 qs66 qw639 qw5 hy_X7_widen rfl hl.1 (Nat.le_of_ble_eq_true rfl) dX7_perform_257) (c_X7_widen ih (by omega) (by omega) hq20) (by omega) (by omega) (fun H locs hJ' => ?_)
              clear hJ
              have hJ := hJ'
              clear hJ'
              obtain ⟨rfl, rfl⟩ := Prod.mk.inj (Option.some.inj hf)
              exact jq_lret hX hJ.2.2 dX7_perform_260 ⟨rfl, rfl, rfl, hJ.1, hJ.2.1⟩
            replace hf := o_f hf c15
            by_cases c16 : x6 = 9 ∨ x6 = 10
            · replace hf := o_t hf c16
              refine lv_tableIn (off := 212) (tgt := 261) hx hb dX7_perform_49 (by rcases c16 with rfl | rfl <;> decide) (by rcases c16 with rfl | rfl <;> decide) (by rcases c16 with rfl | rfl <;> rfl) (by decide) ?_
              refine lv_aload_n hx hb dX7_perform_261 rfl (lv_at hl 1 rfl) ?_
              refine lv_aload_n hx hb dX7_perform_262 rfl (lv_at hl 0 rfl) ?_
              refine lv_iload_n hx hb dX7_perform_263 rfl (lv_at hl 3 rfl) ?_
              replace hf := o_ck_e hf
              obtain ⟨hk25, hf⟩ := hf
              replace hf := o_call_e hf
              obtain ⟨x27, S20, hq21, hf⟩ := hf
              refine jq_doS hX hJ (jq_okV (As := [.ref a2, .int p2]) (rest := []) hx hb hm ho ht (wJ.recv hX hJ (by rw [hk25]; decide) (wE_X7 hk25) rfl) qw643 qw645 qs67 qw646 qw5 hy_X7_act rfl hl.1 (Nat.le_of_ble_eq_true rfl) dX7_perform_264) (c_X7_act hq21) (by omega) (by omega) (fun H locs hJ' => ?_)
              clear hJ
              have hJ := hJ'
              clear hJ'
              obtain ⟨rfl, rfl⟩ := Prod.mk.inj (Option.some.inj hf)
              exact jq_lret hX hJ.2.2 dX7_perform_267 ⟨rfl, rfl, rfl, hJ.1, hJ.2.1⟩
            replace hf := o_f hf c16
            refine lv_tableOut (tgt := 261) hx hb dX7_perform_49 (by have e0 := sw_ne c3 (n := 6) (by decide); have e1 := sw_ne c4 (n := 7) (by decide); have e2 := sw_ne c5 (n := 8) (by decide); have e3 := sw_ne (fun z => c7 (Or.inl z)) (n := 11) (by decide); have e4 := sw_ne (fun z => c7 (Or.inr (Or.inl z))) (n := 12) (by decide); have e5 := sw_ne (fun z => c7 (Or.inr (Or.inr (Or.inl z)))) (n := 13) (by decide); have e6 := sw_ne (fun z => c7 (Or.inr (Or.inr (Or.inr z)))) (n := 14) (by decide); have e7 := sw_ne c8 (n := 15) (by decide); have e8 := sw_ne c9 (n := 16) (by decide); have e9 := sw_ne c10 (n := 17) (by decide); have e10 := sw_ne c11 (n := 18) (by decide); have e11 := sw_ne c12 (n := 19) (by decide); have e12 := sw_ne c13 (n := 20) (by decide); have e13 := sw_ne c14 (n := 21) (by decide); have e14 := sw_ne c15 (n := 22) (by decide); have e15 := sw_ne (fun z => c16 (Or.inl z)) (n := 9) (by decide); have e16 := sw_ne (fun z => c16 (Or.inr z)) (n := 10) (by decide); omega) (by decide) ?_
            refine lv_aload_n hx hb dX7_perform_261 rfl (lv_at hl 1 rfl) ?_
            refine lv_aload_n hx hb dX7_perform_262 rfl (lv_at hl 0 rfl) ?_
            refine lv_iload_n hx hb dX7_perform_263 rfl (lv_at hl 3 rfl) ?_
            replace hf := o_ck_e hf
            obtain ⟨hk26, hf⟩ := hf
            replace hf := o_call_e hf
            obtain ⟨x28, S21, hq22, hf⟩ := hf
            refine jq_doS hX hJ (jq_okV (As := [.ref a2, .int p2]) (rest := []) hx hb hm ho ht (wJ.recv hX hJ (by rw [hk26]; decide) (wE_X7 hk26) rfl) qw643 qw645 qs67 qw646 qw5 hy_X7_act rfl hl.1 (Nat.le_of_ble_eq_true rfl) dX7_perform_264) (c_X7_act hq22) (by omega) (by omega) (fun H locs hJ' => ?_)
            clear hJ
            have hJ := hJ'
            clear hJ'
            obtain ⟨rfl, rfl⟩ := Prod.mk.inj (Option.some.inj hf)
            exact jq_lret hX hJ.2.2 dX7_perform_267 ⟨rfl, rfl, rfl, hJ.1, hJ.2.1⟩
          · replace hf := o_t hf c2
            refine lv_aload_n hx hb dX7_perform_29 rfl (lv_at hl 1 rfl) ?_
            refine lv_iload_n hx hb dX7_perform_30 rfl (lv_at hl 2 rfl) ?_
            replace hf := o_ck_e hf
            obtain ⟨hk28, hf⟩ := hf
            replace hf := o_call_e hf
            obtain ⟨x29, S22, hq23, hf⟩ := hf
            refine jq_doS hX hJ (jq_okV (As := [.int p1]) (rest := []) hx hb hm ho ht (wJ.recv hX hJ (by rw [hk28]; decide) (wE_X7 hk28) rfl) qw536 qw538 qs46 qw539 qw5 hy_X7_spent rfl hl.1 (Nat.le_of_ble_eq_true rfl) dX7_perform_31) (c_X7_spent hq23) (by omega) (by omega) (fun H locs hJ' => ?_)
            clear hJ
            have hJ := hJ'
            clear hJ'
            obtain ⟨rfl, rfl⟩ := Prod.mk.inj (Option.some.inj hf)
            exact jq_lret hX hJ.2.2 dX7_perform_34 ⟨rfl, rfl, rfl, hJ.1, hJ.2.1⟩
