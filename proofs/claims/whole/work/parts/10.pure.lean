theorem dX2_isLane_0 : decode cX2_isLane 0 = .ok (.iload_n 0, 1) := by decide +kernel
theorem dX2_isLane_1 : decode cX2_isLane 1 = .ok (.ifCond .lt 13, 3) := by decide +kernel
theorem dX2_isLane_14 : decode cX2_isLane 14 = .ok (.iconst 0, 1) := by decide +kernel
theorem dX2_isLane_15 : decode cX2_isLane 15 = .ok (.ireturn, 1) := by decide +kernel
theorem dX2_isLane_4 : decode cX2_isLane 4 = .ok (.iload_n 0, 1) := by decide +kernel
theorem dX2_isLane_5 : decode cX2_isLane 5 = .ok (.bipush 7, 2) := by decide +kernel
theorem dX2_isLane_7 : decode cX2_isLane 7 = .ok (.if_icmp .gt 7, 3) := by decide +kernel
theorem dX2_isLane_10 : decode cX2_isLane 10 = .ok (.iconst 1, 1) := by decide +kernel
theorem dX2_isLane_11 : decode cX2_isLane 11 = .ok (.goto 4, 3) := by decide +kernel
theorem hy_X2_isLane : yX2_isLane.cls ≠ "java/lang/invoke/MethodHandle" ∧ yX2_isLane.cls ≠ "java/lang/invoke/VarHandle" ∧ (parseMethodDescriptor yX2_isLane.desc).map (fun d => d.parameters.length) = some 1 := ⟨by decide, by decide, by decide +kernel⟩
def f_X2_isLane (p1 : Int32) : Option (Int32) :=
  if p1 < 0 then (
  some 0) else (
  if 7 < p1 then (
  some 0) else (
  some 1))
set_option maxHeartbeats 4000000 in
set_option maxRecDepth 100000 in
theorem c_X2_isLane {l : Launch} {D : va_G} {Y : Nat → ClassId} {aR : Nat → Nat} {A : Nat → Prop} {p1 : Int32} {r : Int32} (hf : f_X2_isLane p1 = some r) : jq_P l D Y aR A yX2_isLane cX2_isLane 1 (some .boolean) 0 0 [.int p1] (some (.int r)) := by
  unfold f_X2_isLane at hf
  refine jq_enterP (by decide) (Nat.le_of_ble_eq_true rfl) fun p e s m args below meth c ls H locs hX hS hl => ?_
  have hl : lv_has ls 1 [(0, .int p1)] := hl
  have hx := hX.1
  have hb := hX.2.1
  have hm := hX.2.2.1
  have ho := hX.2.2.2.1
  have ht := hX.2.2.2.2.1
  have hn := hX.2.2.2.2.2.1.2.1
  refine lv_iload_n hx hb dX2_isLane_0 rfl (lv_at hl 0 rfl) ?_
  refine lv_if_lt (tgt := 14) hx hb dX2_isLane_1 (by decide) (fun c1 => ?_) (fun c1 => ?_)
  · replace hf := o_t hf c1
    refine lv_iconst (v := 0) hx hb dX2_isLane_14 (by decide) ?_
    cases hf
    exact jq_zret hX hS (by decide) dX2_isLane_15 ⟨rfl, rfl, rfl, rfl⟩
  · replace hf := o_f hf c1
    refine lv_iload_n hx hb dX2_isLane_4 rfl (lv_at hl 0 rfl) ?_
    refine lv_bipush (v := 7) hx hb dX2_isLane_5 (by decide) ?_
    refine lv_icmp_gt (tgt := 14) hx hb dX2_isLane_7 (by decide) (fun c2 => ?_) (fun c2 => ?_)
    · replace hf := o_t hf c2
      refine lv_iconst (v := 0) hx hb dX2_isLane_14 (by decide) ?_
      cases hf
      exact jq_zret hX hS (by decide) dX2_isLane_15 ⟨rfl, rfl, rfl, rfl⟩
    · replace hf := o_f hf c2
      refine lv_iconst (v := 1) hx hb dX2_isLane_10 (by decide) ?_
      refine lv_goto (tgt := 15) hx hb dX2_isLane_11 (by decide) ?_
      cases hf
      exact jq_zret hX hS (by decide) dX2_isLane_15 ⟨rfl, rfl, rfl, rfl⟩
theorem dX2_isKind_0 : decode cX2_isKind 0 = .ok (.iload_n 0, 1) := by decide +kernel
theorem dX2_isKind_1 : decode cX2_isKind 1 = .ok (.ifCond .lt 13, 3) := by decide +kernel
theorem dX2_isKind_14 : decode cX2_isKind 14 = .ok (.iconst 0, 1) := by decide +kernel
theorem dX2_isKind_15 : decode cX2_isKind 15 = .ok (.ireturn, 1) := by decide +kernel
theorem dX2_isKind_4 : decode cX2_isKind 4 = .ok (.iload_n 0, 1) := by decide +kernel
theorem dX2_isKind_5 : decode cX2_isKind 5 = .ok (.bipush 16, 2) := by decide +kernel
theorem dX2_isKind_7 : decode cX2_isKind 7 = .ok (.if_icmp .gt 7, 3) := by decide +kernel
theorem dX2_isKind_10 : decode cX2_isKind 10 = .ok (.iconst 1, 1) := by decide +kernel
theorem dX2_isKind_11 : decode cX2_isKind 11 = .ok (.goto 4, 3) := by decide +kernel
theorem hy_X2_isKind : yX2_isKind.cls ≠ "java/lang/invoke/MethodHandle" ∧ yX2_isKind.cls ≠ "java/lang/invoke/VarHandle" ∧ (parseMethodDescriptor yX2_isKind.desc).map (fun d => d.parameters.length) = some 1 := ⟨by decide, by decide, by decide +kernel⟩
def f_X2_isKind (p1 : Int32) : Option (Int32) :=
  if p1 < 0 then (
  some 0) else (
  if 16 < p1 then (
  some 0) else (
  some 1))
set_option maxHeartbeats 4000000 in
set_option maxRecDepth 100000 in
theorem c_X2_isKind {l : Launch} {D : va_G} {Y : Nat → ClassId} {aR : Nat → Nat} {A : Nat → Prop} {p1 : Int32} {r : Int32} (hf : f_X2_isKind p1 = some r) : jq_P l D Y aR A yX2_isKind cX2_isKind 1 (some .boolean) 0 0 [.int p1] (some (.int r)) := by
  unfold f_X2_isKind at hf
  refine jq_enterP (by decide) (Nat.le_of_ble_eq_true rfl) fun p e s m args below meth c ls H locs hX hS hl => ?_
  have hl : lv_has ls 1 [(0, .int p1)] := hl
  have hx := hX.1
  have hb := hX.2.1
  have hm := hX.2.2.1
  have ho := hX.2.2.2.1
  have ht := hX.2.2.2.2.1
  have hn := hX.2.2.2.2.2.1.2.1
  refine lv_iload_n hx hb dX2_isKind_0 rfl (lv_at hl 0 rfl) ?_
  refine lv_if_lt (tgt := 14) hx hb dX2_isKind_1 (by decide) (fun c1 => ?_) (fun c1 => ?_)
  · replace hf := o_t hf c1
    refine lv_iconst (v := 0) hx hb dX2_isKind_14 (by decide) ?_
    cases hf
    exact jq_zret hX hS (by decide) dX2_isKind_15 ⟨rfl, rfl, rfl, rfl⟩
  · replace hf := o_f hf c1
    refine lv_iload_n hx hb dX2_isKind_4 rfl (lv_at hl 0 rfl) ?_
    refine lv_bipush (v := 16) hx hb dX2_isKind_5 (by decide) ?_
    refine lv_icmp_gt (tgt := 14) hx hb dX2_isKind_7 (by decide) (fun c2 => ?_) (fun c2 => ?_)
    · replace hf := o_t hf c2
      refine lv_iconst (v := 0) hx hb dX2_isKind_14 (by decide) ?_
      cases hf
      exact jq_zret hX hS (by decide) dX2_isKind_15 ⟨rfl, rfl, rfl, rfl⟩
    · replace hf := o_f hf c2
      refine lv_iconst (v := 1) hx hb dX2_isKind_10 (by decide) ?_
      refine lv_goto (tgt := 15) hx hb dX2_isKind_11 (by decide) ?_
      cases hf
      exact jq_zret hX hS (by decide) dX2_isKind_15 ⟨rfl, rfl, rfl, rfl⟩
theorem dX8_isSort_0 : decode cX8_isSort 0 = .ok (.iload_n 0, 1) := by decide +kernel
theorem dX8_isSort_1 : decode cX8_isSort 1 = .ok (.ifCond .lt 13, 3) := by decide +kernel
theorem dX8_isSort_14 : decode cX8_isSort 14 = .ok (.iconst 0, 1) := by decide +kernel
theorem dX8_isSort_15 : decode cX8_isSort 15 = .ok (.ireturn, 1) := by decide +kernel
theorem dX8_isSort_4 : decode cX8_isSort 4 = .ok (.iload_n 0, 1) := by decide +kernel
theorem dX8_isSort_5 : decode cX8_isSort 5 = .ok (.bipush 22, 2) := by decide +kernel
theorem dX8_isSort_7 : decode cX8_isSort 7 = .ok (.if_icmp .gt 7, 3) := by decide +kernel
theorem dX8_isSort_10 : decode cX8_isSort 10 = .ok (.iconst 1, 1) := by decide +kernel
theorem dX8_isSort_11 : decode cX8_isSort 11 = .ok (.goto 4, 3) := by decide +kernel
theorem hy_X8_isSort : yX8_isSort.cls ≠ "java/lang/invoke/MethodHandle" ∧ yX8_isSort.cls ≠ "java/lang/invoke/VarHandle" ∧ (parseMethodDescriptor yX8_isSort.desc).map (fun d => d.parameters.length) = some 1 := ⟨by decide, by decide, by decide +kernel⟩
def f_X8_isSort (p1 : Int32) : Option (Int32) :=
  if p1 < 0 then (
  some 0) else (
  if 22 < p1 then (
  some 0) else (
  some 1))
set_option maxHeartbeats 4000000 in
set_option maxRecDepth 100000 in
theorem c_X8_isSort {l : Launch} {D : va_G} {Y : Nat → ClassId} {aR : Nat → Nat} {A : Nat → Prop} {p1 : Int32} {r : Int32} (hf : f_X8_isSort p1 = some r) : jq_P l D Y aR A yX8_isSort cX8_isSort 1 (some .boolean) 0 0 [.int p1] (some (.int r)) := by
  unfold f_X8_isSort at hf
  refine jq_enterP (by decide) (Nat.le_of_ble_eq_true rfl) fun p e s m args below meth c ls H locs hX hS hl => ?_
  have hl : lv_has ls 1 [(0, .int p1)] := hl
  have hx := hX.1
  have hb := hX.2.1
  have hm := hX.2.2.1
  have ho := hX.2.2.2.1
  have ht := hX.2.2.2.2.1
  have hn := hX.2.2.2.2.2.1.2.1
  refine lv_iload_n hx hb dX8_isSort_0 rfl (lv_at hl 0 rfl) ?_
  refine lv_if_lt (tgt := 14) hx hb dX8_isSort_1 (by decide) (fun c1 => ?_) (fun c1 => ?_)
  · replace hf := o_t hf c1
    refine lv_iconst (v := 0) hx hb dX8_isSort_14 (by decide) ?_
    cases hf
    exact jq_zret hX hS (by decide) dX8_isSort_15 ⟨rfl, rfl, rfl, rfl⟩
  · replace hf := o_f hf c1
    refine lv_iload_n hx hb dX8_isSort_4 rfl (lv_at hl 0 rfl) ?_
    refine lv_bipush (v := 22) hx hb dX8_isSort_5 (by decide) ?_
    refine lv_icmp_gt (tgt := 14) hx hb dX8_isSort_7 (by decide) (fun c2 => ?_) (fun c2 => ?_)
    · replace hf := o_t hf c2
      refine lv_iconst (v := 0) hx hb dX8_isSort_14 (by decide) ?_
      cases hf
      exact jq_zret hX hS (by decide) dX8_isSort_15 ⟨rfl, rfl, rfl, rfl⟩
    · replace hf := o_f hf c2
      refine lv_iconst (v := 1) hx hb dX8_isSort_10 (by decide) ?_
      refine lv_goto (tgt := 15) hx hb dX8_isSort_11 (by decide) ?_
      cases hf
      exact jq_zret hX hS (by decide) dX8_isSort_15 ⟨rfl, rfl, rfl, rfl⟩
theorem dX8_isAmong_0 : decode cX8_isAmong 0 = .ok (.iload_n 0, 1) := by decide +kernel
theorem dX8_isAmong_1 : decode cX8_isAmong 1 = .ok (.invokestatic 9, 3) := by decide +kernel
theorem dX8_isAmong_4 : decode cX8_isAmong 4 = .ok (.ifCond .eq 16, 3) := by decide +kernel
theorem dX8_isAmong_20 : decode cX8_isAmong 20 = .ok (.iconst 0, 1) := by decide +kernel
theorem dX8_isAmong_21 : decode cX8_isAmong 21 = .ok (.ireturn, 1) := by decide +kernel
theorem dX8_isAmong_7 : decode cX8_isAmong 7 = .ok (.iload_n 1, 1) := by decide +kernel
theorem dX8_isAmong_8 : decode cX8_isAmong 8 = .ok (.iload_n 0, 1) := by decide +kernel
theorem dX8_isAmong_9 : decode cX8_isAmong 9 = .ok (.ishr, 1) := by decide +kernel
theorem dX8_isAmong_10 : decode cX8_isAmong 10 = .ok (.iconst 1, 1) := by decide +kernel
theorem dX8_isAmong_11 : decode cX8_isAmong 11 = .ok (.iand, 1) := by decide +kernel
theorem dX8_isAmong_12 : decode cX8_isAmong 12 = .ok (.iconst 1, 1) := by decide +kernel
theorem dX8_isAmong_13 : decode cX8_isAmong 13 = .ok (.if_icmp .ne 7, 3) := by decide +kernel
theorem dX8_isAmong_16 : decode cX8_isAmong 16 = .ok (.iconst 1, 1) := by decide +kernel
theorem dX8_isAmong_17 : decode cX8_isAmong 17 = .ok (.goto 4, 3) := by decide +kernel
theorem hy_X8_isAmong : yX8_isAmong.cls ≠ "java/lang/invoke/MethodHandle" ∧ yX8_isAmong.cls ≠ "java/lang/invoke/VarHandle" ∧ (parseMethodDescriptor yX8_isAmong.desc).map (fun d => d.parameters.length) = some 2 := ⟨by decide, by decide, by decide +kernel⟩
def f_X8_isAmong (p1 : Int32) (p2 : Int32) : Option (Int32) :=
  o_cP (f_X8_isSort p1) fun x1 =>
  if x1 = 0 then (
  some 0) else (
  if ((p2 >>> (p1 &&& 31)) &&& (1 : Int32)) = 1 then (
  some 1) else (
  some 0))
set_option maxHeartbeats 4000000 in
set_option maxRecDepth 100000 in
theorem c_X8_isAmong {l : Launch} {D : va_G} {Y : Nat → ClassId} {aR : Nat → Nat} {A : Nat → Prop} {p1 : Int32} {p2 : Int32} {r : Int32} (hf : f_X8_isAmong p1 p2 = some r) : jq_P l D Y aR A yX8_isAmong cX8_isAmong 2 (some .boolean) 1 20 [.int p1, .int p2] (some (.int r)) := by
  unfold f_X8_isAmong at hf
  refine jq_enterP (by decide) (Nat.le_of_ble_eq_true rfl) fun p e s m args below meth c ls H locs hX hS hl => ?_
  have hl : lv_has ls 2 [(0, .int p1), (1, .int p2)] := hl
  have hx := hX.1
  have hb := hX.2.1
  have hm := hX.2.2.1
  have ho := hX.2.2.2.1
  have ht := hX.2.2.2.2.1
  have hn := hX.2.2.2.2.2.1.2.1
  refine lv_iload_n hx hb dX8_isAmong_0 rfl (lv_at hl 0 rfl) ?_
  replace hf := o_cP_e hf
  obtain ⟨x1, hq1, hf⟩ := hf
  refine jq_doP hX hS (jq_okS (As := [.int p1]) (rest := []) hx hb hm ho ht qw265 qw266 qw267 qw14 hy_X8_isSort rfl hl.1 (Nat.le_of_ble_eq_true rfl) dX8_isAmong_1) (c_X8_isSort hq1) (Nat.le_of_ble_eq_true rfl) (Nat.le_of_ble_eq_true rfl) (Nat.le_refl _) (Nat.le_refl _) (fun locs hS' => ?_)
  clear hS
  have hS := hS'
  clear hS'
  refine lv_if_eq (tgt := 20) hx hb dX8_isAmong_4 (by decide) (fun c1 => ?_) (fun c1 => ?_)
  · replace hf := o_t hf c1
    refine lv_iconst (v := 0) hx hb dX8_isAmong_20 (by decide) ?_
    cases hf
    exact jq_zret hX hS (by decide) dX8_isAmong_21 ⟨rfl, rfl, rfl, rfl⟩
  · replace hf := o_f hf c1
    refine lv_iload_n hx hb dX8_isAmong_7 rfl (lv_at hl 1 rfl) ?_
    refine lv_iload_n hx hb dX8_isAmong_8 rfl (lv_at hl 0 rfl) ?_
    refine lv_ishr hx hb dX8_isAmong_9 ?_
    refine lv_iconst (v := 1) hx hb dX8_isAmong_10 (by decide) ?_
    refine lv_iand hx hb dX8_isAmong_11 ?_
    refine lv_iconst (v := 1) hx hb dX8_isAmong_12 (by decide) ?_
    refine lv_icmp_ne (tgt := 20) hx hb dX8_isAmong_13 (by decide) (fun c2 => ?_) (fun c2 => ?_)
    · replace hf := o_f hf c2
      refine lv_iconst (v := 0) hx hb dX8_isAmong_20 (by decide) ?_
      cases hf
      exact jq_zret hX hS (by decide) dX8_isAmong_21 ⟨rfl, rfl, rfl, rfl⟩
    · replace hf := o_t hf c2
      refine lv_iconst (v := 1) hx hb dX8_isAmong_16 (by decide) ?_
      refine lv_goto (tgt := 21) hx hb dX8_isAmong_17 (by decide) ?_
      cases hf
      exact jq_zret hX hS (by decide) dX8_isAmong_21 ⟨rfl, rfl, rfl, rfl⟩
theorem dX2_isReckoned_0 : decode cX2_isReckoned 0 = .ok (.iload_n 0, 1) := by decide +kernel
theorem dX2_isReckoned_1 : decode cX2_isReckoned 1 = .ok (.iconst 4, 1) := by decide +kernel
theorem dX2_isReckoned_2 : decode cX2_isReckoned 2 = .ok (.if_icmp .lt 13, 3) := by decide +kernel
theorem dX2_isReckoned_15 : decode cX2_isReckoned 15 = .ok (.iconst 0, 1) := by decide +kernel
theorem dX2_isReckoned_16 : decode cX2_isReckoned 16 = .ok (.ireturn, 1) := by decide +kernel
theorem dX2_isReckoned_5 : decode cX2_isReckoned 5 = .ok (.iload_n 0, 1) := by decide +kernel
theorem dX2_isReckoned_6 : decode cX2_isReckoned 6 = .ok (.bipush 7, 2) := by decide +kernel
theorem dX2_isReckoned_8 : decode cX2_isReckoned 8 = .ok (.if_icmp .gt 7, 3) := by decide +kernel
theorem dX2_isReckoned_11 : decode cX2_isReckoned 11 = .ok (.iconst 1, 1) := by decide +kernel
theorem dX2_isReckoned_12 : decode cX2_isReckoned 12 = .ok (.goto 4, 3) := by decide +kernel
theorem hy_X2_isReckoned : yX2_isReckoned.cls ≠ "java/lang/invoke/MethodHandle" ∧ yX2_isReckoned.cls ≠ "java/lang/invoke/VarHandle" ∧ (parseMethodDescriptor yX2_isReckoned.desc).map (fun d => d.parameters.length) = some 1 := ⟨by decide, by decide, by decide +kernel⟩
def f_X2_isReckoned (p1 : Int32) : Option (Int32) :=
  if p1 < 4 then (
  some 0) else (
  if 7 < p1 then (
  some 0) else (
  some 1))
set_option maxHeartbeats 4000000 in
set_option maxRecDepth 100000 in
theorem c_X2_isReckoned {l : Launch} {D : va_G} {Y : Nat → ClassId} {aR : Nat → Nat} {A : Nat → Prop} {p1 : Int32} {r : Int32} (hf : f_X2_isReckoned p1 = some r) : jq_P l D Y aR A yX2_isReckoned cX2_isReckoned 1 (some .boolean) 0 0 [.int p1] (some (.int r)) := by
  unfold f_X2_isReckoned at hf
  refine jq_enterP (by decide) (Nat.le_of_ble_eq_true rfl) fun p e s m args below meth c ls H locs hX hS hl => ?_
  have hl : lv_has ls 1 [(0, .int p1)] := hl
  have hx := hX.1
  have hb := hX.2.1
  have hm := hX.2.2.1
  have ho := hX.2.2.2.1
  have ht := hX.2.2.2.2.1
  have hn := hX.2.2.2.2.2.1.2.1
  refine lv_iload_n hx hb dX2_isReckoned_0 rfl (lv_at hl 0 rfl) ?_
  refine lv_iconst (v := 4) hx hb dX2_isReckoned_1 (by decide) ?_
  refine lv_icmp_lt (tgt := 15) hx hb dX2_isReckoned_2 (by decide) (fun c1 => ?_) (fun c1 => ?_)
  · replace hf := o_t hf c1
    refine lv_iconst (v := 0) hx hb dX2_isReckoned_15 (by decide) ?_
    cases hf
    exact jq_zret hX hS (by decide) dX2_isReckoned_16 ⟨rfl, rfl, rfl, rfl⟩
  · replace hf := o_f hf c1
    refine lv_iload_n hx hb dX2_isReckoned_5 rfl (lv_at hl 0 rfl) ?_
    refine lv_bipush (v := 7) hx hb dX2_isReckoned_6 (by decide) ?_
    refine lv_icmp_gt (tgt := 15) hx hb dX2_isReckoned_8 (by decide) (fun c2 => ?_) (fun c2 => ?_)
    · replace hf := o_t hf c2
      refine lv_iconst (v := 0) hx hb dX2_isReckoned_15 (by decide) ?_
      cases hf
      exact jq_zret hX hS (by decide) dX2_isReckoned_16 ⟨rfl, rfl, rfl, rfl⟩
    · replace hf := o_f hf c2
      refine lv_iconst (v := 1) hx hb dX2_isReckoned_11 (by decide) ?_
      refine lv_goto (tgt := 16) hx hb dX2_isReckoned_12 (by decide) ?_
      cases hf
      exact jq_zret hX hS (by decide) dX2_isReckoned_16 ⟨rfl, rfl, rfl, rfl⟩
theorem dX3_isHeld_0 : decode cX3_isHeld 0 = .ok (.iload_n 0, 1) := by decide +kernel
theorem dX3_isHeld_1 : decode cX3_isHeld 1 = .ok (.iconst (-1), 1) := by decide +kernel
theorem dX3_isHeld_2 : decode cX3_isHeld 2 = .ok (.if_icmp .eq 26, 3) := by decide +kernel
theorem dX3_isHeld_28 : decode cX3_isHeld 28 = .ok (.iconst 1, 1) := by decide +kernel
theorem dX3_isHeld_29 : decode cX3_isHeld 29 = .ok (.goto 4, 3) := by decide +kernel
theorem dX3_isHeld_33 : decode cX3_isHeld 33 = .ok (.ireturn, 1) := by decide +kernel
theorem dX3_isHeld_5 : decode cX3_isHeld 5 = .ok (.iload_n 0, 1) := by decide +kernel
theorem dX3_isHeld_6 : decode cX3_isHeld 6 = .ok (.iconst 1, 1) := by decide +kernel
theorem dX3_isHeld_7 : decode cX3_isHeld 7 = .ok (.if_icmp .lt 9, 3) := by decide +kernel
theorem dX3_isHeld_16 : decode cX3_isHeld 16 = .ok (.iload_n 0, 1) := by decide +kernel
theorem dX3_isHeld_17 : decode cX3_isHeld 17 = .ok (.bipush 20, 2) := by decide +kernel
theorem dX3_isHeld_19 : decode cX3_isHeld 19 = .ok (.if_icmp .lt 13, 3) := by decide +kernel
theorem dX3_isHeld_32 : decode cX3_isHeld 32 = .ok (.iconst 0, 1) := by decide +kernel
theorem dX3_isHeld_22 : decode cX3_isHeld 22 = .ok (.iload_n 0, 1) := by decide +kernel
theorem dX3_isHeld_23 : decode cX3_isHeld 23 = .ok (.bipush 29, 2) := by decide +kernel
theorem dX3_isHeld_25 : decode cX3_isHeld 25 = .ok (.if_icmp .gt 7, 3) := by decide +kernel
theorem dX3_isHeld_10 : decode cX3_isHeld 10 = .ok (.iload_n 0, 1) := by decide +kernel
theorem dX3_isHeld_11 : decode cX3_isHeld 11 = .ok (.bipush 7, 2) := by decide +kernel
theorem dX3_isHeld_13 : decode cX3_isHeld 13 = .ok (.if_icmp .lt 15, 3) := by decide +kernel
theorem hy_X3_isHeld : yX3_isHeld.cls ≠ "java/lang/invoke/MethodHandle" ∧ yX3_isHeld.cls ≠ "java/lang/invoke/VarHandle" ∧ (parseMethodDescriptor yX3_isHeld.desc).map (fun d => d.parameters.length) = some 1 := ⟨by decide, by decide, by decide +kernel⟩
def f_X3_isHeld (p1 : Int32) : Option (Int32) :=
  if p1 = (-1) then (
  some 1) else (
  if p1 < 1 then (
  if p1 < 20 then (
  some 0) else (
  if 29 < p1 then (
  some 0) else (
  some 1))) else (
  if p1 < 7 then (
  some 1) else (
  if p1 < 20 then (
  some 0) else (
  if 29 < p1 then (
  some 0) else (
  some 1)))))
set_option maxHeartbeats 4000000 in
set_option maxRecDepth 100000 in
theorem c_X3_isHeld {l : Launch} {D : va_G} {Y : Nat → ClassId} {aR : Nat → Nat} {A : Nat → Prop} {p1 : Int32} {r : Int32} (hf : f_X3_isHeld p1 = some r) : jq_P l D Y aR A yX3_isHeld cX3_isHeld 1 (some .boolean) 0 0 [.int p1] (some (.int r)) := by
  unfold f_X3_isHeld at hf
  refine jq_enterP (by decide) (Nat.le_of_ble_eq_true rfl) fun p e s m args below meth c ls H locs hX hS hl => ?_
  have hl : lv_has ls 1 [(0, .int p1)] := hl
  have hx := hX.1
  have hb := hX.2.1
  have hm := hX.2.2.1
  have ho := hX.2.2.2.1
  have ht := hX.2.2.2.2.1
  have hn := hX.2.2.2.2.2.1.2.1
  refine lv_iload_n hx hb dX3_isHeld_0 rfl (lv_at hl 0 rfl) ?_
  refine lv_iconst (v := (-1)) hx hb dX3_isHeld_1 (by decide) ?_
  refine lv_icmp_eq (tgt := 28) hx hb dX3_isHeld_2 (by decide) (fun c1 => ?_) (fun c1 => ?_)
  · replace hf := o_t hf c1
    refine lv_iconst (v := 1) hx hb dX3_isHeld_28 (by decide) ?_
    refine lv_goto (tgt := 33) hx hb dX3_isHeld_29 (by decide) ?_
    cases hf
    exact jq_zret hX hS (by decide) dX3_isHeld_33 ⟨rfl, rfl, rfl, rfl⟩
  · replace hf := o_f hf c1
    refine lv_iload_n hx hb dX3_isHeld_5 rfl (lv_at hl 0 rfl) ?_
    refine lv_iconst (v := 1) hx hb dX3_isHeld_6 (by decide) ?_
    refine lv_icmp_lt (tgt := 16) hx hb dX3_isHeld_7 (by decide) (fun c2 => ?_) (fun c2 => ?_)
    · replace hf := o_t hf c2
      refine lv_iload_n hx hb dX3_isHeld_16 rfl (lv_at hl 0 rfl) ?_
      refine lv_bipush (v := 20) hx hb dX3_isHeld_17 (by decide) ?_
      refine lv_icmp_lt (tgt := 32) hx hb dX3_isHeld_19 (by decide) (fun c3 => ?_) (fun c3 => ?_)
      · replace hf := o_t hf c3
        refine lv_iconst (v := 0) hx hb dX3_isHeld_32 (by decide) ?_
        cases hf
        exact jq_zret hX hS (by decide) dX3_isHeld_33 ⟨rfl, rfl, rfl, rfl⟩
      · replace hf := o_f hf c3
        refine lv_iload_n hx hb dX3_isHeld_22 rfl (lv_at hl 0 rfl) ?_
        refine lv_bipush (v := 29) hx hb dX3_isHeld_23 (by decide) ?_
        refine lv_icmp_gt (tgt := 32) hx hb dX3_isHeld_25 (by decide) (fun c4 => ?_) (fun c4 => ?_)
        · replace hf := o_t hf c4
          refine lv_iconst (v := 0) hx hb dX3_isHeld_32 (by decide) ?_
          cases hf
          exact jq_zret hX hS (by decide) dX3_isHeld_33 ⟨rfl, rfl, rfl, rfl⟩
        · replace hf := o_f hf c4
          refine lv_iconst (v := 1) hx hb dX3_isHeld_28 (by decide) ?_
          refine lv_goto (tgt := 33) hx hb dX3_isHeld_29 (by decide) ?_
          cases hf
          exact jq_zret hX hS (by decide) dX3_isHeld_33 ⟨rfl, rfl, rfl, rfl⟩
    · replace hf := o_f hf c2
      refine lv_iload_n hx hb dX3_isHeld_10 rfl (lv_at hl 0 rfl) ?_
      refine lv_bipush (v := 7) hx hb dX3_isHeld_11 (by decide) ?_
      refine lv_icmp_lt (tgt := 28) hx hb dX3_isHeld_13 (by decide) (fun c5 => ?_) (fun c5 => ?_)
      · replace hf := o_t hf c5
        refine lv_iconst (v := 1) hx hb dX3_isHeld_28 (by decide) ?_
        refine lv_goto (tgt := 33) hx hb dX3_isHeld_29 (by decide) ?_
        cases hf
        exact jq_zret hX hS (by decide) dX3_isHeld_33 ⟨rfl, rfl, rfl, rfl⟩
      · replace hf := o_f hf c5
        refine lv_iload_n hx hb dX3_isHeld_16 rfl (lv_at hl 0 rfl) ?_
        refine lv_bipush (v := 20) hx hb dX3_isHeld_17 (by decide) ?_
        refine lv_icmp_lt (tgt := 32) hx hb dX3_isHeld_19 (by decide) (fun c6 => ?_) (fun c6 => ?_)
        · replace hf := o_t hf c6
          refine lv_iconst (v := 0) hx hb dX3_isHeld_32 (by decide) ?_
          cases hf
          exact jq_zret hX hS (by decide) dX3_isHeld_33 ⟨rfl, rfl, rfl, rfl⟩
        · replace hf := o_f hf c6
          refine lv_iload_n hx hb dX3_isHeld_22 rfl (lv_at hl 0 rfl) ?_
          refine lv_bipush (v := 29) hx hb dX3_isHeld_23 (by decide) ?_
          refine lv_icmp_gt (tgt := 32) hx hb dX3_isHeld_25 (by decide) (fun c7 => ?_) (fun c7 => ?_)
          · replace hf := o_t hf c7
            refine lv_iconst (v := 0) hx hb dX3_isHeld_32 (by decide) ?_
            cases hf
            exact jq_zret hX hS (by decide) dX3_isHeld_33 ⟨rfl, rfl, rfl, rfl⟩
          · replace hf := o_f hf c7
            refine lv_iconst (v := 1) hx hb dX3_isHeld_28 (by decide) ?_
            refine lv_goto (tgt := 33) hx hb dX3_isHeld_29 (by decide) ?_
            cases hf
            exact jq_zret hX hS (by decide) dX3_isHeld_33 ⟨rfl, rfl, rfl, rfl⟩
theorem dX2_isRow_0 : decode cX2_isRow 0 = .ok (.iload_n 0, 1) := by decide +kernel
theorem dX2_isRow_1 : decode cX2_isRow 1 = .ok (.bipush 8, 2) := by decide +kernel
theorem dX2_isRow_3 : decode cX2_isRow 3 = .ok (.if_icmp .lt 13, 3) := by decide +kernel
theorem dX2_isRow_16 : decode cX2_isRow 16 = .ok (.iconst 0, 1) := by decide +kernel
theorem dX2_isRow_17 : decode cX2_isRow 17 = .ok (.ireturn, 1) := by decide +kernel
theorem dX2_isRow_6 : decode cX2_isRow 6 = .ok (.iload_n 0, 1) := by decide +kernel
theorem dX2_isRow_7 : decode cX2_isRow 7 = .ok (.bipush 16, 2) := by decide +kernel
theorem dX2_isRow_9 : decode cX2_isRow 9 = .ok (.if_icmp .gt 7, 3) := by decide +kernel
theorem dX2_isRow_12 : decode cX2_isRow 12 = .ok (.iconst 1, 1) := by decide +kernel
theorem dX2_isRow_13 : decode cX2_isRow 13 = .ok (.goto 4, 3) := by decide +kernel
theorem hy_X2_isRow : yX2_isRow.cls ≠ "java/lang/invoke/MethodHandle" ∧ yX2_isRow.cls ≠ "java/lang/invoke/VarHandle" ∧ (parseMethodDescriptor yX2_isRow.desc).map (fun d => d.parameters.length) = some 1 := ⟨by decide, by decide, by decide +kernel⟩
def f_X2_isRow (p1 : Int32) : Option (Int32) :=
  if p1 < 8 then (
  some 0) else (
  if 16 < p1 then (
  some 0) else (
  some 1))
set_option maxHeartbeats 4000000 in
set_option maxRecDepth 100000 in
theorem c_X2_isRow {l : Launch} {D : va_G} {Y : Nat → ClassId} {aR : Nat → Nat} {A : Nat → Prop} {p1 : Int32} {r : Int32} (hf : f_X2_isRow p1 = some r) : jq_P l D Y aR A yX2_isRow cX2_isRow 1 (some .boolean) 0 0 [.int p1] (some (.int r)) := by
  unfold f_X2_isRow at hf
  refine jq_enterP (by decide) (Nat.le_of_ble_eq_true rfl) fun p e s m args below meth c ls H locs hX hS hl => ?_
  have hl : lv_has ls 1 [(0, .int p1)] := hl
  have hx := hX.1
  have hb := hX.2.1
  have hm := hX.2.2.1
  have ho := hX.2.2.2.1
  have ht := hX.2.2.2.2.1
  have hn := hX.2.2.2.2.2.1.2.1
  refine lv_iload_n hx hb dX2_isRow_0 rfl (lv_at hl 0 rfl) ?_
  refine lv_bipush (v := 8) hx hb dX2_isRow_1 (by decide) ?_
  refine lv_icmp_lt (tgt := 16) hx hb dX2_isRow_3 (by decide) (fun c1 => ?_) (fun c1 => ?_)
  · replace hf := o_t hf c1
    refine lv_iconst (v := 0) hx hb dX2_isRow_16 (by decide) ?_
    cases hf
    exact jq_zret hX hS (by decide) dX2_isRow_17 ⟨rfl, rfl, rfl, rfl⟩
  · replace hf := o_f hf c1
    refine lv_iload_n hx hb dX2_isRow_6 rfl (lv_at hl 0 rfl) ?_
    refine lv_bipush (v := 16) hx hb dX2_isRow_7 (by decide) ?_
    refine lv_icmp_gt (tgt := 16) hx hb dX2_isRow_9 (by decide) (fun c2 => ?_) (fun c2 => ?_)
    · replace hf := o_t hf c2
      refine lv_iconst (v := 0) hx hb dX2_isRow_16 (by decide) ?_
      cases hf
      exact jq_zret hX hS (by decide) dX2_isRow_17 ⟨rfl, rfl, rfl, rfl⟩
    · replace hf := o_f hf c2
      refine lv_iconst (v := 1) hx hb dX2_isRow_12 (by decide) ?_
      refine lv_goto (tgt := 17) hx hb dX2_isRow_13 (by decide) ?_
      cases hf
      exact jq_zret hX hS (by decide) dX2_isRow_17 ⟨rfl, rfl, rfl, rfl⟩
theorem dX2_goes_0 : decode cX2_goes 0 = .ok (.iload_n 0, 1) := by decide +kernel
theorem dX2_goes_1 : decode cX2_goes 1 = .ok (.iload_n 1, 1) := by decide +kernel
theorem dX2_goes_2 : decode cX2_goes 2 = .ok (.if_icmp .ne 5, 3) := by decide +kernel
theorem dX2_goes_7 : decode cX2_goes 7 = .ok (.iload_n 0, 1) := by decide +kernel
theorem dX2_goes_8 : decode cX2_goes 8 = .ok (.invokestatic 11, 3) := by decide +kernel
theorem dX2_goes_11 : decode cX2_goes 11 = .ok (.ifCond .eq 15, 3) := by decide +kernel
theorem dX2_goes_26 : decode cX2_goes 26 = .ok (.iload_n 0, 1) := by decide +kernel
theorem dX2_goes_27 : decode cX2_goes 27 = .ok (.iconst 1, 1) := by decide +kernel
theorem dX2_goes_28 : decode cX2_goes 28 = .ok (.if_icmp .lt 23, 3) := by decide +kernel
theorem dX2_goes_51 : decode cX2_goes 51 = .ok (.iconst 0, 1) := by decide +kernel
theorem dX2_goes_52 : decode cX2_goes 52 = .ok (.ireturn, 1) := by decide +kernel
theorem dX2_goes_31 : decode cX2_goes 31 = .ok (.iload_n 0, 1) := by decide +kernel
theorem dX2_goes_32 : decode cX2_goes 32 = .ok (.iload_n 1, 1) := by decide +kernel
theorem dX2_goes_33 : decode cX2_goes 33 = .ok (.if_icmp .ge 18, 3) := by decide +kernel
theorem dX2_goes_36 : decode cX2_goes 36 = .ok (.iload_n 1, 1) := by decide +kernel
theorem dX2_goes_37 : decode cX2_goes 37 = .ok (.bipush 7, 2) := by decide +kernel
theorem dX2_goes_39 : decode cX2_goes 39 = .ok (.if_icmp .gt 12, 3) := by decide +kernel
theorem dX2_goes_42 : decode cX2_goes 42 = .ok (.iload_n 1, 1) := by decide +kernel
theorem dX2_goes_43 : decode cX2_goes 43 = .ok (.iconst 3, 1) := by decide +kernel
theorem dX2_goes_44 : decode cX2_goes 44 = .ok (.if_icmp .eq 7, 3) := by decide +kernel
theorem dX2_goes_47 : decode cX2_goes 47 = .ok (.iconst 1, 1) := by decide +kernel
theorem dX2_goes_48 : decode cX2_goes 48 = .ok (.goto 4, 3) := by decide +kernel
theorem dX2_goes_14 : decode cX2_goes 14 = .ok (.iload_n 1, 1) := by decide +kernel
theorem dX2_goes_15 : decode cX2_goes 15 = .ok (.bipush 16, 2) := by decide +kernel
theorem dX2_goes_17 : decode cX2_goes 17 = .ok (.if_icmp .ne 7, 3) := by decide +kernel
theorem dX2_goes_24 : decode cX2_goes 24 = .ok (.iconst 0, 1) := by decide +kernel
theorem dX2_goes_25 : decode cX2_goes 25 = .ok (.ireturn, 1) := by decide +kernel
theorem dX2_goes_20 : decode cX2_goes 20 = .ok (.iconst 1, 1) := by decide +kernel
theorem dX2_goes_21 : decode cX2_goes 21 = .ok (.goto 4, 3) := by decide +kernel
theorem dX2_goes_5 : decode cX2_goes 5 = .ok (.iconst 1, 1) := by decide +kernel
theorem dX2_goes_6 : decode cX2_goes 6 = .ok (.ireturn, 1) := by decide +kernel
theorem hy_X2_goes : yX2_goes.cls ≠ "java/lang/invoke/MethodHandle" ∧ yX2_goes.cls ≠ "java/lang/invoke/VarHandle" ∧ (parseMethodDescriptor yX2_goes.desc).map (fun d => d.parameters.length) = some 2 := ⟨by decide, by decide, by decide +kernel⟩
def f_X2_goes (p1 : Int32) (p2 : Int32) : Option (Int32) :=
  if p1 = p2 then (
  some 1) else (
  o_cP (f_X2_isRow p1) fun x1 =>
  if x1 = 0 then (
  if p1 < 1 then (
  some 0) else (
  if p2 ≤ p1 then (
  some 0) else (
  if 7 < p2 then (
  some 0) else (
  if p2 = 3 then (
  some 0) else (
  some 1))))) else (
  if p2 = 16 then (
  some 1) else (
  some 0)))
set_option maxHeartbeats 4000000 in
set_option maxRecDepth 100000 in
theorem c_X2_goes {l : Launch} {D : va_G} {Y : Nat → ClassId} {aR : Nat → Nat} {A : Nat → Prop} {p1 : Int32} {p2 : Int32} {r : Int32} (hf : f_X2_goes p1 p2 = some r) : jq_P l D Y aR A yX2_goes cX2_goes 2 (some .boolean) 1 20 [.int p1, .int p2] (some (.int r)) := by
  unfold f_X2_goes at hf
  refine jq_enterP (by decide) (Nat.le_of_ble_eq_true rfl) fun p e s m args below meth c ls H locs hX hS hl => ?_
  have hl : lv_has ls 2 [(0, .int p1), (1, .int p2)] := hl
  have hx := hX.1
  have hb := hX.2.1
  have hm := hX.2.2.1
  have ho := hX.2.2.2.1
  have ht := hX.2.2.2.2.1
  have hn := hX.2.2.2.2.2.1.2.1
  refine lv_iload_n hx hb dX2_goes_0 rfl (lv_at hl 0 rfl) ?_
  refine lv_iload_n hx hb dX2_goes_1 rfl (lv_at hl 1 rfl) ?_
  refine lv_icmp_ne (tgt := 7) hx hb dX2_goes_2 (by decide) (fun c1 => ?_) (fun c1 => ?_)
  · replace hf := o_f hf c1
    refine lv_iload_n hx hb dX2_goes_7 rfl (lv_at hl 0 rfl) ?_
    replace hf := o_cP_e hf
    obtain ⟨x1, hq1, hf⟩ := hf
    refine jq_doP hX hS (jq_okS (As := [.int p1]) (rest := []) hx hb hm ho ht qw400 qw358 qw359 qw8 hy_X2_isRow rfl hl.1 (Nat.le_of_ble_eq_true rfl) dX2_goes_8) (c_X2_isRow hq1) (Nat.le_of_ble_eq_true rfl) (Nat.le_of_ble_eq_true rfl) (Nat.le_refl _) (Nat.le_refl _) (fun locs hS' => ?_)
    clear hS
    have hS := hS'
    clear hS'
    refine lv_if_eq (tgt := 26) hx hb dX2_goes_11 (by decide) (fun c2 => ?_) (fun c2 => ?_)
    · replace hf := o_t hf c2
      refine lv_iload_n hx hb dX2_goes_26 rfl (lv_at hl 0 rfl) ?_
      refine lv_iconst (v := 1) hx hb dX2_goes_27 (by decide) ?_
      refine lv_icmp_lt (tgt := 51) hx hb dX2_goes_28 (by decide) (fun c3 => ?_) (fun c3 => ?_)
      · replace hf := o_t hf c3
        refine lv_iconst (v := 0) hx hb dX2_goes_51 (by decide) ?_
        cases hf
        exact jq_zret hX hS (by decide) dX2_goes_52 ⟨rfl, rfl, rfl, rfl⟩
      · replace hf := o_f hf c3
        refine lv_iload_n hx hb dX2_goes_31 rfl (lv_at hl 0 rfl) ?_
        refine lv_iload_n hx hb dX2_goes_32 rfl (lv_at hl 1 rfl) ?_
        refine lv_icmp_ge (tgt := 51) hx hb dX2_goes_33 (by decide) (fun c4 => ?_) (fun c4 => ?_)
        · replace hf := o_t hf c4
          refine lv_iconst (v := 0) hx hb dX2_goes_51 (by decide) ?_
          cases hf
          exact jq_zret hX hS (by decide) dX2_goes_52 ⟨rfl, rfl, rfl, rfl⟩
        · replace hf := o_f hf c4
          refine lv_iload_n hx hb dX2_goes_36 rfl (lv_at hl 1 rfl) ?_
          refine lv_bipush (v := 7) hx hb dX2_goes_37 (by decide) ?_
          refine lv_icmp_gt (tgt := 51) hx hb dX2_goes_39 (by decide) (fun c5 => ?_) (fun c5 => ?_)
          · replace hf := o_t hf c5
            refine lv_iconst (v := 0) hx hb dX2_goes_51 (by decide) ?_
            cases hf
            exact jq_zret hX hS (by decide) dX2_goes_52 ⟨rfl, rfl, rfl, rfl⟩
          · replace hf := o_f hf c5
            refine lv_iload_n hx hb dX2_goes_42 rfl (lv_at hl 1 rfl) ?_
            refine lv_iconst (v := 3) hx hb dX2_goes_43 (by decide) ?_
            refine lv_icmp_eq (tgt := 51) hx hb dX2_goes_44 (by decide) (fun c6 => ?_) (fun c6 => ?_)
            · replace hf := o_t hf c6
              refine lv_iconst (v := 0) hx hb dX2_goes_51 (by decide) ?_
              cases hf
              exact jq_zret hX hS (by decide) dX2_goes_52 ⟨rfl, rfl, rfl, rfl⟩
            · replace hf := o_f hf c6
              refine lv_iconst (v := 1) hx hb dX2_goes_47 (by decide) ?_
              refine lv_goto (tgt := 52) hx hb dX2_goes_48 (by decide) ?_
              cases hf
              exact jq_zret hX hS (by decide) dX2_goes_52 ⟨rfl, rfl, rfl, rfl⟩
    · replace hf := o_f hf c2
      refine lv_iload_n hx hb dX2_goes_14 rfl (lv_at hl 1 rfl) ?_
      refine lv_bipush (v := 16) hx hb dX2_goes_15 (by decide) ?_
      refine lv_icmp_ne (tgt := 24) hx hb dX2_goes_17 (by decide) (fun c7 => ?_) (fun c7 => ?_)
      · replace hf := o_f hf c7
        refine lv_iconst (v := 0) hx hb dX2_goes_24 (by decide) ?_
        cases hf
        exact jq_zret hX hS (by decide) dX2_goes_25 ⟨rfl, rfl, rfl, rfl⟩
      · replace hf := o_t hf c7
        refine lv_iconst (v := 1) hx hb dX2_goes_20 (by decide) ?_
        refine lv_goto (tgt := 25) hx hb dX2_goes_21 (by decide) ?_
        cases hf
        exact jq_zret hX hS (by decide) dX2_goes_25 ⟨rfl, rfl, rfl, rfl⟩
  · replace hf := o_t hf c1
    refine lv_iconst (v := 1) hx hb dX2_goes_5 (by decide) ?_
    cases hf
    exact jq_zret hX hS (by decide) dX2_goes_6 ⟨rfl, rfl, rfl, rfl⟩
theorem dX7_slot_0 : decode cX7_slot 0 = .ok (.iload_n 0, 1) := by decide +kernel
theorem dX7_slot_1 : decode cX7_slot 1 = .ok (.ifCond .lt 16, 3) := by decide +kernel
theorem dX7_slot_17 : decode cX7_slot 17 = .ok (.iconst 0, 1) := by decide +kernel
theorem dX7_slot_18 : decode cX7_slot 18 = .ok (.istore_n 2, 1) := by decide +kernel
theorem dX7_slot_19 : decode cX7_slot 19 = .ok (.iload_n 2, 1) := by decide +kernel
theorem dX7_slot_20 : decode cX7_slot 20 = .ok (.ifCond .eq 11, 3) := by decide +kernel
theorem dX7_slot_31 : decode cX7_slot 31 = .ok (.iconst (-1), 1) := by decide +kernel
theorem dX7_slot_32 : decode cX7_slot 32 = .ok (.ireturn, 1) := by decide +kernel
theorem dX7_slot_4 : decode cX7_slot 4 = .ok (.iload_n 1, 1) := by decide +kernel
theorem dX7_slot_5 : decode cX7_slot 5 = .ok (.ifCond .lt 12, 3) := by decide +kernel
theorem dX7_slot_8 : decode cX7_slot 8 = .ok (.iload_n 1, 1) := by decide +kernel
theorem dX7_slot_9 : decode cX7_slot 9 = .ok (.iconst 4, 1) := by decide +kernel
theorem dX7_slot_10 : decode cX7_slot 10 = .ok (.if_icmp .ge 7, 3) := by decide +kernel
theorem dX7_slot_13 : decode cX7_slot 13 = .ok (.iconst 1, 1) := by decide +kernel
theorem dX7_slot_14 : decode cX7_slot 14 = .ok (.goto 4, 3) := by decide +kernel
theorem dX7_slot_23 : decode cX7_slot 23 = .ok (.iload_n 0, 1) := by decide +kernel
theorem dX7_slot_24 : decode cX7_slot 24 = .ok (.iconst 4, 1) := by decide +kernel
theorem dX7_slot_25 : decode cX7_slot 25 = .ok (.imul, 1) := by decide +kernel
theorem dX7_slot_26 : decode cX7_slot 26 = .ok (.iload_n 1, 1) := by decide +kernel
theorem dX7_slot_27 : decode cX7_slot 27 = .ok (.iadd, 1) := by decide +kernel
theorem dX7_slot_28 : decode cX7_slot 28 = .ok (.goto 4, 3) := by decide +kernel
theorem hy_X7_slot : yX7_slot.cls ≠ "java/lang/invoke/MethodHandle" ∧ yX7_slot.cls ≠ "java/lang/invoke/VarHandle" ∧ (parseMethodDescriptor yX7_slot.desc).map (fun d => d.parameters.length) = some 2 := ⟨by decide, by decide, by decide +kernel⟩
def f_X7_slot (p1 : Int32) (p2 : Int32) : Option (Int32) :=
  if p1 < 0 then (
  some (-1)) else (
  if p2 < 0 then (
  some (-1)) else (
  if 4 ≤ p2 then (
  some (-1)) else (
  some ((p1 * (4 : Int32)) + p2))))
set_option maxHeartbeats 4000000 in
set_option maxRecDepth 100000 in
theorem c_X7_slot {l : Launch} {D : va_G} {Y : Nat → ClassId} {aR : Nat → Nat} {A : Nat → Prop} {p1 : Int32} {p2 : Int32} {r : Int32} (hf : f_X7_slot p1 p2 = some r) : jq_P l D Y aR A yX7_slot cX7_slot 3 (some .int) 0 0 [.int p1, .int p2] (some (.int r)) := by
  unfold f_X7_slot at hf
  refine jq_enterP (by decide) (Nat.le_of_ble_eq_true rfl) fun p e s m args below meth c ls H locs hX hS hl => ?_
  have hl : lv_has ls 3 [(0, .int p1), (1, .int p2)] := hl
  have hx := hX.1
  have hb := hX.2.1
  have hm := hX.2.2.1
  have ho := hX.2.2.2.1
  have ht := hX.2.2.2.2.1
  have hn := hX.2.2.2.2.2.1.2.1
  refine lv_iload_n hx hb dX7_slot_0 rfl (lv_at hl 0 rfl) ?_
  refine lv_if_lt (tgt := 17) hx hb dX7_slot_1 (by decide) (fun c1 => ?_) (fun c1 => ?_)
  · replace hf := o_t hf c1
    refine lv_iconst (v := 0) hx hb dX7_slot_17 (by decide) ?_
    refine lv_istore_n (lv' := [(2, .int 0), (0, .int p1), (1, .int p2)]) hx hb dX7_slot_18 rfl hl (by decide) rfl (fun ls hl' => ?_)
    clear hl
    have hl := hl'
    clear hl'
    refine lv_iload_n hx hb dX7_slot_19 rfl (lv_at hl 0 rfl) ?_
    refine lv_if_eq (tgt := 31) hx hb dX7_slot_20 (by decide) (fun _ => ?_) (fun z => absurd (by decide) z)
    refine lv_iconst (v := (-1)) hx hb dX7_slot_31 (by decide) ?_
    cases hf
    exact jq_iret hX hS dX7_slot_32 ⟨rfl, rfl, rfl, rfl⟩
  · replace hf := o_f hf c1
    refine lv_iload_n hx hb dX7_slot_4 rfl (lv_at hl 1 rfl) ?_
    refine lv_if_lt (tgt := 17) hx hb dX7_slot_5 (by decide) (fun c2 => ?_) (fun c2 => ?_)
    · replace hf := o_t hf c2
      refine lv_iconst (v := 0) hx hb dX7_slot_17 (by decide) ?_
      refine lv_istore_n (lv' := [(2, .int 0), (0, .int p1), (1, .int p2)]) hx hb dX7_slot_18 rfl hl (by decide) rfl (fun ls hl' => ?_)
      clear hl
      have hl := hl'
      clear hl'
      refine lv_iload_n hx hb dX7_slot_19 rfl (lv_at hl 0 rfl) ?_
      refine lv_if_eq (tgt := 31) hx hb dX7_slot_20 (by decide) (fun _ => ?_) (fun z => absurd (by decide) z)
      refine lv_iconst (v := (-1)) hx hb dX7_slot_31 (by decide) ?_
      cases hf
      exact jq_iret hX hS dX7_slot_32 ⟨rfl, rfl, rfl, rfl⟩
    · replace hf := o_f hf c2
      refine lv_iload_n hx hb dX7_slot_8 rfl (lv_at hl 1 rfl) ?_
      refine lv_iconst (v := 4) hx hb dX7_slot_9 (by decide) ?_
      refine lv_icmp_ge (tgt := 17) hx hb dX7_slot_10 (by decide) (fun c3 => ?_) (fun c3 => ?_)
      · replace hf := o_t hf c3
        refine lv_iconst (v := 0) hx hb dX7_slot_17 (by decide) ?_
        refine lv_istore_n (lv' := [(2, .int 0), (0, .int p1), (1, .int p2)]) hx hb dX7_slot_18 rfl hl (by decide) rfl (fun ls hl' => ?_)
        clear hl
        have hl := hl'
        clear hl'
        refine lv_iload_n hx hb dX7_slot_19 rfl (lv_at hl 0 rfl) ?_
        refine lv_if_eq (tgt := 31) hx hb dX7_slot_20 (by decide) (fun _ => ?_) (fun z => absurd (by decide) z)
        refine lv_iconst (v := (-1)) hx hb dX7_slot_31 (by decide) ?_
        cases hf
        exact jq_iret hX hS dX7_slot_32 ⟨rfl, rfl, rfl, rfl⟩
      · replace hf := o_f hf c3
        refine lv_iconst (v := 1) hx hb dX7_slot_13 (by decide) ?_
        refine lv_goto (tgt := 18) hx hb dX7_slot_14 (by decide) ?_
        refine lv_istore_n (lv' := [(2, .int 1), (0, .int p1), (1, .int p2)]) hx hb dX7_slot_18 rfl hl (by decide) rfl (fun ls hl' => ?_)
        clear hl
        have hl := hl'
        clear hl'
        refine lv_iload_n hx hb dX7_slot_19 rfl (lv_at hl 0 rfl) ?_
        refine lv_if_eq (tgt := 31) hx hb dX7_slot_20 (by decide) (fun z => absurd z (by decide)) (fun _ => ?_)
        refine lv_iload_n hx hb dX7_slot_23 rfl (lv_at hl 1 rfl) ?_
        refine lv_iconst (v := 4) hx hb dX7_slot_24 (by decide) ?_
        refine lv_imul hx hb dX7_slot_25 ?_
        refine lv_iload_n hx hb dX7_slot_26 rfl (lv_at hl 2 rfl) ?_
        refine lv_iadd hx hb dX7_slot_27 ?_
        refine lv_goto (tgt := 32) hx hb dX7_slot_28 (by decide) ?_
        cases hf
        exact jq_iret hX hS dX7_slot_32 ⟨rfl, rfl, rfl, rfl⟩
theorem dX2_nothing_0 : decode cX2_nothing 0 = .ok (.iload_n 0, 1) := by decide +kernel
theorem dX2_nothing_1 : decode cX2_nothing 1 = .ok (.invokestatic 11, 3) := by decide +kernel
theorem dX2_nothing_4 : decode cX2_nothing 4 = .ok (.ifCond .eq 9, 3) := by decide +kernel
theorem dX2_nothing_13 : decode cX2_nothing 13 = .ok (.lconst 0, 1) := by decide +kernel
theorem dX2_nothing_14 : decode cX2_nothing 14 = .ok (.lreturn, 1) := by decide +kernel
theorem dX2_nothing_7 : decode cX2_nothing 7 = .ok (.ldc2_w 34, 3) := by decide +kernel
theorem dX2_nothing_10 : decode cX2_nothing 10 = .ok (.goto 4, 3) := by decide +kernel
theorem hy_X2_nothing : yX2_nothing.cls ≠ "java/lang/invoke/MethodHandle" ∧ yX2_nothing.cls ≠ "java/lang/invoke/VarHandle" ∧ (parseMethodDescriptor yX2_nothing.desc).map (fun d => d.parameters.length) = some 1 := ⟨by decide, by decide, by decide +kernel⟩
def f_X2_nothing (p1 : Int32) : Option (Int64) :=
  o_cP (f_X2_isRow p1) fun x1 =>
  if x1 = 0 then (
  some 0) else (
  some (-1))
set_option maxHeartbeats 4000000 in
set_option maxRecDepth 100000 in
theorem c_X2_nothing {l : Launch} {D : va_G} {Y : Nat → ClassId} {aR : Nat → Nat} {A : Nat → Prop} {p1 : Int32} {r : Int64} (hf : f_X2_nothing p1 = some r) : jq_P l D Y aR A yX2_nothing cX2_nothing 1 (some .long) 1 20 [.int p1] (some (.long r)) := by
  unfold f_X2_nothing at hf
  refine jq_enterP (by decide) (Nat.le_of_ble_eq_true rfl) fun p e s m args below meth c ls H locs hX hS hl => ?_
  have hl : lv_has ls 1 [(0, .int p1)] := hl
  have hx := hX.1
  have hb := hX.2.1
  have hm := hX.2.2.1
  have ho := hX.2.2.2.1
  have ht := hX.2.2.2.2.1
  have hn := hX.2.2.2.2.2.1.2.1
  refine lv_iload_n hx hb dX2_nothing_0 rfl (lv_at hl 0 rfl) ?_
  replace hf := o_cP_e hf
  obtain ⟨x1, hq1, hf⟩ := hf
  refine jq_doP hX hS (jq_okS (As := [.int p1]) (rest := []) hx hb hm ho ht qw400 qw358 qw359 qw8 hy_X2_isRow rfl hl.1 (Nat.le_of_ble_eq_true rfl) dX2_nothing_1) (c_X2_isRow hq1) (Nat.le_of_ble_eq_true rfl) (Nat.le_of_ble_eq_true rfl) (Nat.le_refl _) (Nat.le_refl _) (fun locs hS' => ?_)
  clear hS
  have hS := hS'
  clear hS'
  refine lv_if_eq (tgt := 13) hx hb dX2_nothing_4 (by decide) (fun c1 => ?_) (fun c1 => ?_)
  · replace hf := o_t hf c1
    refine lv_lconst (v := 0) hx hb dX2_nothing_13 (by decide) ?_
    cases hf
    exact jq_lret hX hS dX2_nothing_14 ⟨rfl, rfl, rfl, rfl⟩
  · replace hf := o_f hf c1
    refine lv_ldc2 (v := (-1)) hx hb ho (ht _ qw627) dX2_nothing_7 ?_
    refine lv_goto (tgt := 14) hx hb dX2_nothing_10 (by decide) ?_
    cases hf
    exact jq_lret hX hS dX2_nothing_14 ⟨rfl, rfl, rfl, rfl⟩
