theorem dX4_magnitude_0 : decode cX4_magnitude 0 = .ok (.lload_n 1, 1) := by decide +kernel
theorem dX4_magnitude_1 : decode cX4_magnitude 1 = .ok (.aload_n 0, 1) := by decide +kernel
theorem dX4_magnitude_2 : decode cX4_magnitude 2 = .ok (.getfield 41, 3) := by decide +kernel
theorem dX4_magnitude_5 : decode cX4_magnitude 5 = .ok (.ldc2_w 39, 3) := by decide +kernel
theorem dX4_magnitude_8 : decode cX4_magnitude 8 = .ok (.lxor, 1) := by decide +kernel
theorem dX4_magnitude_9 : decode cX4_magnitude 9 = .ok (.land, 1) := by decide +kernel
theorem dX4_magnitude_10 : decode cX4_magnitude 10 = .ok (.lreturn, 1) := by decide +kernel
theorem hy_X4_magnitude : yX4_magnitude.cls ≠ "java/lang/invoke/MethodHandle" ∧ yX4_magnitude.cls ≠ "java/lang/invoke/VarHandle" ∧ (parseMethodDescriptor yX4_magnitude.desc).map (fun d => d.parameters.length) = some 1 := ⟨by decide, by decide, by decide +kernel⟩
def f_X4_magnitude (k : Nat) (p1 : Int64) : Option (Int64) :=
  o_let (rc_s k) fun x1 =>
  some (p1 &&& (x1 ^^^ (-1 : Int64)))
set_option maxHeartbeats 4000000 in
set_option maxRecDepth 100000 in
theorem c_X4_magnitude {l : Launch} {D : va_G} {Y : Nat → ClassId} {aR : Nat → Nat} {A : Nat → Prop} {k : Nat} {p1 : Int64} {r : Int64} (hk2 : k < 2) (hf : f_X4_magnitude k p1 = some r) : jq_P l D Y aR A yX4_magnitude cX4_magnitude 3 (some .long) 0 0 [.ref (aR k), .long p1] (some (.long r)) := by
  unfold f_X4_magnitude at hf
  refine jq_enterP (by decide) (Nat.le_of_ble_eq_true rfl) fun p e s m args below meth c ls H locs hX hS hl => ?_
  have hl : lv_has ls 3 [(0, .ref (aR k)), (1, .long p1)] := hl
  have hx := hX.1
  have hb := hX.2.1
  have hm := hX.2.2.1
  have ho := hX.2.2.2.1
  have ht := hX.2.2.2.2.1
  have hn := hX.2.2.2.2.2.1.2.1
  refine lv_lload_n hx hb dX4_magnitude_0 rfl (lv_at hl 1 rfl) ?_
  refine lv_aload_n hx hb dX4_magnitude_1 rfl (lv_at hl 0 rfl) ?_
  replace hf := o_let_e hf
  obtain ⟨x1, hx1, hf⟩ := hf
  refine gc_signs (k := k) hX hS hk2 hx1 qw1070 dX4_magnitude_2 ?_
  refine lv_ldc2 (v := (-1)) hx hb ho (ht _ qw212) dX4_magnitude_5 ?_
  refine lv_lxor hx hb dX4_magnitude_8 ?_
  refine lv_land hx hb dX4_magnitude_9 ?_
  cases hf
  exact jq_lret hX hS dX4_magnitude_10 ⟨rfl, rfl, rfl, rfl⟩
theorem dX4_infinity_0 : decode cX4_infinity 0 = .ok (.aload_n 0, 1) := by decide +kernel
theorem dX4_infinity_1 : decode cX4_infinity 1 = .ok (.getfield 36, 3) := by decide +kernel
theorem dX4_infinity_4 : decode cX4_infinity 4 = .ok (.i2l, 1) := by decide +kernel
theorem dX4_infinity_5 : decode cX4_infinity 5 = .ok (.aload_n 0, 1) := by decide +kernel
theorem dX4_infinity_6 : decode cX4_infinity 6 = .ok (.getfield 29, 3) := by decide +kernel
theorem dX4_infinity_9 : decode cX4_infinity 9 = .ok (.lshl, 1) := by decide +kernel
theorem dX4_infinity_10 : decode cX4_infinity 10 = .ok (.lreturn, 1) := by decide +kernel
theorem hy_X4_infinity : yX4_infinity.cls ≠ "java/lang/invoke/MethodHandle" ∧ yX4_infinity.cls ≠ "java/lang/invoke/VarHandle" ∧ (parseMethodDescriptor yX4_infinity.desc).map (fun d => d.parameters.length) = some 0 := ⟨by decide, by decide, by decide +kernel⟩
def f_X4_infinity (k : Nat) : Option (Int64) :=
  o_let (rc_y k) fun x1 =>
  o_let (rc_f k) fun x2 =>
  some (((x1).toInt64) <<< ((x2).toInt64 &&& 63))
set_option maxHeartbeats 4000000 in
set_option maxRecDepth 100000 in
theorem c_X4_infinity {l : Launch} {D : va_G} {Y : Nat → ClassId} {aR : Nat → Nat} {A : Nat → Prop} {k : Nat} {r : Int64} (hk2 : k < 2) (hf : f_X4_infinity k = some r) : jq_P l D Y aR A yX4_infinity cX4_infinity 1 (some .long) 0 0 [.ref (aR k)] (some (.long r)) := by
  unfold f_X4_infinity at hf
  refine jq_enterP (by decide) (Nat.le_of_ble_eq_true rfl) fun p e s m args below meth c ls H locs hX hS hl => ?_
  have hl : lv_has ls 1 [(0, .ref (aR k))] := hl
  have hx := hX.1
  have hb := hX.2.1
  have hm := hX.2.2.1
  have ho := hX.2.2.2.1
  have ht := hX.2.2.2.2.1
  have hn := hX.2.2.2.2.2.1.2.1
  refine lv_aload_n hx hb dX4_infinity_0 rfl (lv_at hl 0 rfl) ?_
  replace hf := o_let_e hf
  obtain ⟨x1, hx1, hf⟩ := hf
  refine gc_beyond (k := k) hX hS hk2 hx1 qw1071 dX4_infinity_1 ?_
  refine lv_i2l hx hb dX4_infinity_4 rfl ?_
  refine lv_aload_n hx hb dX4_infinity_5 rfl (lv_at hl 0 rfl) ?_
  replace hf := o_let_e hf
  obtain ⟨x2, hx2, hf⟩ := hf
  refine gc_fraction (k := k) hX hS hk2 hx2 qw1072 dX4_infinity_6 ?_
  refine lv_lshl hx hb dX4_infinity_9 rfl ?_
  cases hf
  exact jq_lret hX hS dX4_infinity_10 ⟨rfl, rfl, rfl, rfl⟩
theorem dX4_isNoNumber_0 : decode cX4_isNoNumber 0 = .ok (.aload_n 0, 1) := by decide +kernel
theorem dX4_isNoNumber_1 : decode cX4_isNoNumber 1 = .ok (.lload_n 1, 1) := by decide +kernel
theorem dX4_isNoNumber_2 : decode cX4_isNoNumber 2 = .ok (.invokevirtual 49, 3) := by decide +kernel
theorem dX4_isNoNumber_5 : decode cX4_isNoNumber 5 = .ok (.aload_n 0, 1) := by decide +kernel
theorem dX4_isNoNumber_6 : decode cX4_isNoNumber 6 = .ok (.invokevirtual 45, 3) := by decide +kernel
theorem dX4_isNoNumber_9 : decode cX4_isNoNumber 9 = .ok (.lcmp, 1) := by decide +kernel
theorem dX4_isNoNumber_17 : decode cX4_isNoNumber 17 = .ok (.iconst 0, 1) := by decide +kernel
theorem dX4_isNoNumber_18 : decode cX4_isNoNumber 18 = .ok (.ireturn, 1) := by decide +kernel
theorem dX4_isNoNumber_13 : decode cX4_isNoNumber 13 = .ok (.iconst 1, 1) := by decide +kernel
theorem dX4_isNoNumber_14 : decode cX4_isNoNumber 14 = .ok (.goto 4, 3) := by decide +kernel
theorem dX4_isNoNumber_10 : decode cX4_isNoNumber 10 = .ok (.ifCond .le 7, 3) := by decide +kernel
theorem hy_X4_isNoNumber : yX4_isNoNumber.cls ≠ "java/lang/invoke/MethodHandle" ∧ yX4_isNoNumber.cls ≠ "java/lang/invoke/VarHandle" ∧ (parseMethodDescriptor yX4_isNoNumber.desc).map (fun d => d.parameters.length) = some 1 := ⟨by decide, by decide, by decide +kernel⟩
def f_X4_isNoNumber (k : Nat) (p1 : Int64) : Option (Int32) :=
  o_cP (f_X4_magnitude k p1) fun x1 =>
  o_cP (f_X4_infinity k) fun x2 =>
  if x1 ≤ x2 then (
  some 0) else (
  some 1)
set_option maxHeartbeats 4000000 in
set_option maxRecDepth 100000 in
theorem c_X4_isNoNumber {l : Launch} {D : va_G} {Y : Nat → ClassId} {aR : Nat → Nat} {A : Nat → Prop} {k : Nat} {p1 : Int64} {r : Int32} (hk2 : k < 2) (hf : f_X4_isNoNumber k p1 = some r) : jq_P l D Y aR A yX4_isNoNumber cX4_isNoNumber 3 (some .boolean) 1 22 [.ref (aR k), .long p1] (some (.int r)) := by
  unfold f_X4_isNoNumber at hf
  refine jq_enterP (by decide) (Nat.le_of_ble_eq_true rfl) fun p e s m args below meth c ls H locs hX hS hl => ?_
  have hl : lv_has ls 3 [(0, .ref (aR k)), (1, .long p1)] := hl
  have hx := hX.1
  have hb := hX.2.1
  have hm := hX.2.2.1
  have ho := hX.2.2.2.1
  have ht := hX.2.2.2.2.1
  have hn := hX.2.2.2.2.2.1.2.1
  refine lv_aload_n hx hb dX4_isNoNumber_0 rfl (lv_at hl 0 rfl) ?_
  refine lv_lload_n hx hb dX4_isNoNumber_1 rfl (lv_at hl 1 rfl) ?_
  replace hf := o_cP_e hf
  obtain ⟨x1, hq1, hf⟩ := hf
  refine jq_doP hX hS (jq_okV (As := [.long p1]) (rest := []) hx hb hm ho ht (jq_const hX hS hk2) qw208 qw210 qs5 qw211 qw12 hy_X4_magnitude rfl hl.1 (Nat.le_of_ble_eq_true rfl) dX4_isNoNumber_2) (c_X4_magnitude hk2 hq1) (Nat.le_of_ble_eq_true rfl) (Nat.le_of_ble_eq_true rfl) (Nat.le_refl _) (Nat.le_refl _) (fun locs hS' => ?_)
  clear hS
  have hS := hS'
  clear hS'
  refine lv_aload_n hx hb dX4_isNoNumber_5 rfl (lv_at hl 0 rfl) ?_
  replace hf := o_cP_e hf
  obtain ⟨x2, hq2, hf⟩ := hf
  refine jq_doP hX hS (jq_okV (As := []) (rest := [.long x1]) hx hb hm ho ht (jq_const hX hS hk2) qw213 qw215 qs6 qw216 qw12 hy_X4_infinity rfl hl.1 (Nat.le_of_ble_eq_true rfl) dX4_isNoNumber_6) (c_X4_infinity hk2 hq2) (Nat.le_of_ble_eq_true rfl) (Nat.le_of_ble_eq_true rfl) (Nat.le_refl _) (Nat.le_refl _) (fun locs hS' => ?_)
  clear hS
  have hS := hS'
  clear hS'
  refine W.lcmp hx hb dX4_isNoNumber_9 ?_
  refine lv_if_le (tgt := 17) hx hb dX4_isNoNumber_10 (by decide) (fun c1 => ?_) (fun c1 => ?_)
  · replace hf := o_t hf (qc_le.mp c1)
    refine lv_iconst (v := 0) hx hb dX4_isNoNumber_17 (by decide) ?_
    cases hf
    exact jq_zret hX hS (by decide) dX4_isNoNumber_18 ⟨rfl, rfl, rfl, rfl⟩
  · replace hf := o_f hf (fun z => c1 (qc_le.mpr z))
    refine lv_iconst (v := 1) hx hb dX4_isNoNumber_13 (by decide) ?_
    refine lv_goto (tgt := 18) hx hb dX4_isNoNumber_14 (by decide) ?_
    cases hf
    exact jq_zret hX hS (by decide) dX4_isNoNumber_18 ⟨rfl, rfl, rfl, rfl⟩
theorem dX4_noNumber_0 : decode cX4_noNumber 0 = .ok (.aload_n 0, 1) := by decide +kernel
theorem dX4_noNumber_1 : decode cX4_noNumber 1 = .ok (.invokevirtual 45, 3) := by decide +kernel
theorem dX4_noNumber_4 : decode cX4_noNumber 4 = .ok (.lconst 1, 1) := by decide +kernel
theorem dX4_noNumber_5 : decode cX4_noNumber 5 = .ok (.aload_n 0, 1) := by decide +kernel
theorem dX4_noNumber_6 : decode cX4_noNumber 6 = .ok (.getfield 29, 3) := by decide +kernel
theorem dX4_noNumber_9 : decode cX4_noNumber 9 = .ok (.iconst 1, 1) := by decide +kernel
theorem dX4_noNumber_10 : decode cX4_noNumber 10 = .ok (.isub, 1) := by decide +kernel
theorem dX4_noNumber_11 : decode cX4_noNumber 11 = .ok (.lshl, 1) := by decide +kernel
theorem dX4_noNumber_12 : decode cX4_noNumber 12 = .ok (.lor, 1) := by decide +kernel
theorem dX4_noNumber_13 : decode cX4_noNumber 13 = .ok (.lreturn, 1) := by decide +kernel
theorem hy_X4_noNumber : yX4_noNumber.cls ≠ "java/lang/invoke/MethodHandle" ∧ yX4_noNumber.cls ≠ "java/lang/invoke/VarHandle" ∧ (parseMethodDescriptor yX4_noNumber.desc).map (fun d => d.parameters.length) = some 0 := ⟨by decide, by decide, by decide +kernel⟩
def f_X4_noNumber (k : Nat) : Option (Int64) :=
  o_cP (f_X4_infinity k) fun x1 =>
  o_let (rc_f k) fun x2 =>
  some (x1 ||| ((1 : Int64) <<< (((x2 - (1 : Int32))).toInt64 &&& 63)))
set_option maxHeartbeats 4000000 in
set_option maxRecDepth 100000 in
theorem c_X4_noNumber {l : Launch} {D : va_G} {Y : Nat → ClassId} {aR : Nat → Nat} {A : Nat → Prop} {k : Nat} {r : Int64} (hk2 : k < 2) (hf : f_X4_noNumber k = some r) : jq_P l D Y aR A yX4_noNumber cX4_noNumber 1 (some .long) 1 20 [.ref (aR k)] (some (.long r)) := by
  unfold f_X4_noNumber at hf
  refine jq_enterP (by decide) (Nat.le_of_ble_eq_true rfl) fun p e s m args below meth c ls H locs hX hS hl => ?_
  have hl : lv_has ls 1 [(0, .ref (aR k))] := hl
  have hx := hX.1
  have hb := hX.2.1
  have hm := hX.2.2.1
  have ho := hX.2.2.2.1
  have ht := hX.2.2.2.2.1
  have hn := hX.2.2.2.2.2.1.2.1
  refine lv_aload_n hx hb dX4_noNumber_0 rfl (lv_at hl 0 rfl) ?_
  replace hf := o_cP_e hf
  obtain ⟨x1, hq1, hf⟩ := hf
  refine jq_doP hX hS (jq_okV (As := []) (rest := []) hx hb hm ho ht (jq_const hX hS hk2) qw213 qw215 qs6 qw216 qw12 hy_X4_infinity rfl hl.1 (Nat.le_of_ble_eq_true rfl) dX4_noNumber_1) (c_X4_infinity hk2 hq1) (Nat.le_of_ble_eq_true rfl) (Nat.le_of_ble_eq_true rfl) (Nat.le_refl _) (Nat.le_refl _) (fun locs hS' => ?_)
  clear hS
  have hS := hS'
  clear hS'
  refine lv_lconst (v := 1) hx hb dX4_noNumber_4 (by decide) ?_
  refine lv_aload_n hx hb dX4_noNumber_5 rfl (lv_at hl 0 rfl) ?_
  replace hf := o_let_e hf
  obtain ⟨x2, hx2, hf⟩ := hf
  refine gc_fraction (k := k) hX hS hk2 hx2 qw1072 dX4_noNumber_6 ?_
  refine lv_iconst (v := 1) hx hb dX4_noNumber_9 (by decide) ?_
  refine lv_isub hx hb dX4_noNumber_10 ?_
  refine lv_lshl hx hb dX4_noNumber_11 rfl ?_
  refine lv_lor hx hb dX4_noNumber_12 ?_
  cases hf
  exact jq_lret hX hS dX4_noNumber_13 ⟨rfl, rfl, rfl, rfl⟩
theorem dX4_plain_0 : decode cX4_plain 0 = .ok (.aload_n 0, 1) := by decide +kernel
theorem dX4_plain_1 : decode cX4_plain 1 = .ok (.lload_n 1, 1) := by decide +kernel
theorem dX4_plain_2 : decode cX4_plain 2 = .ok (.invokevirtual 53, 3) := by decide +kernel
theorem dX4_plain_5 : decode cX4_plain 5 = .ok (.ifCond .eq 10, 3) := by decide +kernel
theorem dX4_plain_15 : decode cX4_plain 15 = .ok (.lload_n 1, 1) := by decide +kernel
theorem dX4_plain_16 : decode cX4_plain 16 = .ok (.lreturn, 1) := by decide +kernel
theorem dX4_plain_8 : decode cX4_plain 8 = .ok (.aload_n 0, 1) := by decide +kernel
theorem dX4_plain_9 : decode cX4_plain 9 = .ok (.invokevirtual 57, 3) := by decide +kernel
theorem dX4_plain_12 : decode cX4_plain 12 = .ok (.goto 4, 3) := by decide +kernel
theorem hy_X4_plain : yX4_plain.cls ≠ "java/lang/invoke/MethodHandle" ∧ yX4_plain.cls ≠ "java/lang/invoke/VarHandle" ∧ (parseMethodDescriptor yX4_plain.desc).map (fun d => d.parameters.length) = some 1 := ⟨by decide, by decide, by decide +kernel⟩
def f_X4_plain (k : Nat) (p1 : Int64) : Option (Int64) :=
  o_cP (f_X4_isNoNumber k p1) fun x1 =>
  if x1 = 0 then (
  some p1) else (
  o_cP (f_X4_noNumber k) fun x2 =>
  some x2)
set_option maxHeartbeats 4000000 in
set_option maxRecDepth 100000 in
theorem c_X4_plain {l : Launch} {D : va_G} {Y : Nat → ClassId} {aR : Nat → Nat} {A : Nat → Prop} {k : Nat} {p1 : Int64} {r : Int64} (hk2 : k < 2) (hf : f_X4_plain k p1 = some r) : jq_P l D Y aR A yX4_plain cX4_plain 3 (some .long) 2 44 [.ref (aR k), .long p1] (some (.long r)) := by
  unfold f_X4_plain at hf
  refine jq_enterP (by decide) (Nat.le_of_ble_eq_true rfl) fun p e s m args below meth c ls H locs hX hS hl => ?_
  have hl : lv_has ls 3 [(0, .ref (aR k)), (1, .long p1)] := hl
  have hx := hX.1
  have hb := hX.2.1
  have hm := hX.2.2.1
  have ho := hX.2.2.2.1
  have ht := hX.2.2.2.2.1
  have hn := hX.2.2.2.2.2.1.2.1
  refine lv_aload_n hx hb dX4_plain_0 rfl (lv_at hl 0 rfl) ?_
  refine lv_lload_n hx hb dX4_plain_1 rfl (lv_at hl 1 rfl) ?_
  replace hf := o_cP_e hf
  obtain ⟨x1, hq1, hf⟩ := hf
  refine jq_doP hX hS (jq_okV (As := [.long p1]) (rest := []) hx hb hm ho ht (jq_const hX hS hk2) qw204 qw206 qs4 qw207 qw12 hy_X4_isNoNumber rfl hl.1 (Nat.le_of_ble_eq_true rfl) dX4_plain_2) (c_X4_isNoNumber hk2 hq1) (Nat.le_of_ble_eq_true rfl) (Nat.le_of_ble_eq_true rfl) (Nat.le_refl _) (Nat.le_refl _) (fun locs hS' => ?_)
  clear hS
  have hS := hS'
  clear hS'
  refine lv_if_eq (tgt := 15) hx hb dX4_plain_5 (by decide) (fun c1 => ?_) (fun c1 => ?_)
  · replace hf := o_t hf c1
    refine lv_lload_n hx hb dX4_plain_15 rfl (lv_at hl 1 rfl) ?_
    cases hf
    exact jq_lret hX hS dX4_plain_16 ⟨rfl, rfl, rfl, rfl⟩
  · replace hf := o_f hf c1
    refine lv_aload_n hx hb dX4_plain_8 rfl (lv_at hl 0 rfl) ?_
    replace hf := o_cP_e hf
    obtain ⟨x2, hq2, hf⟩ := hf
    refine jq_doP hX hS (jq_okV (As := []) (rest := []) hx hb hm ho ht (jq_const hX hS hk2) qw217 qw219 qs7 qw220 qw12 hy_X4_noNumber rfl hl.1 (Nat.le_of_ble_eq_true rfl) dX4_plain_9) (c_X4_noNumber hk2 hq2) (Nat.le_of_ble_eq_true rfl) (Nat.le_of_ble_eq_true rfl) (Nat.le_refl _) (Nat.le_refl _) (fun locs hS' => ?_)
    clear hS
    have hS := hS'
    clear hS'
    refine lv_goto (tgt := 16) hx hb dX4_plain_12 (by decide) ?_
    cases hf
    exact jq_lret hX hS dX4_plain_16 ⟨rfl, rfl, rfl, rfl⟩
theorem dX4_roomAbove_0 : decode cX4_roomAbove 0 = .ok (.iconst 0, 1) := by decide +kernel
theorem dX4_roomAbove_1 : decode cX4_roomAbove 1 = .ok (.istore_n 3, 1) := by decide +kernel
theorem dX4_roomAbove_2 : decode cX4_roomAbove 2 = .ok (.bipush 32, 2) := by decide +kernel
theorem dX4_roomAbove_4 : decode cX4_roomAbove 4 = .ok (.istore 4, 2) := by decide +kernel
theorem dX4_roomAbove_6 : decode cX4_roomAbove 6 = .ok (.iload 4, 2) := by decide +kernel
theorem dX4_roomAbove_8 : decode cX4_roomAbove 8 = .ok (.ifCond .le 32, 3) := by decide +kernel
theorem dX4_roomAbove_40 : decode cX4_roomAbove 40 = .ok (.iload_n 3, 1) := by decide +kernel
theorem dX4_roomAbove_41 : decode cX4_roomAbove 41 = .ok (.ireturn, 1) := by decide +kernel
theorem dX4_roomAbove_11 : decode cX4_roomAbove 11 = .ok (.lload_n 0, 1) := by decide +kernel
theorem dX4_roomAbove_12 : decode cX4_roomAbove 12 = .ok (.iload_n 3, 1) := by decide +kernel
theorem dX4_roomAbove_13 : decode cX4_roomAbove 13 = .ok (.lshl, 1) := by decide +kernel
theorem dX4_roomAbove_14 : decode cX4_roomAbove 14 = .ok (.iload_n 2, 1) := by decide +kernel
theorem dX4_roomAbove_15 : decode cX4_roomAbove 15 = .ok (.iconst 1, 1) := by decide +kernel
theorem dX4_roomAbove_16 : decode cX4_roomAbove 16 = .ok (.iadd, 1) := by decide +kernel
theorem dX4_roomAbove_17 : decode cX4_roomAbove 17 = .ok (.iload 4, 2) := by decide +kernel
theorem dX4_roomAbove_19 : decode cX4_roomAbove 19 = .ok (.isub, 1) := by decide +kernel
theorem dX4_roomAbove_20 : decode cX4_roomAbove 20 = .ok (.lushr, 1) := by decide +kernel
theorem dX4_roomAbove_21 : decode cX4_roomAbove 21 = .ok (.lconst 0, 1) := by decide +kernel
theorem dX4_roomAbove_22 : decode cX4_roomAbove 22 = .ok (.lcmp, 1) := by decide +kernel
theorem dX4_roomAbove_31 : decode cX4_roomAbove 31 = .ok (.iload 4, 2) := by decide +kernel
theorem dX4_roomAbove_33 : decode cX4_roomAbove 33 = .ok (.iconst 1, 1) := by decide +kernel
theorem dX4_roomAbove_34 : decode cX4_roomAbove 34 = .ok (.ishr, 1) := by decide +kernel
theorem dX4_roomAbove_35 : decode cX4_roomAbove 35 = .ok (.istore 4, 2) := by decide +kernel
theorem dX4_roomAbove_37 : decode cX4_roomAbove 37 = .ok (.goto (-31), 3) := by decide +kernel
theorem dX4_roomAbove_26 : decode cX4_roomAbove 26 = .ok (.iload_n 3, 1) := by decide +kernel
theorem dX4_roomAbove_27 : decode cX4_roomAbove 27 = .ok (.iload 4, 2) := by decide +kernel
theorem dX4_roomAbove_29 : decode cX4_roomAbove 29 = .ok (.iadd, 1) := by decide +kernel
theorem dX4_roomAbove_30 : decode cX4_roomAbove 30 = .ok (.istore_n 3, 1) := by decide +kernel
theorem dX4_roomAbove_23 : decode cX4_roomAbove 23 = .ok (.ifCond .ne 8, 3) := by decide +kernel
theorem hy_X4_roomAbove : yX4_roomAbove.cls ≠ "java/lang/invoke/MethodHandle" ∧ yX4_roomAbove.cls ≠ "java/lang/invoke/VarHandle" ∧ (parseMethodDescriptor yX4_roomAbove.desc).map (fun d => d.parameters.length) = some 2 := ⟨by decide, by decide, by decide +kernel⟩
def f_X4_roomAbove_b6 : Nat → Int64 → Int32 → Int32 → Int32 → Option (Int32)
  | 0, _, _, _, _ => none
  | n + 1, l0, l2, l3, l4 => 
  if l4 ≤ 0 then (
  some l3) else (
  if ((((l0 <<< ((l3).toInt64 &&& 63))).toUInt64 >>> ((((l2 + (1 : Int32)) - l4)).toInt64.toUInt64 &&& Int64.toUInt64 63)).toInt64) = 0 then (
  f_X4_roomAbove_b6 n l0 l2 (l3 + l4) (l4 >>> ((1 : Int32) &&& 31))) else (
  f_X4_roomAbove_b6 n l0 l2 l3 (l4 >>> ((1 : Int32) &&& 31))))
set_option maxHeartbeats 4000000 in
set_option maxRecDepth 100000 in
theorem w_X4_roomAbove_b6 {l : Launch} {D : va_G} {Y : Nat → ClassId} {aR : Nat → Nat} {A : Nat → Prop} {p : Program} {e : Env} {s : State} {m : MethodId} {args : Array Value} {below : List Frame} {meth : Method} {c : Code} : ∀ (n : Nat) (l0 : Int64) (l2 : Int32) (l3 : Int32) (l4 : Int32) (r : Int32) (H : Heap) (locs : List Loc) (ls : Array Slot), jq_X D Y aR A p s m args meth c cX4_roomAbove RX4 "roomAbove" 5 (some .int) → va_S A s.heap H locs → f_X4_roomAbove_b6 n l0 l2 l3 l4 = some r → lv_has ls 5 [(0, .long l0), (2, .int l2), (3, .int l3), (4, .int l4)] → W p l e { frames := 0, cells := 0, slots := 0, locals := 0 } s m args below meth c H locs 0 0 (jq_Z below A (fun v k n H' => v = (some (.int r)) ∧ k = 0 ∧ n = 0 ∧ H' = H) s) (F0 m 6 ls []) := by
  intro n
  induction n with
  | zero =>
    intro l0 l2 l3 l4 r H locs ls hX hS hf hl
    cases hf
  | succ n ih =>
    intro l0 l2 l3 l4 r H locs ls hX hS hf hl
    rw [f_X4_roomAbove_b6.eq_2] at hf
    have hx := hX.1
    have hb := hX.2.1
    have hm := hX.2.2.1
    have ho := hX.2.2.2.1
    have ht := hX.2.2.2.2.1
    have hn := hX.2.2.2.2.2.1.2.1
    refine lv_iload hx hb dX4_roomAbove_6 (lv_at hl 3 rfl) ?_
    refine lv_if_le (tgt := 40) hx hb dX4_roomAbove_8 (by decide) (fun c1 => ?_) (fun c1 => ?_)
    · replace hf := o_t hf c1
      refine lv_iload_n hx hb dX4_roomAbove_40 rfl (lv_at hl 2 rfl) ?_
      cases hf
      exact jq_iret hX hS dX4_roomAbove_41 ⟨rfl, rfl, rfl, rfl⟩
    · replace hf := o_f hf c1
      refine lv_lload_n hx hb dX4_roomAbove_11 rfl (lv_at hl 0 rfl) ?_
      refine lv_iload_n hx hb dX4_roomAbove_12 rfl (lv_at hl 2 rfl) ?_
      refine lv_lshl hx hb dX4_roomAbove_13 rfl ?_
      refine lv_iload_n hx hb dX4_roomAbove_14 rfl (lv_at hl 1 rfl) ?_
      refine lv_iconst (v := 1) hx hb dX4_roomAbove_15 (by decide) ?_
      refine lv_iadd hx hb dX4_roomAbove_16 ?_
      refine lv_iload hx hb dX4_roomAbove_17 (lv_at hl 3 rfl) ?_
      refine lv_isub hx hb dX4_roomAbove_19 ?_
      refine lv_lushr hx hb dX4_roomAbove_20 rfl ?_
      refine lv_lconst (v := 0) hx hb dX4_roomAbove_21 (by decide) ?_
      refine W.lcmp hx hb dX4_roomAbove_22 ?_
      refine lv_if_ne (tgt := 31) hx hb dX4_roomAbove_23 (by decide) (fun c2 => ?_) (fun c2 => ?_)
      · replace hf := o_f hf (fun z => c2 (qc_eq.mpr z))
        refine lv_iload hx hb dX4_roomAbove_31 (lv_at hl 3 rfl) ?_
        refine lv_iconst (v := 1) hx hb dX4_roomAbove_33 (by decide) ?_
        refine lv_ishr hx hb dX4_roomAbove_34 ?_
        refine lv_istore (lv' := [(4, .int (l4 >>> ((1 : Int32) &&& 31))), (0, .long l0), (2, .int l2), (3, .int l3)]) hx hb dX4_roomAbove_35 hl (by decide) rfl (fun ls hl' => ?_)
        clear hl
        have hl := hl'
        clear hl'
        refine lv_goto (tgt := 6) hx hb dX4_roomAbove_37 (by decide) ?_
        replace hl := lv_sub hl (l' := [(0, .long l0), (2, .int l2), (3, .int l3), (4, .int (l4 >>> ((1 : Int32) &&& 31)))]) [1, 2, 3, 0] rfl
        exact ih l0 l2 l3 (l4 >>> ((1 : Int32) &&& 31)) r H locs ls hX hS hf hl
      · replace hf := o_t hf (qc_eq.mp c2)
        refine lv_iload_n hx hb dX4_roomAbove_26 rfl (lv_at hl 2 rfl) ?_
        refine lv_iload hx hb dX4_roomAbove_27 (lv_at hl 3 rfl) ?_
        refine lv_iadd hx hb dX4_roomAbove_29 ?_
        refine lv_istore_n (lv' := [(3, .int (l3 + l4)), (0, .long l0), (2, .int l2), (4, .int l4)]) hx hb dX4_roomAbove_30 rfl hl (by decide) rfl (fun ls hl' => ?_)
        clear hl
        have hl := hl'
        clear hl'
        refine lv_iload hx hb dX4_roomAbove_31 (lv_at hl 3 rfl) ?_
        refine lv_iconst (v := 1) hx hb dX4_roomAbove_33 (by decide) ?_
        refine lv_ishr hx hb dX4_roomAbove_34 ?_
        refine lv_istore (lv' := [(4, .int (l4 >>> ((1 : Int32) &&& 31))), (3, .int (l3 + l4)), (0, .long l0), (2, .int l2)]) hx hb dX4_roomAbove_35 hl (by decide) rfl (fun ls hl' => ?_)
        clear hl
        have hl := hl'
        clear hl'
        refine lv_goto (tgt := 6) hx hb dX4_roomAbove_37 (by decide) ?_
        replace hl := lv_sub hl (l' := [(0, .long l0), (2, .int l2), (3, .int (l3 + l4)), (4, .int (l4 >>> ((1 : Int32) &&& 31)))]) [2, 3, 1, 0] rfl
        exact ih l0 l2 (l3 + l4) (l4 >>> ((1 : Int32) &&& 31)) r H locs ls hX hS hf hl
def f_X4_roomAbove (p1 : Int64) (p2 : Int32) : Option (Int32) :=
  f_X4_roomAbove_b6 12 p1 p2 0 32
set_option maxHeartbeats 4000000 in
set_option maxRecDepth 100000 in
theorem c_X4_roomAbove {l : Launch} {D : va_G} {Y : Nat → ClassId} {aR : Nat → Nat} {A : Nat → Prop} {p1 : Int64} {p2 : Int32} {r : Int32} (hf : f_X4_roomAbove p1 p2 = some r) : jq_P l D Y aR A yX4_roomAbove cX4_roomAbove 5 (some .int) 0 0 [.long p1, .int p2] (some (.int r)) := by
  unfold f_X4_roomAbove at hf
  refine jq_enterP (by decide) (Nat.le_of_ble_eq_true rfl) fun p e s m args below meth c ls H locs hX hS hl => ?_
  have hl : lv_has ls 5 [(0, .long p1), (2, .int p2)] := hl
  have hx := hX.1
  have hb := hX.2.1
  have hm := hX.2.2.1
  have ho := hX.2.2.2.1
  have ht := hX.2.2.2.2.1
  have hn := hX.2.2.2.2.2.1.2.1
  refine lv_iconst (v := 0) hx hb dX4_roomAbove_0 (by decide) ?_
  refine lv_istore_n (lv' := [(3, .int 0), (0, .long p1), (2, .int p2)]) hx hb dX4_roomAbove_1 rfl hl (by decide) rfl (fun ls hl' => ?_)
  clear hl
  have hl := hl'
  clear hl'
  refine lv_bipush (v := 32) hx hb dX4_roomAbove_2 (by decide) ?_
  refine lv_istore (lv' := [(4, .int 32), (3, .int 0), (0, .long p1), (2, .int p2)]) hx hb dX4_roomAbove_4 hl (by decide) rfl (fun ls hl' => ?_)
  clear hl
  have hl := hl'
  clear hl'
  replace hl := lv_sub hl (l' := [(0, .long p1), (2, .int p2), (3, .int 0), (4, .int 32)]) [2, 3, 1, 0] rfl
  exact w_X4_roomAbove_b6 12 p1 p2 0 32 r H locs ls hX hS hf hl
theorem dX4_signed_0 : decode cX4_signed 0 = .ok (.iload_n 1, 1) := by decide +kernel
theorem dX4_signed_1 : decode cX4_signed 1 = .ok (.ifCond .eq 12, 3) := by decide +kernel
theorem dX4_signed_13 : decode cX4_signed 13 = .ok (.lload_n 2, 1) := by decide +kernel
theorem dX4_signed_14 : decode cX4_signed 14 = .ok (.lreturn, 1) := by decide +kernel
theorem dX4_signed_4 : decode cX4_signed 4 = .ok (.lload_n 2, 1) := by decide +kernel
theorem dX4_signed_5 : decode cX4_signed 5 = .ok (.aload_n 0, 1) := by decide +kernel
theorem dX4_signed_6 : decode cX4_signed 6 = .ok (.getfield 41, 3) := by decide +kernel
theorem dX4_signed_9 : decode cX4_signed 9 = .ok (.lor, 1) := by decide +kernel
theorem dX4_signed_10 : decode cX4_signed 10 = .ok (.goto 4, 3) := by decide +kernel
theorem hy_X4_signed : yX4_signed.cls ≠ "java/lang/invoke/MethodHandle" ∧ yX4_signed.cls ≠ "java/lang/invoke/VarHandle" ∧ (parseMethodDescriptor yX4_signed.desc).map (fun d => d.parameters.length) = some 2 := ⟨by decide, by decide, by decide +kernel⟩
def f_X4_signed (k : Nat) (p1 : Int32) (p2 : Int64) : Option (Int64) :=
  if p1 = 0 then (
  some p2) else (
  o_let (rc_s k) fun x1 =>
  some (p2 ||| x1))
set_option maxHeartbeats 4000000 in
set_option maxRecDepth 100000 in
theorem c_X4_signed {l : Launch} {D : va_G} {Y : Nat → ClassId} {aR : Nat → Nat} {A : Nat → Prop} {k : Nat} {p1 : Int32} {p2 : Int64} {r : Int64} (hk2 : k < 2) (hf : f_X4_signed k p1 p2 = some r) : jq_P l D Y aR A yX4_signed cX4_signed 4 (some .long) 0 0 [.ref (aR k), .int p1, .long p2] (some (.long r)) := by
  unfold f_X4_signed at hf
  refine jq_enterP (by decide) (Nat.le_of_ble_eq_true rfl) fun p e s m args below meth c ls H locs hX hS hl => ?_
  have hl : lv_has ls 4 [(0, .ref (aR k)), (1, .int p1), (2, .long p2)] := hl
  have hx := hX.1
  have hb := hX.2.1
  have hm := hX.2.2.1
  have ho := hX.2.2.2.1
  have ht := hX.2.2.2.2.1
  have hn := hX.2.2.2.2.2.1.2.1
  refine lv_iload_n hx hb dX4_signed_0 rfl (lv_at hl 1 rfl) ?_
  refine lv_if_eq (tgt := 13) hx hb dX4_signed_1 (by decide) (fun c1 => ?_) (fun c1 => ?_)
  · replace hf := o_t hf c1
    refine lv_lload_n hx hb dX4_signed_13 rfl (lv_at hl 2 rfl) ?_
    cases hf
    exact jq_lret hX hS dX4_signed_14 ⟨rfl, rfl, rfl, rfl⟩
  · replace hf := o_f hf c1
    refine lv_lload_n hx hb dX4_signed_4 rfl (lv_at hl 2 rfl) ?_
    refine lv_aload_n hx hb dX4_signed_5 rfl (lv_at hl 0 rfl) ?_
    replace hf := o_let_e hf
    obtain ⟨x1, hx1, hf⟩ := hf
    refine gc_signs (k := k) hX hS hk2 hx1 qw1070 dX4_signed_6 ?_
    refine lv_lor hx hb dX4_signed_9 ?_
    refine lv_goto (tgt := 14) hx hb dX4_signed_10 (by decide) ?_
    cases hf
    exact jq_lret hX hS dX4_signed_14 ⟨rfl, rfl, rfl, rfl⟩
theorem dX4_rounded_0 : decode cX4_rounded 0 = .ok (.lload_n 2, 1) := by decide +kernel
theorem dX4_rounded_1 : decode cX4_rounded 1 = .ok (.bipush 62, 2) := by decide +kernel
theorem dX4_rounded_3 : decode cX4_rounded 3 = .ok (.invokestatic 99, 3) := by decide +kernel
theorem dX4_rounded_6 : decode cX4_rounded 6 = .ok (.istore 5, 2) := by decide +kernel
theorem dX4_rounded_8 : decode cX4_rounded 8 = .ok (.lload_n 2, 1) := by decide +kernel
theorem dX4_rounded_9 : decode cX4_rounded 9 = .ok (.iload 5, 2) := by decide +kernel
theorem dX4_rounded_11 : decode cX4_rounded 11 = .ok (.lshl, 1) := by decide +kernel
theorem dX4_rounded_12 : decode cX4_rounded 12 = .ok (.lstore 6, 2) := by decide +kernel
theorem dX4_rounded_14 : decode cX4_rounded 14 = .ok (.iload 4, 2) := by decide +kernel
theorem dX4_rounded_16 : decode cX4_rounded 16 = .ok (.iload 5, 2) := by decide +kernel
theorem dX4_rounded_18 : decode cX4_rounded 18 = .ok (.isub, 1) := by decide +kernel
theorem dX4_rounded_19 : decode cX4_rounded 19 = .ok (.bipush 62, 2) := by decide +kernel
theorem dX4_rounded_21 : decode cX4_rounded 21 = .ok (.iadd, 1) := by decide +kernel
theorem dX4_rounded_22 : decode cX4_rounded 22 = .ok (.aload_n 0, 1) := by decide +kernel
theorem dX4_rounded_23 : decode cX4_rounded 23 = .ok (.getfield 33, 3) := by decide +kernel
theorem dX4_rounded_26 : decode cX4_rounded 26 = .ok (.iadd, 1) := by decide +kernel
theorem dX4_rounded_27 : decode cX4_rounded 27 = .ok (.istore 8, 2) := by decide +kernel
theorem dX4_rounded_29 : decode cX4_rounded 29 = .ok (.iload 8, 2) := by decide +kernel
theorem dX4_rounded_31 : decode cX4_rounded 31 = .ok (.aload_n 0, 1) := by decide +kernel
theorem dX4_rounded_32 : decode cX4_rounded 32 = .ok (.getfield 36, 3) := by decide +kernel
theorem dX4_rounded_35 : decode cX4_rounded 35 = .ok (.if_icmp .lt 13, 3) := by decide +kernel
theorem dX4_rounded_48 : decode cX4_rounded 48 = .ok (.bipush 62, 2) := by decide +kernel
theorem dX4_rounded_50 : decode cX4_rounded 50 = .ok (.aload_n 0, 1) := by decide +kernel
theorem dX4_rounded_51 : decode cX4_rounded 51 = .ok (.getfield 29, 3) := by decide +kernel
theorem dX4_rounded_54 : decode cX4_rounded 54 = .ok (.isub, 1) := by decide +kernel
theorem dX4_rounded_55 : decode cX4_rounded 55 = .ok (.iload 8, 2) := by decide +kernel
theorem dX4_rounded_57 : decode cX4_rounded 57 = .ok (.iconst 1, 1) := by decide +kernel
theorem dX4_rounded_58 : decode cX4_rounded 58 = .ok (.if_icmp .ge 10, 3) := by decide +kernel
theorem dX4_rounded_68 : decode cX4_rounded 68 = .ok (.iconst 0, 1) := by decide +kernel
theorem dX4_rounded_61 : decode cX4_rounded 61 = .ok (.iconst 1, 1) := by decide +kernel
theorem dX4_rounded_62 : decode cX4_rounded 62 = .ok (.iload 8, 2) := by decide +kernel
theorem dX4_rounded_64 : decode cX4_rounded 64 = .ok (.isub, 1) := by decide +kernel
theorem dX4_rounded_65 : decode cX4_rounded 65 = .ok (.goto 4, 3) := by decide +kernel
theorem dX4_rounded_38 : decode cX4_rounded 38 = .ok (.aload_n 0, 1) := by decide +kernel
theorem dX4_rounded_39 : decode cX4_rounded 39 = .ok (.iload_n 1, 1) := by decide +kernel
theorem dX4_rounded_40 : decode cX4_rounded 40 = .ok (.aload_n 0, 1) := by decide +kernel
theorem dX4_rounded_41 : decode cX4_rounded 41 = .ok (.invokevirtual 45, 3) := by decide +kernel
theorem dX4_rounded_44 : decode cX4_rounded 44 = .ok (.invokevirtual 81, 3) := by decide +kernel
theorem dX4_rounded_47 : decode cX4_rounded 47 = .ok (.lreturn, 1) := by decide +kernel
theorem dX4_rounded_69 : decode cX4_rounded 69 = .ok (.iadd, 1) := by decide +kernel
theorem dX4_rounded_70 : decode cX4_rounded 70 = .ok (.istore 9, 2) := by decide +kernel
theorem dX4_rounded_72 : decode cX4_rounded 72 = .ok (.iload 9, 2) := by decide +kernel
theorem dX4_rounded_74 : decode cX4_rounded 74 = .ok (.bipush 63, 2) := by decide +kernel
theorem dX4_rounded_76 : decode cX4_rounded 76 = .ok (.if_icmp .le 10, 3) := by decide +kernel
theorem dX4_rounded_86 : decode cX4_rounded 86 = .ok (.lload 6, 2) := by decide +kernel
theorem dX4_rounded_88 : decode cX4_rounded 88 = .ok (.iload 9, 2) := by decide +kernel
theorem dX4_rounded_90 : decode cX4_rounded 90 = .ok (.lushr, 1) := by decide +kernel
theorem dX4_rounded_91 : decode cX4_rounded 91 = .ok (.lstore 10, 2) := by decide +kernel
theorem dX4_rounded_93 : decode cX4_rounded 93 = .ok (.lload 6, 2) := by decide +kernel
theorem dX4_rounded_95 : decode cX4_rounded 95 = .ok (.lload 10, 2) := by decide +kernel
theorem dX4_rounded_97 : decode cX4_rounded 97 = .ok (.iload 9, 2) := by decide +kernel
theorem dX4_rounded_99 : decode cX4_rounded 99 = .ok (.lshl, 1) := by decide +kernel
theorem dX4_rounded_100 : decode cX4_rounded 100 = .ok (.lsub, 1) := by decide +kernel
theorem dX4_rounded_101 : decode cX4_rounded 101 = .ok (.lstore 12, 2) := by decide +kernel
theorem dX4_rounded_103 : decode cX4_rounded 103 = .ok (.lconst 1, 1) := by decide +kernel
theorem dX4_rounded_104 : decode cX4_rounded 104 = .ok (.iload 9, 2) := by decide +kernel
theorem dX4_rounded_106 : decode cX4_rounded 106 = .ok (.iconst 1, 1) := by decide +kernel
theorem dX4_rounded_107 : decode cX4_rounded 107 = .ok (.isub, 1) := by decide +kernel
theorem dX4_rounded_108 : decode cX4_rounded 108 = .ok (.lshl, 1) := by decide +kernel
theorem dX4_rounded_109 : decode cX4_rounded 109 = .ok (.lstore 14, 2) := by decide +kernel
theorem dX4_rounded_111 : decode cX4_rounded 111 = .ok (.lload 12, 2) := by decide +kernel
theorem dX4_rounded_113 : decode cX4_rounded 113 = .ok (.lload 14, 2) := by decide +kernel
theorem dX4_rounded_115 : decode cX4_rounded 115 = .ok (.lcmp, 1) := by decide +kernel
theorem dX4_rounded_136 : decode cX4_rounded 136 = .ok (.lload 10, 2) := by decide +kernel
theorem dX4_rounded_138 : decode cX4_rounded 138 = .ok (.lconst 1, 1) := by decide +kernel
theorem dX4_rounded_139 : decode cX4_rounded 139 = .ok (.ladd, 1) := by decide +kernel
theorem dX4_rounded_140 : decode cX4_rounded 140 = .ok (.lstore 10, 2) := by decide +kernel
theorem dX4_rounded_119 : decode cX4_rounded 119 = .ok (.lload 12, 2) := by decide +kernel
theorem dX4_rounded_121 : decode cX4_rounded 121 = .ok (.lload 14, 2) := by decide +kernel
theorem dX4_rounded_123 : decode cX4_rounded 123 = .ok (.lcmp, 1) := by decide +kernel
theorem dX4_rounded_127 : decode cX4_rounded 127 = .ok (.lload 10, 2) := by decide +kernel
theorem dX4_rounded_129 : decode cX4_rounded 129 = .ok (.lconst 1, 1) := by decide +kernel
theorem dX4_rounded_130 : decode cX4_rounded 130 = .ok (.land, 1) := by decide +kernel
theorem dX4_rounded_131 : decode cX4_rounded 131 = .ok (.lconst 1, 1) := by decide +kernel
theorem dX4_rounded_132 : decode cX4_rounded 132 = .ok (.lcmp, 1) := by decide +kernel
theorem dX4_rounded_133 : decode cX4_rounded 133 = .ok (.ifCond .ne 9, 3) := by decide +kernel
theorem dX4_rounded_124 : decode cX4_rounded 124 = .ok (.ifCond .ne 18, 3) := by decide +kernel
theorem dX4_rounded_116 : decode cX4_rounded 116 = .ok (.ifCond .gt 20, 3) := by decide +kernel
theorem dX4_rounded_79 : decode cX4_rounded 79 = .ok (.aload_n 0, 1) := by decide +kernel
theorem dX4_rounded_80 : decode cX4_rounded 80 = .ok (.iload_n 1, 1) := by decide +kernel
theorem dX4_rounded_81 : decode cX4_rounded 81 = .ok (.lconst 0, 1) := by decide +kernel
theorem dX4_rounded_82 : decode cX4_rounded 82 = .ok (.invokevirtual 81, 3) := by decide +kernel
theorem dX4_rounded_85 : decode cX4_rounded 85 = .ok (.lreturn, 1) := by decide +kernel
theorem dX4_rounded_142 : decode cX4_rounded 142 = .ok (.iload 8, 2) := by decide +kernel
theorem dX4_rounded_144 : decode cX4_rounded 144 = .ok (.iconst 1, 1) := by decide +kernel
theorem dX4_rounded_145 : decode cX4_rounded 145 = .ok (.if_icmp .ge 7, 3) := by decide +kernel
theorem dX4_rounded_152 : decode cX4_rounded 152 = .ok (.iload 8, 2) := by decide +kernel
theorem dX4_rounded_154 : decode cX4_rounded 154 = .ok (.iconst 1, 1) := by decide +kernel
theorem dX4_rounded_155 : decode cX4_rounded 155 = .ok (.isub, 1) := by decide +kernel
theorem dX4_rounded_156 : decode cX4_rounded 156 = .ok (.i2l, 1) := by decide +kernel
theorem dX4_rounded_157 : decode cX4_rounded 157 = .ok (.aload_n 0, 1) := by decide +kernel
theorem dX4_rounded_158 : decode cX4_rounded 158 = .ok (.getfield 29, 3) := by decide +kernel
theorem dX4_rounded_161 : decode cX4_rounded 161 = .ok (.lshl, 1) := by decide +kernel
theorem dX4_rounded_162 : decode cX4_rounded 162 = .ok (.lstore 16, 2) := by decide +kernel
theorem dX4_rounded_164 : decode cX4_rounded 164 = .ok (.aload_n 0, 1) := by decide +kernel
theorem dX4_rounded_165 : decode cX4_rounded 165 = .ok (.iload_n 1, 1) := by decide +kernel
theorem dX4_rounded_166 : decode cX4_rounded 166 = .ok (.lload 16, 2) := by decide +kernel
theorem dX4_rounded_168 : decode cX4_rounded 168 = .ok (.lload 10, 2) := by decide +kernel
theorem dX4_rounded_170 : decode cX4_rounded 170 = .ok (.ladd, 1) := by decide +kernel
theorem dX4_rounded_171 : decode cX4_rounded 171 = .ok (.invokevirtual 81, 3) := by decide +kernel
theorem dX4_rounded_174 : decode cX4_rounded 174 = .ok (.lreturn, 1) := by decide +kernel
theorem dX4_rounded_148 : decode cX4_rounded 148 = .ok (.lconst 0, 1) := by decide +kernel
theorem dX4_rounded_149 : decode cX4_rounded 149 = .ok (.goto 13, 3) := by decide +kernel
theorem hy_X4_rounded : yX4_rounded.cls ≠ "java/lang/invoke/MethodHandle" ∧ yX4_rounded.cls ≠ "java/lang/invoke/VarHandle" ∧ (parseMethodDescriptor yX4_rounded.desc).map (fun d => d.parameters.length) = some 3 := ⟨by decide, by decide, by decide +kernel⟩
def f_X4_rounded_b142 (k : Nat) (l1 : Int32) (l8 : Int32) (l10 : Int64) : Option (Int64) :=
  if 1 ≤ l8 then (
  o_let (rc_f k) fun x1 =>
  o_cP (f_X4_signed k l1 (((((l8 - (1 : Int32))).toInt64) <<< ((x1).toInt64 &&& 63)) + l10)) fun x2 =>
  some x2) else (
  o_cP (f_X4_signed k l1 ((0 : Int64) + l10)) fun x3 =>
  some x3)
set_option maxHeartbeats 4000000 in
set_option maxRecDepth 100000 in
theorem w_X4_rounded_b142 {l : Launch} {D : va_G} {Y : Nat → ClassId} {aR : Nat → Nat} {A : Nat → Prop} {p : Program} {e : Env} {s : State} {m : MethodId} {args : Array Value} {below : List Frame} {meth : Method} {c : Code} : ∀ (k : Nat) (l1 : Int32) (l8 : Int32) (l10 : Int64) (r : Int64) (H : Heap) (locs : List Loc) (ls : Array Slot), k < 2 → jq_X D Y aR A p s m args meth c cX4_rounded RX4 "rounded" 18 (some .long) → va_S A s.heap H locs → f_X4_rounded_b142 k l1 l8 l10 = some r → lv_has ls 18 [(0, .ref (aR k)), (1, .int l1), (8, .int l8), (10, .long l10)] → W p l e { frames := 1, cells := 0, slots := 0, locals := 24 } s m args below meth c H locs 0 0 (jq_Z below A (fun v k n H' => v = (some (.long r)) ∧ k = 0 ∧ n = 0 ∧ H' = H) s) (F0 m 142 ls []) := by
  intro k l1 l8 l10 r H locs ls hk2 hX hS hf hl
  unfold f_X4_rounded_b142 at hf
  have hx := hX.1
  have hb := hX.2.1
  have hm := hX.2.2.1
  have ho := hX.2.2.2.1
  have ht := hX.2.2.2.2.1
  have hn := hX.2.2.2.2.2.1.2.1
  refine lv_iload hx hb dX4_rounded_142 (lv_at hl 2 rfl) ?_
  refine lv_iconst (v := 1) hx hb dX4_rounded_144 (by decide) ?_
  refine lv_icmp_ge (tgt := 152) hx hb dX4_rounded_145 (by decide) (fun c1 => ?_) (fun c1 => ?_)
  · replace hf := o_t hf c1
    refine lv_iload hx hb dX4_rounded_152 (lv_at hl 2 rfl) ?_
    refine lv_iconst (v := 1) hx hb dX4_rounded_154 (by decide) ?_
    refine lv_isub hx hb dX4_rounded_155 ?_
    refine lv_i2l hx hb dX4_rounded_156 rfl ?_
    refine lv_aload_n hx hb dX4_rounded_157 rfl (lv_at hl 0 rfl) ?_
    replace hf := o_let_e hf
    obtain ⟨x1, hx1, hf⟩ := hf
    refine gc_fraction (k := k) hX hS hk2 hx1 qw1072 dX4_rounded_158 ?_
    refine lv_lshl hx hb dX4_rounded_161 rfl ?_
    refine lv_lstore (lv' := [(16, .long ((((l8 - (1 : Int32))).toInt64) <<< ((x1).toInt64 &&& 63))), (0, .ref (aR k)), (1, .int l1), (8, .int l8), (10, .long l10)]) hx hb dX4_rounded_162 hl (by decide) rfl (fun ls hl' => ?_)
    clear hl
    have hl := hl'
    clear hl'
    refine lv_aload_n hx hb dX4_rounded_164 rfl (lv_at hl 1 rfl) ?_
    refine lv_iload_n hx hb dX4_rounded_165 rfl (lv_at hl 2 rfl) ?_
    refine lv_lload hx hb dX4_rounded_166 (lv_at hl 0 rfl) ?_
    refine lv_lload hx hb dX4_rounded_168 (lv_at hl 4 rfl) ?_
    refine lv_ladd hx hb dX4_rounded_170 ?_
    replace hf := o_cP_e hf
    obtain ⟨x2, hq1, hf⟩ := hf
    refine jq_doP hX hS (jq_okV (As := [.int l1, .long (((((l8 - (1 : Int32))).toInt64) <<< ((x1).toInt64 &&& 63)) + l10)]) (rest := []) hx hb hm ho ht (jq_const hX hS hk2) qw506 qw508 qs40 qw509 qw12 hy_X4_signed rfl hl.1 (Nat.le_of_ble_eq_true rfl) dX4_rounded_171) (c_X4_signed hk2 hq1) (Nat.le_of_ble_eq_true rfl) (Nat.le_of_ble_eq_true rfl) (Nat.le_refl _) (Nat.le_refl _) (fun locs hS' => ?_)
    clear hS
    have hS := hS'
    clear hS'
    cases hf
    exact jq_lret hX hS dX4_rounded_174 ⟨rfl, rfl, rfl, rfl⟩
  · replace hf := o_f hf c1
    refine lv_lconst (v := 0) hx hb dX4_rounded_148 (by decide) ?_
    refine lv_goto (tgt := 162) hx hb dX4_rounded_149 (by decide) ?_
    refine lv_lstore (lv' := [(16, .long 0), (0, .ref (aR k)), (1, .int l1), (8, .int l8), (10, .long l10)]) hx hb dX4_rounded_162 hl (by decide) rfl (fun ls hl' => ?_)
    clear hl
    have hl := hl'
    clear hl'
    refine lv_aload_n hx hb dX4_rounded_164 rfl (lv_at hl 1 rfl) ?_
    refine lv_iload_n hx hb dX4_rounded_165 rfl (lv_at hl 2 rfl) ?_
    refine lv_lload hx hb dX4_rounded_166 (lv_at hl 0 rfl) ?_
    refine lv_lload hx hb dX4_rounded_168 (lv_at hl 4 rfl) ?_
    refine lv_ladd hx hb dX4_rounded_170 ?_
    replace hf := o_cP_e hf
    obtain ⟨x3, hq2, hf⟩ := hf
    refine jq_doP hX hS (jq_okV (As := [.int l1, .long ((0 : Int64) + l10)]) (rest := []) hx hb hm ho ht (jq_const hX hS hk2) qw506 qw508 qs40 qw509 qw12 hy_X4_signed rfl hl.1 (Nat.le_of_ble_eq_true rfl) dX4_rounded_171) (c_X4_signed hk2 hq2) (Nat.le_of_ble_eq_true rfl) (Nat.le_of_ble_eq_true rfl) (Nat.le_refl _) (Nat.le_refl _) (fun locs hS' => ?_)
    clear hS
    have hS := hS'
    clear hS'
    cases hf
    exact jq_lret hX hS dX4_rounded_174 ⟨rfl, rfl, rfl, rfl⟩
def f_X4_rounded_b69 (k : Nat) (l1 : Int32) (l6 : Int64) (l8 : Int32) (t0 : Int32) (t1 : Int32) : Option (Int64) :=
  if (t1 + t0) ≤ 63 then (
  if ((1 : Int64) <<< ((((t1 + t0) - (1 : Int32))).toInt64 &&& 63)) < (l6 - ((((l6).toUInt64 >>> (((t1 + t0)).toInt64.toUInt64 &&& Int64.toUInt64 63)).toInt64) <<< (((t1 + t0)).toInt64 &&& 63))) then (
  f_X4_rounded_b142 k l1 l8 ((((l6).toUInt64 >>> (((t1 + t0)).toInt64.toUInt64 &&& Int64.toUInt64 63)).toInt64) + (1 : Int64))) else (
  if (l6 - ((((l6).toUInt64 >>> (((t1 + t0)).toInt64.toUInt64 &&& Int64.toUInt64 63)).toInt64) <<< (((t1 + t0)).toInt64 &&& 63))) = ((1 : Int64) <<< ((((t1 + t0) - (1 : Int32))).toInt64 &&& 63)) then (
  if ((((l6).toUInt64 >>> (((t1 + t0)).toInt64.toUInt64 &&& Int64.toUInt64 63)).toInt64) &&& (1 : Int64)) = 1 then (
  f_X4_rounded_b142 k l1 l8 ((((l6).toUInt64 >>> (((t1 + t0)).toInt64.toUInt64 &&& Int64.toUInt64 63)).toInt64) + (1 : Int64))) else (
  f_X4_rounded_b142 k l1 l8 (((l6).toUInt64 >>> (((t1 + t0)).toInt64.toUInt64 &&& Int64.toUInt64 63)).toInt64))) else (
  f_X4_rounded_b142 k l1 l8 (((l6).toUInt64 >>> (((t1 + t0)).toInt64.toUInt64 &&& Int64.toUInt64 63)).toInt64)))) else (
  o_cP (f_X4_signed k l1 0) fun x1 =>
  some x1)
set_option maxHeartbeats 4000000 in
set_option maxRecDepth 100000 in
theorem w_X4_rounded_b69 {l : Launch} {D : va_G} {Y : Nat → ClassId} {aR : Nat → Nat} {A : Nat → Prop} {p : Program} {e : Env} {s : State} {m : MethodId} {args : Array Value} {below : List Frame} {meth : Method} {c : Code} : ∀ (k : Nat) (l1 : Int32) (l6 : Int64) (l8 : Int32) (t0 : Int32) (t1 : Int32) (r : Int64) (H : Heap) (locs : List Loc) (ls : Array Slot), k < 2 → jq_X D Y aR A p s m args meth c cX4_rounded RX4 "rounded" 18 (some .long) → va_S A s.heap H locs → f_X4_rounded_b69 k l1 l6 l8 t0 t1 = some r → lv_has ls 18 [(0, .ref (aR k)), (1, .int l1), (6, .long l6), (8, .int l8)] → W p l e { frames := 1, cells := 0, slots := 0, locals := 24 } s m args below meth c H locs 0 0 (jq_Z below A (fun v k n H' => v = (some (.long r)) ∧ k = 0 ∧ n = 0 ∧ H' = H) s) (F0 m 69 ls [.int t0, .int t1]) := by
  intro k l1 l6 l8 t0 t1 r H locs ls hk2 hX hS hf hl
  unfold f_X4_rounded_b69 at hf
  have hx := hX.1
  have hb := hX.2.1
  have hm := hX.2.2.1
  have ho := hX.2.2.2.1
  have ht := hX.2.2.2.2.1
  have hn := hX.2.2.2.2.2.1.2.1
  refine lv_iadd hx hb dX4_rounded_69 ?_
  refine lv_istore (lv' := [(9, .int (t1 + t0)), (0, .ref (aR k)), (1, .int l1), (6, .long l6), (8, .int l8)]) hx hb dX4_rounded_70 hl (by decide) rfl (fun ls hl' => ?_)
  clear hl
  have hl := hl'
  clear hl'
  refine lv_iload hx hb dX4_rounded_72 (lv_at hl 0 rfl) ?_
  refine lv_bipush (v := 63) hx hb dX4_rounded_74 (by decide) ?_
  refine lv_icmp_le (tgt := 86) hx hb dX4_rounded_76 (by decide) (fun c1 => ?_) (fun c1 => ?_)
  · replace hf := o_t hf c1
    refine lv_lload hx hb dX4_rounded_86 (lv_at hl 3 rfl) ?_
    refine lv_iload hx hb dX4_rounded_88 (lv_at hl 0 rfl) ?_
    refine lv_lushr hx hb dX4_rounded_90 rfl ?_
    refine lv_lstore (lv' := [(10, .long (((l6).toUInt64 >>> (((t1 + t0)).toInt64.toUInt64 &&& Int64.toUInt64 63)).toInt64)), (9, .int (t1 + t0)), (0, .ref (aR k)), (1, .int l1), (6, .long l6), (8, .int l8)]) hx hb dX4_rounded_91 hl (by decide) rfl (fun ls hl' => ?_)
    clear hl
    have hl := hl'
    clear hl'
    refine lv_lload hx hb dX4_rounded_93 (lv_at hl 4 rfl) ?_
    refine lv_lload hx hb dX4_rounded_95 (lv_at hl 0 rfl) ?_
    refine lv_iload hx hb dX4_rounded_97 (lv_at hl 1 rfl) ?_
    refine lv_lshl hx hb dX4_rounded_99 rfl ?_
    refine lv_lsub hx hb dX4_rounded_100 ?_
    refine lv_lstore (lv' := [(12, .long (l6 - ((((l6).toUInt64 >>> (((t1 + t0)).toInt64.toUInt64 &&& Int64.toUInt64 63)).toInt64) <<< (((t1 + t0)).toInt64 &&& 63)))), (10, .long (((l6).toUInt64 >>> (((t1 + t0)).toInt64.toUInt64 &&& Int64.toUInt64 63)).toInt64)), (9, .int (t1 + t0)), (0, .ref (aR k)), (1, .int l1), (6, .long l6), (8, .int l8)]) hx hb dX4_rounded_101 hl (by decide) rfl (fun ls hl' => ?_)
    clear hl
    have hl := hl'
    clear hl'
    refine lv_lconst (v := 1) hx hb dX4_rounded_103 (by decide) ?_
    refine lv_iload hx hb dX4_rounded_104 (lv_at hl 2 rfl) ?_
    refine lv_iconst (v := 1) hx hb dX4_rounded_106 (by decide) ?_
    refine lv_isub hx hb dX4_rounded_107 ?_
    refine lv_lshl hx hb dX4_rounded_108 rfl ?_
    refine lv_lstore (lv' := [(14, .long ((1 : Int64) <<< ((((t1 + t0) - (1 : Int32))).toInt64 &&& 63))), (12, .long (l6 - ((((l6).toUInt64 >>> (((t1 + t0)).toInt64.toUInt64 &&& Int64.toUInt64 63)).toInt64) <<< (((t1 + t0)).toInt64 &&& 63)))), (10, .long (((l6).toUInt64 >>> (((t1 + t0)).toInt64.toUInt64 &&& Int64.toUInt64 63)).toInt64)), (9, .int (t1 + t0)), (0, .ref (aR k)), (1, .int l1), (6, .long l6), (8, .int l8)]) hx hb dX4_rounded_109 hl (by decide) rfl (fun ls hl' => ?_)
    clear hl
    have hl := hl'
    clear hl'
    refine lv_lload hx hb dX4_rounded_111 (lv_at hl 1 rfl) ?_
    refine lv_lload hx hb dX4_rounded_113 (lv_at hl 0 rfl) ?_
    refine W.lcmp hx hb dX4_rounded_115 ?_
    refine lv_if_gt (tgt := 136) hx hb dX4_rounded_116 (by decide) (fun c2 => ?_) (fun c2 => ?_)
    · replace hf := o_t hf (qc_gt.mp c2)
      refine lv_lload hx hb dX4_rounded_136 (lv_at hl 2 rfl) ?_
      refine lv_lconst (v := 1) hx hb dX4_rounded_138 (by decide) ?_
      refine lv_ladd hx hb dX4_rounded_139 ?_
      refine lv_lstore (lv' := [(10, .long ((((l6).toUInt64 >>> (((t1 + t0)).toInt64.toUInt64 &&& Int64.toUInt64 63)).toInt64) + (1 : Int64))), (14, .long ((1 : Int64) <<< ((((t1 + t0) - (1 : Int32))).toInt64 &&& 63))), (12, .long (l6 - ((((l6).toUInt64 >>> (((t1 + t0)).toInt64.toUInt64 &&& Int64.toUInt64 63)).toInt64) <<< (((t1 + t0)).toInt64 &&& 63)))), (9, .int (t1 + t0)), (0, .ref (aR k)), (1, .int l1), (6, .long l6), (8, .int l8)]) hx hb dX4_rounded_140 hl (by decide) rfl (fun ls hl' => ?_)
      clear hl
      have hl := hl'
      clear hl'
      replace hl := lv_sub hl (l' := [(0, .ref (aR k)), (1, .int l1), (8, .int l8), (10, .long ((((l6).toUInt64 >>> (((t1 + t0)).toInt64.toUInt64 &&& Int64.toUInt64 63)).toInt64) + (1 : Int64)))]) [4, 5, 7, 0] rfl
      exact w_X4_rounded_b142 k l1 l8 ((((l6).toUInt64 >>> (((t1 + t0)).toInt64.toUInt64 &&& Int64.toUInt64 63)).toInt64) + (1 : Int64)) r H locs ls hk2 hX hS hf hl
    · replace hf := o_f hf (fun z => c2 (qc_gt.mpr z))
      refine lv_lload hx hb dX4_rounded_119 (lv_at hl 1 rfl) ?_
      refine lv_lload hx hb dX4_rounded_121 (lv_at hl 0 rfl) ?_
      refine W.lcmp hx hb dX4_rounded_123 ?_
      refine lv_if_ne (tgt := 142) hx hb dX4_rounded_124 (by decide) (fun c3 => ?_) (fun c3 => ?_)
      · replace hf := o_f hf (fun z => c3 (qc_eq.mpr z))
        replace hl := lv_sub hl (l' := [(0, .ref (aR k)), (1, .int l1), (8, .int l8), (10, .long (((l6).toUInt64 >>> (((t1 + t0)).toInt64.toUInt64 &&& Int64.toUInt64 63)).toInt64))]) [4, 5, 7, 2] rfl
        exact w_X4_rounded_b142 k l1 l8 (((l6).toUInt64 >>> (((t1 + t0)).toInt64.toUInt64 &&& Int64.toUInt64 63)).toInt64) r H locs ls hk2 hX hS hf hl
      · replace hf := o_t hf (qc_eq.mp c3)
        refine lv_lload hx hb dX4_rounded_127 (lv_at hl 2 rfl) ?_
        refine lv_lconst (v := 1) hx hb dX4_rounded_129 (by decide) ?_
        refine lv_land hx hb dX4_rounded_130 ?_
        refine lv_lconst (v := 1) hx hb dX4_rounded_131 (by decide) ?_
        refine W.lcmp hx hb dX4_rounded_132 ?_
        refine lv_if_ne (tgt := 142) hx hb dX4_rounded_133 (by decide) (fun c4 => ?_) (fun c4 => ?_)
        · replace hf := o_f hf (fun z => c4 (qc_eq.mpr z))
          replace hl := lv_sub hl (l' := [(0, .ref (aR k)), (1, .int l1), (8, .int l8), (10, .long (((l6).toUInt64 >>> (((t1 + t0)).toInt64.toUInt64 &&& Int64.toUInt64 63)).toInt64))]) [4, 5, 7, 2] rfl
          exact w_X4_rounded_b142 k l1 l8 (((l6).toUInt64 >>> (((t1 + t0)).toInt64.toUInt64 &&& Int64.toUInt64 63)).toInt64) r H locs ls hk2 hX hS hf hl
        · replace hf := o_t hf (qc_eq.mp c4)
          refine lv_lload hx hb dX4_rounded_136 (lv_at hl 2 rfl) ?_
          refine lv_lconst (v := 1) hx hb dX4_rounded_138 (by decide) ?_
          refine lv_ladd hx hb dX4_rounded_139 ?_
          refine lv_lstore (lv' := [(10, .long ((((l6).toUInt64 >>> (((t1 + t0)).toInt64.toUInt64 &&& Int64.toUInt64 63)).toInt64) + (1 : Int64))), (14, .long ((1 : Int64) <<< ((((t1 + t0) - (1 : Int32))).toInt64 &&& 63))), (12, .long (l6 - ((((l6).toUInt64 >>> (((t1 + t0)).toInt64.toUInt64 &&& Int64.toUInt64 63)).toInt64) <<< (((t1 + t0)).toInt64 &&& 63)))), (9, .int (t1 + t0)), (0, .ref (aR k)), (1, .int l1), (6, .long l6), (8, .int l8)]) hx hb dX4_rounded_140 hl (by decide) rfl (fun ls hl' => ?_)
          clear hl
          have hl := hl'
          clear hl'
          replace hl := lv_sub hl (l' := [(0, .ref (aR k)), (1, .int l1), (8, .int l8), (10, .long ((((l6).toUInt64 >>> (((t1 + t0)).toInt64.toUInt64 &&& Int64.toUInt64 63)).toInt64) + (1 : Int64)))]) [4, 5, 7, 0] rfl
          exact w_X4_rounded_b142 k l1 l8 ((((l6).toUInt64 >>> (((t1 + t0)).toInt64.toUInt64 &&& Int64.toUInt64 63)).toInt64) + (1 : Int64)) r H locs ls hk2 hX hS hf hl
  · replace hf := o_f hf c1
    refine lv_aload_n hx hb dX4_rounded_79 rfl (lv_at hl 1 rfl) ?_
    refine lv_iload_n hx hb dX4_rounded_80 rfl (lv_at hl 2 rfl) ?_
    refine lv_lconst (v := 0) hx hb dX4_rounded_81 (by decide) ?_
    replace hf := o_cP_e hf
    obtain ⟨x1, hq1, hf⟩ := hf
    refine jq_doP hX hS (jq_okV (As := [.int l1, .long 0]) (rest := []) hx hb hm ho ht (jq_const hX hS hk2) qw506 qw508 qs40 qw509 qw12 hy_X4_signed rfl hl.1 (Nat.le_of_ble_eq_true rfl) dX4_rounded_82) (c_X4_signed hk2 hq1) (Nat.le_of_ble_eq_true rfl) (Nat.le_of_ble_eq_true rfl) (Nat.le_refl _) (Nat.le_refl _) (fun locs hS' => ?_)
    clear hS
    have hS := hS'
    clear hS'
    cases hf
    exact jq_lret hX hS dX4_rounded_85 ⟨rfl, rfl, rfl, rfl⟩
def f_X4_rounded (k : Nat) (p1 : Int32) (p2 : Int64) (p3 : Int32) : Option (Int64) :=
  o_cP (f_X4_roomAbove p2 62) fun x1 =>
  o_let (rc_b k) fun x2 =>
  o_let (rc_y k) fun x3 =>
  if (((p3 - x1) + (62 : Int32)) + x2) < x3 then (
  o_let (rc_f k) fun x4 =>
  if 1 ≤ (((p3 - x1) + (62 : Int32)) + x2) then (
  f_X4_rounded_b69 k p1 (p2 <<< ((x1).toInt64 &&& 63)) (((p3 - x1) + (62 : Int32)) + x2) 0 ((62 : Int32) - x4)) else (
  f_X4_rounded_b69 k p1 (p2 <<< ((x1).toInt64 &&& 63)) (((p3 - x1) + (62 : Int32)) + x2) ((1 : Int32) - (((p3 - x1) + (62 : Int32)) + x2)) ((62 : Int32) - x4))) else (
  o_cP (f_X4_infinity k) fun x5 =>
  o_cP (f_X4_signed k p1 x5) fun x6 =>
  some x6)
set_option maxHeartbeats 4000000 in
set_option maxRecDepth 100000 in
theorem c_X4_rounded {l : Launch} {D : va_G} {Y : Nat → ClassId} {aR : Nat → Nat} {A : Nat → Prop} {k : Nat} {p1 : Int32} {p2 : Int64} {p3 : Int32} {r : Int64} (hk2 : k < 2) (hf : f_X4_rounded k p1 p2 p3 = some r) : jq_P l D Y aR A yX4_rounded cX4_rounded 18 (some .long) 1 24 [.ref (aR k), .int p1, .long p2, .int p3] (some (.long r)) := by
  unfold f_X4_rounded at hf
  refine jq_enterP (by decide) (Nat.le_of_ble_eq_true rfl) fun p e s m args below meth c ls H locs hX hS hl => ?_
  have hl : lv_has ls 18 [(0, .ref (aR k)), (1, .int p1), (2, .long p2), (4, .int p3)] := hl
  have hx := hX.1
  have hb := hX.2.1
  have hm := hX.2.2.1
  have ho := hX.2.2.2.1
  have ht := hX.2.2.2.2.1
  have hn := hX.2.2.2.2.2.1.2.1
  refine lv_lload_n hx hb dX4_rounded_0 rfl (lv_at hl 2 rfl) ?_
  refine lv_bipush (v := 62) hx hb dX4_rounded_1 (by decide) ?_
  replace hf := o_cP_e hf
  obtain ⟨x1, hq1, hf⟩ := hf
  refine jq_doP hX hS (jq_okS (As := [.long p2, .int 62]) (rest := []) hx hb hm ho ht qw503 qw504 qw505 qw12 hy_X4_roomAbove rfl hl.1 (Nat.le_of_ble_eq_true rfl) dX4_rounded_3) (c_X4_roomAbove hq1) (Nat.le_of_ble_eq_true rfl) (Nat.le_of_ble_eq_true rfl) (Nat.le_refl _) (Nat.le_refl _) (fun locs hS' => ?_)
  clear hS
  have hS := hS'
  clear hS'
  refine lv_istore (lv' := [(5, .int x1), (0, .ref (aR k)), (1, .int p1), (2, .long p2), (4, .int p3)]) hx hb dX4_rounded_6 hl (by decide) rfl (fun ls hl' => ?_)
  clear hl
  have hl := hl'
  clear hl'
  refine lv_lload_n hx hb dX4_rounded_8 rfl (lv_at hl 3 rfl) ?_
  refine lv_iload hx hb dX4_rounded_9 (lv_at hl 0 rfl) ?_
  refine lv_lshl hx hb dX4_rounded_11 rfl ?_
  refine lv_lstore (lv' := [(6, .long (p2 <<< ((x1).toInt64 &&& 63))), (5, .int x1), (0, .ref (aR k)), (1, .int p1), (2, .long p2), (4, .int p3)]) hx hb dX4_rounded_12 hl (by decide) rfl (fun ls hl' => ?_)
  clear hl
  have hl := hl'
  clear hl'
  refine lv_iload hx hb dX4_rounded_14 (lv_at hl 5 rfl) ?_
  refine lv_iload hx hb dX4_rounded_16 (lv_at hl 1 rfl) ?_
  refine lv_isub hx hb dX4_rounded_18 ?_
  refine lv_bipush (v := 62) hx hb dX4_rounded_19 (by decide) ?_
  refine lv_iadd hx hb dX4_rounded_21 ?_
  refine lv_aload_n hx hb dX4_rounded_22 rfl (lv_at hl 2 rfl) ?_
  replace hf := o_let_e hf
  obtain ⟨x2, hx2, hf⟩ := hf
  refine gc_bias (k := k) hX hS hk2 hx2 qw1073 dX4_rounded_23 ?_
  refine lv_iadd hx hb dX4_rounded_26 ?_
  refine lv_istore (lv' := [(8, .int (((p3 - x1) + (62 : Int32)) + x2)), (6, .long (p2 <<< ((x1).toInt64 &&& 63))), (5, .int x1), (0, .ref (aR k)), (1, .int p1), (2, .long p2), (4, .int p3)]) hx hb dX4_rounded_27 hl (by decide) rfl (fun ls hl' => ?_)
  clear hl
  have hl := hl'
  clear hl'
  refine lv_iload hx hb dX4_rounded_29 (lv_at hl 0 rfl) ?_
  refine lv_aload_n hx hb dX4_rounded_31 rfl (lv_at hl 3 rfl) ?_
  replace hf := o_let_e hf
  obtain ⟨x3, hx3, hf⟩ := hf
  refine gc_beyond (k := k) hX hS hk2 hx3 qw1071 dX4_rounded_32 ?_
  refine lv_icmp_lt (tgt := 48) hx hb dX4_rounded_35 (by decide) (fun c1 => ?_) (fun c1 => ?_)
  · replace hf := o_t hf c1
    refine lv_bipush (v := 62) hx hb dX4_rounded_48 (by decide) ?_
    refine lv_aload_n hx hb dX4_rounded_50 rfl (lv_at hl 3 rfl) ?_
    replace hf := o_let_e hf
    obtain ⟨x4, hx4, hf⟩ := hf
    refine gc_fraction (k := k) hX hS hk2 hx4 qw1072 dX4_rounded_51 ?_
    refine lv_isub hx hb dX4_rounded_54 ?_
    refine lv_iload hx hb dX4_rounded_55 (lv_at hl 0 rfl) ?_
    refine lv_iconst (v := 1) hx hb dX4_rounded_57 (by decide) ?_
    refine lv_icmp_ge (tgt := 68) hx hb dX4_rounded_58 (by decide) (fun c2 => ?_) (fun c2 => ?_)
    · replace hf := o_t hf c2
      refine lv_iconst (v := 0) hx hb dX4_rounded_68 (by decide) ?_
      replace hl := lv_sub hl (l' := [(0, .ref (aR k)), (1, .int p1), (6, .long (p2 <<< ((x1).toInt64 &&& 63))), (8, .int (((p3 - x1) + (62 : Int32)) + x2))]) [3, 4, 1, 0] rfl
      exact w_X4_rounded_b69 k p1 (p2 <<< ((x1).toInt64 &&& 63)) (((p3 - x1) + (62 : Int32)) + x2) 0 ((62 : Int32) - x4) r H locs ls hk2 hX hS hf hl
    · replace hf := o_f hf c2
      refine lv_iconst (v := 1) hx hb dX4_rounded_61 (by decide) ?_
      refine lv_iload hx hb dX4_rounded_62 (lv_at hl 0 rfl) ?_
      refine lv_isub hx hb dX4_rounded_64 ?_
      refine lv_goto (tgt := 69) hx hb dX4_rounded_65 (by decide) ?_
      replace hl := lv_sub hl (l' := [(0, .ref (aR k)), (1, .int p1), (6, .long (p2 <<< ((x1).toInt64 &&& 63))), (8, .int (((p3 - x1) + (62 : Int32)) + x2))]) [3, 4, 1, 0] rfl
      exact w_X4_rounded_b69 k p1 (p2 <<< ((x1).toInt64 &&& 63)) (((p3 - x1) + (62 : Int32)) + x2) ((1 : Int32) - (((p3 - x1) + (62 : Int32)) + x2)) ((62 : Int32) - x4) r H locs ls hk2 hX hS hf hl
  · replace hf := o_f hf c1
    refine lv_aload_n hx hb dX4_rounded_38 rfl (lv_at hl 3 rfl) ?_
    refine lv_iload_n hx hb dX4_rounded_39 rfl (lv_at hl 4 rfl) ?_
    refine lv_aload_n hx hb dX4_rounded_40 rfl (lv_at hl 3 rfl) ?_
    replace hf := o_cP_e hf
    obtain ⟨x5, hq2, hf⟩ := hf
    refine jq_doP hX hS (jq_okV (As := []) (rest := [.int p1, .ref (aR k)]) hx hb hm ho ht (jq_const hX hS hk2) qw213 qw215 qs6 qw216 qw12 hy_X4_infinity rfl hl.1 (Nat.le_of_ble_eq_true rfl) dX4_rounded_41) (c_X4_infinity hk2 hq2) (Nat.le_of_ble_eq_true rfl) (Nat.le_of_ble_eq_true rfl) (Nat.le_refl _) (Nat.le_refl _) (fun locs hS' => ?_)
    clear hS
    have hS := hS'
    clear hS'
    replace hf := o_cP_e hf
    obtain ⟨x6, hq3, hf⟩ := hf
    refine jq_doP hX hS (jq_okV (As := [.int p1, .long x5]) (rest := []) hx hb hm ho ht (jq_const hX hS hk2) qw506 qw508 qs40 qw509 qw12 hy_X4_signed rfl hl.1 (Nat.le_of_ble_eq_true rfl) dX4_rounded_44) (c_X4_signed hk2 hq3) (Nat.le_of_ble_eq_true rfl) (Nat.le_of_ble_eq_true rfl) (Nat.le_refl _) (Nat.le_refl _) (fun locs hS' => ?_)
    clear hS
    have hS := hS'
    clear hS'
    cases hf
    exact jq_lret hX hS dX4_rounded_47 ⟨rfl, rfl, rfl, rfl⟩
theorem dX4_fromWhole_0 : decode cX4_fromWhole 0 = .ok (.lload_n 1, 1) := by decide +kernel
theorem dX4_fromWhole_1 : decode cX4_fromWhole 1 = .ok (.lconst 0, 1) := by decide +kernel
theorem dX4_fromWhole_2 : decode cX4_fromWhole 2 = .ok (.lcmp, 1) := by decide +kernel
theorem dX4_fromWhole_8 : decode cX4_fromWhole 8 = .ok (.lload_n 1, 1) := by decide +kernel
theorem dX4_fromWhole_9 : decode cX4_fromWhole 9 = .ok (.invokestatic 85, 3) := by decide +kernel
theorem dX4_fromWhole_12 : decode cX4_fromWhole 12 = .ok (.lstore_n 3, 1) := by decide +kernel
theorem dX4_fromWhole_13 : decode cX4_fromWhole 13 = .ok (.lload_n 3, 1) := by decide +kernel
theorem dX4_fromWhole_14 : decode cX4_fromWhole 14 = .ok (.lconst 0, 1) := by decide +kernel
theorem dX4_fromWhole_15 : decode cX4_fromWhole 15 = .ok (.lcmp, 1) := by decide +kernel
theorem dX4_fromWhole_29 : decode cX4_fromWhole 29 = .ok (.aload_n 0, 1) := by decide +kernel
theorem dX4_fromWhole_30 : decode cX4_fromWhole 30 = .ok (.lload_n 1, 1) := by decide +kernel
theorem dX4_fromWhole_31 : decode cX4_fromWhole 31 = .ok (.lconst 0, 1) := by decide +kernel
theorem dX4_fromWhole_32 : decode cX4_fromWhole 32 = .ok (.lcmp, 1) := by decide +kernel
theorem dX4_fromWhole_40 : decode cX4_fromWhole 40 = .ok (.iconst 0, 1) := by decide +kernel
theorem dX4_fromWhole_41 : decode cX4_fromWhole 41 = .ok (.lload_n 3, 1) := by decide +kernel
theorem dX4_fromWhole_42 : decode cX4_fromWhole 42 = .ok (.iconst 0, 1) := by decide +kernel
theorem dX4_fromWhole_43 : decode cX4_fromWhole 43 = .ok (.invokevirtual 88, 3) := by decide +kernel
theorem dX4_fromWhole_46 : decode cX4_fromWhole 46 = .ok (.lreturn, 1) := by decide +kernel
theorem dX4_fromWhole_36 : decode cX4_fromWhole 36 = .ok (.iconst 1, 1) := by decide +kernel
theorem dX4_fromWhole_37 : decode cX4_fromWhole 37 = .ok (.goto 4, 3) := by decide +kernel
theorem dX4_fromWhole_33 : decode cX4_fromWhole 33 = .ok (.ifCond .ge 7, 3) := by decide +kernel
theorem dX4_fromWhole_19 : decode cX4_fromWhole 19 = .ok (.aload_n 0, 1) := by decide +kernel
theorem dX4_fromWhole_20 : decode cX4_fromWhole 20 = .ok (.iconst 1, 1) := by decide +kernel
theorem dX4_fromWhole_21 : decode cX4_fromWhole 21 = .ok (.ldc2_w 103, 3) := by decide +kernel
theorem dX4_fromWhole_24 : decode cX4_fromWhole 24 = .ok (.iconst 1, 1) := by decide +kernel
theorem dX4_fromWhole_25 : decode cX4_fromWhole 25 = .ok (.invokevirtual 88, 3) := by decide +kernel
theorem dX4_fromWhole_28 : decode cX4_fromWhole 28 = .ok (.lreturn, 1) := by decide +kernel
theorem dX4_fromWhole_16 : decode cX4_fromWhole 16 = .ok (.ifCond .ge 13, 3) := by decide +kernel
theorem dX4_fromWhole_6 : decode cX4_fromWhole 6 = .ok (.lconst 0, 1) := by decide +kernel
theorem dX4_fromWhole_7 : decode cX4_fromWhole 7 = .ok (.lreturn, 1) := by decide +kernel
theorem dX4_fromWhole_3 : decode cX4_fromWhole 3 = .ok (.ifCond .ne 5, 3) := by decide +kernel
theorem hy_X4_fromWhole : yX4_fromWhole.cls ≠ "java/lang/invoke/MethodHandle" ∧ yX4_fromWhole.cls ≠ "java/lang/invoke/VarHandle" ∧ (parseMethodDescriptor yX4_fromWhole.desc).map (fun d => d.parameters.length) = some 1 := ⟨by decide, by decide, by decide +kernel⟩
def f_X4_fromWhole (k : Nat) (p1 : Int64) : Option (Int64) :=
  if p1 = 0 then (
  some 0) else (
  if 0 ≤ (if 0 < p1 then p1 else -p1) then (
  if 0 ≤ p1 then (
  o_cP (f_X4_rounded k 0 (if 0 < p1 then p1 else -p1) 0) fun x1 =>
  some x1) else (
  o_cP (f_X4_rounded k 1 (if 0 < p1 then p1 else -p1) 0) fun x2 =>
  some x2)) else (
  o_cP (f_X4_rounded k 1 4611686018427387904 1) fun x3 =>
  some x3))
set_option maxHeartbeats 4000000 in
set_option maxRecDepth 100000 in
theorem c_X4_fromWhole {l : Launch} {D : va_G} {Y : Nat → ClassId} {aR : Nat → Nat} {A : Nat → Prop} {k : Nat} {p1 : Int64} {r : Int64} (hk2 : k < 2) (hf : f_X4_fromWhole k p1 = some r) : jq_P l D Y aR A yX4_fromWhole cX4_fromWhole 5 (some .long) 2 61 [.ref (aR k), .long p1] (some (.long r)) := by
  unfold f_X4_fromWhole at hf
  refine jq_enterP (by decide) (Nat.le_of_ble_eq_true rfl) fun p e s m args below meth c ls H locs hX hS hl => ?_
  have hl : lv_has ls 5 [(0, .ref (aR k)), (1, .long p1)] := hl
  have hx := hX.1
  have hb := hX.2.1
  have hm := hX.2.2.1
  have ho := hX.2.2.2.1
  have ht := hX.2.2.2.2.1
  have hn := hX.2.2.2.2.2.1.2.1
  refine lv_lload_n hx hb dX4_fromWhole_0 rfl (lv_at hl 1 rfl) ?_
  refine lv_lconst (v := 0) hx hb dX4_fromWhole_1 (by decide) ?_
  refine W.lcmp hx hb dX4_fromWhole_2 ?_
  refine lv_if_ne (tgt := 8) hx hb dX4_fromWhole_3 (by decide) (fun c1 => ?_) (fun c1 => ?_)
  · replace hf := o_f hf (fun z => c1 (qc_eq.mpr z))
    refine lv_lload_n hx hb dX4_fromWhole_8 rfl (lv_at hl 1 rfl) ?_
    refine va_mabs_long hx hb (hm.trans hl.1.symm) ho (ht _ qw495) (ht _ qw496) (ht _ qw10) (ht _ qm_absl) (Nat.le_of_ble_eq_true rfl) (Nat.le_of_ble_eq_true rfl) (Nat.le_refl _) (Nat.le_refl _) dX4_fromWhole_9 ?_
    refine lv_lstore_n (lv' := [(3, .long (if 0 < p1 then p1 else -p1)), (0, .ref (aR k)), (1, .long p1)]) hx hb dX4_fromWhole_12 rfl hl (by decide) rfl (fun ls hl' => ?_)
    clear hl
    have hl := hl'
    clear hl'
    refine lv_lload_n hx hb dX4_fromWhole_13 rfl (lv_at hl 0 rfl) ?_
    refine lv_lconst (v := 0) hx hb dX4_fromWhole_14 (by decide) ?_
    refine W.lcmp hx hb dX4_fromWhole_15 ?_
    refine lv_if_ge (tgt := 29) hx hb dX4_fromWhole_16 (by decide) (fun c2 => ?_) (fun c2 => ?_)
    · replace hf := o_t hf (qc_ge.mp c2)
      refine lv_aload_n hx hb dX4_fromWhole_29 rfl (lv_at hl 1 rfl) ?_
      refine lv_lload_n hx hb dX4_fromWhole_30 rfl (lv_at hl 2 rfl) ?_
      refine lv_lconst (v := 0) hx hb dX4_fromWhole_31 (by decide) ?_
      refine W.lcmp hx hb dX4_fromWhole_32 ?_
      refine lv_if_ge (tgt := 40) hx hb dX4_fromWhole_33 (by decide) (fun c3 => ?_) (fun c3 => ?_)
      · replace hf := o_t hf (qc_ge.mp c3)
        refine lv_iconst (v := 0) hx hb dX4_fromWhole_40 (by decide) ?_
        refine lv_lload_n hx hb dX4_fromWhole_41 rfl (lv_at hl 0 rfl) ?_
        refine lv_iconst (v := 0) hx hb dX4_fromWhole_42 (by decide) ?_
        replace hf := o_cP_e hf
        obtain ⟨x1, hq1, hf⟩ := hf
        refine jq_doP hX hS (jq_okV (As := [.int 0, .long (if 0 < p1 then p1 else -p1), .int 0]) (rest := []) hx hb hm ho ht (jq_const hX hS hk2) qw499 qw501 qs39 qw502 qw12 hy_X4_rounded rfl hl.1 (Nat.le_of_ble_eq_true rfl) dX4_fromWhole_43) (c_X4_rounded hk2 hq1) (Nat.le_of_ble_eq_true rfl) (Nat.le_of_ble_eq_true rfl) (Nat.le_refl _) (Nat.le_refl _) (fun locs hS' => ?_)
        clear hS
        have hS := hS'
        clear hS'
        cases hf
        exact jq_lret hX hS dX4_fromWhole_46 ⟨rfl, rfl, rfl, rfl⟩
      · replace hf := o_f hf (fun z => c3 (qc_ge.mpr z))
        refine lv_iconst (v := 1) hx hb dX4_fromWhole_36 (by decide) ?_
        refine lv_goto (tgt := 41) hx hb dX4_fromWhole_37 (by decide) ?_
        refine lv_lload_n hx hb dX4_fromWhole_41 rfl (lv_at hl 0 rfl) ?_
        refine lv_iconst (v := 0) hx hb dX4_fromWhole_42 (by decide) ?_
        replace hf := o_cP_e hf
        obtain ⟨x2, hq2, hf⟩ := hf
        refine jq_doP hX hS (jq_okV (As := [.int 1, .long (if 0 < p1 then p1 else -p1), .int 0]) (rest := []) hx hb hm ho ht (jq_const hX hS hk2) qw499 qw501 qs39 qw502 qw12 hy_X4_rounded rfl hl.1 (Nat.le_of_ble_eq_true rfl) dX4_fromWhole_43) (c_X4_rounded hk2 hq2) (Nat.le_of_ble_eq_true rfl) (Nat.le_of_ble_eq_true rfl) (Nat.le_refl _) (Nat.le_refl _) (fun locs hS' => ?_)
        clear hS
        have hS := hS'
        clear hS'
        cases hf
        exact jq_lret hX hS dX4_fromWhole_46 ⟨rfl, rfl, rfl, rfl⟩
    · replace hf := o_f hf (fun z => c2 (qc_ge.mpr z))
      refine lv_aload_n hx hb dX4_fromWhole_19 rfl (lv_at hl 1 rfl) ?_
      refine lv_iconst (v := 1) hx hb dX4_fromWhole_20 (by decide) ?_
      refine lv_ldc2 (v := 4611686018427387904) hx hb ho (ht _ qw498) dX4_fromWhole_21 ?_
      refine lv_iconst (v := 1) hx hb dX4_fromWhole_24 (by decide) ?_
      replace hf := o_cP_e hf
      obtain ⟨x3, hq3, hf⟩ := hf
      refine jq_doP hX hS (jq_okV (As := [.int 1, .long 4611686018427387904, .int 1]) (rest := []) hx hb hm ho ht (jq_const hX hS hk2) qw499 qw501 qs39 qw502 qw12 hy_X4_rounded rfl hl.1 (Nat.le_of_ble_eq_true rfl) dX4_fromWhole_25) (c_X4_rounded hk2 hq3) (Nat.le_of_ble_eq_true rfl) (Nat.le_of_ble_eq_true rfl) (Nat.le_refl _) (Nat.le_refl _) (fun locs hS' => ?_)
      clear hS
      have hS := hS'
      clear hS'
      cases hf
      exact jq_lret hX hS dX4_fromWhole_28 ⟨rfl, rfl, rfl, rfl⟩
  · replace hf := o_t hf (qc_eq.mp c1)
    refine lv_lconst (v := 0) hx hb dX4_fromWhole_6 (by decide) ?_
    cases hf
    exact jq_lret hX hS dX4_fromWhole_7 ⟨rfl, rfl, rfl, rfl⟩
theorem dX4_significand_0 : decode cX4_significand 0 = .ok (.lconst 1, 1) := by decide +kernel
theorem dX4_significand_1 : decode cX4_significand 1 = .ok (.aload_n 0, 1) := by decide +kernel
theorem dX4_significand_2 : decode cX4_significand 2 = .ok (.getfield 29, 3) := by decide +kernel
theorem dX4_significand_5 : decode cX4_significand 5 = .ok (.lshl, 1) := by decide +kernel
theorem dX4_significand_6 : decode cX4_significand 6 = .ok (.lstore_n 3, 1) := by decide +kernel
theorem dX4_significand_7 : decode cX4_significand 7 = .ok (.aload_n 0, 1) := by decide +kernel
theorem dX4_significand_8 : decode cX4_significand 8 = .ok (.lload_n 1, 1) := by decide +kernel
theorem dX4_significand_9 : decode cX4_significand 9 = .ok (.invokevirtual 49, 3) := by decide +kernel
theorem dX4_significand_12 : decode cX4_significand 12 = .ok (.lstore 5, 2) := by decide +kernel
theorem dX4_significand_14 : decode cX4_significand 14 = .ok (.lload 5, 2) := by decide +kernel
theorem dX4_significand_16 : decode cX4_significand 16 = .ok (.lload_n 3, 1) := by decide +kernel
theorem dX4_significand_17 : decode cX4_significand 17 = .ok (.lcmp, 1) := by decide +kernel
theorem dX4_significand_26 : decode cX4_significand 26 = .ok (.lload 5, 2) := by decide +kernel
theorem dX4_significand_28 : decode cX4_significand 28 = .ok (.lload_n 3, 1) := by decide +kernel
theorem dX4_significand_29 : decode cX4_significand 29 = .ok (.lconst 1, 1) := by decide +kernel
theorem dX4_significand_30 : decode cX4_significand 30 = .ok (.lsub, 1) := by decide +kernel
theorem dX4_significand_31 : decode cX4_significand 31 = .ok (.land, 1) := by decide +kernel
theorem dX4_significand_32 : decode cX4_significand 32 = .ok (.lload_n 3, 1) := by decide +kernel
theorem dX4_significand_33 : decode cX4_significand 33 = .ok (.lor, 1) := by decide +kernel
theorem dX4_significand_34 : decode cX4_significand 34 = .ok (.lreturn, 1) := by decide +kernel
theorem dX4_significand_21 : decode cX4_significand 21 = .ok (.lload 5, 2) := by decide +kernel
theorem dX4_significand_23 : decode cX4_significand 23 = .ok (.goto 11, 3) := by decide +kernel
theorem dX4_significand_18 : decode cX4_significand 18 = .ok (.ifCond .ge 8, 3) := by decide +kernel
theorem hy_X4_significand : yX4_significand.cls ≠ "java/lang/invoke/MethodHandle" ∧ yX4_significand.cls ≠ "java/lang/invoke/VarHandle" ∧ (parseMethodDescriptor yX4_significand.desc).map (fun d => d.parameters.length) = some 1 := ⟨by decide, by decide, by decide +kernel⟩
def f_X4_significand (k : Nat) (p1 : Int64) : Option (Int64) :=
  o_let (rc_f k) fun x1 =>
  o_cP (f_X4_magnitude k p1) fun x2 =>
  if ((1 : Int64) <<< ((x1).toInt64 &&& 63)) ≤ x2 then (
  some ((x2 &&& (((1 : Int64) <<< ((x1).toInt64 &&& 63)) - (1 : Int64))) ||| ((1 : Int64) <<< ((x1).toInt64 &&& 63)))) else (
  some x2)
set_option maxHeartbeats 4000000 in
set_option maxRecDepth 100000 in
theorem c_X4_significand {l : Launch} {D : va_G} {Y : Nat → ClassId} {aR : Nat → Nat} {A : Nat → Prop} {k : Nat} {p1 : Int64} {r : Int64} (hk2 : k < 2) (hf : f_X4_significand k p1 = some r) : jq_P l D Y aR A yX4_significand cX4_significand 7 (some .long) 1 22 [.ref (aR k), .long p1] (some (.long r)) := by
  unfold f_X4_significand at hf
  refine jq_enterP (by decide) (Nat.le_of_ble_eq_true rfl) fun p e s m args below meth c ls H locs hX hS hl => ?_
  have hl : lv_has ls 7 [(0, .ref (aR k)), (1, .long p1)] := hl
  have hx := hX.1
  have hb := hX.2.1
  have hm := hX.2.2.1
  have ho := hX.2.2.2.1
  have ht := hX.2.2.2.2.1
  have hn := hX.2.2.2.2.2.1.2.1
  refine lv_lconst (v := 1) hx hb dX4_significand_0 (by decide) ?_
  refine lv_aload_n hx hb dX4_significand_1 rfl (lv_at hl 0 rfl) ?_
  replace hf := o_let_e hf
  obtain ⟨x1, hx1, hf⟩ := hf
  refine gc_fraction (k := k) hX hS hk2 hx1 qw1072 dX4_significand_2 ?_
  refine lv_lshl hx hb dX4_significand_5 rfl ?_
  refine lv_lstore_n (lv' := [(3, .long ((1 : Int64) <<< ((x1).toInt64 &&& 63))), (0, .ref (aR k)), (1, .long p1)]) hx hb dX4_significand_6 rfl hl (by decide) rfl (fun ls hl' => ?_)
  clear hl
  have hl := hl'
  clear hl'
  refine lv_aload_n hx hb dX4_significand_7 rfl (lv_at hl 1 rfl) ?_
  refine lv_lload_n hx hb dX4_significand_8 rfl (lv_at hl 2 rfl) ?_
  replace hf := o_cP_e hf
  obtain ⟨x2, hq1, hf⟩ := hf
  refine jq_doP hX hS (jq_okV (As := [.long p1]) (rest := []) hx hb hm ho ht (jq_const hX hS hk2) qw208 qw210 qs5 qw211 qw12 hy_X4_magnitude rfl hl.1 (Nat.le_of_ble_eq_true rfl) dX4_significand_9) (c_X4_magnitude hk2 hq1) (Nat.le_of_ble_eq_true rfl) (Nat.le_of_ble_eq_true rfl) (Nat.le_refl _) (Nat.le_refl _) (fun locs hS' => ?_)
  clear hS
  have hS := hS'
  clear hS'
  refine lv_lstore (lv' := [(5, .long x2), (3, .long ((1 : Int64) <<< ((x1).toInt64 &&& 63))), (0, .ref (aR k)), (1, .long p1)]) hx hb dX4_significand_12 hl (by decide) rfl (fun ls hl' => ?_)
  clear hl
  have hl := hl'
  clear hl'
  refine lv_lload hx hb dX4_significand_14 (lv_at hl 0 rfl) ?_
  refine lv_lload_n hx hb dX4_significand_16 rfl (lv_at hl 1 rfl) ?_
  refine W.lcmp hx hb dX4_significand_17 ?_
  refine lv_if_ge (tgt := 26) hx hb dX4_significand_18 (by decide) (fun c1 => ?_) (fun c1 => ?_)
  · replace hf := o_t hf (qc_ge.mp c1)
    refine lv_lload hx hb dX4_significand_26 (lv_at hl 0 rfl) ?_
    refine lv_lload_n hx hb dX4_significand_28 rfl (lv_at hl 1 rfl) ?_
    refine lv_lconst (v := 1) hx hb dX4_significand_29 (by decide) ?_
    refine lv_lsub hx hb dX4_significand_30 ?_
    refine lv_land hx hb dX4_significand_31 ?_
    refine lv_lload_n hx hb dX4_significand_32 rfl (lv_at hl 1 rfl) ?_
    refine lv_lor hx hb dX4_significand_33 ?_
    cases hf
    exact jq_lret hX hS dX4_significand_34 ⟨rfl, rfl, rfl, rfl⟩
  · replace hf := o_f hf (fun z => c1 (qc_ge.mpr z))
    refine lv_lload hx hb dX4_significand_21 (lv_at hl 0 rfl) ?_
    refine lv_goto (tgt := 34) hx hb dX4_significand_23 (by decide) ?_
    cases hf
    exact jq_lret hX hS dX4_significand_34 ⟨rfl, rfl, rfl, rfl⟩
theorem dX4_power_0 : decode cX4_power 0 = .ok (.iconst 1, 1) := by decide +kernel
theorem dX4_power_1 : decode cX4_power 1 = .ok (.aload_n 0, 1) := by decide +kernel
theorem dX4_power_2 : decode cX4_power 2 = .ok (.lload_n 1, 1) := by decide +kernel
theorem dX4_power_3 : decode cX4_power 3 = .ok (.invokevirtual 49, 3) := by decide +kernel
theorem dX4_power_6 : decode cX4_power 6 = .ok (.aload_n 0, 1) := by decide +kernel
theorem dX4_power_7 : decode cX4_power 7 = .ok (.getfield 29, 3) := by decide +kernel
theorem dX4_power_10 : decode cX4_power 10 = .ok (.lshr, 1) := by decide +kernel
theorem dX4_power_11 : decode cX4_power 11 = .ok (.l2i, 1) := by decide +kernel
theorem dX4_power_12 : decode cX4_power 12 = .ok (.invokestatic 60, 3) := by decide +kernel
theorem dX4_power_15 : decode cX4_power 15 = .ok (.aload_n 0, 1) := by decide +kernel
theorem dX4_power_16 : decode cX4_power 16 = .ok (.getfield 33, 3) := by decide +kernel
theorem dX4_power_19 : decode cX4_power 19 = .ok (.isub, 1) := by decide +kernel
theorem dX4_power_20 : decode cX4_power 20 = .ok (.aload_n 0, 1) := by decide +kernel
theorem dX4_power_21 : decode cX4_power 21 = .ok (.getfield 29, 3) := by decide +kernel
theorem dX4_power_24 : decode cX4_power 24 = .ok (.isub, 1) := by decide +kernel
theorem dX4_power_25 : decode cX4_power 25 = .ok (.ireturn, 1) := by decide +kernel
theorem hy_X4_power : yX4_power.cls ≠ "java/lang/invoke/MethodHandle" ∧ yX4_power.cls ≠ "java/lang/invoke/VarHandle" ∧ (parseMethodDescriptor yX4_power.desc).map (fun d => d.parameters.length) = some 1 := ⟨by decide, by decide, by decide +kernel⟩
def f_X4_power (k : Nat) (p1 : Int64) : Option (Int32) :=
  o_cP (f_X4_magnitude k p1) fun x1 =>
  o_let (rc_f k) fun x2 =>
  o_let (rc_b k) fun x3 =>
  o_let (rc_f k) fun x4 =>
  some (((if 1 < (((x1 >>> ((x2).toInt64 &&& 63))).toInt32) then (((x1 >>> ((x2).toInt64 &&& 63))).toInt32) else 1) - x3) - x4)
set_option maxHeartbeats 4000000 in
set_option maxRecDepth 100000 in
theorem c_X4_power {l : Launch} {D : va_G} {Y : Nat → ClassId} {aR : Nat → Nat} {A : Nat → Prop} {k : Nat} {p1 : Int64} {r : Int32} (hk2 : k < 2) (hf : f_X4_power k p1 = some r) : jq_P l D Y aR A yX4_power cX4_power 3 (some .int) 1 22 [.ref (aR k), .long p1] (some (.int r)) := by
  unfold f_X4_power at hf
  refine jq_enterP (by decide) (Nat.le_of_ble_eq_true rfl) fun p e s m args below meth c ls H locs hX hS hl => ?_
  have hl : lv_has ls 3 [(0, .ref (aR k)), (1, .long p1)] := hl
  have hx := hX.1
  have hb := hX.2.1
  have hm := hX.2.2.1
  have ho := hX.2.2.2.1
  have ht := hX.2.2.2.2.1
  have hn := hX.2.2.2.2.2.1.2.1
  refine lv_iconst (v := 1) hx hb dX4_power_0 (by decide) ?_
  refine lv_aload_n hx hb dX4_power_1 rfl (lv_at hl 0 rfl) ?_
  refine lv_lload_n hx hb dX4_power_2 rfl (lv_at hl 1 rfl) ?_
  replace hf := o_cP_e hf
  obtain ⟨x1, hq1, hf⟩ := hf
  refine jq_doP hX hS (jq_okV (As := [.long p1]) (rest := [.int 1]) hx hb hm ho ht (jq_const hX hS hk2) qw208 qw210 qs5 qw211 qw12 hy_X4_magnitude rfl hl.1 (Nat.le_of_ble_eq_true rfl) dX4_power_3) (c_X4_magnitude hk2 hq1) (Nat.le_of_ble_eq_true rfl) (Nat.le_of_ble_eq_true rfl) (Nat.le_refl _) (Nat.le_refl _) (fun locs hS' => ?_)
  clear hS
  have hS := hS'
  clear hS'
  refine lv_aload_n hx hb dX4_power_6 rfl (lv_at hl 0 rfl) ?_
  replace hf := o_let_e hf
  obtain ⟨x2, hx2, hf⟩ := hf
  refine gc_fraction (k := k) hX hS hk2 hx2 qw1072 dX4_power_7 ?_
  refine lv_lshr hx hb dX4_power_10 rfl ?_
  refine lv_l2i hx hb dX4_power_11 rfl ?_
  refine va_mmax hx hb (hm.trans hl.1.symm) ho (ht _ qw523) (ht _ qw171) (ht _ qw10) (ht _ qm_max) (Nat.le_of_ble_eq_true rfl) (Nat.le_of_ble_eq_true rfl) (Nat.le_refl _) (Nat.le_refl _) dX4_power_12 ?_
  refine lv_aload_n hx hb dX4_power_15 rfl (lv_at hl 0 rfl) ?_
  replace hf := o_let_e hf
  obtain ⟨x3, hx3, hf⟩ := hf
  refine gc_bias (k := k) hX hS hk2 hx3 qw1073 dX4_power_16 ?_
  refine lv_isub hx hb dX4_power_19 ?_
  refine lv_aload_n hx hb dX4_power_20 rfl (lv_at hl 0 rfl) ?_
  replace hf := o_let_e hf
  obtain ⟨x4, hx4, hf⟩ := hf
  refine gc_fraction (k := k) hX hS hk2 hx4 qw1072 dX4_power_21 ?_
  refine lv_isub hx hb dX4_power_24 ?_
  cases hf
  exact jq_iret hX hS dX4_power_25 ⟨rfl, rfl, rfl, rfl⟩
theorem dX4_fromSingle_0 : decode cX4_fromSingle 0 = .ok (.lload_n 1, 1) := by decide +kernel
theorem dX4_fromSingle_1 : decode cX4_fromSingle 1 = .ok (.lconst 0, 1) := by decide +kernel
theorem dX4_fromSingle_2 : decode cX4_fromSingle 2 = .ok (.lcmp, 1) := by decide +kernel
theorem dX4_fromSingle_10 : decode cX4_fromSingle 10 = .ok (.iconst 0, 1) := by decide +kernel
theorem dX4_fromSingle_6 : decode cX4_fromSingle 6 = .ok (.iconst 1, 1) := by decide +kernel
theorem dX4_fromSingle_7 : decode cX4_fromSingle 7 = .ok (.goto 4, 3) := by decide +kernel
theorem dX4_fromSingle_3 : decode cX4_fromSingle 3 = .ok (.ifCond .ge 7, 3) := by decide +kernel
theorem dX4_fromSingle_11 : decode cX4_fromSingle 11 = .ok (.istore_n 3, 1) := by decide +kernel
theorem dX4_fromSingle_12 : decode cX4_fromSingle 12 = .ok (.getstatic 3, 3) := by decide +kernel
theorem dX4_fromSingle_15 : decode cX4_fromSingle 15 = .ok (.lload_n 1, 1) := by decide +kernel
theorem dX4_fromSingle_16 : decode cX4_fromSingle 16 = .ok (.invokevirtual 49, 3) := by decide +kernel
theorem dX4_fromSingle_19 : decode cX4_fromSingle 19 = .ok (.lstore 4, 2) := by decide +kernel
theorem dX4_fromSingle_21 : decode cX4_fromSingle 21 = .ok (.lload 4, 2) := by decide +kernel
theorem dX4_fromSingle_23 : decode cX4_fromSingle 23 = .ok (.getstatic 3, 3) := by decide +kernel
theorem dX4_fromSingle_26 : decode cX4_fromSingle 26 = .ok (.invokevirtual 45, 3) := by decide +kernel
theorem dX4_fromSingle_29 : decode cX4_fromSingle 29 = .ok (.lcmp, 1) := by decide +kernel
theorem dX4_fromSingle_38 : decode cX4_fromSingle 38 = .ok (.lload 4, 2) := by decide +kernel
theorem dX4_fromSingle_40 : decode cX4_fromSingle 40 = .ok (.getstatic 3, 3) := by decide +kernel
theorem dX4_fromSingle_43 : decode cX4_fromSingle 43 = .ok (.invokevirtual 45, 3) := by decide +kernel
theorem dX4_fromSingle_46 : decode cX4_fromSingle 46 = .ok (.lcmp, 1) := by decide +kernel
theorem dX4_fromSingle_60 : decode cX4_fromSingle 60 = .ok (.lload 4, 2) := by decide +kernel
theorem dX4_fromSingle_62 : decode cX4_fromSingle 62 = .ok (.lconst 0, 1) := by decide +kernel
theorem dX4_fromSingle_63 : decode cX4_fromSingle 63 = .ok (.lcmp, 1) := by decide +kernel
theorem dX4_fromSingle_74 : decode cX4_fromSingle 74 = .ok (.aload_n 0, 1) := by decide +kernel
theorem dX4_fromSingle_75 : decode cX4_fromSingle 75 = .ok (.iload_n 3, 1) := by decide +kernel
theorem dX4_fromSingle_76 : decode cX4_fromSingle 76 = .ok (.getstatic 3, 3) := by decide +kernel
theorem dX4_fromSingle_79 : decode cX4_fromSingle 79 = .ok (.lload_n 1, 1) := by decide +kernel
theorem dX4_fromSingle_80 : decode cX4_fromSingle 80 = .ok (.invokevirtual 92, 3) := by decide +kernel
theorem dX4_fromSingle_83 : decode cX4_fromSingle 83 = .ok (.getstatic 3, 3) := by decide +kernel
theorem dX4_fromSingle_86 : decode cX4_fromSingle 86 = .ok (.lload_n 1, 1) := by decide +kernel
theorem dX4_fromSingle_87 : decode cX4_fromSingle 87 = .ok (.invokevirtual 73, 3) := by decide +kernel
theorem dX4_fromSingle_90 : decode cX4_fromSingle 90 = .ok (.invokevirtual 88, 3) := by decide +kernel
theorem dX4_fromSingle_93 : decode cX4_fromSingle 93 = .ok (.lreturn, 1) := by decide +kernel
theorem dX4_fromSingle_67 : decode cX4_fromSingle 67 = .ok (.aload_n 0, 1) := by decide +kernel
theorem dX4_fromSingle_68 : decode cX4_fromSingle 68 = .ok (.iload_n 3, 1) := by decide +kernel
theorem dX4_fromSingle_69 : decode cX4_fromSingle 69 = .ok (.lconst 0, 1) := by decide +kernel
theorem dX4_fromSingle_70 : decode cX4_fromSingle 70 = .ok (.invokevirtual 81, 3) := by decide +kernel
theorem dX4_fromSingle_73 : decode cX4_fromSingle 73 = .ok (.lreturn, 1) := by decide +kernel
theorem dX4_fromSingle_64 : decode cX4_fromSingle 64 = .ok (.ifCond .ne 10, 3) := by decide +kernel
theorem dX4_fromSingle_50 : decode cX4_fromSingle 50 = .ok (.aload_n 0, 1) := by decide +kernel
theorem dX4_fromSingle_51 : decode cX4_fromSingle 51 = .ok (.iload_n 3, 1) := by decide +kernel
theorem dX4_fromSingle_52 : decode cX4_fromSingle 52 = .ok (.aload_n 0, 1) := by decide +kernel
theorem dX4_fromSingle_53 : decode cX4_fromSingle 53 = .ok (.invokevirtual 45, 3) := by decide +kernel
theorem dX4_fromSingle_56 : decode cX4_fromSingle 56 = .ok (.invokevirtual 81, 3) := by decide +kernel
theorem dX4_fromSingle_59 : decode cX4_fromSingle 59 = .ok (.lreturn, 1) := by decide +kernel
theorem dX4_fromSingle_47 : decode cX4_fromSingle 47 = .ok (.ifCond .ne 13, 3) := by decide +kernel
theorem dX4_fromSingle_33 : decode cX4_fromSingle 33 = .ok (.aload_n 0, 1) := by decide +kernel
theorem dX4_fromSingle_34 : decode cX4_fromSingle 34 = .ok (.invokevirtual 57, 3) := by decide +kernel
theorem dX4_fromSingle_37 : decode cX4_fromSingle 37 = .ok (.lreturn, 1) := by decide +kernel
theorem dX4_fromSingle_30 : decode cX4_fromSingle 30 = .ok (.ifCond .le 8, 3) := by decide +kernel
theorem hy_X4_fromSingle : yX4_fromSingle.cls ≠ "java/lang/invoke/MethodHandle" ∧ yX4_fromSingle.cls ≠ "java/lang/invoke/VarHandle" ∧ (parseMethodDescriptor yX4_fromSingle.desc).map (fun d => d.parameters.length) = some 1 := ⟨by decide, by decide, by decide +kernel⟩
def f_X4_fromSingle_b11 (k : Nat) (l1 : Int64) (t0 : Int32) : Option (Int64) :=
  o_cP (f_X4_magnitude 0 l1) fun x1 =>
  o_cP (f_X4_infinity 0) fun x2 =>
  if x1 ≤ x2 then (
  o_cP (f_X4_infinity 0) fun x3 =>
  if x1 = x3 then (
  o_cP (f_X4_infinity k) fun x8 =>
  o_cP (f_X4_signed k t0 x8) fun x9 =>
  some x9) else (
  if x1 = 0 then (
  o_cP (f_X4_signed k t0 0) fun x7 =>
  some x7) else (
  o_cP (f_X4_significand 0 l1) fun x4 =>
  o_cP (f_X4_power 0 l1) fun x5 =>
  o_cP (f_X4_rounded k t0 x4 x5) fun x6 =>
  some x6))) else (
  o_cP (f_X4_noNumber k) fun x10 =>
  some x10)
set_option maxHeartbeats 4000000 in
set_option maxRecDepth 100000 in
theorem w_X4_fromSingle_b11 {l : Launch} {D : va_G} {Y : Nat → ClassId} {aR : Nat → Nat} {A : Nat → Prop} {p : Program} {e : Env} {s : State} {m : MethodId} {args : Array Value} {below : List Frame} {meth : Method} {c : Code} : ∀ (k : Nat) (l1 : Int64) (t0 : Int32) (r : Int64) (H : Heap) (locs : List Loc) (ls : Array Slot), k < 2 → jq_X D Y aR A p s m args meth c cX4_fromSingle RX4 "fromSingle" 6 (some .long) → va_S A s.heap H locs → f_X4_fromSingle_b11 k l1 t0 = some r → lv_has ls 6 [(0, .ref (aR k)), (1, .long l1)] → W p l e { frames := 2, cells := 0, slots := 0, locals := 61 } s m args below meth c H locs 0 0 (jq_Z below A (fun v k n H' => v = (some (.long r)) ∧ k = 0 ∧ n = 0 ∧ H' = H) s) (F0 m 11 ls [.int t0]) := by
  intro k l1 t0 r H locs ls hk2 hX hS hf hl
  unfold f_X4_fromSingle_b11 at hf
  have hx := hX.1
  have hb := hX.2.1
  have hm := hX.2.2.1
  have ho := hX.2.2.2.1
  have ht := hX.2.2.2.2.1
  have hn := hX.2.2.2.2.2.1.2.1
  refine lv_istore_n (lv' := [(3, .int t0), (0, .ref (aR k)), (1, .long l1)]) hx hb dX4_fromSingle_11 rfl hl (by decide) rfl (fun ls hl' => ?_)
  clear hl
  have hl := hl'
  clear hl'
  refine jq_gets (k := 0) hX hS (by decide) qw514 dX4_fromSingle_12 ?_
  refine lv_lload_n hx hb dX4_fromSingle_15 rfl (lv_at hl 2 rfl) ?_
  replace hf := o_cP_e hf
  obtain ⟨x1, hq1, hf⟩ := hf
  refine jq_doP hX hS (jq_okV (As := [.long l1]) (rest := []) hx hb hm ho ht (jq_const hX hS (by decide)) qw208 qw210 qs5 qw211 qw12 hy_X4_magnitude rfl hl.1 (Nat.le_of_ble_eq_true rfl) dX4_fromSingle_16) (c_X4_magnitude (by decide) hq1) (Nat.le_of_ble_eq_true rfl) (Nat.le_of_ble_eq_true rfl) (Nat.le_refl _) (Nat.le_refl _) (fun locs hS' => ?_)
  clear hS
  have hS := hS'
  clear hS'
  refine lv_lstore (lv' := [(4, .long x1), (3, .int t0), (0, .ref (aR k)), (1, .long l1)]) hx hb dX4_fromSingle_19 hl (by decide) rfl (fun ls hl' => ?_)
  clear hl
  have hl := hl'
  clear hl'
  refine lv_lload hx hb dX4_fromSingle_21 (lv_at hl 0 rfl) ?_
  refine jq_gets (k := 0) hX hS (by decide) qw514 dX4_fromSingle_23 ?_
  replace hf := o_cP_e hf
  obtain ⟨x2, hq2, hf⟩ := hf
  refine jq_doP hX hS (jq_okV (As := []) (rest := [.long x1]) hx hb hm ho ht (jq_const hX hS (by decide)) qw213 qw215 qs6 qw216 qw12 hy_X4_infinity rfl hl.1 (Nat.le_of_ble_eq_true rfl) dX4_fromSingle_26) (c_X4_infinity (by decide) hq2) (Nat.le_of_ble_eq_true rfl) (Nat.le_of_ble_eq_true rfl) (Nat.le_refl _) (Nat.le_refl _) (fun locs hS' => ?_)
  clear hS
  have hS := hS'
  clear hS'
  refine W.lcmp hx hb dX4_fromSingle_29 ?_
  refine lv_if_le (tgt := 38) hx hb dX4_fromSingle_30 (by decide) (fun c1 => ?_) (fun c1 => ?_)
  · replace hf := o_t hf (qc_le.mp c1)
    refine lv_lload hx hb dX4_fromSingle_38 (lv_at hl 0 rfl) ?_
    refine jq_gets (k := 0) hX hS (by decide) qw514 dX4_fromSingle_40 ?_
    replace hf := o_cP_e hf
    obtain ⟨x3, hq3, hf⟩ := hf
    refine jq_doP hX hS (jq_okV (As := []) (rest := [.long x1]) hx hb hm ho ht (jq_const hX hS (by decide)) qw213 qw215 qs6 qw216 qw12 hy_X4_infinity rfl hl.1 (Nat.le_of_ble_eq_true rfl) dX4_fromSingle_43) (c_X4_infinity (by decide) hq3) (Nat.le_of_ble_eq_true rfl) (Nat.le_of_ble_eq_true rfl) (Nat.le_refl _) (Nat.le_refl _) (fun locs hS' => ?_)
    clear hS
    have hS := hS'
    clear hS'
    refine W.lcmp hx hb dX4_fromSingle_46 ?_
    refine lv_if_ne (tgt := 60) hx hb dX4_fromSingle_47 (by decide) (fun c2 => ?_) (fun c2 => ?_)
    · replace hf := o_f hf (fun z => c2 (qc_eq.mpr z))
      refine lv_lload hx hb dX4_fromSingle_60 (lv_at hl 0 rfl) ?_
      refine lv_lconst (v := 0) hx hb dX4_fromSingle_62 (by decide) ?_
      refine W.lcmp hx hb dX4_fromSingle_63 ?_
      refine lv_if_ne (tgt := 74) hx hb dX4_fromSingle_64 (by decide) (fun c3 => ?_) (fun c3 => ?_)
      · replace hf := o_f hf (fun z => c3 (qc_eq.mpr z))
        refine lv_aload_n hx hb dX4_fromSingle_74 rfl (lv_at hl 2 rfl) ?_
        refine lv_iload_n hx hb dX4_fromSingle_75 rfl (lv_at hl 1 rfl) ?_
        refine jq_gets (k := 0) hX hS (by decide) qw514 dX4_fromSingle_76 ?_
        refine lv_lload_n hx hb dX4_fromSingle_79 rfl (lv_at hl 3 rfl) ?_
        replace hf := o_cP_e hf
        obtain ⟨x4, hq4, hf⟩ := hf
        refine jq_doP hX hS (jq_okV (As := [.long l1]) (rest := [.int t0, .ref (aR k)]) hx hb hm ho ht (jq_const hX hS (by decide)) qw515 qw517 qs42 qw518 qw12 hy_X4_significand rfl hl.1 (Nat.le_of_ble_eq_true rfl) dX4_fromSingle_80) (c_X4_significand (by decide) hq4) (Nat.le_of_ble_eq_true rfl) (Nat.le_of_ble_eq_true rfl) (Nat.le_refl _) (Nat.le_refl _) (fun locs hS' => ?_)
        clear hS
        have hS := hS'
        clear hS'
        refine jq_gets (k := 0) hX hS (by decide) qw514 dX4_fromSingle_83 ?_
        refine lv_lload_n hx hb dX4_fromSingle_86 rfl (lv_at hl 3 rfl) ?_
        replace hf := o_cP_e hf
        obtain ⟨x5, hq5, hf⟩ := hf
        refine jq_doP hX hS (jq_okV (As := [.long l1]) (rest := [.long x4, .int t0, .ref (aR k)]) hx hb hm ho ht (jq_const hX hS (by decide)) qw519 qw521 qs43 qw522 qw12 hy_X4_power rfl hl.1 (Nat.le_of_ble_eq_true rfl) dX4_fromSingle_87) (c_X4_power (by decide) hq5) (Nat.le_of_ble_eq_true rfl) (Nat.le_of_ble_eq_true rfl) (Nat.le_refl _) (Nat.le_refl _) (fun locs hS' => ?_)
        clear hS
        have hS := hS'
        clear hS'
        replace hf := o_cP_e hf
        obtain ⟨x6, hq6, hf⟩ := hf
        refine jq_doP hX hS (jq_okV (As := [.int t0, .long x4, .int x5]) (rest := []) hx hb hm ho ht (jq_const hX hS hk2) qw499 qw501 qs39 qw502 qw12 hy_X4_rounded rfl hl.1 (Nat.le_of_ble_eq_true rfl) dX4_fromSingle_90) (c_X4_rounded hk2 hq6) (Nat.le_of_ble_eq_true rfl) (Nat.le_of_ble_eq_true rfl) (Nat.le_refl _) (Nat.le_refl _) (fun locs hS' => ?_)
        clear hS
        have hS := hS'
        clear hS'
        cases hf
        exact jq_lret hX hS dX4_fromSingle_93 ⟨rfl, rfl, rfl, rfl⟩
      · replace hf := o_t hf (qc_eq.mp c3)
        refine lv_aload_n hx hb dX4_fromSingle_67 rfl (lv_at hl 2 rfl) ?_
        refine lv_iload_n hx hb dX4_fromSingle_68 rfl (lv_at hl 1 rfl) ?_
        refine lv_lconst (v := 0) hx hb dX4_fromSingle_69 (by decide) ?_
        replace hf := o_cP_e hf
        obtain ⟨x7, hq7, hf⟩ := hf
        refine jq_doP hX hS (jq_okV (As := [.int t0, .long 0]) (rest := []) hx hb hm ho ht (jq_const hX hS hk2) qw506 qw508 qs40 qw509 qw12 hy_X4_signed rfl hl.1 (Nat.le_of_ble_eq_true rfl) dX4_fromSingle_70) (c_X4_signed hk2 hq7) (Nat.le_of_ble_eq_true rfl) (Nat.le_of_ble_eq_true rfl) (Nat.le_refl _) (Nat.le_refl _) (fun locs hS' => ?_)
        clear hS
        have hS := hS'
        clear hS'
        cases hf
        exact jq_lret hX hS dX4_fromSingle_73 ⟨rfl, rfl, rfl, rfl⟩
    · replace hf := o_t hf (qc_eq.mp c2)
      refine lv_aload_n hx hb dX4_fromSingle_50 rfl (lv_at hl 2 rfl) ?_
      refine lv_iload_n hx hb dX4_fromSingle_51 rfl (lv_at hl 1 rfl) ?_
      refine lv_aload_n hx hb dX4_fromSingle_52 rfl (lv_at hl 2 rfl) ?_
      replace hf := o_cP_e hf
      obtain ⟨x8, hq8, hf⟩ := hf
      refine jq_doP hX hS (jq_okV (As := []) (rest := [.int t0, .ref (aR k)]) hx hb hm ho ht (jq_const hX hS hk2) qw213 qw215 qs6 qw216 qw12 hy_X4_infinity rfl hl.1 (Nat.le_of_ble_eq_true rfl) dX4_fromSingle_53) (c_X4_infinity hk2 hq8) (Nat.le_of_ble_eq_true rfl) (Nat.le_of_ble_eq_true rfl) (Nat.le_refl _) (Nat.le_refl _) (fun locs hS' => ?_)
      clear hS
      have hS := hS'
      clear hS'
      replace hf := o_cP_e hf
      obtain ⟨x9, hq9, hf⟩ := hf
      refine jq_doP hX hS (jq_okV (As := [.int t0, .long x8]) (rest := []) hx hb hm ho ht (jq_const hX hS hk2) qw506 qw508 qs40 qw509 qw12 hy_X4_signed rfl hl.1 (Nat.le_of_ble_eq_true rfl) dX4_fromSingle_56) (c_X4_signed hk2 hq9) (Nat.le_of_ble_eq_true rfl) (Nat.le_of_ble_eq_true rfl) (Nat.le_refl _) (Nat.le_refl _) (fun locs hS' => ?_)
      clear hS
      have hS := hS'
      clear hS'
      cases hf
      exact jq_lret hX hS dX4_fromSingle_59 ⟨rfl, rfl, rfl, rfl⟩
  · replace hf := o_f hf (fun z => c1 (qc_le.mpr z))
    refine lv_aload_n hx hb dX4_fromSingle_33 rfl (lv_at hl 2 rfl) ?_
    replace hf := o_cP_e hf
    obtain ⟨x10, hq10, hf⟩ := hf
    refine jq_doP hX hS (jq_okV (As := []) (rest := []) hx hb hm ho ht (jq_const hX hS hk2) qw217 qw219 qs7 qw220 qw12 hy_X4_noNumber rfl hl.1 (Nat.le_of_ble_eq_true rfl) dX4_fromSingle_34) (c_X4_noNumber hk2 hq10) (Nat.le_of_ble_eq_true rfl) (Nat.le_of_ble_eq_true rfl) (Nat.le_refl _) (Nat.le_refl _) (fun locs hS' => ?_)
    clear hS
    have hS := hS'
    clear hS'
    cases hf
    exact jq_lret hX hS dX4_fromSingle_37 ⟨rfl, rfl, rfl, rfl⟩
def f_X4_fromSingle (k : Nat) (p1 : Int64) : Option (Int64) :=
  if 0 ≤ p1 then (
  f_X4_fromSingle_b11 k p1 0) else (
  f_X4_fromSingle_b11 k p1 1)
set_option maxHeartbeats 4000000 in
set_option maxRecDepth 100000 in
theorem c_X4_fromSingle {l : Launch} {D : va_G} {Y : Nat → ClassId} {aR : Nat → Nat} {A : Nat → Prop} {k : Nat} {p1 : Int64} {r : Int64} (hk2 : k < 2) (hf : f_X4_fromSingle k p1 = some r) : jq_P l D Y aR A yX4_fromSingle cX4_fromSingle 6 (some .long) 2 61 [.ref (aR k), .long p1] (some (.long r)) := by
  unfold f_X4_fromSingle at hf
  refine jq_enterP (by decide) (Nat.le_of_ble_eq_true rfl) fun p e s m args below meth c ls H locs hX hS hl => ?_
  have hl : lv_has ls 6 [(0, .ref (aR k)), (1, .long p1)] := hl
  have hx := hX.1
  have hb := hX.2.1
  have hm := hX.2.2.1
  have ho := hX.2.2.2.1
  have ht := hX.2.2.2.2.1
  have hn := hX.2.2.2.2.2.1.2.1
  refine lv_lload_n hx hb dX4_fromSingle_0 rfl (lv_at hl 1 rfl) ?_
  refine lv_lconst (v := 0) hx hb dX4_fromSingle_1 (by decide) ?_
  refine W.lcmp hx hb dX4_fromSingle_2 ?_
  refine lv_if_ge (tgt := 10) hx hb dX4_fromSingle_3 (by decide) (fun c1 => ?_) (fun c1 => ?_)
  · replace hf := o_t hf (qc_ge.mp c1)
    refine lv_iconst (v := 0) hx hb dX4_fromSingle_10 (by decide) ?_
    replace hl := lv_sub hl (l' := [(0, .ref (aR k)), (1, .long p1)]) [0, 1] rfl
    exact w_X4_fromSingle_b11 k p1 0 r H locs ls hk2 hX hS hf hl
  · replace hf := o_f hf (fun z => c1 (qc_ge.mpr z))
    refine lv_iconst (v := 1) hx hb dX4_fromSingle_6 (by decide) ?_
    refine lv_goto (tgt := 11) hx hb dX4_fromSingle_7 (by decide) ?_
    replace hl := lv_sub hl (l' := [(0, .ref (aR k)), (1, .long p1)]) [0, 1] rfl
    exact w_X4_fromSingle_b11 k p1 1 r H locs ls hk2 hX hS hf hl
theorem dX4_sumBeyond_0 : decode cX4_sumBeyond 0 = .ok (.aload_n 0, 1) := by decide +kernel
theorem dX4_sumBeyond_1 : decode cX4_sumBeyond 1 = .ok (.lload_n 1, 1) := by decide +kernel
theorem dX4_sumBeyond_2 : decode cX4_sumBeyond 2 = .ok (.invokevirtual 49, 3) := by decide +kernel
theorem dX4_sumBeyond_5 : decode cX4_sumBeyond 5 = .ok (.aload_n 0, 1) := by decide +kernel
theorem dX4_sumBeyond_6 : decode cX4_sumBeyond 6 = .ok (.lload_n 3, 1) := by decide +kernel
theorem dX4_sumBeyond_7 : decode cX4_sumBeyond 7 = .ok (.invokevirtual 49, 3) := by decide +kernel
theorem dX4_sumBeyond_10 : decode cX4_sumBeyond 10 = .ok (.lcmp, 1) := by decide +kernel
theorem dX4_sumBeyond_18 : decode cX4_sumBeyond 18 = .ok (.iconst 0, 1) := by decide +kernel
theorem dX4_sumBeyond_14 : decode cX4_sumBeyond 14 = .ok (.iconst 1, 1) := by decide +kernel
theorem dX4_sumBeyond_15 : decode cX4_sumBeyond 15 = .ok (.goto 4, 3) := by decide +kernel
theorem dX4_sumBeyond_11 : decode cX4_sumBeyond 11 = .ok (.ifCond .ne 7, 3) := by decide +kernel
theorem dX4_sumBeyond_19 : decode cX4_sumBeyond 19 = .ok (.istore 5, 2) := by decide +kernel
theorem dX4_sumBeyond_21 : decode cX4_sumBeyond 21 = .ok (.aload_n 0, 1) := by decide +kernel
theorem dX4_sumBeyond_22 : decode cX4_sumBeyond 22 = .ok (.lload_n 1, 1) := by decide +kernel
theorem dX4_sumBeyond_23 : decode cX4_sumBeyond 23 = .ok (.invokevirtual 53, 3) := by decide +kernel
theorem dX4_sumBeyond_26 : decode cX4_sumBeyond 26 = .ok (.ifCond .ne 22, 3) := by decide +kernel
theorem dX4_sumBeyond_48 : decode cX4_sumBeyond 48 = .ok (.aload_n 0, 1) := by decide +kernel
theorem dX4_sumBeyond_49 : decode cX4_sumBeyond 49 = .ok (.invokevirtual 57, 3) := by decide +kernel
theorem dX4_sumBeyond_52 : decode cX4_sumBeyond 52 = .ok (.lreturn, 1) := by decide +kernel
theorem dX4_sumBeyond_29 : decode cX4_sumBeyond 29 = .ok (.aload_n 0, 1) := by decide +kernel
theorem dX4_sumBeyond_30 : decode cX4_sumBeyond 30 = .ok (.lload_n 3, 1) := by decide +kernel
theorem dX4_sumBeyond_31 : decode cX4_sumBeyond 31 = .ok (.invokevirtual 53, 3) := by decide +kernel
theorem dX4_sumBeyond_34 : decode cX4_sumBeyond 34 = .ok (.ifCond .ne 14, 3) := by decide +kernel
theorem dX4_sumBeyond_37 : decode cX4_sumBeyond 37 = .ok (.iload 5, 2) := by decide +kernel
theorem dX4_sumBeyond_39 : decode cX4_sumBeyond 39 = .ok (.ifCond .eq 14, 3) := by decide +kernel
theorem dX4_sumBeyond_53 : decode cX4_sumBeyond 53 = .ok (.aload_n 0, 1) := by decide +kernel
theorem dX4_sumBeyond_54 : decode cX4_sumBeyond 54 = .ok (.lload_n 1, 1) := by decide +kernel
theorem dX4_sumBeyond_55 : decode cX4_sumBeyond 55 = .ok (.invokevirtual 49, 3) := by decide +kernel
theorem dX4_sumBeyond_58 : decode cX4_sumBeyond 58 = .ok (.aload_n 0, 1) := by decide +kernel
theorem dX4_sumBeyond_59 : decode cX4_sumBeyond 59 = .ok (.invokevirtual 45, 3) := by decide +kernel
theorem dX4_sumBeyond_62 : decode cX4_sumBeyond 62 = .ok (.lcmp, 1) := by decide +kernel
theorem dX4_sumBeyond_70 : decode cX4_sumBeyond 70 = .ok (.lload_n 3, 1) := by decide +kernel
theorem dX4_sumBeyond_71 : decode cX4_sumBeyond 71 = .ok (.lreturn, 1) := by decide +kernel
theorem dX4_sumBeyond_66 : decode cX4_sumBeyond 66 = .ok (.lload_n 1, 1) := by decide +kernel
theorem dX4_sumBeyond_67 : decode cX4_sumBeyond 67 = .ok (.goto 4, 3) := by decide +kernel
theorem dX4_sumBeyond_63 : decode cX4_sumBeyond 63 = .ok (.ifCond .ne 7, 3) := by decide +kernel
theorem dX4_sumBeyond_42 : decode cX4_sumBeyond 42 = .ok (.lload_n 1, 1) := by decide +kernel
theorem dX4_sumBeyond_43 : decode cX4_sumBeyond 43 = .ok (.lload_n 3, 1) := by decide +kernel
theorem dX4_sumBeyond_44 : decode cX4_sumBeyond 44 = .ok (.lcmp, 1) := by decide +kernel
theorem dX4_sumBeyond_45 : decode cX4_sumBeyond 45 = .ok (.ifCond .eq 8, 3) := by decide +kernel
theorem hy_X4_sumBeyond : yX4_sumBeyond.cls ≠ "java/lang/invoke/MethodHandle" ∧ yX4_sumBeyond.cls ≠ "java/lang/invoke/VarHandle" ∧ (parseMethodDescriptor yX4_sumBeyond.desc).map (fun d => d.parameters.length) = some 2 := ⟨by decide, by decide, by decide +kernel⟩
def f_X4_sumBeyond_b19 (k : Nat) (l1 : Int64) (l3 : Int64) (t0 : Int32) : Option (Int64) :=
  o_cP (f_X4_isNoNumber k l1) fun x1 =>
  if x1 = 0 then (
  o_cP (f_X4_isNoNumber k l3) fun x3 =>
  if x3 = 0 then (
  if t0 = 0 then (
  o_cP (f_X4_magnitude k l1) fun x5 =>
  o_cP (f_X4_infinity k) fun x6 =>
  if x5 = x6 then (
  some l1) else (
  some l3)) else (
  if l1 = l3 then (
  o_cP (f_X4_magnitude k l1) fun x7 =>
  o_cP (f_X4_infinity k) fun x8 =>
  if x7 = x8 then (
  some l1) else (
  some l3)) else (
  o_cP (f_X4_noNumber k) fun x9 =>
  some x9))) else (
  o_cP (f_X4_noNumber k) fun x4 =>
  some x4)) else (
  o_cP (f_X4_noNumber k) fun x2 =>
  some x2)
set_option maxHeartbeats 4000000 in
set_option maxRecDepth 100000 in
theorem w_X4_sumBeyond_b19 {l : Launch} {D : va_G} {Y : Nat → ClassId} {aR : Nat → Nat} {A : Nat → Prop} {p : Program} {e : Env} {s : State} {m : MethodId} {args : Array Value} {below : List Frame} {meth : Method} {c : Code} : ∀ (k : Nat) (l1 : Int64) (l3 : Int64) (t0 : Int32) (r : Int64) (H : Heap) (locs : List Loc) (ls : Array Slot), k < 2 → jq_X D Y aR A p s m args meth c cX4_sumBeyond RX4 "sumBeyond" 6 (some .long) → va_S A s.heap H locs → f_X4_sumBeyond_b19 k l1 l3 t0 = some r → lv_has ls 6 [(0, .ref (aR k)), (1, .long l1), (3, .long l3)] → W p l e { frames := 2, cells := 0, slots := 0, locals := 44 } s m args below meth c H locs 0 0 (jq_Z below A (fun v k n H' => v = (some (.long r)) ∧ k = 0 ∧ n = 0 ∧ H' = H) s) (F0 m 19 ls [.int t0]) := by
  intro k l1 l3 t0 r H locs ls hk2 hX hS hf hl
  unfold f_X4_sumBeyond_b19 at hf
  have hx := hX.1
  have hb := hX.2.1
  have hm := hX.2.2.1
  have ho := hX.2.2.2.1
  have ht := hX.2.2.2.2.1
  have hn := hX.2.2.2.2.2.1.2.1
  refine lv_istore (lv' := [(5, .int t0), (0, .ref (aR k)), (1, .long l1), (3, .long l3)]) hx hb dX4_sumBeyond_19 hl (by decide) rfl (fun ls hl' => ?_)
  clear hl
  have hl := hl'
  clear hl'
  refine lv_aload_n hx hb dX4_sumBeyond_21 rfl (lv_at hl 1 rfl) ?_
  refine lv_lload_n hx hb dX4_sumBeyond_22 rfl (lv_at hl 2 rfl) ?_
  replace hf := o_cP_e hf
  obtain ⟨x1, hq1, hf⟩ := hf
  refine jq_doP hX hS (jq_okV (As := [.long l1]) (rest := []) hx hb hm ho ht (jq_const hX hS hk2) qw204 qw206 qs4 qw207 qw12 hy_X4_isNoNumber rfl hl.1 (Nat.le_of_ble_eq_true rfl) dX4_sumBeyond_23) (c_X4_isNoNumber hk2 hq1) (Nat.le_of_ble_eq_true rfl) (Nat.le_of_ble_eq_true rfl) (Nat.le_refl _) (Nat.le_refl _) (fun locs hS' => ?_)
  clear hS
  have hS := hS'
  clear hS'
  refine lv_if_ne (tgt := 48) hx hb dX4_sumBeyond_26 (by decide) (fun c1 => ?_) (fun c1 => ?_)
  · replace hf := o_f hf c1
    refine lv_aload_n hx hb dX4_sumBeyond_48 rfl (lv_at hl 1 rfl) ?_
    replace hf := o_cP_e hf
    obtain ⟨x2, hq2, hf⟩ := hf
    refine jq_doP hX hS (jq_okV (As := []) (rest := []) hx hb hm ho ht (jq_const hX hS hk2) qw217 qw219 qs7 qw220 qw12 hy_X4_noNumber rfl hl.1 (Nat.le_of_ble_eq_true rfl) dX4_sumBeyond_49) (c_X4_noNumber hk2 hq2) (Nat.le_of_ble_eq_true rfl) (Nat.le_of_ble_eq_true rfl) (Nat.le_refl _) (Nat.le_refl _) (fun locs hS' => ?_)
    clear hS
    have hS := hS'
    clear hS'
    cases hf
    exact jq_lret hX hS dX4_sumBeyond_52 ⟨rfl, rfl, rfl, rfl⟩
  · replace hf := o_t hf c1
    refine lv_aload_n hx hb dX4_sumBeyond_29 rfl (lv_at hl 1 rfl) ?_
    refine lv_lload_n hx hb dX4_sumBeyond_30 rfl (lv_at hl 3 rfl) ?_
    replace hf := o_cP_e hf
    obtain ⟨x3, hq3, hf⟩ := hf
    refine jq_doP hX hS (jq_okV (As := [.long l3]) (rest := []) hx hb hm ho ht (jq_const hX hS hk2) qw204 qw206 qs4 qw207 qw12 hy_X4_isNoNumber rfl hl.1 (Nat.le_of_ble_eq_true rfl) dX4_sumBeyond_31) (c_X4_isNoNumber hk2 hq3) (Nat.le_of_ble_eq_true rfl) (Nat.le_of_ble_eq_true rfl) (Nat.le_refl _) (Nat.le_refl _) (fun locs hS' => ?_)
    clear hS
    have hS := hS'
    clear hS'
    refine lv_if_ne (tgt := 48) hx hb dX4_sumBeyond_34 (by decide) (fun c2 => ?_) (fun c2 => ?_)
    · replace hf := o_f hf c2
      refine lv_aload_n hx hb dX4_sumBeyond_48 rfl (lv_at hl 1 rfl) ?_
      replace hf := o_cP_e hf
      obtain ⟨x4, hq4, hf⟩ := hf
      refine jq_doP hX hS (jq_okV (As := []) (rest := []) hx hb hm ho ht (jq_const hX hS hk2) qw217 qw219 qs7 qw220 qw12 hy_X4_noNumber rfl hl.1 (Nat.le_of_ble_eq_true rfl) dX4_sumBeyond_49) (c_X4_noNumber hk2 hq4) (Nat.le_of_ble_eq_true rfl) (Nat.le_of_ble_eq_true rfl) (Nat.le_refl _) (Nat.le_refl _) (fun locs hS' => ?_)
      clear hS
      have hS := hS'
      clear hS'
      cases hf
      exact jq_lret hX hS dX4_sumBeyond_52 ⟨rfl, rfl, rfl, rfl⟩
    · replace hf := o_t hf c2
      refine lv_iload hx hb dX4_sumBeyond_37 (lv_at hl 0 rfl) ?_
      refine lv_if_eq (tgt := 53) hx hb dX4_sumBeyond_39 (by decide) (fun c3 => ?_) (fun c3 => ?_)
      · replace hf := o_t hf c3
        refine lv_aload_n hx hb dX4_sumBeyond_53 rfl (lv_at hl 1 rfl) ?_
        refine lv_lload_n hx hb dX4_sumBeyond_54 rfl (lv_at hl 2 rfl) ?_
        replace hf := o_cP_e hf
        obtain ⟨x5, hq5, hf⟩ := hf
        refine jq_doP hX hS (jq_okV (As := [.long l1]) (rest := []) hx hb hm ho ht (jq_const hX hS hk2) qw208 qw210 qs5 qw211 qw12 hy_X4_magnitude rfl hl.1 (Nat.le_of_ble_eq_true rfl) dX4_sumBeyond_55) (c_X4_magnitude hk2 hq5) (Nat.le_of_ble_eq_true rfl) (Nat.le_of_ble_eq_true rfl) (Nat.le_refl _) (Nat.le_refl _) (fun locs hS' => ?_)
        clear hS
        have hS := hS'
        clear hS'
        refine lv_aload_n hx hb dX4_sumBeyond_58 rfl (lv_at hl 1 rfl) ?_
        replace hf := o_cP_e hf
        obtain ⟨x6, hq6, hf⟩ := hf
        refine jq_doP hX hS (jq_okV (As := []) (rest := [.long x5]) hx hb hm ho ht (jq_const hX hS hk2) qw213 qw215 qs6 qw216 qw12 hy_X4_infinity rfl hl.1 (Nat.le_of_ble_eq_true rfl) dX4_sumBeyond_59) (c_X4_infinity hk2 hq6) (Nat.le_of_ble_eq_true rfl) (Nat.le_of_ble_eq_true rfl) (Nat.le_refl _) (Nat.le_refl _) (fun locs hS' => ?_)
        clear hS
        have hS := hS'
        clear hS'
        refine W.lcmp hx hb dX4_sumBeyond_62 ?_
        refine lv_if_ne (tgt := 70) hx hb dX4_sumBeyond_63 (by decide) (fun c4 => ?_) (fun c4 => ?_)
        · replace hf := o_f hf (fun z => c4 (qc_eq.mpr z))
          refine lv_lload_n hx hb dX4_sumBeyond_70 rfl (lv_at hl 3 rfl) ?_
          cases hf
          exact jq_lret hX hS dX4_sumBeyond_71 ⟨rfl, rfl, rfl, rfl⟩
        · replace hf := o_t hf (qc_eq.mp c4)
          refine lv_lload_n hx hb dX4_sumBeyond_66 rfl (lv_at hl 2 rfl) ?_
          refine lv_goto (tgt := 71) hx hb dX4_sumBeyond_67 (by decide) ?_
          cases hf
          exact jq_lret hX hS dX4_sumBeyond_71 ⟨rfl, rfl, rfl, rfl⟩
      · replace hf := o_f hf c3
        refine lv_lload_n hx hb dX4_sumBeyond_42 rfl (lv_at hl 2 rfl) ?_
        refine lv_lload_n hx hb dX4_sumBeyond_43 rfl (lv_at hl 3 rfl) ?_
        refine W.lcmp hx hb dX4_sumBeyond_44 ?_
        refine lv_if_eq (tgt := 53) hx hb dX4_sumBeyond_45 (by decide) (fun c5 => ?_) (fun c5 => ?_)
        · replace hf := o_t hf (qc_eq.mp c5)
          refine lv_aload_n hx hb dX4_sumBeyond_53 rfl (lv_at hl 1 rfl) ?_
          refine lv_lload_n hx hb dX4_sumBeyond_54 rfl (lv_at hl 2 rfl) ?_
          replace hf := o_cP_e hf
          obtain ⟨x7, hq7, hf⟩ := hf
          refine jq_doP hX hS (jq_okV (As := [.long l1]) (rest := []) hx hb hm ho ht (jq_const hX hS hk2) qw208 qw210 qs5 qw211 qw12 hy_X4_magnitude rfl hl.1 (Nat.le_of_ble_eq_true rfl) dX4_sumBeyond_55) (c_X4_magnitude hk2 hq7) (Nat.le_of_ble_eq_true rfl) (Nat.le_of_ble_eq_true rfl) (Nat.le_refl _) (Nat.le_refl _) (fun locs hS' => ?_)
          clear hS
          have hS := hS'
          clear hS'
          refine lv_aload_n hx hb dX4_sumBeyond_58 rfl (lv_at hl 1 rfl) ?_
          replace hf := o_cP_e hf
          obtain ⟨x8, hq8, hf⟩ := hf
          refine jq_doP hX hS (jq_okV (As := []) (rest := [.long x7]) hx hb hm ho ht (jq_const hX hS hk2) qw213 qw215 qs6 qw216 qw12 hy_X4_infinity rfl hl.1 (Nat.le_of_ble_eq_true rfl) dX4_sumBeyond_59) (c_X4_infinity hk2 hq8) (Nat.le_of_ble_eq_true rfl) (Nat.le_of_ble_eq_true rfl) (Nat.le_refl _) (Nat.le_refl _) (fun locs hS' => ?_)
          clear hS
          have hS := hS'
          clear hS'
          refine W.lcmp hx hb dX4_sumBeyond_62 ?_
          refine lv_if_ne (tgt := 70) hx hb dX4_sumBeyond_63 (by decide) (fun c6 => ?_) (fun c6 => ?_)
          · replace hf := o_f hf (fun z => c6 (qc_eq.mpr z))
            refine lv_lload_n hx hb dX4_sumBeyond_70 rfl (lv_at hl 3 rfl) ?_
            cases hf
            exact jq_lret hX hS dX4_sumBeyond_71 ⟨rfl, rfl, rfl, rfl⟩
          · replace hf := o_t hf (qc_eq.mp c6)
            refine lv_lload_n hx hb dX4_sumBeyond_66 rfl (lv_at hl 2 rfl) ?_
            refine lv_goto (tgt := 71) hx hb dX4_sumBeyond_67 (by decide) ?_
            cases hf
            exact jq_lret hX hS dX4_sumBeyond_71 ⟨rfl, rfl, rfl, rfl⟩
        · replace hf := o_f hf (fun z => c5 (qc_eq.mpr z))
          refine lv_aload_n hx hb dX4_sumBeyond_48 rfl (lv_at hl 1 rfl) ?_
          replace hf := o_cP_e hf
          obtain ⟨x9, hq9, hf⟩ := hf
          refine jq_doP hX hS (jq_okV (As := []) (rest := []) hx hb hm ho ht (jq_const hX hS hk2) qw217 qw219 qs7 qw220 qw12 hy_X4_noNumber rfl hl.1 (Nat.le_of_ble_eq_true rfl) dX4_sumBeyond_49) (c_X4_noNumber hk2 hq9) (Nat.le_of_ble_eq_true rfl) (Nat.le_of_ble_eq_true rfl) (Nat.le_refl _) (Nat.le_refl _) (fun locs hS' => ?_)
          clear hS
          have hS := hS'
          clear hS'
          cases hf
          exact jq_lret hX hS dX4_sumBeyond_52 ⟨rfl, rfl, rfl, rfl⟩
def f_X4_sumBeyond (k : Nat) (p1 : Int64) (p2 : Int64) : Option (Int64) :=
  o_cP (f_X4_magnitude k p1) fun x1 =>
  o_cP (f_X4_magnitude k p2) fun x2 =>
  if x1 = x2 then (
  f_X4_sumBeyond_b19 k p1 p2 1) else (
  f_X4_sumBeyond_b19 k p1 p2 0)
set_option maxHeartbeats 4000000 in
set_option maxRecDepth 100000 in
theorem c_X4_sumBeyond {l : Launch} {D : va_G} {Y : Nat → ClassId} {aR : Nat → Nat} {A : Nat → Prop} {k : Nat} {p1 : Int64} {p2 : Int64} {r : Int64} (hk2 : k < 2) (hf : f_X4_sumBeyond k p1 p2 = some r) : jq_P l D Y aR A yX4_sumBeyond cX4_sumBeyond 6 (some .long) 2 44 [.ref (aR k), .long p1, .long p2] (some (.long r)) := by
  unfold f_X4_sumBeyond at hf
  refine jq_enterP (by decide) (Nat.le_of_ble_eq_true rfl) fun p e s m args below meth c ls H locs hX hS hl => ?_
  have hl : lv_has ls 6 [(0, .ref (aR k)), (1, .long p1), (3, .long p2)] := hl
  have hx := hX.1
  have hb := hX.2.1
  have hm := hX.2.2.1
  have ho := hX.2.2.2.1
  have ht := hX.2.2.2.2.1
  have hn := hX.2.2.2.2.2.1.2.1
  refine lv_aload_n hx hb dX4_sumBeyond_0 rfl (lv_at hl 0 rfl) ?_
  refine lv_lload_n hx hb dX4_sumBeyond_1 rfl (lv_at hl 1 rfl) ?_
  replace hf := o_cP_e hf
  obtain ⟨x1, hq1, hf⟩ := hf
  refine jq_doP hX hS (jq_okV (As := [.long p1]) (rest := []) hx hb hm ho ht (jq_const hX hS hk2) qw208 qw210 qs5 qw211 qw12 hy_X4_magnitude rfl hl.1 (Nat.le_of_ble_eq_true rfl) dX4_sumBeyond_2) (c_X4_magnitude hk2 hq1) (Nat.le_of_ble_eq_true rfl) (Nat.le_of_ble_eq_true rfl) (Nat.le_refl _) (Nat.le_refl _) (fun locs hS' => ?_)
  clear hS
  have hS := hS'
  clear hS'
  refine lv_aload_n hx hb dX4_sumBeyond_5 rfl (lv_at hl 0 rfl) ?_
  refine lv_lload_n hx hb dX4_sumBeyond_6 rfl (lv_at hl 2 rfl) ?_
  replace hf := o_cP_e hf
  obtain ⟨x2, hq2, hf⟩ := hf
  refine jq_doP hX hS (jq_okV (As := [.long p2]) (rest := [.long x1]) hx hb hm ho ht (jq_const hX hS hk2) qw208 qw210 qs5 qw211 qw12 hy_X4_magnitude rfl hl.1 (Nat.le_of_ble_eq_true rfl) dX4_sumBeyond_7) (c_X4_magnitude hk2 hq2) (Nat.le_of_ble_eq_true rfl) (Nat.le_of_ble_eq_true rfl) (Nat.le_refl _) (Nat.le_refl _) (fun locs hS' => ?_)
  clear hS
  have hS := hS'
  clear hS'
  refine W.lcmp hx hb dX4_sumBeyond_10 ?_
  refine lv_if_ne (tgt := 18) hx hb dX4_sumBeyond_11 (by decide) (fun c1 => ?_) (fun c1 => ?_)
  · replace hf := o_f hf (fun z => c1 (qc_eq.mpr z))
    refine lv_iconst (v := 0) hx hb dX4_sumBeyond_18 (by decide) ?_
    replace hl := lv_sub hl (l' := [(0, .ref (aR k)), (1, .long p1), (3, .long p2)]) [0, 1, 2] rfl
    exact w_X4_sumBeyond_b19 k p1 p2 0 r H locs ls hk2 hX hS hf hl
  · replace hf := o_t hf (qc_eq.mp c1)
    refine lv_iconst (v := 1) hx hb dX4_sumBeyond_14 (by decide) ?_
    refine lv_goto (tgt := 19) hx hb dX4_sumBeyond_15 (by decide) ?_
    replace hl := lv_sub hl (l' := [(0, .ref (aR k)), (1, .long p1), (3, .long p2)]) [0, 1, 2] rfl
    exact w_X4_sumBeyond_b19 k p1 p2 1 r H locs ls hk2 hX hS hf hl
theorem dX4_aligned_0 : decode cX4_aligned 0 = .ok (.aload_n 0, 1) := by decide +kernel
theorem dX4_aligned_1 : decode cX4_aligned 1 = .ok (.lload_n 1, 1) := by decide +kernel
theorem dX4_aligned_2 : decode cX4_aligned 2 = .ok (.invokevirtual 92, 3) := by decide +kernel
theorem dX4_aligned_5 : decode cX4_aligned 5 = .ok (.bipush 8, 2) := by decide +kernel
theorem dX4_aligned_7 : decode cX4_aligned 7 = .ok (.lshl, 1) := by decide +kernel
theorem dX4_aligned_8 : decode cX4_aligned 8 = .ok (.lstore 4, 2) := by decide +kernel
theorem dX4_aligned_10 : decode cX4_aligned 10 = .ok (.iload_n 3, 1) := by decide +kernel
theorem dX4_aligned_11 : decode cX4_aligned 11 = .ok (.aload_n 0, 1) := by decide +kernel
theorem dX4_aligned_12 : decode cX4_aligned 12 = .ok (.lload_n 1, 1) := by decide +kernel
theorem dX4_aligned_13 : decode cX4_aligned 13 = .ok (.invokevirtual 73, 3) := by decide +kernel
theorem dX4_aligned_16 : decode cX4_aligned 16 = .ok (.isub, 1) := by decide +kernel
theorem dX4_aligned_17 : decode cX4_aligned 17 = .ok (.istore 6, 2) := by decide +kernel
theorem dX4_aligned_19 : decode cX4_aligned 19 = .ok (.iload 6, 2) := by decide +kernel
theorem dX4_aligned_21 : decode cX4_aligned 21 = .ok (.bipush 62, 2) := by decide +kernel
theorem dX4_aligned_23 : decode cX4_aligned 23 = .ok (.if_icmp .le 7, 3) := by decide +kernel
theorem dX4_aligned_30 : decode cX4_aligned 30 = .ok (.lload 4, 2) := by decide +kernel
theorem dX4_aligned_32 : decode cX4_aligned 32 = .ok (.iload 6, 2) := by decide +kernel
theorem dX4_aligned_34 : decode cX4_aligned 34 = .ok (.lshr, 1) := by decide +kernel
theorem dX4_aligned_26 : decode cX4_aligned 26 = .ok (.lconst 0, 1) := by decide +kernel
theorem dX4_aligned_27 : decode cX4_aligned 27 = .ok (.goto 8, 3) := by decide +kernel
theorem dX4_aligned_35 : decode cX4_aligned 35 = .ok (.lstore 7, 2) := by decide +kernel
theorem dX4_aligned_37 : decode cX4_aligned 37 = .ok (.iload 6, 2) := by decide +kernel
theorem dX4_aligned_39 : decode cX4_aligned 39 = .ok (.bipush 62, 2) := by decide +kernel
theorem dX4_aligned_41 : decode cX4_aligned 41 = .ok (.if_icmp .le 18, 3) := by decide +kernel
theorem dX4_aligned_59 : decode cX4_aligned 59 = .ok (.lload 7, 2) := by decide +kernel
theorem dX4_aligned_61 : decode cX4_aligned 61 = .ok (.iload 6, 2) := by decide +kernel
theorem dX4_aligned_63 : decode cX4_aligned 63 = .ok (.lshl, 1) := by decide +kernel
theorem dX4_aligned_64 : decode cX4_aligned 64 = .ok (.lload 4, 2) := by decide +kernel
theorem dX4_aligned_66 : decode cX4_aligned 66 = .ok (.lcmp, 1) := by decide +kernel
theorem dX4_aligned_74 : decode cX4_aligned 74 = .ok (.iconst 0, 1) := by decide +kernel
theorem dX4_aligned_70 : decode cX4_aligned 70 = .ok (.iconst 1, 1) := by decide +kernel
theorem dX4_aligned_71 : decode cX4_aligned 71 = .ok (.goto 4, 3) := by decide +kernel
theorem dX4_aligned_67 : decode cX4_aligned 67 = .ok (.ifCond .eq 7, 3) := by decide +kernel
theorem dX4_aligned_44 : decode cX4_aligned 44 = .ok (.lload 4, 2) := by decide +kernel
theorem dX4_aligned_46 : decode cX4_aligned 46 = .ok (.lconst 0, 1) := by decide +kernel
theorem dX4_aligned_47 : decode cX4_aligned 47 = .ok (.lcmp, 1) := by decide +kernel
theorem dX4_aligned_55 : decode cX4_aligned 55 = .ok (.iconst 0, 1) := by decide +kernel
theorem dX4_aligned_56 : decode cX4_aligned 56 = .ok (.goto 19, 3) := by decide +kernel
theorem dX4_aligned_51 : decode cX4_aligned 51 = .ok (.iconst 1, 1) := by decide +kernel
theorem dX4_aligned_52 : decode cX4_aligned 52 = .ok (.goto 23, 3) := by decide +kernel
theorem dX4_aligned_48 : decode cX4_aligned 48 = .ok (.ifCond .eq 7, 3) := by decide +kernel
theorem dX4_aligned_75 : decode cX4_aligned 75 = .ok (.istore 9, 2) := by decide +kernel
theorem dX4_aligned_77 : decode cX4_aligned 77 = .ok (.iload 9, 2) := by decide +kernel
theorem dX4_aligned_79 : decode cX4_aligned 79 = .ok (.ifCond .eq 10, 3) := by decide +kernel
theorem dX4_aligned_89 : decode cX4_aligned 89 = .ok (.lload 7, 2) := by decide +kernel
theorem dX4_aligned_91 : decode cX4_aligned 91 = .ok (.lstore 10, 2) := by decide +kernel
theorem dX4_aligned_93 : decode cX4_aligned 93 = .ok (.lload_n 1, 1) := by decide +kernel
theorem dX4_aligned_94 : decode cX4_aligned 94 = .ok (.lconst 0, 1) := by decide +kernel
theorem dX4_aligned_95 : decode cX4_aligned 95 = .ok (.lcmp, 1) := by decide +kernel
theorem dX4_aligned_105 : decode cX4_aligned 105 = .ok (.lload 10, 2) := by decide +kernel
theorem dX4_aligned_107 : decode cX4_aligned 107 = .ok (.lreturn, 1) := by decide +kernel
theorem dX4_aligned_99 : decode cX4_aligned 99 = .ok (.lload 10, 2) := by decide +kernel
theorem dX4_aligned_101 : decode cX4_aligned 101 = .ok (.lneg, 1) := by decide +kernel
theorem dX4_aligned_102 : decode cX4_aligned 102 = .ok (.goto 5, 3) := by decide +kernel
theorem dX4_aligned_96 : decode cX4_aligned 96 = .ok (.ifCond .ge 9, 3) := by decide +kernel
theorem dX4_aligned_82 : decode cX4_aligned 82 = .ok (.lload 7, 2) := by decide +kernel
theorem dX4_aligned_84 : decode cX4_aligned 84 = .ok (.lconst 1, 1) := by decide +kernel
theorem dX4_aligned_85 : decode cX4_aligned 85 = .ok (.lor, 1) := by decide +kernel
theorem dX4_aligned_86 : decode cX4_aligned 86 = .ok (.goto 5, 3) := by decide +kernel
theorem hy_X4_aligned : yX4_aligned.cls ≠ "java/lang/invoke/MethodHandle" ∧ yX4_aligned.cls ≠ "java/lang/invoke/VarHandle" ∧ (parseMethodDescriptor yX4_aligned.desc).map (fun d => d.parameters.length) = some 2 := ⟨by decide, by decide, by decide +kernel⟩
def f_X4_aligned_b75 (l1 : Int64) (l7 : Int64) (t0 : Int32) : Option (Int64) :=
  if t0 = 0 then (
  if 0 ≤ l1 then (
  some l7) else (
  some (-l7))) else (
  if 0 ≤ l1 then (
  some (l7 ||| (1 : Int64))) else (
  some (-(l7 ||| (1 : Int64)))))
set_option maxHeartbeats 4000000 in
set_option maxRecDepth 100000 in
theorem w_X4_aligned_b75 {l : Launch} {D : va_G} {Y : Nat → ClassId} {aR : Nat → Nat} {A : Nat → Prop} {p : Program} {e : Env} {s : State} {m : MethodId} {args : Array Value} {below : List Frame} {meth : Method} {c : Code} : ∀ (l1 : Int64) (l7 : Int64) (t0 : Int32) (r : Int64) (H : Heap) (locs : List Loc) (ls : Array Slot), jq_X D Y aR A p s m args meth c cX4_aligned RX4 "aligned" 12 (some .long) → va_S A s.heap H locs → f_X4_aligned_b75 l1 l7 t0 = some r → lv_has ls 12 [(1, .long l1), (7, .long l7)] → W p l e { frames := 2, cells := 0, slots := 0, locals := 48 } s m args below meth c H locs 0 0 (jq_Z below A (fun v k n H' => v = (some (.long r)) ∧ k = 0 ∧ n = 0 ∧ H' = H) s) (F0 m 75 ls [.int t0]) := by
  intro l1 l7 t0 r H locs ls hX hS hf hl
  unfold f_X4_aligned_b75 at hf
  have hx := hX.1
  have hb := hX.2.1
  have hm := hX.2.2.1
  have ho := hX.2.2.2.1
  have ht := hX.2.2.2.2.1
  have hn := hX.2.2.2.2.2.1.2.1
  refine lv_istore (lv' := [(9, .int t0), (1, .long l1), (7, .long l7)]) hx hb dX4_aligned_75 hl (by decide) rfl (fun ls hl' => ?_)
  clear hl
  have hl := hl'
  clear hl'
  refine lv_iload hx hb dX4_aligned_77 (lv_at hl 0 rfl) ?_
  refine lv_if_eq (tgt := 89) hx hb dX4_aligned_79 (by decide) (fun c1 => ?_) (fun c1 => ?_)
  · replace hf := o_t hf c1
    refine lv_lload hx hb dX4_aligned_89 (lv_at hl 2 rfl) ?_
    refine lv_lstore (lv' := [(10, .long l7), (9, .int t0), (1, .long l1), (7, .long l7)]) hx hb dX4_aligned_91 hl (by decide) rfl (fun ls hl' => ?_)
    clear hl
    have hl := hl'
    clear hl'
    refine lv_lload_n hx hb dX4_aligned_93 rfl (lv_at hl 2 rfl) ?_
    refine lv_lconst (v := 0) hx hb dX4_aligned_94 (by decide) ?_
    refine W.lcmp hx hb dX4_aligned_95 ?_
    refine lv_if_ge (tgt := 105) hx hb dX4_aligned_96 (by decide) (fun c2 => ?_) (fun c2 => ?_)
    · replace hf := o_t hf (qc_ge.mp c2)
      refine lv_lload hx hb dX4_aligned_105 (lv_at hl 0 rfl) ?_
      cases hf
      exact jq_lret hX hS dX4_aligned_107 ⟨rfl, rfl, rfl, rfl⟩
    · replace hf := o_f hf (fun z => c2 (qc_ge.mpr z))
      refine lv_lload hx hb dX4_aligned_99 (lv_at hl 0 rfl) ?_
      refine lv_lneg hx hb dX4_aligned_101 ?_
      refine lv_goto (tgt := 107) hx hb dX4_aligned_102 (by decide) ?_
      cases hf
      exact jq_lret hX hS dX4_aligned_107 ⟨rfl, rfl, rfl, rfl⟩
  · replace hf := o_f hf c1
    refine lv_lload hx hb dX4_aligned_82 (lv_at hl 2 rfl) ?_
    refine lv_lconst (v := 1) hx hb dX4_aligned_84 (by decide) ?_
    refine lv_lor hx hb dX4_aligned_85 ?_
    refine lv_goto (tgt := 91) hx hb dX4_aligned_86 (by decide) ?_
    refine lv_lstore (lv' := [(10, .long (l7 ||| (1 : Int64))), (9, .int t0), (1, .long l1), (7, .long l7)]) hx hb dX4_aligned_91 hl (by decide) rfl (fun ls hl' => ?_)
    clear hl
    have hl := hl'
    clear hl'
    refine lv_lload_n hx hb dX4_aligned_93 rfl (lv_at hl 2 rfl) ?_
    refine lv_lconst (v := 0) hx hb dX4_aligned_94 (by decide) ?_
    refine W.lcmp hx hb dX4_aligned_95 ?_
    refine lv_if_ge (tgt := 105) hx hb dX4_aligned_96 (by decide) (fun c3 => ?_) (fun c3 => ?_)
    · replace hf := o_t hf (qc_ge.mp c3)
      refine lv_lload hx hb dX4_aligned_105 (lv_at hl 0 rfl) ?_
      cases hf
      exact jq_lret hX hS dX4_aligned_107 ⟨rfl, rfl, rfl, rfl⟩
    · replace hf := o_f hf (fun z => c3 (qc_ge.mpr z))
      refine lv_lload hx hb dX4_aligned_99 (lv_at hl 0 rfl) ?_
      refine lv_lneg hx hb dX4_aligned_101 ?_
      refine lv_goto (tgt := 107) hx hb dX4_aligned_102 (by decide) ?_
      cases hf
      exact jq_lret hX hS dX4_aligned_107 ⟨rfl, rfl, rfl, rfl⟩
def f_X4_aligned_b35 (l1 : Int64) (l4 : Int64) (l6 : Int32) (t0 : Int64) : Option (Int64) :=
  if l6 ≤ 62 then (
  if (t0 <<< ((l6).toInt64 &&& 63)) = l4 then (
  f_X4_aligned_b75 l1 t0 0) else (
  f_X4_aligned_b75 l1 t0 1)) else (
  if l4 = 0 then (
  f_X4_aligned_b75 l1 t0 0) else (
  f_X4_aligned_b75 l1 t0 1))
set_option maxHeartbeats 4000000 in
set_option maxRecDepth 100000 in
theorem w_X4_aligned_b35 {l : Launch} {D : va_G} {Y : Nat → ClassId} {aR : Nat → Nat} {A : Nat → Prop} {p : Program} {e : Env} {s : State} {m : MethodId} {args : Array Value} {below : List Frame} {meth : Method} {c : Code} : ∀ (l1 : Int64) (l4 : Int64) (l6 : Int32) (t0 : Int64) (r : Int64) (H : Heap) (locs : List Loc) (ls : Array Slot), jq_X D Y aR A p s m args meth c cX4_aligned RX4 "aligned" 12 (some .long) → va_S A s.heap H locs → f_X4_aligned_b35 l1 l4 l6 t0 = some r → lv_has ls 12 [(1, .long l1), (4, .long l4), (6, .int l6)] → W p l e { frames := 2, cells := 0, slots := 0, locals := 48 } s m args below meth c H locs 0 0 (jq_Z below A (fun v k n H' => v = (some (.long r)) ∧ k = 0 ∧ n = 0 ∧ H' = H) s) (F0 m 35 ls [.long t0]) := by
  intro l1 l4 l6 t0 r H locs ls hX hS hf hl
  unfold f_X4_aligned_b35 at hf
  have hx := hX.1
  have hb := hX.2.1
  have hm := hX.2.2.1
  have ho := hX.2.2.2.1
  have ht := hX.2.2.2.2.1
  have hn := hX.2.2.2.2.2.1.2.1
  refine lv_lstore (lv' := [(7, .long t0), (1, .long l1), (4, .long l4), (6, .int l6)]) hx hb dX4_aligned_35 hl (by decide) rfl (fun ls hl' => ?_)
  clear hl
  have hl := hl'
  clear hl'
  refine lv_iload hx hb dX4_aligned_37 (lv_at hl 3 rfl) ?_
  refine lv_bipush (v := 62) hx hb dX4_aligned_39 (by decide) ?_
  refine lv_icmp_le (tgt := 59) hx hb dX4_aligned_41 (by decide) (fun c1 => ?_) (fun c1 => ?_)
  · replace hf := o_t hf c1
    refine lv_lload hx hb dX4_aligned_59 (lv_at hl 0 rfl) ?_
    refine lv_iload hx hb dX4_aligned_61 (lv_at hl 3 rfl) ?_
    refine lv_lshl hx hb dX4_aligned_63 rfl ?_
    refine lv_lload hx hb dX4_aligned_64 (lv_at hl 2 rfl) ?_
    refine W.lcmp hx hb dX4_aligned_66 ?_
    refine lv_if_eq (tgt := 74) hx hb dX4_aligned_67 (by decide) (fun c2 => ?_) (fun c2 => ?_)
    · replace hf := o_t hf (qc_eq.mp c2)
      refine lv_iconst (v := 0) hx hb dX4_aligned_74 (by decide) ?_
      replace hl := lv_sub hl (l' := [(1, .long l1), (7, .long t0)]) [1, 0] rfl
      exact w_X4_aligned_b75 l1 t0 0 r H locs ls hX hS hf hl
    · replace hf := o_f hf (fun z => c2 (qc_eq.mpr z))
      refine lv_iconst (v := 1) hx hb dX4_aligned_70 (by decide) ?_
      refine lv_goto (tgt := 75) hx hb dX4_aligned_71 (by decide) ?_
      replace hl := lv_sub hl (l' := [(1, .long l1), (7, .long t0)]) [1, 0] rfl
      exact w_X4_aligned_b75 l1 t0 1 r H locs ls hX hS hf hl
  · replace hf := o_f hf c1
    refine lv_lload hx hb dX4_aligned_44 (lv_at hl 2 rfl) ?_
    refine lv_lconst (v := 0) hx hb dX4_aligned_46 (by decide) ?_
    refine W.lcmp hx hb dX4_aligned_47 ?_
    refine lv_if_eq (tgt := 55) hx hb dX4_aligned_48 (by decide) (fun c3 => ?_) (fun c3 => ?_)
    · replace hf := o_t hf (qc_eq.mp c3)
      refine lv_iconst (v := 0) hx hb dX4_aligned_55 (by decide) ?_
      refine lv_goto (tgt := 75) hx hb dX4_aligned_56 (by decide) ?_
      replace hl := lv_sub hl (l' := [(1, .long l1), (7, .long t0)]) [1, 0] rfl
      exact w_X4_aligned_b75 l1 t0 0 r H locs ls hX hS hf hl
    · replace hf := o_f hf (fun z => c3 (qc_eq.mpr z))
      refine lv_iconst (v := 1) hx hb dX4_aligned_51 (by decide) ?_
      refine lv_goto (tgt := 75) hx hb dX4_aligned_52 (by decide) ?_
      replace hl := lv_sub hl (l' := [(1, .long l1), (7, .long t0)]) [1, 0] rfl
      exact w_X4_aligned_b75 l1 t0 1 r H locs ls hX hS hf hl
def f_X4_aligned (k : Nat) (p1 : Int64) (p2 : Int32) : Option (Int64) :=
  o_cP (f_X4_significand k p1) fun x1 =>
  o_cP (f_X4_power k p1) fun x2 =>
  if (p2 - x2) ≤ 62 then (
  f_X4_aligned_b35 p1 (x1 <<< (((8 : Int32)).toInt64 &&& 63)) (p2 - x2) ((x1 <<< (((8 : Int32)).toInt64 &&& 63)) >>> (((p2 - x2)).toInt64 &&& 63))) else (
  f_X4_aligned_b35 p1 (x1 <<< (((8 : Int32)).toInt64 &&& 63)) (p2 - x2) 0)
set_option maxHeartbeats 4000000 in
set_option maxRecDepth 100000 in
theorem c_X4_aligned {l : Launch} {D : va_G} {Y : Nat → ClassId} {aR : Nat → Nat} {A : Nat → Prop} {k : Nat} {p1 : Int64} {p2 : Int32} {r : Int64} (hk2 : k < 2) (hf : f_X4_aligned k p1 p2 = some r) : jq_P l D Y aR A yX4_aligned cX4_aligned 12 (some .long) 2 48 [.ref (aR k), .long p1, .int p2] (some (.long r)) := by
  unfold f_X4_aligned at hf
  refine jq_enterP (by decide) (Nat.le_of_ble_eq_true rfl) fun p e s m args below meth c ls H locs hX hS hl => ?_
  have hl : lv_has ls 12 [(0, .ref (aR k)), (1, .long p1), (3, .int p2)] := hl
  have hx := hX.1
  have hb := hX.2.1
  have hm := hX.2.2.1
  have ho := hX.2.2.2.1
  have ht := hX.2.2.2.2.1
  have hn := hX.2.2.2.2.2.1.2.1
  refine lv_aload_n hx hb dX4_aligned_0 rfl (lv_at hl 0 rfl) ?_
  refine lv_lload_n hx hb dX4_aligned_1 rfl (lv_at hl 1 rfl) ?_
  replace hf := o_cP_e hf
  obtain ⟨x1, hq1, hf⟩ := hf
  refine jq_doP hX hS (jq_okV (As := [.long p1]) (rest := []) hx hb hm ho ht (jq_const hX hS hk2) qw515 qw517 qs42 qw518 qw12 hy_X4_significand rfl hl.1 (Nat.le_of_ble_eq_true rfl) dX4_aligned_2) (c_X4_significand hk2 hq1) (Nat.le_of_ble_eq_true rfl) (Nat.le_of_ble_eq_true rfl) (Nat.le_refl _) (Nat.le_refl _) (fun locs hS' => ?_)
  clear hS
  have hS := hS'
  clear hS'
  refine lv_bipush (v := 8) hx hb dX4_aligned_5 (by decide) ?_
  refine lv_lshl hx hb dX4_aligned_7 rfl ?_
  refine lv_lstore (lv' := [(4, .long (x1 <<< (((8 : Int32)).toInt64 &&& 63))), (0, .ref (aR k)), (1, .long p1), (3, .int p2)]) hx hb dX4_aligned_8 hl (by decide) rfl (fun ls hl' => ?_)
  clear hl
  have hl := hl'
  clear hl'
  refine lv_iload_n hx hb dX4_aligned_10 rfl (lv_at hl 3 rfl) ?_
  refine lv_aload_n hx hb dX4_aligned_11 rfl (lv_at hl 1 rfl) ?_
  refine lv_lload_n hx hb dX4_aligned_12 rfl (lv_at hl 2 rfl) ?_
  replace hf := o_cP_e hf
  obtain ⟨x2, hq2, hf⟩ := hf
  refine jq_doP hX hS (jq_okV (As := [.long p1]) (rest := [.int p2]) hx hb hm ho ht (jq_const hX hS hk2) qw519 qw521 qs43 qw522 qw12 hy_X4_power rfl hl.1 (Nat.le_of_ble_eq_true rfl) dX4_aligned_13) (c_X4_power hk2 hq2) (Nat.le_of_ble_eq_true rfl) (Nat.le_of_ble_eq_true rfl) (Nat.le_refl _) (Nat.le_refl _) (fun locs hS' => ?_)
  clear hS
  have hS := hS'
  clear hS'
  refine lv_isub hx hb dX4_aligned_16 ?_
  refine lv_istore (lv' := [(6, .int (p2 - x2)), (4, .long (x1 <<< (((8 : Int32)).toInt64 &&& 63))), (0, .ref (aR k)), (1, .long p1), (3, .int p2)]) hx hb dX4_aligned_17 hl (by decide) rfl (fun ls hl' => ?_)
  clear hl
  have hl := hl'
  clear hl'
  refine lv_iload hx hb dX4_aligned_19 (lv_at hl 0 rfl) ?_
  refine lv_bipush (v := 62) hx hb dX4_aligned_21 (by decide) ?_
  refine lv_icmp_le (tgt := 30) hx hb dX4_aligned_23 (by decide) (fun c1 => ?_) (fun c1 => ?_)
  · replace hf := o_t hf c1
    refine lv_lload hx hb dX4_aligned_30 (lv_at hl 1 rfl) ?_
    refine lv_iload hx hb dX4_aligned_32 (lv_at hl 0 rfl) ?_
    refine lv_lshr hx hb dX4_aligned_34 rfl ?_
    replace hl := lv_sub hl (l' := [(1, .long p1), (4, .long (x1 <<< (((8 : Int32)).toInt64 &&& 63))), (6, .int (p2 - x2))]) [3, 1, 0] rfl
    exact w_X4_aligned_b35 p1 (x1 <<< (((8 : Int32)).toInt64 &&& 63)) (p2 - x2) ((x1 <<< (((8 : Int32)).toInt64 &&& 63)) >>> (((p2 - x2)).toInt64 &&& 63)) r H locs ls hX hS hf hl
  · replace hf := o_f hf c1
    refine lv_lconst (v := 0) hx hb dX4_aligned_26 (by decide) ?_
    refine lv_goto (tgt := 35) hx hb dX4_aligned_27 (by decide) ?_
    replace hl := lv_sub hl (l' := [(1, .long p1), (4, .long (x1 <<< (((8 : Int32)).toInt64 &&& 63))), (6, .int (p2 - x2))]) [3, 1, 0] rfl
    exact w_X4_aligned_b35 p1 (x1 <<< (((8 : Int32)).toInt64 &&& 63)) (p2 - x2) 0 r H locs ls hX hS hf hl
theorem dX4_sumOf_0 : decode cX4_sumOf 0 = .ok (.aload_n 0, 1) := by decide +kernel
theorem dX4_sumOf_1 : decode cX4_sumOf 1 = .ok (.lload_n 1, 1) := by decide +kernel
theorem dX4_sumOf_2 : decode cX4_sumOf 2 = .ok (.invokevirtual 49, 3) := by decide +kernel
theorem dX4_sumOf_5 : decode cX4_sumOf 5 = .ok (.aload_n 0, 1) := by decide +kernel
theorem dX4_sumOf_6 : decode cX4_sumOf 6 = .ok (.invokevirtual 45, 3) := by decide +kernel
theorem dX4_sumOf_9 : decode cX4_sumOf 9 = .ok (.lcmp, 1) := by decide +kernel
theorem dX4_sumOf_26 : decode cX4_sumOf 26 = .ok (.aload_n 0, 1) := by decide +kernel
theorem dX4_sumOf_27 : decode cX4_sumOf 27 = .ok (.lload_n 1, 1) := by decide +kernel
theorem dX4_sumOf_28 : decode cX4_sumOf 28 = .ok (.lload_n 3, 1) := by decide +kernel
theorem dX4_sumOf_29 : decode cX4_sumOf 29 = .ok (.invokevirtual 69, 3) := by decide +kernel
theorem dX4_sumOf_32 : decode cX4_sumOf 32 = .ok (.lreturn, 1) := by decide +kernel
theorem dX4_sumOf_13 : decode cX4_sumOf 13 = .ok (.aload_n 0, 1) := by decide +kernel
theorem dX4_sumOf_14 : decode cX4_sumOf 14 = .ok (.lload_n 3, 1) := by decide +kernel
theorem dX4_sumOf_15 : decode cX4_sumOf 15 = .ok (.invokevirtual 49, 3) := by decide +kernel
theorem dX4_sumOf_18 : decode cX4_sumOf 18 = .ok (.aload_n 0, 1) := by decide +kernel
theorem dX4_sumOf_19 : decode cX4_sumOf 19 = .ok (.invokevirtual 45, 3) := by decide +kernel
theorem dX4_sumOf_22 : decode cX4_sumOf 22 = .ok (.lcmp, 1) := by decide +kernel
theorem dX4_sumOf_33 : decode cX4_sumOf 33 = .ok (.aload_n 0, 1) := by decide +kernel
theorem dX4_sumOf_34 : decode cX4_sumOf 34 = .ok (.lload_n 1, 1) := by decide +kernel
theorem dX4_sumOf_35 : decode cX4_sumOf 35 = .ok (.invokevirtual 73, 3) := by decide +kernel
theorem dX4_sumOf_38 : decode cX4_sumOf 38 = .ok (.aload_n 0, 1) := by decide +kernel
theorem dX4_sumOf_39 : decode cX4_sumOf 39 = .ok (.lload_n 3, 1) := by decide +kernel
theorem dX4_sumOf_40 : decode cX4_sumOf 40 = .ok (.invokevirtual 73, 3) := by decide +kernel
theorem dX4_sumOf_43 : decode cX4_sumOf 43 = .ok (.invokestatic 60, 3) := by decide +kernel
theorem dX4_sumOf_46 : decode cX4_sumOf 46 = .ok (.istore 5, 2) := by decide +kernel
theorem dX4_sumOf_48 : decode cX4_sumOf 48 = .ok (.aload_n 0, 1) := by decide +kernel
theorem dX4_sumOf_49 : decode cX4_sumOf 49 = .ok (.lload_n 1, 1) := by decide +kernel
theorem dX4_sumOf_50 : decode cX4_sumOf 50 = .ok (.iload 5, 2) := by decide +kernel
theorem dX4_sumOf_52 : decode cX4_sumOf 52 = .ok (.invokevirtual 77, 3) := by decide +kernel
theorem dX4_sumOf_55 : decode cX4_sumOf 55 = .ok (.aload_n 0, 1) := by decide +kernel
theorem dX4_sumOf_56 : decode cX4_sumOf 56 = .ok (.lload_n 3, 1) := by decide +kernel
theorem dX4_sumOf_57 : decode cX4_sumOf 57 = .ok (.iload 5, 2) := by decide +kernel
theorem dX4_sumOf_59 : decode cX4_sumOf 59 = .ok (.invokevirtual 77, 3) := by decide +kernel
theorem dX4_sumOf_62 : decode cX4_sumOf 62 = .ok (.ladd, 1) := by decide +kernel
theorem dX4_sumOf_63 : decode cX4_sumOf 63 = .ok (.lstore 6, 2) := by decide +kernel
theorem dX4_sumOf_65 : decode cX4_sumOf 65 = .ok (.lload 6, 2) := by decide +kernel
theorem dX4_sumOf_67 : decode cX4_sumOf 67 = .ok (.lconst 0, 1) := by decide +kernel
theorem dX4_sumOf_68 : decode cX4_sumOf 68 = .ok (.lcmp, 1) := by decide +kernel
theorem dX4_sumOf_95 : decode cX4_sumOf 95 = .ok (.aload_n 0, 1) := by decide +kernel
theorem dX4_sumOf_96 : decode cX4_sumOf 96 = .ok (.lload 6, 2) := by decide +kernel
theorem dX4_sumOf_98 : decode cX4_sumOf 98 = .ok (.lconst 0, 1) := by decide +kernel
theorem dX4_sumOf_99 : decode cX4_sumOf 99 = .ok (.lcmp, 1) := by decide +kernel
theorem dX4_sumOf_107 : decode cX4_sumOf 107 = .ok (.iconst 0, 1) := by decide +kernel
theorem dX4_sumOf_108 : decode cX4_sumOf 108 = .ok (.lload 6, 2) := by decide +kernel
theorem dX4_sumOf_110 : decode cX4_sumOf 110 = .ok (.invokestatic 85, 3) := by decide +kernel
theorem dX4_sumOf_113 : decode cX4_sumOf 113 = .ok (.iload 5, 2) := by decide +kernel
theorem dX4_sumOf_115 : decode cX4_sumOf 115 = .ok (.bipush 8, 2) := by decide +kernel
theorem dX4_sumOf_117 : decode cX4_sumOf 117 = .ok (.isub, 1) := by decide +kernel
theorem dX4_sumOf_118 : decode cX4_sumOf 118 = .ok (.invokevirtual 88, 3) := by decide +kernel
theorem dX4_sumOf_121 : decode cX4_sumOf 121 = .ok (.lreturn, 1) := by decide +kernel
theorem dX4_sumOf_103 : decode cX4_sumOf 103 = .ok (.iconst 1, 1) := by decide +kernel
theorem dX4_sumOf_104 : decode cX4_sumOf 104 = .ok (.goto 4, 3) := by decide +kernel
theorem dX4_sumOf_100 : decode cX4_sumOf 100 = .ok (.ifCond .ge 7, 3) := by decide +kernel
theorem dX4_sumOf_72 : decode cX4_sumOf 72 = .ok (.aload_n 0, 1) := by decide +kernel
theorem dX4_sumOf_73 : decode cX4_sumOf 73 = .ok (.lload_n 1, 1) := by decide +kernel
theorem dX4_sumOf_74 : decode cX4_sumOf 74 = .ok (.lconst 0, 1) := by decide +kernel
theorem dX4_sumOf_75 : decode cX4_sumOf 75 = .ok (.lcmp, 1) := by decide +kernel
theorem dX4_sumOf_89 : decode cX4_sumOf 89 = .ok (.iconst 0, 1) := by decide +kernel
theorem dX4_sumOf_90 : decode cX4_sumOf 90 = .ok (.lconst 0, 1) := by decide +kernel
theorem dX4_sumOf_91 : decode cX4_sumOf 91 = .ok (.invokevirtual 81, 3) := by decide +kernel
theorem dX4_sumOf_94 : decode cX4_sumOf 94 = .ok (.lreturn, 1) := by decide +kernel
theorem dX4_sumOf_79 : decode cX4_sumOf 79 = .ok (.lload_n 3, 1) := by decide +kernel
theorem dX4_sumOf_80 : decode cX4_sumOf 80 = .ok (.lconst 0, 1) := by decide +kernel
theorem dX4_sumOf_81 : decode cX4_sumOf 81 = .ok (.lcmp, 1) := by decide +kernel
theorem dX4_sumOf_85 : decode cX4_sumOf 85 = .ok (.iconst 1, 1) := by decide +kernel
theorem dX4_sumOf_86 : decode cX4_sumOf 86 = .ok (.goto 4, 3) := by decide +kernel
theorem dX4_sumOf_82 : decode cX4_sumOf 82 = .ok (.ifCond .ge 7, 3) := by decide +kernel
theorem dX4_sumOf_76 : decode cX4_sumOf 76 = .ok (.ifCond .ge 13, 3) := by decide +kernel
theorem dX4_sumOf_69 : decode cX4_sumOf 69 = .ok (.ifCond .ne 26, 3) := by decide +kernel
theorem dX4_sumOf_23 : decode cX4_sumOf 23 = .ok (.ifCond .lt 10, 3) := by decide +kernel
theorem dX4_sumOf_10 : decode cX4_sumOf 10 = .ok (.ifCond .ge 16, 3) := by decide +kernel
theorem hy_X4_sumOf : yX4_sumOf.cls ≠ "java/lang/invoke/MethodHandle" ∧ yX4_sumOf.cls ≠ "java/lang/invoke/VarHandle" ∧ (parseMethodDescriptor yX4_sumOf.desc).map (fun d => d.parameters.length) = some 2 := ⟨by decide, by decide, by decide +kernel⟩
def f_X4_sumOf (k : Nat) (p1 : Int64) (p2 : Int64) : Option (Int64) :=
  o_cP (f_X4_magnitude k p1) fun x1 =>
  o_cP (f_X4_infinity k) fun x2 =>
  if x2 ≤ x1 then (
  o_cP (f_X4_sumBeyond k p1 p2) fun x3 =>
  some x3) else (
  o_cP (f_X4_magnitude k p2) fun x4 =>
  o_cP (f_X4_infinity k) fun x5 =>
  if x4 < x5 then (
  o_cP (f_X4_power k p1) fun x6 =>
  o_cP (f_X4_power k p2) fun x7 =>
  o_cP (f_X4_aligned k p1 (if x6 < x7 then x7 else x6)) fun x8 =>
  o_cP (f_X4_aligned k p2 (if x6 < x7 then x7 else x6)) fun x9 =>
  if (x8 + x9) = 0 then (
  if 0 ≤ p1 then (
  o_cP (f_X4_signed k 0 0) fun x12 =>
  some x12) else (
  if 0 ≤ p2 then (
  o_cP (f_X4_signed k 0 0) fun x13 =>
  some x13) else (
  o_cP (f_X4_signed k 1 0) fun x14 =>
  some x14))) else (
  if 0 ≤ (x8 + x9) then (
  o_cP (f_X4_rounded k 0 (if 0 < (x8 + x9) then (x8 + x9) else -(x8 + x9)) ((if x6 < x7 then x7 else x6) - (8 : Int32))) fun x10 =>
  some x10) else (
  o_cP (f_X4_rounded k 1 (if 0 < (x8 + x9) then (x8 + x9) else -(x8 + x9)) ((if x6 < x7 then x7 else x6) - (8 : Int32))) fun x11 =>
  some x11))) else (
  o_cP (f_X4_sumBeyond k p1 p2) fun x15 =>
  some x15))
set_option maxHeartbeats 4000000 in
set_option maxRecDepth 100000 in
theorem c_X4_sumOf {l : Launch} {D : va_G} {Y : Nat → ClassId} {aR : Nat → Nat} {A : Nat → Prop} {k : Nat} {p1 : Int64} {p2 : Int64} {r : Int64} (hk2 : k < 2) (hf : f_X4_sumOf k p1 p2 = some r) : jq_P l D Y aR A yX4_sumOf cX4_sumOf 8 (some .long) 3 79 [.ref (aR k), .long p1, .long p2] (some (.long r)) := by
  unfold f_X4_sumOf at hf
  refine jq_enterP (by decide) (Nat.le_of_ble_eq_true rfl) fun p e s m args below meth c ls H locs hX hS hl => ?_
  have hl : lv_has ls 8 [(0, .ref (aR k)), (1, .long p1), (3, .long p2)] := hl
  have hx := hX.1
  have hb := hX.2.1
  have hm := hX.2.2.1
  have ho := hX.2.2.2.1
  have ht := hX.2.2.2.2.1
  have hn := hX.2.2.2.2.2.1.2.1
  refine lv_aload_n hx hb dX4_sumOf_0 rfl (lv_at hl 0 rfl) ?_
  refine lv_lload_n hx hb dX4_sumOf_1 rfl (lv_at hl 1 rfl) ?_
  replace hf := o_cP_e hf
  obtain ⟨x1, hq1, hf⟩ := hf
  refine jq_doP hX hS (jq_okV (As := [.long p1]) (rest := []) hx hb hm ho ht (jq_const hX hS hk2) qw208 qw210 qs5 qw211 qw12 hy_X4_magnitude rfl hl.1 (Nat.le_of_ble_eq_true rfl) dX4_sumOf_2) (c_X4_magnitude hk2 hq1) (Nat.le_of_ble_eq_true rfl) (Nat.le_of_ble_eq_true rfl) (Nat.le_refl _) (Nat.le_refl _) (fun locs hS' => ?_)
  clear hS
  have hS := hS'
  clear hS'
  refine lv_aload_n hx hb dX4_sumOf_5 rfl (lv_at hl 0 rfl) ?_
  replace hf := o_cP_e hf
  obtain ⟨x2, hq2, hf⟩ := hf
  refine jq_doP hX hS (jq_okV (As := []) (rest := [.long x1]) hx hb hm ho ht (jq_const hX hS hk2) qw213 qw215 qs6 qw216 qw12 hy_X4_infinity rfl hl.1 (Nat.le_of_ble_eq_true rfl) dX4_sumOf_6) (c_X4_infinity hk2 hq2) (Nat.le_of_ble_eq_true rfl) (Nat.le_of_ble_eq_true rfl) (Nat.le_refl _) (Nat.le_refl _) (fun locs hS' => ?_)
  clear hS
  have hS := hS'
  clear hS'
  refine W.lcmp hx hb dX4_sumOf_9 ?_
  refine lv_if_ge (tgt := 26) hx hb dX4_sumOf_10 (by decide) (fun c1 => ?_) (fun c1 => ?_)
  · replace hf := o_t hf (qc_ge.mp c1)
    refine lv_aload_n hx hb dX4_sumOf_26 rfl (lv_at hl 0 rfl) ?_
    refine lv_lload_n hx hb dX4_sumOf_27 rfl (lv_at hl 1 rfl) ?_
    refine lv_lload_n hx hb dX4_sumOf_28 rfl (lv_at hl 2 rfl) ?_
    replace hf := o_cP_e hf
    obtain ⟨x3, hq3, hf⟩ := hf
    refine jq_doP hX hS (jq_okV (As := [.long p1, .long p2]) (rest := []) hx hb hm ho ht (jq_const hX hS hk2) qw552 qw554 qs49 qw555 qw12 hy_X4_sumBeyond rfl hl.1 (Nat.le_of_ble_eq_true rfl) dX4_sumOf_29) (c_X4_sumBeyond hk2 hq3) (Nat.le_of_ble_eq_true rfl) (Nat.le_of_ble_eq_true rfl) (Nat.le_refl _) (Nat.le_refl _) (fun locs hS' => ?_)
    clear hS
    have hS := hS'
    clear hS'
    cases hf
    exact jq_lret hX hS dX4_sumOf_32 ⟨rfl, rfl, rfl, rfl⟩
  · replace hf := o_f hf (fun z => c1 (qc_ge.mpr z))
    refine lv_aload_n hx hb dX4_sumOf_13 rfl (lv_at hl 0 rfl) ?_
    refine lv_lload_n hx hb dX4_sumOf_14 rfl (lv_at hl 2 rfl) ?_
    replace hf := o_cP_e hf
    obtain ⟨x4, hq4, hf⟩ := hf
    refine jq_doP hX hS (jq_okV (As := [.long p2]) (rest := []) hx hb hm ho ht (jq_const hX hS hk2) qw208 qw210 qs5 qw211 qw12 hy_X4_magnitude rfl hl.1 (Nat.le_of_ble_eq_true rfl) dX4_sumOf_15) (c_X4_magnitude hk2 hq4) (Nat.le_of_ble_eq_true rfl) (Nat.le_of_ble_eq_true rfl) (Nat.le_refl _) (Nat.le_refl _) (fun locs hS' => ?_)
    clear hS
    have hS := hS'
    clear hS'
    refine lv_aload_n hx hb dX4_sumOf_18 rfl (lv_at hl 0 rfl) ?_
    replace hf := o_cP_e hf
    obtain ⟨x5, hq5, hf⟩ := hf
    refine jq_doP hX hS (jq_okV (As := []) (rest := [.long x4]) hx hb hm ho ht (jq_const hX hS hk2) qw213 qw215 qs6 qw216 qw12 hy_X4_infinity rfl hl.1 (Nat.le_of_ble_eq_true rfl) dX4_sumOf_19) (c_X4_infinity hk2 hq5) (Nat.le_of_ble_eq_true rfl) (Nat.le_of_ble_eq_true rfl) (Nat.le_refl _) (Nat.le_refl _) (fun locs hS' => ?_)
    clear hS
    have hS := hS'
    clear hS'
    refine W.lcmp hx hb dX4_sumOf_22 ?_
    refine lv_if_lt (tgt := 33) hx hb dX4_sumOf_23 (by decide) (fun c2 => ?_) (fun c2 => ?_)
    · replace hf := o_t hf (qc_lt.mp c2)
      refine lv_aload_n hx hb dX4_sumOf_33 rfl (lv_at hl 0 rfl) ?_
      refine lv_lload_n hx hb dX4_sumOf_34 rfl (lv_at hl 1 rfl) ?_
      replace hf := o_cP_e hf
      obtain ⟨x6, hq6, hf⟩ := hf
      refine jq_doP hX hS (jq_okV (As := [.long p1]) (rest := []) hx hb hm ho ht (jq_const hX hS hk2) qw519 qw521 qs43 qw522 qw12 hy_X4_power rfl hl.1 (Nat.le_of_ble_eq_true rfl) dX4_sumOf_35) (c_X4_power hk2 hq6) (Nat.le_of_ble_eq_true rfl) (Nat.le_of_ble_eq_true rfl) (Nat.le_refl _) (Nat.le_refl _) (fun locs hS' => ?_)
      clear hS
      have hS := hS'
      clear hS'
      refine lv_aload_n hx hb dX4_sumOf_38 rfl (lv_at hl 0 rfl) ?_
      refine lv_lload_n hx hb dX4_sumOf_39 rfl (lv_at hl 2 rfl) ?_
      replace hf := o_cP_e hf
      obtain ⟨x7, hq7, hf⟩ := hf
      refine jq_doP hX hS (jq_okV (As := [.long p2]) (rest := [.int x6]) hx hb hm ho ht (jq_const hX hS hk2) qw519 qw521 qs43 qw522 qw12 hy_X4_power rfl hl.1 (Nat.le_of_ble_eq_true rfl) dX4_sumOf_40) (c_X4_power hk2 hq7) (Nat.le_of_ble_eq_true rfl) (Nat.le_of_ble_eq_true rfl) (Nat.le_refl _) (Nat.le_refl _) (fun locs hS' => ?_)
      clear hS
      have hS := hS'
      clear hS'
      refine va_mmax hx hb (hm.trans hl.1.symm) ho (ht _ qw523) (ht _ qw171) (ht _ qw10) (ht _ qm_max) (Nat.le_of_ble_eq_true rfl) (Nat.le_of_ble_eq_true rfl) (Nat.le_refl _) (Nat.le_refl _) dX4_sumOf_43 ?_
      refine lv_istore (lv' := [(5, .int (if x6 < x7 then x7 else x6)), (0, .ref (aR k)), (1, .long p1), (3, .long p2)]) hx hb dX4_sumOf_46 hl (by decide) rfl (fun ls hl' => ?_)
      clear hl
      have hl := hl'
      clear hl'
      refine lv_aload_n hx hb dX4_sumOf_48 rfl (lv_at hl 1 rfl) ?_
      refine lv_lload_n hx hb dX4_sumOf_49 rfl (lv_at hl 2 rfl) ?_
      refine lv_iload hx hb dX4_sumOf_50 (lv_at hl 0 rfl) ?_
      replace hf := o_cP_e hf
      obtain ⟨x8, hq8, hf⟩ := hf
      refine jq_doP hX hS (jq_okV (As := [.long p1, .int (if x6 < x7 then x7 else x6)]) (rest := []) hx hb hm ho ht (jq_const hX hS hk2) qw556 qw558 qs50 qw559 qw12 hy_X4_aligned rfl hl.1 (Nat.le_of_ble_eq_true rfl) dX4_sumOf_52) (c_X4_aligned hk2 hq8) (Nat.le_of_ble_eq_true rfl) (Nat.le_of_ble_eq_true rfl) (Nat.le_refl _) (Nat.le_refl _) (fun locs hS' => ?_)
      clear hS
      have hS := hS'
      clear hS'
      refine lv_aload_n hx hb dX4_sumOf_55 rfl (lv_at hl 1 rfl) ?_
      refine lv_lload_n hx hb dX4_sumOf_56 rfl (lv_at hl 3 rfl) ?_
      refine lv_iload hx hb dX4_sumOf_57 (lv_at hl 0 rfl) ?_
      replace hf := o_cP_e hf
      obtain ⟨x9, hq9, hf⟩ := hf
      refine jq_doP hX hS (jq_okV (As := [.long p2, .int (if x6 < x7 then x7 else x6)]) (rest := [.long x8]) hx hb hm ho ht (jq_const hX hS hk2) qw556 qw558 qs50 qw559 qw12 hy_X4_aligned rfl hl.1 (Nat.le_of_ble_eq_true rfl) dX4_sumOf_59) (c_X4_aligned hk2 hq9) (Nat.le_of_ble_eq_true rfl) (Nat.le_of_ble_eq_true rfl) (Nat.le_refl _) (Nat.le_refl _) (fun locs hS' => ?_)
      clear hS
      have hS := hS'
      clear hS'
      refine lv_ladd hx hb dX4_sumOf_62 ?_
      refine lv_lstore (lv' := [(6, .long (x8 + x9)), (5, .int (if x6 < x7 then x7 else x6)), (0, .ref (aR k)), (1, .long p1), (3, .long p2)]) hx hb dX4_sumOf_63 hl (by decide) rfl (fun ls hl' => ?_)
      clear hl
      have hl := hl'
      clear hl'
      refine lv_lload hx hb dX4_sumOf_65 (lv_at hl 0 rfl) ?_
      refine lv_lconst (v := 0) hx hb dX4_sumOf_67 (by decide) ?_
      refine W.lcmp hx hb dX4_sumOf_68 ?_
      refine lv_if_ne (tgt := 95) hx hb dX4_sumOf_69 (by decide) (fun c3 => ?_) (fun c3 => ?_)
      · replace hf := o_f hf (fun z => c3 (qc_eq.mpr z))
        refine lv_aload_n hx hb dX4_sumOf_95 rfl (lv_at hl 2 rfl) ?_
        refine lv_lload hx hb dX4_sumOf_96 (lv_at hl 0 rfl) ?_
        refine lv_lconst (v := 0) hx hb dX4_sumOf_98 (by decide) ?_
        refine W.lcmp hx hb dX4_sumOf_99 ?_
        refine lv_if_ge (tgt := 107) hx hb dX4_sumOf_100 (by decide) (fun c4 => ?_) (fun c4 => ?_)
        · replace hf := o_t hf (qc_ge.mp c4)
          refine lv_iconst (v := 0) hx hb dX4_sumOf_107 (by decide) ?_
          refine lv_lload hx hb dX4_sumOf_108 (lv_at hl 0 rfl) ?_
          refine va_mabs_long hx hb (hm.trans hl.1.symm) ho (ht _ qw495) (ht _ qw496) (ht _ qw10) (ht _ qm_absl) (Nat.le_of_ble_eq_true rfl) (Nat.le_of_ble_eq_true rfl) (Nat.le_refl _) (Nat.le_refl _) dX4_sumOf_110 ?_
          refine lv_iload hx hb dX4_sumOf_113 (lv_at hl 1 rfl) ?_
          refine lv_bipush (v := 8) hx hb dX4_sumOf_115 (by decide) ?_
          refine lv_isub hx hb dX4_sumOf_117 ?_
          replace hf := o_cP_e hf
          obtain ⟨x10, hq10, hf⟩ := hf
          refine jq_doP hX hS (jq_okV (As := [.int 0, .long (if 0 < (x8 + x9) then (x8 + x9) else -(x8 + x9)), .int ((if x6 < x7 then x7 else x6) - (8 : Int32))]) (rest := []) hx hb hm ho ht (jq_const hX hS hk2) qw499 qw501 qs39 qw502 qw12 hy_X4_rounded rfl hl.1 (Nat.le_of_ble_eq_true rfl) dX4_sumOf_118) (c_X4_rounded hk2 hq10) (Nat.le_of_ble_eq_true rfl) (Nat.le_of_ble_eq_true rfl) (Nat.le_refl _) (Nat.le_refl _) (fun locs hS' => ?_)
          clear hS
          have hS := hS'
          clear hS'
          cases hf
          exact jq_lret hX hS dX4_sumOf_121 ⟨rfl, rfl, rfl, rfl⟩
        · replace hf := o_f hf (fun z => c4 (qc_ge.mpr z))
          refine lv_iconst (v := 1) hx hb dX4_sumOf_103 (by decide) ?_
          refine lv_goto (tgt := 108) hx hb dX4_sumOf_104 (by decide) ?_
          refine lv_lload hx hb dX4_sumOf_108 (lv_at hl 0 rfl) ?_
          refine va_mabs_long hx hb (hm.trans hl.1.symm) ho (ht _ qw495) (ht _ qw496) (ht _ qw10) (ht _ qm_absl) (Nat.le_of_ble_eq_true rfl) (Nat.le_of_ble_eq_true rfl) (Nat.le_refl _) (Nat.le_refl _) dX4_sumOf_110 ?_
          refine lv_iload hx hb dX4_sumOf_113 (lv_at hl 1 rfl) ?_
          refine lv_bipush (v := 8) hx hb dX4_sumOf_115 (by decide) ?_
          refine lv_isub hx hb dX4_sumOf_117 ?_
          replace hf := o_cP_e hf
          obtain ⟨x11, hq11, hf⟩ := hf
          refine jq_doP hX hS (jq_okV (As := [.int 1, .long (if 0 < (x8 + x9) then (x8 + x9) else -(x8 + x9)), .int ((if x6 < x7 then x7 else x6) - (8 : Int32))]) (rest := []) hx hb hm ho ht (jq_const hX hS hk2) qw499 qw501 qs39 qw502 qw12 hy_X4_rounded rfl hl.1 (Nat.le_of_ble_eq_true rfl) dX4_sumOf_118) (c_X4_rounded hk2 hq11) (Nat.le_of_ble_eq_true rfl) (Nat.le_of_ble_eq_true rfl) (Nat.le_refl _) (Nat.le_refl _) (fun locs hS' => ?_)
          clear hS
          have hS := hS'
          clear hS'
          cases hf
          exact jq_lret hX hS dX4_sumOf_121 ⟨rfl, rfl, rfl, rfl⟩
      · replace hf := o_t hf (qc_eq.mp c3)
        refine lv_aload_n hx hb dX4_sumOf_72 rfl (lv_at hl 2 rfl) ?_
        refine lv_lload_n hx hb dX4_sumOf_73 rfl (lv_at hl 3 rfl) ?_
        refine lv_lconst (v := 0) hx hb dX4_sumOf_74 (by decide) ?_
        refine W.lcmp hx hb dX4_sumOf_75 ?_
        refine lv_if_ge (tgt := 89) hx hb dX4_sumOf_76 (by decide) (fun c5 => ?_) (fun c5 => ?_)
        · replace hf := o_t hf (qc_ge.mp c5)
          refine lv_iconst (v := 0) hx hb dX4_sumOf_89 (by decide) ?_
          refine lv_lconst (v := 0) hx hb dX4_sumOf_90 (by decide) ?_
          replace hf := o_cP_e hf
          obtain ⟨x12, hq12, hf⟩ := hf
          refine jq_doP hX hS (jq_okV (As := [.int 0, .long 0]) (rest := []) hx hb hm ho ht (jq_const hX hS hk2) qw506 qw508 qs40 qw509 qw12 hy_X4_signed rfl hl.1 (Nat.le_of_ble_eq_true rfl) dX4_sumOf_91) (c_X4_signed hk2 hq12) (Nat.le_of_ble_eq_true rfl) (Nat.le_of_ble_eq_true rfl) (Nat.le_refl _) (Nat.le_refl _) (fun locs hS' => ?_)
          clear hS
          have hS := hS'
          clear hS'
          cases hf
          exact jq_lret hX hS dX4_sumOf_94 ⟨rfl, rfl, rfl, rfl⟩
        · replace hf := o_f hf (fun z => c5 (qc_ge.mpr z))
          refine lv_lload_n hx hb dX4_sumOf_79 rfl (lv_at hl 4 rfl) ?_
          refine lv_lconst (v := 0) hx hb dX4_sumOf_80 (by decide) ?_
          refine W.lcmp hx hb dX4_sumOf_81 ?_
          refine lv_if_ge (tgt := 89) hx hb dX4_sumOf_82 (by decide) (fun c6 => ?_) (fun c6 => ?_)
          · replace hf := o_t hf (qc_ge.mp c6)
            refine lv_iconst (v := 0) hx hb dX4_sumOf_89 (by decide) ?_
            refine lv_lconst (v := 0) hx hb dX4_sumOf_90 (by decide) ?_
            replace hf := o_cP_e hf
            obtain ⟨x13, hq13, hf⟩ := hf
            refine jq_doP hX hS (jq_okV (As := [.int 0, .long 0]) (rest := []) hx hb hm ho ht (jq_const hX hS hk2) qw506 qw508 qs40 qw509 qw12 hy_X4_signed rfl hl.1 (Nat.le_of_ble_eq_true rfl) dX4_sumOf_91) (c_X4_signed hk2 hq13) (Nat.le_of_ble_eq_true rfl) (Nat.le_of_ble_eq_true rfl) (Nat.le_refl _) (Nat.le_refl _) (fun locs hS' => ?_)
            clear hS
            have hS := hS'
            clear hS'
            cases hf
            exact jq_lret hX hS dX4_sumOf_94 ⟨rfl, rfl, rfl, rfl⟩
          · replace hf := o_f hf (fun z => c6 (qc_ge.mpr z))
            refine lv_iconst (v := 1) hx hb dX4_sumOf_85 (by decide) ?_
            refine lv_goto (tgt := 90) hx hb dX4_sumOf_86 (by decide) ?_
            refine lv_lconst (v := 0) hx hb dX4_sumOf_90 (by decide) ?_
            replace hf := o_cP_e hf
            obtain ⟨x14, hq14, hf⟩ := hf
            refine jq_doP hX hS (jq_okV (As := [.int 1, .long 0]) (rest := []) hx hb hm ho ht (jq_const hX hS hk2) qw506 qw508 qs40 qw509 qw12 hy_X4_signed rfl hl.1 (Nat.le_of_ble_eq_true rfl) dX4_sumOf_91) (c_X4_signed hk2 hq14) (Nat.le_of_ble_eq_true rfl) (Nat.le_of_ble_eq_true rfl) (Nat.le_refl _) (Nat.le_refl _) (fun locs hS' => ?_)
            clear hS
            have hS := hS'
            clear hS'
            cases hf
            exact jq_lret hX hS dX4_sumOf_94 ⟨rfl, rfl, rfl, rfl⟩
    · replace hf := o_f hf (fun z => c2 (qc_lt.mpr z))
      refine lv_aload_n hx hb dX4_sumOf_26 rfl (lv_at hl 0 rfl) ?_
      refine lv_lload_n hx hb dX4_sumOf_27 rfl (lv_at hl 1 rfl) ?_
      refine lv_lload_n hx hb dX4_sumOf_28 rfl (lv_at hl 2 rfl) ?_
      replace hf := o_cP_e hf
      obtain ⟨x15, hq15, hf⟩ := hf
      refine jq_doP hX hS (jq_okV (As := [.long p1, .long p2]) (rest := []) hx hb hm ho ht (jq_const hX hS hk2) qw552 qw554 qs49 qw555 qw12 hy_X4_sumBeyond rfl hl.1 (Nat.le_of_ble_eq_true rfl) dX4_sumOf_29) (c_X4_sumBeyond hk2 hq15) (Nat.le_of_ble_eq_true rfl) (Nat.le_of_ble_eq_true rfl) (Nat.le_refl _) (Nat.le_refl _) (fun locs hS' => ?_)
      clear hS
      have hS := hS'
      clear hS'
      cases hf
      exact jq_lret hX hS dX4_sumOf_32 ⟨rfl, rfl, rfl, rfl⟩
theorem dX4_divided_0 : decode cX4_divided 0 = .ok (.getstatic 7, 3) := by decide +kernel
theorem dX4_divided_3 : decode cX4_divided 3 = .ok (.getfield 29, 3) := by decide +kernel
theorem dX4_divided_6 : decode cX4_divided 6 = .ok (.istore 6, 2) := by decide +kernel
theorem dX4_divided_8 : decode cX4_divided 8 = .ok (.aload_n 0, 1) := by decide +kernel
theorem dX4_divided_9 : decode cX4_divided 9 = .ok (.lload_n 2, 1) := by decide +kernel
theorem dX4_divided_10 : decode cX4_divided 10 = .ok (.invokevirtual 92, 3) := by decide +kernel
theorem dX4_divided_13 : decode cX4_divided 13 = .ok (.iload 6, 2) := by decide +kernel
theorem dX4_divided_15 : decode cX4_divided 15 = .ok (.invokestatic 99, 3) := by decide +kernel
theorem dX4_divided_18 : decode cX4_divided 18 = .ok (.istore 7, 2) := by decide +kernel
theorem dX4_divided_20 : decode cX4_divided 20 = .ok (.aload_n 0, 1) := by decide +kernel
theorem dX4_divided_21 : decode cX4_divided 21 = .ok (.lload 4, 2) := by decide +kernel
theorem dX4_divided_23 : decode cX4_divided 23 = .ok (.invokevirtual 92, 3) := by decide +kernel
theorem dX4_divided_26 : decode cX4_divided 26 = .ok (.iload 6, 2) := by decide +kernel
theorem dX4_divided_28 : decode cX4_divided 28 = .ok (.invokestatic 99, 3) := by decide +kernel
theorem dX4_divided_31 : decode cX4_divided 31 = .ok (.istore 8, 2) := by decide +kernel
theorem dX4_divided_33 : decode cX4_divided 33 = .ok (.aload_n 0, 1) := by decide +kernel
theorem dX4_divided_34 : decode cX4_divided 34 = .ok (.lload_n 2, 1) := by decide +kernel
theorem dX4_divided_35 : decode cX4_divided 35 = .ok (.invokevirtual 92, 3) := by decide +kernel
theorem dX4_divided_38 : decode cX4_divided 38 = .ok (.iload 7, 2) := by decide +kernel
theorem dX4_divided_40 : decode cX4_divided 40 = .ok (.lshl, 1) := by decide +kernel
theorem dX4_divided_41 : decode cX4_divided 41 = .ok (.lstore 9, 2) := by decide +kernel
theorem dX4_divided_43 : decode cX4_divided 43 = .ok (.aload_n 0, 1) := by decide +kernel
theorem dX4_divided_44 : decode cX4_divided 44 = .ok (.lload 4, 2) := by decide +kernel
theorem dX4_divided_46 : decode cX4_divided 46 = .ok (.invokevirtual 92, 3) := by decide +kernel
theorem dX4_divided_49 : decode cX4_divided 49 = .ok (.iload 8, 2) := by decide +kernel
theorem dX4_divided_51 : decode cX4_divided 51 = .ok (.lshl, 1) := by decide +kernel
theorem dX4_divided_52 : decode cX4_divided 52 = .ok (.lstore 11, 2) := by decide +kernel
theorem dX4_divided_54 : decode cX4_divided 54 = .ok (.lload 11, 2) := by decide +kernel
theorem dX4_divided_56 : decode cX4_divided 56 = .ok (.lconst 0, 1) := by decide +kernel
theorem dX4_divided_57 : decode cX4_divided 57 = .ok (.lcmp, 1) := by decide +kernel
theorem dX4_divided_71 : decode cX4_divided 71 = .ok (.lload 9, 2) := by decide +kernel
theorem dX4_divided_73 : decode cX4_divided 73 = .ok (.lload 11, 2) := by decide +kernel
theorem dX4_divided_75 : decode cX4_divided 75 = .ok (.ldiv, 1) := by decide +kernel
theorem dX4_divided_76 : decode cX4_divided 76 = .ok (.lstore 13, 2) := by decide +kernel
theorem dX4_divided_78 : decode cX4_divided 78 = .ok (.lload 9, 2) := by decide +kernel
theorem dX4_divided_80 : decode cX4_divided 80 = .ok (.lload 11, 2) := by decide +kernel
theorem dX4_divided_82 : decode cX4_divided 82 = .ok (.lrem, 1) := by decide +kernel
theorem dX4_divided_83 : decode cX4_divided 83 = .ok (.lstore 9, 2) := by decide +kernel
theorem dX4_divided_85 : decode cX4_divided 85 = .ok (.iconst 0, 1) := by decide +kernel
theorem dX4_divided_86 : decode cX4_divided 86 = .ok (.istore 15, 2) := by decide +kernel
theorem dX4_divided_61 : decode cX4_divided 61 = .ok (.aload_n 0, 1) := by decide +kernel
theorem dX4_divided_62 : decode cX4_divided 62 = .ok (.iload_n 1, 1) := by decide +kernel
theorem dX4_divided_63 : decode cX4_divided 63 = .ok (.aload_n 0, 1) := by decide +kernel
theorem dX4_divided_64 : decode cX4_divided 64 = .ok (.invokevirtual 45, 3) := by decide +kernel
theorem dX4_divided_67 : decode cX4_divided 67 = .ok (.invokevirtual 81, 3) := by decide +kernel
theorem dX4_divided_70 : decode cX4_divided 70 = .ok (.lreturn, 1) := by decide +kernel
theorem dX4_divided_58 : decode cX4_divided 58 = .ok (.ifCond .gt 13, 3) := by decide +kernel
theorem dX4_divided_88 : decode cX4_divided 88 = .ok (.iload 15, 2) := by decide +kernel
theorem dX4_divided_90 : decode cX4_divided 90 = .ok (.bipush 6, 2) := by decide +kernel
theorem dX4_divided_92 : decode cX4_divided 92 = .ok (.if_icmp .ge 36, 3) := by decide +kernel
theorem dX4_divided_128 : decode cX4_divided 128 = .ok (.aload_n 0, 1) := by decide +kernel
theorem dX4_divided_129 : decode cX4_divided 129 = .ok (.lload_n 2, 1) := by decide +kernel
theorem dX4_divided_130 : decode cX4_divided 130 = .ok (.invokevirtual 73, 3) := by decide +kernel
theorem dX4_divided_133 : decode cX4_divided 133 = .ok (.iload 7, 2) := by decide +kernel
theorem dX4_divided_135 : decode cX4_divided 135 = .ok (.isub, 1) := by decide +kernel
theorem dX4_divided_136 : decode cX4_divided 136 = .ok (.aload_n 0, 1) := by decide +kernel
theorem dX4_divided_137 : decode cX4_divided 137 = .ok (.lload 4, 2) := by decide +kernel
theorem dX4_divided_139 : decode cX4_divided 139 = .ok (.invokevirtual 73, 3) := by decide +kernel
theorem dX4_divided_142 : decode cX4_divided 142 = .ok (.isub, 1) := by decide +kernel
theorem dX4_divided_143 : decode cX4_divided 143 = .ok (.iload 8, 2) := by decide +kernel
theorem dX4_divided_145 : decode cX4_divided 145 = .ok (.iadd, 1) := by decide +kernel
theorem dX4_divided_146 : decode cX4_divided 146 = .ok (.bipush 60, 2) := by decide +kernel
theorem dX4_divided_148 : decode cX4_divided 148 = .ok (.isub, 1) := by decide +kernel
theorem dX4_divided_149 : decode cX4_divided 149 = .ok (.iconst 1, 1) := by decide +kernel
theorem dX4_divided_150 : decode cX4_divided 150 = .ok (.isub, 1) := by decide +kernel
theorem dX4_divided_151 : decode cX4_divided 151 = .ok (.istore 15, 2) := by decide +kernel
theorem dX4_divided_153 : decode cX4_divided 153 = .ok (.aload_n 0, 1) := by decide +kernel
theorem dX4_divided_154 : decode cX4_divided 154 = .ok (.iload_n 1, 1) := by decide +kernel
theorem dX4_divided_155 : decode cX4_divided 155 = .ok (.lload 13, 2) := by decide +kernel
theorem dX4_divided_157 : decode cX4_divided 157 = .ok (.iconst 1, 1) := by decide +kernel
theorem dX4_divided_158 : decode cX4_divided 158 = .ok (.lshl, 1) := by decide +kernel
theorem dX4_divided_159 : decode cX4_divided 159 = .ok (.lload 9, 2) := by decide +kernel
theorem dX4_divided_161 : decode cX4_divided 161 = .ok (.lconst 0, 1) := by decide +kernel
theorem dX4_divided_162 : decode cX4_divided 162 = .ok (.lcmp, 1) := by decide +kernel
theorem dX4_divided_170 : decode cX4_divided 170 = .ok (.iconst 1, 1) := by decide +kernel
theorem dX4_divided_171 : decode cX4_divided 171 = .ok (.i2l, 1) := by decide +kernel
theorem dX4_divided_172 : decode cX4_divided 172 = .ok (.lor, 1) := by decide +kernel
theorem dX4_divided_173 : decode cX4_divided 173 = .ok (.iload 15, 2) := by decide +kernel
theorem dX4_divided_175 : decode cX4_divided 175 = .ok (.invokevirtual 88, 3) := by decide +kernel
theorem dX4_divided_178 : decode cX4_divided 178 = .ok (.lreturn, 1) := by decide +kernel
theorem dX4_divided_166 : decode cX4_divided 166 = .ok (.iconst 0, 1) := by decide +kernel
theorem dX4_divided_167 : decode cX4_divided 167 = .ok (.goto 4, 3) := by decide +kernel
theorem dX4_divided_163 : decode cX4_divided 163 = .ok (.ifCond .ne 7, 3) := by decide +kernel
theorem dX4_divided_95 : decode cX4_divided 95 = .ok (.lload 9, 2) := by decide +kernel
theorem dX4_divided_97 : decode cX4_divided 97 = .ok (.bipush 10, 2) := by decide +kernel
theorem dX4_divided_99 : decode cX4_divided 99 = .ok (.lshl, 1) := by decide +kernel
theorem dX4_divided_100 : decode cX4_divided 100 = .ok (.lstore 9, 2) := by decide +kernel
theorem dX4_divided_102 : decode cX4_divided 102 = .ok (.lload 13, 2) := by decide +kernel
theorem dX4_divided_104 : decode cX4_divided 104 = .ok (.bipush 10, 2) := by decide +kernel
theorem dX4_divided_106 : decode cX4_divided 106 = .ok (.lshl, 1) := by decide +kernel
theorem dX4_divided_107 : decode cX4_divided 107 = .ok (.lload 9, 2) := by decide +kernel
theorem dX4_divided_109 : decode cX4_divided 109 = .ok (.lload 11, 2) := by decide +kernel
theorem dX4_divided_111 : decode cX4_divided 111 = .ok (.ldiv, 1) := by decide +kernel
theorem dX4_divided_112 : decode cX4_divided 112 = .ok (.lor, 1) := by decide +kernel
theorem dX4_divided_113 : decode cX4_divided 113 = .ok (.lstore 13, 2) := by decide +kernel
theorem dX4_divided_115 : decode cX4_divided 115 = .ok (.lload 9, 2) := by decide +kernel
theorem dX4_divided_117 : decode cX4_divided 117 = .ok (.lload 11, 2) := by decide +kernel
theorem dX4_divided_119 : decode cX4_divided 119 = .ok (.lrem, 1) := by decide +kernel
theorem dX4_divided_120 : decode cX4_divided 120 = .ok (.lstore 9, 2) := by decide +kernel
theorem dX4_divided_122 : decode cX4_divided 122 = .ok (.iinc 15 1, 3) := by decide +kernel
theorem dX4_divided_125 : decode cX4_divided 125 = .ok (.goto (-37), 3) := by decide +kernel
theorem hy_X4_divided : yX4_divided.cls ≠ "java/lang/invoke/MethodHandle" ∧ yX4_divided.cls ≠ "java/lang/invoke/VarHandle" ∧ (parseMethodDescriptor yX4_divided.desc).map (fun d => d.parameters.length) = some 3 := ⟨by decide, by decide, by decide +kernel⟩
def f_X4_divided_b88 : Nat → Nat → Int32 → Int64 → Int64 → Int32 → Int32 → Int64 → Int64 → Int64 → Int32 → Option (Int64)
  | 0, _, _, _, _, _, _, _, _, _, _ => none
  | n + 1, k, l1, l2, l4, l7, l8, l9, l11, l13, l15 => 
  if 6 ≤ l15 then (
  o_cP (f_X4_power k l2) fun x1 =>
  o_cP (f_X4_power k l4) fun x2 =>
  if l9 = 0 then (
  o_cP (f_X4_rounded k l1 ((l13 <<< (((1 : Int32)).toInt64 &&& 63)) ||| (((0 : Int32)).toInt64)) (((((x1 - l7) - x2) + l8) - (60 : Int32)) - (1 : Int32))) fun x4 =>
  some x4) else (
  o_cP (f_X4_rounded k l1 ((l13 <<< (((1 : Int32)).toInt64 &&& 63)) ||| (((1 : Int32)).toInt64)) (((((x1 - l7) - x2) + l8) - (60 : Int32)) - (1 : Int32))) fun x3 =>
  some x3)) else (
  o_ck (¬ l11 = 0) (
  o_ck (¬ l11 = 0) (
  o_let (l15 + 1) fun x5 =>
  f_X4_divided_b88 n k l1 l2 l4 l7 l8 ((l9 <<< (((10 : Int32)).toInt64 &&& 63)) - (l9 <<< (((10 : Int32)).toInt64 &&& 63)) / l11 * l11) l11 ((l13 <<< (((10 : Int32)).toInt64 &&& 63)) ||| ((l9 <<< (((10 : Int32)).toInt64 &&& 63)) / l11)) x5)))
set_option maxHeartbeats 4000000 in
set_option maxRecDepth 100000 in
theorem w_X4_divided_b88 {l : Launch} {D : va_G} {Y : Nat → ClassId} {aR : Nat → Nat} {A : Nat → Prop} {p : Program} {e : Env} {s : State} {m : MethodId} {args : Array Value} {below : List Frame} {meth : Method} {c : Code} : ∀ (n : Nat) (k : Nat) (l1 : Int32) (l2 : Int64) (l4 : Int64) (l7 : Int32) (l8 : Int32) (l9 : Int64) (l11 : Int64) (l13 : Int64) (l15 : Int32) (r : Int64) (H : Heap) (locs : List Loc) (ls : Array Slot), k < 2 → jq_X D Y aR A p s m args meth c cX4_divided RX4 "divided" 16 (some .long) → va_S A s.heap H locs → f_X4_divided_b88 n k l1 l2 l4 l7 l8 l9 l11 l13 l15 = some r → lv_has ls 16 [(0, .ref (aR k)), (1, .int l1), (2, .long l2), (4, .long l4), (7, .int l7), (8, .int l8), (9, .long l9), (11, .long l11), (13, .long l13), (15, .int l15)] → W p l e { frames := 2, cells := 0, slots := 0, locals := 61 } s m args below meth c H locs 0 0 (jq_Z below A (fun v k n H' => v = (some (.long r)) ∧ k = 0 ∧ n = 0 ∧ H' = H) s) (F0 m 88 ls []) := by
  intro n
  induction n with
  | zero =>
    intro k l1 l2 l4 l7 l8 l9 l11 l13 l15 r H locs ls hk2 hX hS hf hl
    cases hf
  | succ n ih =>
    intro k l1 l2 l4 l7 l8 l9 l11 l13 l15 r H locs ls hk2 hX hS hf hl
    rw [f_X4_divided_b88.eq_2] at hf
    have hx := hX.1
    have hb := hX.2.1
    have hm := hX.2.2.1
    have ho := hX.2.2.2.1
    have ht := hX.2.2.2.2.1
    have hn := hX.2.2.2.2.2.1.2.1
    refine lv_iload hx hb dX4_divided_88 (lv_at hl 9 rfl) ?_
    refine lv_bipush (v := 6) hx hb dX4_divided_90 (by decide) ?_
    refine lv_icmp_ge (tgt := 128) hx hb dX4_divided_92 (by decide) (fun c1 => ?_) (fun c1 => ?_)
    · replace hf := o_t hf c1
      refine lv_aload_n hx hb dX4_divided_128 rfl (lv_at hl 0 rfl) ?_
      refine lv_lload_n hx hb dX4_divided_129 rfl (lv_at hl 2 rfl) ?_
      replace hf := o_cP_e hf
      obtain ⟨x1, hq1, hf⟩ := hf
      refine jq_doP hX hS (jq_okV (As := [.long l2]) (rest := []) hx hb hm ho ht (jq_const hX hS hk2) qw519 qw521 qs43 qw522 qw12 hy_X4_power rfl hl.1 (Nat.le_of_ble_eq_true rfl) dX4_divided_130) (c_X4_power hk2 hq1) (Nat.le_of_ble_eq_true rfl) (Nat.le_of_ble_eq_true rfl) (Nat.le_refl _) (Nat.le_refl _) (fun locs hS' => ?_)
      clear hS
      have hS := hS'
      clear hS'
      refine lv_iload hx hb dX4_divided_133 (lv_at hl 4 rfl) ?_
      refine lv_isub hx hb dX4_divided_135 ?_
      refine lv_aload_n hx hb dX4_divided_136 rfl (lv_at hl 0 rfl) ?_
      refine lv_lload hx hb dX4_divided_137 (lv_at hl 3 rfl) ?_
      replace hf := o_cP_e hf
      obtain ⟨x2, hq2, hf⟩ := hf
      refine jq_doP hX hS (jq_okV (As := [.long l4]) (rest := [.int (x1 - l7)]) hx hb hm ho ht (jq_const hX hS hk2) qw519 qw521 qs43 qw522 qw12 hy_X4_power rfl hl.1 (Nat.le_of_ble_eq_true rfl) dX4_divided_139) (c_X4_power hk2 hq2) (Nat.le_of_ble_eq_true rfl) (Nat.le_of_ble_eq_true rfl) (Nat.le_refl _) (Nat.le_refl _) (fun locs hS' => ?_)
      clear hS
      have hS := hS'
      clear hS'
      refine lv_isub hx hb dX4_divided_142 ?_
      refine lv_iload hx hb dX4_divided_143 (lv_at hl 5 rfl) ?_
      refine lv_iadd hx hb dX4_divided_145 ?_
      refine lv_bipush (v := 60) hx hb dX4_divided_146 (by decide) ?_
      refine lv_isub hx hb dX4_divided_148 ?_
      refine lv_iconst (v := 1) hx hb dX4_divided_149 (by decide) ?_
      refine lv_isub hx hb dX4_divided_150 ?_
      refine lv_istore (lv' := [(15, .int (((((x1 - l7) - x2) + l8) - (60 : Int32)) - (1 : Int32))), (0, .ref (aR k)), (1, .int l1), (2, .long l2), (4, .long l4), (7, .int l7), (8, .int l8), (9, .long l9), (11, .long l11), (13, .long l13)]) hx hb dX4_divided_151 hl (by decide) rfl (fun ls hl' => ?_)
      clear hl
      have hl := hl'
      clear hl'
      refine lv_aload_n hx hb dX4_divided_153 rfl (lv_at hl 1 rfl) ?_
      refine lv_iload_n hx hb dX4_divided_154 rfl (lv_at hl 2 rfl) ?_
      refine lv_lload hx hb dX4_divided_155 (lv_at hl 9 rfl) ?_
      refine lv_iconst (v := 1) hx hb dX4_divided_157 (by decide) ?_
      refine lv_lshl hx hb dX4_divided_158 rfl ?_
      refine lv_lload hx hb dX4_divided_159 (lv_at hl 7 rfl) ?_
      refine lv_lconst (v := 0) hx hb dX4_divided_161 (by decide) ?_
      refine W.lcmp hx hb dX4_divided_162 ?_
      refine lv_if_ne (tgt := 170) hx hb dX4_divided_163 (by decide) (fun c2 => ?_) (fun c2 => ?_)
      · replace hf := o_f hf (fun z => c2 (qc_eq.mpr z))
        refine lv_iconst (v := 1) hx hb dX4_divided_170 (by decide) ?_
        refine lv_i2l hx hb dX4_divided_171 rfl ?_
        refine lv_lor hx hb dX4_divided_172 ?_
        refine lv_iload hx hb dX4_divided_173 (lv_at hl 0 rfl) ?_
        replace hf := o_cP_e hf
        obtain ⟨x3, hq3, hf⟩ := hf
        refine jq_doP hX hS (jq_okV (As := [.int l1, .long ((l13 <<< (((1 : Int32)).toInt64 &&& 63)) ||| (((1 : Int32)).toInt64)), .int (((((x1 - l7) - x2) + l8) - (60 : Int32)) - (1 : Int32))]) (rest := []) hx hb hm ho ht (jq_const hX hS hk2) qw499 qw501 qs39 qw502 qw12 hy_X4_rounded rfl hl.1 (Nat.le_of_ble_eq_true rfl) dX4_divided_175) (c_X4_rounded hk2 hq3) (Nat.le_of_ble_eq_true rfl) (Nat.le_of_ble_eq_true rfl) (Nat.le_refl _) (Nat.le_refl _) (fun locs hS' => ?_)
        clear hS
        have hS := hS'
        clear hS'
        cases hf
        exact jq_lret hX hS dX4_divided_178 ⟨rfl, rfl, rfl, rfl⟩
      · replace hf := o_t hf (qc_eq.mp c2)
        refine lv_iconst (v := 0) hx hb dX4_divided_166 (by decide) ?_
        refine lv_goto (tgt := 171) hx hb dX4_divided_167 (by decide) ?_
        refine lv_i2l hx hb dX4_divided_171 rfl ?_
        refine lv_lor hx hb dX4_divided_172 ?_
        refine lv_iload hx hb dX4_divided_173 (lv_at hl 0 rfl) ?_
        replace hf := o_cP_e hf
        obtain ⟨x4, hq4, hf⟩ := hf
        refine jq_doP hX hS (jq_okV (As := [.int l1, .long ((l13 <<< (((1 : Int32)).toInt64 &&& 63)) ||| (((0 : Int32)).toInt64)), .int (((((x1 - l7) - x2) + l8) - (60 : Int32)) - (1 : Int32))]) (rest := []) hx hb hm ho ht (jq_const hX hS hk2) qw499 qw501 qs39 qw502 qw12 hy_X4_rounded rfl hl.1 (Nat.le_of_ble_eq_true rfl) dX4_divided_175) (c_X4_rounded hk2 hq4) (Nat.le_of_ble_eq_true rfl) (Nat.le_of_ble_eq_true rfl) (Nat.le_refl _) (Nat.le_refl _) (fun locs hS' => ?_)
        clear hS
        have hS := hS'
        clear hS'
        cases hf
        exact jq_lret hX hS dX4_divided_178 ⟨rfl, rfl, rfl, rfl⟩
    · replace hf := o_f hf c1
      refine lv_lload hx hb dX4_divided_95 (lv_at hl 6 rfl) ?_
      refine lv_bipush (v := 10) hx hb dX4_divided_97 (by decide) ?_
      refine lv_lshl hx hb dX4_divided_99 rfl ?_
      refine lv_lstore (lv' := [(9, .long (l9 <<< (((10 : Int32)).toInt64 &&& 63))), (0, .ref (aR k)), (1, .int l1), (2, .long l2), (4, .long l4), (7, .int l7), (8, .int l8), (11, .long l11), (13, .long l13), (15, .int l15)]) hx hb dX4_divided_100 hl (by decide) rfl (fun ls hl' => ?_)
      clear hl
      have hl := hl'
      clear hl'
      refine lv_lload hx hb dX4_divided_102 (lv_at hl 8 rfl) ?_
      refine lv_bipush (v := 10) hx hb dX4_divided_104 (by decide) ?_
      refine lv_lshl hx hb dX4_divided_106 rfl ?_
      refine lv_lload hx hb dX4_divided_107 (lv_at hl 0 rfl) ?_
      refine lv_lload hx hb dX4_divided_109 (lv_at hl 7 rfl) ?_
      replace hf := o_ck_e hf
      obtain ⟨hc1, hf⟩ := hf
      refine lv_ldiv hx hb dX4_divided_111 hc1 ?_
      refine lv_lor hx hb dX4_divided_112 ?_
      refine lv_lstore (lv' := [(13, .long ((l13 <<< (((10 : Int32)).toInt64 &&& 63)) ||| ((l9 <<< (((10 : Int32)).toInt64 &&& 63)) / l11))), (9, .long (l9 <<< (((10 : Int32)).toInt64 &&& 63))), (0, .ref (aR k)), (1, .int l1), (2, .long l2), (4, .long l4), (7, .int l7), (8, .int l8), (11, .long l11), (15, .int l15)]) hx hb dX4_divided_113 hl (by decide) rfl (fun ls hl' => ?_)
      clear hl
      have hl := hl'
      clear hl'
      refine lv_lload hx hb dX4_divided_115 (lv_at hl 1 rfl) ?_
      refine lv_lload hx hb dX4_divided_117 (lv_at hl 8 rfl) ?_
      replace hf := o_ck_e hf
      obtain ⟨hc2, hf⟩ := hf
      refine lv_lrem hx hb dX4_divided_119 hc2 ?_
      refine lv_lstore (lv' := [(9, .long ((l9 <<< (((10 : Int32)).toInt64 &&& 63)) - (l9 <<< (((10 : Int32)).toInt64 &&& 63)) / l11 * l11)), (13, .long ((l13 <<< (((10 : Int32)).toInt64 &&& 63)) ||| ((l9 <<< (((10 : Int32)).toInt64 &&& 63)) / l11))), (0, .ref (aR k)), (1, .int l1), (2, .long l2), (4, .long l4), (7, .int l7), (8, .int l8), (11, .long l11), (15, .int l15)]) hx hb dX4_divided_120 hl (by decide) rfl (fun ls hl' => ?_)
      clear hl
      have hl := hl'
      clear hl'
      replace hf := o_let_e hf
      obtain ⟨x5, hx5, hf⟩ := hf
      refine lv_iinc (v := x5) (lv' := [(15, .int x5), (9, .long ((l9 <<< (((10 : Int32)).toInt64 &&& 63)) - (l9 <<< (((10 : Int32)).toInt64 &&& 63)) / l11 * l11)), (13, .long ((l13 <<< (((10 : Int32)).toInt64 &&& 63)) ||| ((l9 <<< (((10 : Int32)).toInt64 &&& 63)) / l11))), (0, .ref (aR k)), (1, .int l1), (2, .long l2), (4, .long l4), (7, .int l7), (8, .int l8), (11, .long l11)]) hx hb dX4_divided_122 hl (k := 9) rfl (by rw [← hx5]; rfl) (by decide) rfl (fun ls hl' => ?_)
      clear hl
      have hl := hl'
      clear hl'
      refine lv_goto (tgt := 88) hx hb dX4_divided_125 (by decide) ?_
      replace hl := lv_sub hl (l' := [(0, .ref (aR k)), (1, .int l1), (2, .long l2), (4, .long l4), (7, .int l7), (8, .int l8), (9, .long ((l9 <<< (((10 : Int32)).toInt64 &&& 63)) - (l9 <<< (((10 : Int32)).toInt64 &&& 63)) / l11 * l11)), (11, .long l11), (13, .long ((l13 <<< (((10 : Int32)).toInt64 &&& 63)) ||| ((l9 <<< (((10 : Int32)).toInt64 &&& 63)) / l11))), (15, .int x5)]) [3, 4, 5, 6, 7, 8, 1, 9, 2, 0] rfl
      exact ih k l1 l2 l4 l7 l8 ((l9 <<< (((10 : Int32)).toInt64 &&& 63)) - (l9 <<< (((10 : Int32)).toInt64 &&& 63)) / l11 * l11) l11 ((l13 <<< (((10 : Int32)).toInt64 &&& 63)) ||| ((l9 <<< (((10 : Int32)).toInt64 &&& 63)) / l11)) x5 r H locs ls hk2 hX hS hf hl
def f_X4_divided (k : Nat) (p1 : Int32) (p2 : Int64) (p3 : Int64) : Option (Int64) :=
  o_let (rc_f 1) fun x1 =>
  o_cP (f_X4_significand k p2) fun x2 =>
  o_cP (f_X4_roomAbove x2 x1) fun x3 =>
  o_cP (f_X4_significand k p3) fun x4 =>
  o_cP (f_X4_roomAbove x4 x1) fun x5 =>
  o_cP (f_X4_significand k p2) fun x6 =>
  o_cP (f_X4_significand k p3) fun x7 =>
  if 0 < (x7 <<< ((x5).toInt64 &&& 63)) then (
  o_ck (¬ (x7 <<< ((x5).toInt64 &&& 63)) = 0) (
  o_ck (¬ (x7 <<< ((x5).toInt64 &&& 63)) = 0) (
  f_X4_divided_b88 12 k p1 p2 p3 x3 x5 ((x6 <<< ((x3).toInt64 &&& 63)) - (x6 <<< ((x3).toInt64 &&& 63)) / (x7 <<< ((x5).toInt64 &&& 63)) * (x7 <<< ((x5).toInt64 &&& 63))) (x7 <<< ((x5).toInt64 &&& 63)) ((x6 <<< ((x3).toInt64 &&& 63)) / (x7 <<< ((x5).toInt64 &&& 63))) 0))) else (
  o_cP (f_X4_infinity k) fun x8 =>
  o_cP (f_X4_signed k p1 x8) fun x9 =>
  some x9)
set_option maxHeartbeats 4000000 in
set_option maxRecDepth 100000 in
theorem c_X4_divided {l : Launch} {D : va_G} {Y : Nat → ClassId} {aR : Nat → Nat} {A : Nat → Prop} {k : Nat} {p1 : Int32} {p2 : Int64} {p3 : Int64} {r : Int64} (hk2 : k < 2) (hf : f_X4_divided k p1 p2 p3 = some r) : jq_P l D Y aR A yX4_divided cX4_divided 16 (some .long) 2 61 [.ref (aR k), .int p1, .long p2, .long p3] (some (.long r)) := by
  unfold f_X4_divided at hf
  refine jq_enterP (by decide) (Nat.le_of_ble_eq_true rfl) fun p e s m args below meth c ls H locs hX hS hl => ?_
  have hl : lv_has ls 16 [(0, .ref (aR k)), (1, .int p1), (2, .long p2), (4, .long p3)] := hl
  have hx := hX.1
  have hb := hX.2.1
  have hm := hX.2.2.1
  have ho := hX.2.2.2.1
  have ht := hX.2.2.2.2.1
  have hn := hX.2.2.2.2.2.1.2.1
  refine jq_gets (k := 1) hX hS (by decide) qw573 dX4_divided_0 ?_
  replace hf := o_let_e hf
  obtain ⟨x1, hx1, hf⟩ := hf
  refine gc_fraction (k := 1) hX hS (by decide) hx1 qw1072 dX4_divided_3 ?_
  refine lv_istore (lv' := [(6, .int x1), (0, .ref (aR k)), (1, .int p1), (2, .long p2), (4, .long p3)]) hx hb dX4_divided_6 hl (by decide) rfl (fun ls hl' => ?_)
  clear hl
  have hl := hl'
  clear hl'
  refine lv_aload_n hx hb dX4_divided_8 rfl (lv_at hl 1 rfl) ?_
  refine lv_lload_n hx hb dX4_divided_9 rfl (lv_at hl 3 rfl) ?_
  replace hf := o_cP_e hf
  obtain ⟨x2, hq1, hf⟩ := hf
  refine jq_doP hX hS (jq_okV (As := [.long p2]) (rest := []) hx hb hm ho ht (jq_const hX hS hk2) qw515 qw517 qs42 qw518 qw12 hy_X4_significand rfl hl.1 (Nat.le_of_ble_eq_true rfl) dX4_divided_10) (c_X4_significand hk2 hq1) (Nat.le_of_ble_eq_true rfl) (Nat.le_of_ble_eq_true rfl) (Nat.le_refl _) (Nat.le_refl _) (fun locs hS' => ?_)
  clear hS
  have hS := hS'
  clear hS'
  refine lv_iload hx hb dX4_divided_13 (lv_at hl 0 rfl) ?_
  replace hf := o_cP_e hf
  obtain ⟨x3, hq2, hf⟩ := hf
  refine jq_doP hX hS (jq_okS (As := [.long x2, .int x1]) (rest := []) hx hb hm ho ht qw503 qw504 qw505 qw12 hy_X4_roomAbove rfl hl.1 (Nat.le_of_ble_eq_true rfl) dX4_divided_15) (c_X4_roomAbove hq2) (Nat.le_of_ble_eq_true rfl) (Nat.le_of_ble_eq_true rfl) (Nat.le_refl _) (Nat.le_refl _) (fun locs hS' => ?_)
  clear hS
  have hS := hS'
  clear hS'
  refine lv_istore (lv' := [(7, .int x3), (6, .int x1), (0, .ref (aR k)), (1, .int p1), (2, .long p2), (4, .long p3)]) hx hb dX4_divided_18 hl (by decide) rfl (fun ls hl' => ?_)
  clear hl
  have hl := hl'
  clear hl'
  refine lv_aload_n hx hb dX4_divided_20 rfl (lv_at hl 2 rfl) ?_
  refine lv_lload hx hb dX4_divided_21 (lv_at hl 5 rfl) ?_
  replace hf := o_cP_e hf
  obtain ⟨x4, hq3, hf⟩ := hf
  refine jq_doP hX hS (jq_okV (As := [.long p3]) (rest := []) hx hb hm ho ht (jq_const hX hS hk2) qw515 qw517 qs42 qw518 qw12 hy_X4_significand rfl hl.1 (Nat.le_of_ble_eq_true rfl) dX4_divided_23) (c_X4_significand hk2 hq3) (Nat.le_of_ble_eq_true rfl) (Nat.le_of_ble_eq_true rfl) (Nat.le_refl _) (Nat.le_refl _) (fun locs hS' => ?_)
  clear hS
  have hS := hS'
  clear hS'
  refine lv_iload hx hb dX4_divided_26 (lv_at hl 1 rfl) ?_
  replace hf := o_cP_e hf
  obtain ⟨x5, hq4, hf⟩ := hf
  refine jq_doP hX hS (jq_okS (As := [.long x4, .int x1]) (rest := []) hx hb hm ho ht qw503 qw504 qw505 qw12 hy_X4_roomAbove rfl hl.1 (Nat.le_of_ble_eq_true rfl) dX4_divided_28) (c_X4_roomAbove hq4) (Nat.le_of_ble_eq_true rfl) (Nat.le_of_ble_eq_true rfl) (Nat.le_refl _) (Nat.le_refl _) (fun locs hS' => ?_)
  clear hS
  have hS := hS'
  clear hS'
  refine lv_istore (lv' := [(8, .int x5), (7, .int x3), (6, .int x1), (0, .ref (aR k)), (1, .int p1), (2, .long p2), (4, .long p3)]) hx hb dX4_divided_31 hl (by decide) rfl (fun ls hl' => ?_)
  clear hl
  have hl := hl'
  clear hl'
  refine lv_aload_n hx hb dX4_divided_33 rfl (lv_at hl 3 rfl) ?_
  refine lv_lload_n hx hb dX4_divided_34 rfl (lv_at hl 5 rfl) ?_
  replace hf := o_cP_e hf
  obtain ⟨x6, hq5, hf⟩ := hf
  refine jq_doP hX hS (jq_okV (As := [.long p2]) (rest := []) hx hb hm ho ht (jq_const hX hS hk2) qw515 qw517 qs42 qw518 qw12 hy_X4_significand rfl hl.1 (Nat.le_of_ble_eq_true rfl) dX4_divided_35) (c_X4_significand hk2 hq5) (Nat.le_of_ble_eq_true rfl) (Nat.le_of_ble_eq_true rfl) (Nat.le_refl _) (Nat.le_refl _) (fun locs hS' => ?_)
  clear hS
  have hS := hS'
  clear hS'
  refine lv_iload hx hb dX4_divided_38 (lv_at hl 1 rfl) ?_
  refine lv_lshl hx hb dX4_divided_40 rfl ?_
  refine lv_lstore (lv' := [(9, .long (x6 <<< ((x3).toInt64 &&& 63))), (8, .int x5), (7, .int x3), (6, .int x1), (0, .ref (aR k)), (1, .int p1), (2, .long p2), (4, .long p3)]) hx hb dX4_divided_41 hl (by decide) rfl (fun ls hl' => ?_)
  clear hl
  have hl := hl'
  clear hl'
  refine lv_aload_n hx hb dX4_divided_43 rfl (lv_at hl 4 rfl) ?_
  refine lv_lload hx hb dX4_divided_44 (lv_at hl 7 rfl) ?_
  replace hf := o_cP_e hf
  obtain ⟨x7, hq6, hf⟩ := hf
  refine jq_doP hX hS (jq_okV (As := [.long p3]) (rest := []) hx hb hm ho ht (jq_const hX hS hk2) qw515 qw517 qs42 qw518 qw12 hy_X4_significand rfl hl.1 (Nat.le_of_ble_eq_true rfl) dX4_divided_46) (c_X4_significand hk2 hq6) (Nat.le_of_ble_eq_true rfl) (Nat.le_of_ble_eq_true rfl) (Nat.le_refl _) (Nat.le_refl _) (fun locs hS' => ?_)
  clear hS
  have hS := hS'
  clear hS'
  refine lv_iload hx hb dX4_divided_49 (lv_at hl 1 rfl) ?_
  refine lv_lshl hx hb dX4_divided_51 rfl ?_
  refine lv_lstore (lv' := [(11, .long (x7 <<< ((x5).toInt64 &&& 63))), (9, .long (x6 <<< ((x3).toInt64 &&& 63))), (8, .int x5), (7, .int x3), (6, .int x1), (0, .ref (aR k)), (1, .int p1), (2, .long p2), (4, .long p3)]) hx hb dX4_divided_52 hl (by decide) rfl (fun ls hl' => ?_)
  clear hl
  have hl := hl'
  clear hl'
  refine lv_lload hx hb dX4_divided_54 (lv_at hl 0 rfl) ?_
  refine lv_lconst (v := 0) hx hb dX4_divided_56 (by decide) ?_
  refine W.lcmp hx hb dX4_divided_57 ?_
  refine lv_if_gt (tgt := 71) hx hb dX4_divided_58 (by decide) (fun c1 => ?_) (fun c1 => ?_)
  · replace hf := o_t hf (qc_gt.mp c1)
    refine lv_lload hx hb dX4_divided_71 (lv_at hl 1 rfl) ?_
    refine lv_lload hx hb dX4_divided_73 (lv_at hl 0 rfl) ?_
    replace hf := o_ck_e hf
    obtain ⟨hc1, hf⟩ := hf
    refine lv_ldiv hx hb dX4_divided_75 hc1 ?_
    refine lv_lstore (lv' := [(13, .long ((x6 <<< ((x3).toInt64 &&& 63)) / (x7 <<< ((x5).toInt64 &&& 63)))), (11, .long (x7 <<< ((x5).toInt64 &&& 63))), (9, .long (x6 <<< ((x3).toInt64 &&& 63))), (8, .int x5), (7, .int x3), (6, .int x1), (0, .ref (aR k)), (1, .int p1), (2, .long p2), (4, .long p3)]) hx hb dX4_divided_76 hl (by decide) rfl (fun ls hl' => ?_)
    clear hl
    have hl := hl'
    clear hl'
    refine lv_lload hx hb dX4_divided_78 (lv_at hl 2 rfl) ?_
    refine lv_lload hx hb dX4_divided_80 (lv_at hl 1 rfl) ?_
    replace hf := o_ck_e hf
    obtain ⟨hc2, hf⟩ := hf
    refine lv_lrem hx hb dX4_divided_82 hc2 ?_
    refine lv_lstore (lv' := [(9, .long ((x6 <<< ((x3).toInt64 &&& 63)) - (x6 <<< ((x3).toInt64 &&& 63)) / (x7 <<< ((x5).toInt64 &&& 63)) * (x7 <<< ((x5).toInt64 &&& 63)))), (13, .long ((x6 <<< ((x3).toInt64 &&& 63)) / (x7 <<< ((x5).toInt64 &&& 63)))), (11, .long (x7 <<< ((x5).toInt64 &&& 63))), (8, .int x5), (7, .int x3), (6, .int x1), (0, .ref (aR k)), (1, .int p1), (2, .long p2), (4, .long p3)]) hx hb dX4_divided_83 hl (by decide) rfl (fun ls hl' => ?_)
    clear hl
    have hl := hl'
    clear hl'
    refine lv_iconst (v := 0) hx hb dX4_divided_85 (by decide) ?_
    refine lv_istore (lv' := [(15, .int 0), (9, .long ((x6 <<< ((x3).toInt64 &&& 63)) - (x6 <<< ((x3).toInt64 &&& 63)) / (x7 <<< ((x5).toInt64 &&& 63)) * (x7 <<< ((x5).toInt64 &&& 63)))), (13, .long ((x6 <<< ((x3).toInt64 &&& 63)) / (x7 <<< ((x5).toInt64 &&& 63)))), (11, .long (x7 <<< ((x5).toInt64 &&& 63))), (8, .int x5), (7, .int x3), (6, .int x1), (0, .ref (aR k)), (1, .int p1), (2, .long p2), (4, .long p3)]) hx hb dX4_divided_86 hl (by decide) rfl (fun ls hl' => ?_)
    clear hl
    have hl := hl'
    clear hl'
    replace hl := lv_sub hl (l' := [(0, .ref (aR k)), (1, .int p1), (2, .long p2), (4, .long p3), (7, .int x3), (8, .int x5), (9, .long ((x6 <<< ((x3).toInt64 &&& 63)) - (x6 <<< ((x3).toInt64 &&& 63)) / (x7 <<< ((x5).toInt64 &&& 63)) * (x7 <<< ((x5).toInt64 &&& 63)))), (11, .long (x7 <<< ((x5).toInt64 &&& 63))), (13, .long ((x6 <<< ((x3).toInt64 &&& 63)) / (x7 <<< ((x5).toInt64 &&& 63)))), (15, .int 0)]) [7, 8, 9, 10, 5, 4, 1, 3, 2, 0] rfl
    exact w_X4_divided_b88 12 k p1 p2 p3 x3 x5 ((x6 <<< ((x3).toInt64 &&& 63)) - (x6 <<< ((x3).toInt64 &&& 63)) / (x7 <<< ((x5).toInt64 &&& 63)) * (x7 <<< ((x5).toInt64 &&& 63))) (x7 <<< ((x5).toInt64 &&& 63)) ((x6 <<< ((x3).toInt64 &&& 63)) / (x7 <<< ((x5).toInt64 &&& 63))) 0 r H locs ls hk2 hX hS hf hl
  · replace hf := o_f hf (fun z => c1 (qc_gt.mpr z))
    refine lv_aload_n hx hb dX4_divided_61 rfl (lv_at hl 5 rfl) ?_
    refine lv_iload_n hx hb dX4_divided_62 rfl (lv_at hl 6 rfl) ?_
    refine lv_aload_n hx hb dX4_divided_63 rfl (lv_at hl 5 rfl) ?_
    replace hf := o_cP_e hf
    obtain ⟨x8, hq7, hf⟩ := hf
    refine jq_doP hX hS (jq_okV (As := []) (rest := [.int p1, .ref (aR k)]) hx hb hm ho ht (jq_const hX hS hk2) qw213 qw215 qs6 qw216 qw12 hy_X4_infinity rfl hl.1 (Nat.le_of_ble_eq_true rfl) dX4_divided_64) (c_X4_infinity hk2 hq7) (Nat.le_of_ble_eq_true rfl) (Nat.le_of_ble_eq_true rfl) (Nat.le_refl _) (Nat.le_refl _) (fun locs hS' => ?_)
    clear hS
    have hS := hS'
    clear hS'
    replace hf := o_cP_e hf
    obtain ⟨x9, hq8, hf⟩ := hf
    refine jq_doP hX hS (jq_okV (As := [.int p1, .long x8]) (rest := []) hx hb hm ho ht (jq_const hX hS hk2) qw506 qw508 qs40 qw509 qw12 hy_X4_signed rfl hl.1 (Nat.le_of_ble_eq_true rfl) dX4_divided_67) (c_X4_signed hk2 hq8) (Nat.le_of_ble_eq_true rfl) (Nat.le_of_ble_eq_true rfl) (Nat.le_refl _) (Nat.le_refl _) (fun locs hS' => ?_)
    clear hS
    have hS := hS'
    clear hS'
    cases hf
    exact jq_lret hX hS dX4_divided_70 ⟨rfl, rfl, rfl, rfl⟩
theorem dX4_quotientOf_0 : decode cX4_quotientOf 0 = .ok (.aload_n 0, 1) := by decide +kernel
theorem dX4_quotientOf_1 : decode cX4_quotientOf 1 = .ok (.lload_n 1, 1) := by decide +kernel
theorem dX4_quotientOf_2 : decode cX4_quotientOf 2 = .ok (.invokevirtual 49, 3) := by decide +kernel
theorem dX4_quotientOf_5 : decode cX4_quotientOf 5 = .ok (.lstore 5, 2) := by decide +kernel
theorem dX4_quotientOf_7 : decode cX4_quotientOf 7 = .ok (.aload_n 0, 1) := by decide +kernel
theorem dX4_quotientOf_8 : decode cX4_quotientOf 8 = .ok (.lload_n 3, 1) := by decide +kernel
theorem dX4_quotientOf_9 : decode cX4_quotientOf 9 = .ok (.invokevirtual 49, 3) := by decide +kernel
theorem dX4_quotientOf_12 : decode cX4_quotientOf 12 = .ok (.lstore 7, 2) := by decide +kernel
theorem dX4_quotientOf_14 : decode cX4_quotientOf 14 = .ok (.lload_n 1, 1) := by decide +kernel
theorem dX4_quotientOf_15 : decode cX4_quotientOf 15 = .ok (.lconst 0, 1) := by decide +kernel
theorem dX4_quotientOf_16 : decode cX4_quotientOf 16 = .ok (.lcmp, 1) := by decide +kernel
theorem dX4_quotientOf_24 : decode cX4_quotientOf 24 = .ok (.iconst 0, 1) := by decide +kernel
theorem dX4_quotientOf_20 : decode cX4_quotientOf 20 = .ok (.iconst 1, 1) := by decide +kernel
theorem dX4_quotientOf_21 : decode cX4_quotientOf 21 = .ok (.goto 4, 3) := by decide +kernel
theorem dX4_quotientOf_17 : decode cX4_quotientOf 17 = .ok (.ifCond .ge 7, 3) := by decide +kernel
theorem dX4_quotientOf_25 : decode cX4_quotientOf 25 = .ok (.lload_n 3, 1) := by decide +kernel
theorem dX4_quotientOf_26 : decode cX4_quotientOf 26 = .ok (.lconst 0, 1) := by decide +kernel
theorem dX4_quotientOf_27 : decode cX4_quotientOf 27 = .ok (.lcmp, 1) := by decide +kernel
theorem dX4_quotientOf_35 : decode cX4_quotientOf 35 = .ok (.iconst 0, 1) := by decide +kernel
theorem dX4_quotientOf_36 : decode cX4_quotientOf 36 = .ok (.if_icmp .eq 7, 3) := by decide +kernel
theorem dX4_quotientOf_43 : decode cX4_quotientOf 43 = .ok (.iconst 0, 1) := by decide +kernel
theorem dX4_quotientOf_39 : decode cX4_quotientOf 39 = .ok (.iconst 1, 1) := by decide +kernel
theorem dX4_quotientOf_40 : decode cX4_quotientOf 40 = .ok (.goto 4, 3) := by decide +kernel
theorem dX4_quotientOf_31 : decode cX4_quotientOf 31 = .ok (.iconst 1, 1) := by decide +kernel
theorem dX4_quotientOf_32 : decode cX4_quotientOf 32 = .ok (.goto 4, 3) := by decide +kernel
theorem dX4_quotientOf_28 : decode cX4_quotientOf 28 = .ok (.ifCond .ge 7, 3) := by decide +kernel
theorem dX4_quotientOf_44 : decode cX4_quotientOf 44 = .ok (.istore 9, 2) := by decide +kernel
theorem dX4_quotientOf_46 : decode cX4_quotientOf 46 = .ok (.lload 5, 2) := by decide +kernel
theorem dX4_quotientOf_48 : decode cX4_quotientOf 48 = .ok (.lload 7, 2) := by decide +kernel
theorem dX4_quotientOf_50 : decode cX4_quotientOf 50 = .ok (.lcmp, 1) := by decide +kernel
theorem dX4_quotientOf_75 : decode cX4_quotientOf 75 = .ok (.iconst 0, 1) := by decide +kernel
theorem dX4_quotientOf_54 : decode cX4_quotientOf 54 = .ok (.lload 5, 2) := by decide +kernel
theorem dX4_quotientOf_56 : decode cX4_quotientOf 56 = .ok (.lconst 0, 1) := by decide +kernel
theorem dX4_quotientOf_57 : decode cX4_quotientOf 57 = .ok (.lcmp, 1) := by decide +kernel
theorem dX4_quotientOf_71 : decode cX4_quotientOf 71 = .ok (.iconst 1, 1) := by decide +kernel
theorem dX4_quotientOf_72 : decode cX4_quotientOf 72 = .ok (.goto 4, 3) := by decide +kernel
theorem dX4_quotientOf_61 : decode cX4_quotientOf 61 = .ok (.lload 5, 2) := by decide +kernel
theorem dX4_quotientOf_63 : decode cX4_quotientOf 63 = .ok (.aload_n 0, 1) := by decide +kernel
theorem dX4_quotientOf_64 : decode cX4_quotientOf 64 = .ok (.invokevirtual 45, 3) := by decide +kernel
theorem dX4_quotientOf_67 : decode cX4_quotientOf 67 = .ok (.lcmp, 1) := by decide +kernel
theorem dX4_quotientOf_68 : decode cX4_quotientOf 68 = .ok (.ifCond .ne 7, 3) := by decide +kernel
theorem dX4_quotientOf_58 : decode cX4_quotientOf 58 = .ok (.ifCond .eq 13, 3) := by decide +kernel
theorem dX4_quotientOf_51 : decode cX4_quotientOf 51 = .ok (.ifCond .ne 24, 3) := by decide +kernel
theorem dX4_quotientOf_76 : decode cX4_quotientOf 76 = .ok (.istore 10, 2) := by decide +kernel
theorem dX4_quotientOf_78 : decode cX4_quotientOf 78 = .ok (.aload_n 0, 1) := by decide +kernel
theorem dX4_quotientOf_79 : decode cX4_quotientOf 79 = .ok (.lload_n 1, 1) := by decide +kernel
theorem dX4_quotientOf_80 : decode cX4_quotientOf 80 = .ok (.invokevirtual 53, 3) := by decide +kernel
theorem dX4_quotientOf_83 : decode cX4_quotientOf 83 = .ok (.ifCond .ne 16, 3) := by decide +kernel
theorem dX4_quotientOf_99 : decode cX4_quotientOf 99 = .ok (.aload_n 0, 1) := by decide +kernel
theorem dX4_quotientOf_100 : decode cX4_quotientOf 100 = .ok (.invokevirtual 57, 3) := by decide +kernel
theorem dX4_quotientOf_103 : decode cX4_quotientOf 103 = .ok (.lreturn, 1) := by decide +kernel
theorem dX4_quotientOf_86 : decode cX4_quotientOf 86 = .ok (.aload_n 0, 1) := by decide +kernel
theorem dX4_quotientOf_87 : decode cX4_quotientOf 87 = .ok (.lload_n 3, 1) := by decide +kernel
theorem dX4_quotientOf_88 : decode cX4_quotientOf 88 = .ok (.invokevirtual 53, 3) := by decide +kernel
theorem dX4_quotientOf_91 : decode cX4_quotientOf 91 = .ok (.ifCond .ne 8, 3) := by decide +kernel
theorem dX4_quotientOf_94 : decode cX4_quotientOf 94 = .ok (.iload 10, 2) := by decide +kernel
theorem dX4_quotientOf_96 : decode cX4_quotientOf 96 = .ok (.ifCond .eq 8, 3) := by decide +kernel
theorem dX4_quotientOf_104 : decode cX4_quotientOf 104 = .ok (.lload 5, 2) := by decide +kernel
theorem dX4_quotientOf_106 : decode cX4_quotientOf 106 = .ok (.aload_n 0, 1) := by decide +kernel
theorem dX4_quotientOf_107 : decode cX4_quotientOf 107 = .ok (.invokevirtual 45, 3) := by decide +kernel
theorem dX4_quotientOf_110 : decode cX4_quotientOf 110 = .ok (.lcmp, 1) := by decide +kernel
theorem dX4_quotientOf_121 : decode cX4_quotientOf 121 = .ok (.aload_n 0, 1) := by decide +kernel
theorem dX4_quotientOf_122 : decode cX4_quotientOf 122 = .ok (.iload 9, 2) := by decide +kernel
theorem dX4_quotientOf_124 : decode cX4_quotientOf 124 = .ok (.aload_n 0, 1) := by decide +kernel
theorem dX4_quotientOf_125 : decode cX4_quotientOf 125 = .ok (.invokevirtual 45, 3) := by decide +kernel
theorem dX4_quotientOf_128 : decode cX4_quotientOf 128 = .ok (.invokevirtual 81, 3) := by decide +kernel
theorem dX4_quotientOf_131 : decode cX4_quotientOf 131 = .ok (.lreturn, 1) := by decide +kernel
theorem dX4_quotientOf_114 : decode cX4_quotientOf 114 = .ok (.lload 7, 2) := by decide +kernel
theorem dX4_quotientOf_116 : decode cX4_quotientOf 116 = .ok (.lconst 0, 1) := by decide +kernel
theorem dX4_quotientOf_117 : decode cX4_quotientOf 117 = .ok (.lcmp, 1) := by decide +kernel
theorem dX4_quotientOf_132 : decode cX4_quotientOf 132 = .ok (.lload 5, 2) := by decide +kernel
theorem dX4_quotientOf_134 : decode cX4_quotientOf 134 = .ok (.lconst 0, 1) := by decide +kernel
theorem dX4_quotientOf_135 : decode cX4_quotientOf 135 = .ok (.lcmp, 1) := by decide +kernel
theorem dX4_quotientOf_149 : decode cX4_quotientOf 149 = .ok (.aload_n 0, 1) := by decide +kernel
theorem dX4_quotientOf_150 : decode cX4_quotientOf 150 = .ok (.iload 9, 2) := by decide +kernel
theorem dX4_quotientOf_152 : decode cX4_quotientOf 152 = .ok (.lconst 0, 1) := by decide +kernel
theorem dX4_quotientOf_153 : decode cX4_quotientOf 153 = .ok (.invokevirtual 81, 3) := by decide +kernel
theorem dX4_quotientOf_156 : decode cX4_quotientOf 156 = .ok (.lreturn, 1) := by decide +kernel
theorem dX4_quotientOf_139 : decode cX4_quotientOf 139 = .ok (.lload 7, 2) := by decide +kernel
theorem dX4_quotientOf_141 : decode cX4_quotientOf 141 = .ok (.aload_n 0, 1) := by decide +kernel
theorem dX4_quotientOf_142 : decode cX4_quotientOf 142 = .ok (.invokevirtual 45, 3) := by decide +kernel
theorem dX4_quotientOf_145 : decode cX4_quotientOf 145 = .ok (.lcmp, 1) := by decide +kernel
theorem dX4_quotientOf_157 : decode cX4_quotientOf 157 = .ok (.aload_n 0, 1) := by decide +kernel
theorem dX4_quotientOf_158 : decode cX4_quotientOf 158 = .ok (.iload 9, 2) := by decide +kernel
theorem dX4_quotientOf_160 : decode cX4_quotientOf 160 = .ok (.lload 5, 2) := by decide +kernel
theorem dX4_quotientOf_162 : decode cX4_quotientOf 162 = .ok (.lload 7, 2) := by decide +kernel
theorem dX4_quotientOf_164 : decode cX4_quotientOf 164 = .ok (.invokevirtual 95, 3) := by decide +kernel
theorem dX4_quotientOf_167 : decode cX4_quotientOf 167 = .ok (.lreturn, 1) := by decide +kernel
theorem dX4_quotientOf_146 : decode cX4_quotientOf 146 = .ok (.ifCond .ne 11, 3) := by decide +kernel
theorem dX4_quotientOf_136 : decode cX4_quotientOf 136 = .ok (.ifCond .eq 13, 3) := by decide +kernel
theorem dX4_quotientOf_118 : decode cX4_quotientOf 118 = .ok (.ifCond .ne 14, 3) := by decide +kernel
theorem dX4_quotientOf_111 : decode cX4_quotientOf 111 = .ok (.ifCond .eq 10, 3) := by decide +kernel
theorem hy_X4_quotientOf : yX4_quotientOf.cls ≠ "java/lang/invoke/MethodHandle" ∧ yX4_quotientOf.cls ≠ "java/lang/invoke/VarHandle" ∧ (parseMethodDescriptor yX4_quotientOf.desc).map (fun d => d.parameters.length) = some 2 := ⟨by decide, by decide, by decide +kernel⟩
def f_X4_quotientOf_b76 (k : Nat) (l1 : Int64) (l3 : Int64) (l5 : Int64) (l7 : Int64) (l9 : Int32) (t0 : Int32) : Option (Int64) :=
  o_cP (f_X4_isNoNumber k l1) fun x1 =>
  if x1 = 0 then (
  o_cP (f_X4_isNoNumber k l3) fun x3 =>
  if x3 = 0 then (
  if t0 = 0 then (
  o_cP (f_X4_infinity k) fun x5 =>
  if l5 = x5 then (
  o_cP (f_X4_infinity k) fun x6 =>
  o_cP (f_X4_signed k l9 x6) fun x7 =>
  some x7) else (
  if l7 = 0 then (
  o_cP (f_X4_infinity k) fun x12 =>
  o_cP (f_X4_signed k l9 x12) fun x13 =>
  some x13) else (
  if l5 = 0 then (
  o_cP (f_X4_signed k l9 0) fun x8 =>
  some x8) else (
  o_cP (f_X4_infinity k) fun x9 =>
  if l7 = x9 then (
  o_cP (f_X4_signed k l9 0) fun x11 =>
  some x11) else (
  o_cP (f_X4_divided k l9 l5 l7) fun x10 =>
  some x10))))) else (
  o_cP (f_X4_noNumber k) fun x14 =>
  some x14)) else (
  o_cP (f_X4_noNumber k) fun x4 =>
  some x4)) else (
  o_cP (f_X4_noNumber k) fun x2 =>
  some x2)
set_option maxHeartbeats 4000000 in
set_option maxRecDepth 100000 in
theorem w_X4_quotientOf_b76 {l : Launch} {D : va_G} {Y : Nat → ClassId} {aR : Nat → Nat} {A : Nat → Prop} {p : Program} {e : Env} {s : State} {m : MethodId} {args : Array Value} {below : List Frame} {meth : Method} {c : Code} : ∀ (k : Nat) (l1 : Int64) (l3 : Int64) (l5 : Int64) (l7 : Int64) (l9 : Int32) (t0 : Int32) (r : Int64) (H : Heap) (locs : List Loc) (ls : Array Slot), k < 2 → jq_X D Y aR A p s m args meth c cX4_quotientOf RX4 "quotientOf" 11 (some .long) → va_S A s.heap H locs → f_X4_quotientOf_b76 k l1 l3 l5 l7 l9 t0 = some r → lv_has ls 11 [(0, .ref (aR k)), (1, .long l1), (3, .long l3), (5, .long l5), (7, .long l7), (9, .int l9)] → W p l e { frames := 3, cells := 0, slots := 0, locals := 96 } s m args below meth c H locs 0 0 (jq_Z below A (fun v k n H' => v = (some (.long r)) ∧ k = 0 ∧ n = 0 ∧ H' = H) s) (F0 m 76 ls [.int t0]) := by
  intro k l1 l3 l5 l7 l9 t0 r H locs ls hk2 hX hS hf hl
  unfold f_X4_quotientOf_b76 at hf
  have hx := hX.1
  have hb := hX.2.1
  have hm := hX.2.2.1
  have ho := hX.2.2.2.1
  have ht := hX.2.2.2.2.1
  have hn := hX.2.2.2.2.2.1.2.1
  refine lv_istore (lv' := [(10, .int t0), (0, .ref (aR k)), (1, .long l1), (3, .long l3), (5, .long l5), (7, .long l7), (9, .int l9)]) hx hb dX4_quotientOf_76 hl (by decide) rfl (fun ls hl' => ?_)
  clear hl
  have hl := hl'
  clear hl'
  refine lv_aload_n hx hb dX4_quotientOf_78 rfl (lv_at hl 1 rfl) ?_
  refine lv_lload_n hx hb dX4_quotientOf_79 rfl (lv_at hl 2 rfl) ?_
  replace hf := o_cP_e hf
  obtain ⟨x1, hq1, hf⟩ := hf
  refine jq_doP hX hS (jq_okV (As := [.long l1]) (rest := []) hx hb hm ho ht (jq_const hX hS hk2) qw204 qw206 qs4 qw207 qw12 hy_X4_isNoNumber rfl hl.1 (Nat.le_of_ble_eq_true rfl) dX4_quotientOf_80) (c_X4_isNoNumber hk2 hq1) (Nat.le_of_ble_eq_true rfl) (Nat.le_of_ble_eq_true rfl) (Nat.le_refl _) (Nat.le_refl _) (fun locs hS' => ?_)
  clear hS
  have hS := hS'
  clear hS'
  refine lv_if_ne (tgt := 99) hx hb dX4_quotientOf_83 (by decide) (fun c1 => ?_) (fun c1 => ?_)
  · replace hf := o_f hf c1
    refine lv_aload_n hx hb dX4_quotientOf_99 rfl (lv_at hl 1 rfl) ?_
    replace hf := o_cP_e hf
    obtain ⟨x2, hq2, hf⟩ := hf
    refine jq_doP hX hS (jq_okV (As := []) (rest := []) hx hb hm ho ht (jq_const hX hS hk2) qw217 qw219 qs7 qw220 qw12 hy_X4_noNumber rfl hl.1 (Nat.le_of_ble_eq_true rfl) dX4_quotientOf_100) (c_X4_noNumber hk2 hq2) (Nat.le_of_ble_eq_true rfl) (Nat.le_of_ble_eq_true rfl) (Nat.le_refl _) (Nat.le_refl _) (fun locs hS' => ?_)
    clear hS
    have hS := hS'
    clear hS'
    cases hf
    exact jq_lret hX hS dX4_quotientOf_103 ⟨rfl, rfl, rfl, rfl⟩
  · replace hf := o_t hf c1
    refine lv_aload_n hx hb dX4_quotientOf_86 rfl (lv_at hl 1 rfl) ?_
    refine lv_lload_n hx hb dX4_quotientOf_87 rfl (lv_at hl 3 rfl) ?_
    replace hf := o_cP_e hf
    obtain ⟨x3, hq3, hf⟩ := hf
    refine jq_doP hX hS (jq_okV (As := [.long l3]) (rest := []) hx hb hm ho ht (jq_const hX hS hk2) qw204 qw206 qs4 qw207 qw12 hy_X4_isNoNumber rfl hl.1 (Nat.le_of_ble_eq_true rfl) dX4_quotientOf_88) (c_X4_isNoNumber hk2 hq3) (Nat.le_of_ble_eq_true rfl) (Nat.le_of_ble_eq_true rfl) (Nat.le_refl _) (Nat.le_refl _) (fun locs hS' => ?_)
    clear hS
    have hS := hS'
    clear hS'
    refine lv_if_ne (tgt := 99) hx hb dX4_quotientOf_91 (by decide) (fun c2 => ?_) (fun c2 => ?_)
    · replace hf := o_f hf c2
      refine lv_aload_n hx hb dX4_quotientOf_99 rfl (lv_at hl 1 rfl) ?_
      replace hf := o_cP_e hf
      obtain ⟨x4, hq4, hf⟩ := hf
      refine jq_doP hX hS (jq_okV (As := []) (rest := []) hx hb hm ho ht (jq_const hX hS hk2) qw217 qw219 qs7 qw220 qw12 hy_X4_noNumber rfl hl.1 (Nat.le_of_ble_eq_true rfl) dX4_quotientOf_100) (c_X4_noNumber hk2 hq4) (Nat.le_of_ble_eq_true rfl) (Nat.le_of_ble_eq_true rfl) (Nat.le_refl _) (Nat.le_refl _) (fun locs hS' => ?_)
      clear hS
      have hS := hS'
      clear hS'
      cases hf
      exact jq_lret hX hS dX4_quotientOf_103 ⟨rfl, rfl, rfl, rfl⟩
    · replace hf := o_t hf c2
      refine lv_iload hx hb dX4_quotientOf_94 (lv_at hl 0 rfl) ?_
      refine lv_if_eq (tgt := 104) hx hb dX4_quotientOf_96 (by decide) (fun c3 => ?_) (fun c3 => ?_)
      · replace hf := o_t hf c3
        refine lv_lload hx hb dX4_quotientOf_104 (lv_at hl 4 rfl) ?_
        refine lv_aload_n hx hb dX4_quotientOf_106 rfl (lv_at hl 1 rfl) ?_
        replace hf := o_cP_e hf
        obtain ⟨x5, hq5, hf⟩ := hf
        refine jq_doP hX hS (jq_okV (As := []) (rest := [.long l5]) hx hb hm ho ht (jq_const hX hS hk2) qw213 qw215 qs6 qw216 qw12 hy_X4_infinity rfl hl.1 (Nat.le_of_ble_eq_true rfl) dX4_quotientOf_107) (c_X4_infinity hk2 hq5) (Nat.le_of_ble_eq_true rfl) (Nat.le_of_ble_eq_true rfl) (Nat.le_refl _) (Nat.le_refl _) (fun locs hS' => ?_)
        clear hS
        have hS := hS'
        clear hS'
        refine W.lcmp hx hb dX4_quotientOf_110 ?_
        refine lv_if_eq (tgt := 121) hx hb dX4_quotientOf_111 (by decide) (fun c4 => ?_) (fun c4 => ?_)
        · replace hf := o_t hf (qc_eq.mp c4)
          refine lv_aload_n hx hb dX4_quotientOf_121 rfl (lv_at hl 1 rfl) ?_
          refine lv_iload hx hb dX4_quotientOf_122 (lv_at hl 6 rfl) ?_
          refine lv_aload_n hx hb dX4_quotientOf_124 rfl (lv_at hl 1 rfl) ?_
          replace hf := o_cP_e hf
          obtain ⟨x6, hq6, hf⟩ := hf
          refine jq_doP hX hS (jq_okV (As := []) (rest := [.int l9, .ref (aR k)]) hx hb hm ho ht (jq_const hX hS hk2) qw213 qw215 qs6 qw216 qw12 hy_X4_infinity rfl hl.1 (Nat.le_of_ble_eq_true rfl) dX4_quotientOf_125) (c_X4_infinity hk2 hq6) (Nat.le_of_ble_eq_true rfl) (Nat.le_of_ble_eq_true rfl) (Nat.le_refl _) (Nat.le_refl _) (fun locs hS' => ?_)
          clear hS
          have hS := hS'
          clear hS'
          replace hf := o_cP_e hf
          obtain ⟨x7, hq7, hf⟩ := hf
          refine jq_doP hX hS (jq_okV (As := [.int l9, .long x6]) (rest := []) hx hb hm ho ht (jq_const hX hS hk2) qw506 qw508 qs40 qw509 qw12 hy_X4_signed rfl hl.1 (Nat.le_of_ble_eq_true rfl) dX4_quotientOf_128) (c_X4_signed hk2 hq7) (Nat.le_of_ble_eq_true rfl) (Nat.le_of_ble_eq_true rfl) (Nat.le_refl _) (Nat.le_refl _) (fun locs hS' => ?_)
          clear hS
          have hS := hS'
          clear hS'
          cases hf
          exact jq_lret hX hS dX4_quotientOf_131 ⟨rfl, rfl, rfl, rfl⟩
        · replace hf := o_f hf (fun z => c4 (qc_eq.mpr z))
          refine lv_lload hx hb dX4_quotientOf_114 (lv_at hl 5 rfl) ?_
          refine lv_lconst (v := 0) hx hb dX4_quotientOf_116 (by decide) ?_
          refine W.lcmp hx hb dX4_quotientOf_117 ?_
          refine lv_if_ne (tgt := 132) hx hb dX4_quotientOf_118 (by decide) (fun c5 => ?_) (fun c5 => ?_)
          · replace hf := o_f hf (fun z => c5 (qc_eq.mpr z))
            refine lv_lload hx hb dX4_quotientOf_132 (lv_at hl 4 rfl) ?_
            refine lv_lconst (v := 0) hx hb dX4_quotientOf_134 (by decide) ?_
            refine W.lcmp hx hb dX4_quotientOf_135 ?_
            refine lv_if_eq (tgt := 149) hx hb dX4_quotientOf_136 (by decide) (fun c6 => ?_) (fun c6 => ?_)
            · replace hf := o_t hf (qc_eq.mp c6)
              refine lv_aload_n hx hb dX4_quotientOf_149 rfl (lv_at hl 1 rfl) ?_
              refine lv_iload hx hb dX4_quotientOf_150 (lv_at hl 6 rfl) ?_
              refine lv_lconst (v := 0) hx hb dX4_quotientOf_152 (by decide) ?_
              replace hf := o_cP_e hf
              obtain ⟨x8, hq8, hf⟩ := hf
              refine jq_doP hX hS (jq_okV (As := [.int l9, .long 0]) (rest := []) hx hb hm ho ht (jq_const hX hS hk2) qw506 qw508 qs40 qw509 qw12 hy_X4_signed rfl hl.1 (Nat.le_of_ble_eq_true rfl) dX4_quotientOf_153) (c_X4_signed hk2 hq8) (Nat.le_of_ble_eq_true rfl) (Nat.le_of_ble_eq_true rfl) (Nat.le_refl _) (Nat.le_refl _) (fun locs hS' => ?_)
              clear hS
              have hS := hS'
              clear hS'
              cases hf
              exact jq_lret hX hS dX4_quotientOf_156 ⟨rfl, rfl, rfl, rfl⟩
            · replace hf := o_f hf (fun z => c6 (qc_eq.mpr z))
              refine lv_lload hx hb dX4_quotientOf_139 (lv_at hl 5 rfl) ?_
              refine lv_aload_n hx hb dX4_quotientOf_141 rfl (lv_at hl 1 rfl) ?_
              replace hf := o_cP_e hf
              obtain ⟨x9, hq9, hf⟩ := hf
              refine jq_doP hX hS (jq_okV (As := []) (rest := [.long l7]) hx hb hm ho ht (jq_const hX hS hk2) qw213 qw215 qs6 qw216 qw12 hy_X4_infinity rfl hl.1 (Nat.le_of_ble_eq_true rfl) dX4_quotientOf_142) (c_X4_infinity hk2 hq9) (Nat.le_of_ble_eq_true rfl) (Nat.le_of_ble_eq_true rfl) (Nat.le_refl _) (Nat.le_refl _) (fun locs hS' => ?_)
              clear hS
              have hS := hS'
              clear hS'
              refine W.lcmp hx hb dX4_quotientOf_145 ?_
              refine lv_if_ne (tgt := 157) hx hb dX4_quotientOf_146 (by decide) (fun c7 => ?_) (fun c7 => ?_)
              · replace hf := o_f hf (fun z => c7 (qc_eq.mpr z))
                refine lv_aload_n hx hb dX4_quotientOf_157 rfl (lv_at hl 1 rfl) ?_
                refine lv_iload hx hb dX4_quotientOf_158 (lv_at hl 6 rfl) ?_
                refine lv_lload hx hb dX4_quotientOf_160 (lv_at hl 4 rfl) ?_
                refine lv_lload hx hb dX4_quotientOf_162 (lv_at hl 5 rfl) ?_
                replace hf := o_cP_e hf
                obtain ⟨x10, hq10, hf⟩ := hf
                refine jq_doP hX hS (jq_okV (As := [.int l9, .long l5, .long l7]) (rest := []) hx hb hm ho ht (jq_const hX hS hk2) qw569 qw571 qs53 qw572 qw12 hy_X4_divided rfl hl.1 (Nat.le_of_ble_eq_true rfl) dX4_quotientOf_164) (c_X4_divided hk2 hq10) (Nat.le_of_ble_eq_true rfl) (Nat.le_of_ble_eq_true rfl) (Nat.le_refl _) (Nat.le_refl _) (fun locs hS' => ?_)
                clear hS
                have hS := hS'
                clear hS'
                cases hf
                exact jq_lret hX hS dX4_quotientOf_167 ⟨rfl, rfl, rfl, rfl⟩
              · replace hf := o_t hf (qc_eq.mp c7)
                refine lv_aload_n hx hb dX4_quotientOf_149 rfl (lv_at hl 1 rfl) ?_
                refine lv_iload hx hb dX4_quotientOf_150 (lv_at hl 6 rfl) ?_
                refine lv_lconst (v := 0) hx hb dX4_quotientOf_152 (by decide) ?_
                replace hf := o_cP_e hf
                obtain ⟨x11, hq11, hf⟩ := hf
                refine jq_doP hX hS (jq_okV (As := [.int l9, .long 0]) (rest := []) hx hb hm ho ht (jq_const hX hS hk2) qw506 qw508 qs40 qw509 qw12 hy_X4_signed rfl hl.1 (Nat.le_of_ble_eq_true rfl) dX4_quotientOf_153) (c_X4_signed hk2 hq11) (Nat.le_of_ble_eq_true rfl) (Nat.le_of_ble_eq_true rfl) (Nat.le_refl _) (Nat.le_refl _) (fun locs hS' => ?_)
                clear hS
                have hS := hS'
                clear hS'
                cases hf
                exact jq_lret hX hS dX4_quotientOf_156 ⟨rfl, rfl, rfl, rfl⟩
          · replace hf := o_t hf (qc_eq.mp c5)
            refine lv_aload_n hx hb dX4_quotientOf_121 rfl (lv_at hl 1 rfl) ?_
            refine lv_iload hx hb dX4_quotientOf_122 (lv_at hl 6 rfl) ?_
            refine lv_aload_n hx hb dX4_quotientOf_124 rfl (lv_at hl 1 rfl) ?_
            replace hf := o_cP_e hf
            obtain ⟨x12, hq12, hf⟩ := hf
            refine jq_doP hX hS (jq_okV (As := []) (rest := [.int l9, .ref (aR k)]) hx hb hm ho ht (jq_const hX hS hk2) qw213 qw215 qs6 qw216 qw12 hy_X4_infinity rfl hl.1 (Nat.le_of_ble_eq_true rfl) dX4_quotientOf_125) (c_X4_infinity hk2 hq12) (Nat.le_of_ble_eq_true rfl) (Nat.le_of_ble_eq_true rfl) (Nat.le_refl _) (Nat.le_refl _) (fun locs hS' => ?_)
            clear hS
            have hS := hS'
            clear hS'
            replace hf := o_cP_e hf
            obtain ⟨x13, hq13, hf⟩ := hf
            refine jq_doP hX hS (jq_okV (As := [.int l9, .long x12]) (rest := []) hx hb hm ho ht (jq_const hX hS hk2) qw506 qw508 qs40 qw509 qw12 hy_X4_signed rfl hl.1 (Nat.le_of_ble_eq_true rfl) dX4_quotientOf_128) (c_X4_signed hk2 hq13) (Nat.le_of_ble_eq_true rfl) (Nat.le_of_ble_eq_true rfl) (Nat.le_refl _) (Nat.le_refl _) (fun locs hS' => ?_)
            clear hS
            have hS := hS'
            clear hS'
            cases hf
            exact jq_lret hX hS dX4_quotientOf_131 ⟨rfl, rfl, rfl, rfl⟩
      · replace hf := o_f hf c3
        refine lv_aload_n hx hb dX4_quotientOf_99 rfl (lv_at hl 1 rfl) ?_
        replace hf := o_cP_e hf
        obtain ⟨x14, hq14, hf⟩ := hf
        refine jq_doP hX hS (jq_okV (As := []) (rest := []) hx hb hm ho ht (jq_const hX hS hk2) qw217 qw219 qs7 qw220 qw12 hy_X4_noNumber rfl hl.1 (Nat.le_of_ble_eq_true rfl) dX4_quotientOf_100) (c_X4_noNumber hk2 hq14) (Nat.le_of_ble_eq_true rfl) (Nat.le_of_ble_eq_true rfl) (Nat.le_refl _) (Nat.le_refl _) (fun locs hS' => ?_)
        clear hS
        have hS := hS'
        clear hS'
        cases hf
        exact jq_lret hX hS dX4_quotientOf_103 ⟨rfl, rfl, rfl, rfl⟩
def f_X4_quotientOf_b44 (k : Nat) (l1 : Int64) (l3 : Int64) (l5 : Int64) (l7 : Int64) (t0 : Int32) : Option (Int64) :=
  if l5 = l7 then (
  if l5 = 0 then (
  f_X4_quotientOf_b76 k l1 l3 l5 l7 t0 1) else (
  o_cP (f_X4_infinity k) fun x1 =>
  if l5 = x1 then (
  f_X4_quotientOf_b76 k l1 l3 l5 l7 t0 1) else (
  f_X4_quotientOf_b76 k l1 l3 l5 l7 t0 0))) else (
  f_X4_quotientOf_b76 k l1 l3 l5 l7 t0 0)
set_option maxHeartbeats 4000000 in
set_option maxRecDepth 100000 in
theorem w_X4_quotientOf_b44 {l : Launch} {D : va_G} {Y : Nat → ClassId} {aR : Nat → Nat} {A : Nat → Prop} {p : Program} {e : Env} {s : State} {m : MethodId} {args : Array Value} {below : List Frame} {meth : Method} {c : Code} : ∀ (k : Nat) (l1 : Int64) (l3 : Int64) (l5 : Int64) (l7 : Int64) (t0 : Int32) (r : Int64) (H : Heap) (locs : List Loc) (ls : Array Slot), k < 2 → jq_X D Y aR A p s m args meth c cX4_quotientOf RX4 "quotientOf" 11 (some .long) → va_S A s.heap H locs → f_X4_quotientOf_b44 k l1 l3 l5 l7 t0 = some r → lv_has ls 11 [(0, .ref (aR k)), (1, .long l1), (3, .long l3), (5, .long l5), (7, .long l7)] → W p l e { frames := 3, cells := 0, slots := 0, locals := 96 } s m args below meth c H locs 0 0 (jq_Z below A (fun v k n H' => v = (some (.long r)) ∧ k = 0 ∧ n = 0 ∧ H' = H) s) (F0 m 44 ls [.int t0]) := by
  intro k l1 l3 l5 l7 t0 r H locs ls hk2 hX hS hf hl
  unfold f_X4_quotientOf_b44 at hf
  have hx := hX.1
  have hb := hX.2.1
  have hm := hX.2.2.1
  have ho := hX.2.2.2.1
  have ht := hX.2.2.2.2.1
  have hn := hX.2.2.2.2.2.1.2.1
  refine lv_istore (lv' := [(9, .int t0), (0, .ref (aR k)), (1, .long l1), (3, .long l3), (5, .long l5), (7, .long l7)]) hx hb dX4_quotientOf_44 hl (by decide) rfl (fun ls hl' => ?_)
  clear hl
  have hl := hl'
  clear hl'
  refine lv_lload hx hb dX4_quotientOf_46 (lv_at hl 4 rfl) ?_
  refine lv_lload hx hb dX4_quotientOf_48 (lv_at hl 5 rfl) ?_
  refine W.lcmp hx hb dX4_quotientOf_50 ?_
  refine lv_if_ne (tgt := 75) hx hb dX4_quotientOf_51 (by decide) (fun c1 => ?_) (fun c1 => ?_)
  · replace hf := o_f hf (fun z => c1 (qc_eq.mpr z))
    refine lv_iconst (v := 0) hx hb dX4_quotientOf_75 (by decide) ?_
    replace hl := lv_sub hl (l' := [(0, .ref (aR k)), (1, .long l1), (3, .long l3), (5, .long l5), (7, .long l7), (9, .int t0)]) [1, 2, 3, 4, 5, 0] rfl
    exact w_X4_quotientOf_b76 k l1 l3 l5 l7 t0 0 r H locs ls hk2 hX hS hf hl
  · replace hf := o_t hf (qc_eq.mp c1)
    refine lv_lload hx hb dX4_quotientOf_54 (lv_at hl 4 rfl) ?_
    refine lv_lconst (v := 0) hx hb dX4_quotientOf_56 (by decide) ?_
    refine W.lcmp hx hb dX4_quotientOf_57 ?_
    refine lv_if_eq (tgt := 71) hx hb dX4_quotientOf_58 (by decide) (fun c2 => ?_) (fun c2 => ?_)
    · replace hf := o_t hf (qc_eq.mp c2)
      refine lv_iconst (v := 1) hx hb dX4_quotientOf_71 (by decide) ?_
      refine lv_goto (tgt := 76) hx hb dX4_quotientOf_72 (by decide) ?_
      replace hl := lv_sub hl (l' := [(0, .ref (aR k)), (1, .long l1), (3, .long l3), (5, .long l5), (7, .long l7), (9, .int t0)]) [1, 2, 3, 4, 5, 0] rfl
      exact w_X4_quotientOf_b76 k l1 l3 l5 l7 t0 1 r H locs ls hk2 hX hS hf hl
    · replace hf := o_f hf (fun z => c2 (qc_eq.mpr z))
      refine lv_lload hx hb dX4_quotientOf_61 (lv_at hl 4 rfl) ?_
      refine lv_aload_n hx hb dX4_quotientOf_63 rfl (lv_at hl 1 rfl) ?_
      replace hf := o_cP_e hf
      obtain ⟨x1, hq1, hf⟩ := hf
      refine jq_doP hX hS (jq_okV (As := []) (rest := [.long l5]) hx hb hm ho ht (jq_const hX hS hk2) qw213 qw215 qs6 qw216 qw12 hy_X4_infinity rfl hl.1 (Nat.le_of_ble_eq_true rfl) dX4_quotientOf_64) (c_X4_infinity hk2 hq1) (Nat.le_of_ble_eq_true rfl) (Nat.le_of_ble_eq_true rfl) (Nat.le_refl _) (Nat.le_refl _) (fun locs hS' => ?_)
      clear hS
      have hS := hS'
      clear hS'
      refine W.lcmp hx hb dX4_quotientOf_67 ?_
      refine lv_if_ne (tgt := 75) hx hb dX4_quotientOf_68 (by decide) (fun c3 => ?_) (fun c3 => ?_)
      · replace hf := o_f hf (fun z => c3 (qc_eq.mpr z))
        refine lv_iconst (v := 0) hx hb dX4_quotientOf_75 (by decide) ?_
        replace hl := lv_sub hl (l' := [(0, .ref (aR k)), (1, .long l1), (3, .long l3), (5, .long l5), (7, .long l7), (9, .int t0)]) [1, 2, 3, 4, 5, 0] rfl
        exact w_X4_quotientOf_b76 k l1 l3 l5 l7 t0 0 r H locs ls hk2 hX hS hf hl
      · replace hf := o_t hf (qc_eq.mp c3)
        refine lv_iconst (v := 1) hx hb dX4_quotientOf_71 (by decide) ?_
        refine lv_goto (tgt := 76) hx hb dX4_quotientOf_72 (by decide) ?_
        replace hl := lv_sub hl (l' := [(0, .ref (aR k)), (1, .long l1), (3, .long l3), (5, .long l5), (7, .long l7), (9, .int t0)]) [1, 2, 3, 4, 5, 0] rfl
        exact w_X4_quotientOf_b76 k l1 l3 l5 l7 t0 1 r H locs ls hk2 hX hS hf hl
def f_X4_quotientOf_b25 (k : Nat) (l1 : Int64) (l3 : Int64) (l5 : Int64) (l7 : Int64) (t0 : Int32) : Option (Int64) :=
  if 0 ≤ l3 then (
  if t0 = 0 then (
  f_X4_quotientOf_b44 k l1 l3 l5 l7 0) else (
  f_X4_quotientOf_b44 k l1 l3 l5 l7 1)) else (
  if t0 = 1 then (
  f_X4_quotientOf_b44 k l1 l3 l5 l7 0) else (
  f_X4_quotientOf_b44 k l1 l3 l5 l7 1))
set_option maxHeartbeats 4000000 in
set_option maxRecDepth 100000 in
theorem w_X4_quotientOf_b25 {l : Launch} {D : va_G} {Y : Nat → ClassId} {aR : Nat → Nat} {A : Nat → Prop} {p : Program} {e : Env} {s : State} {m : MethodId} {args : Array Value} {below : List Frame} {meth : Method} {c : Code} : ∀ (k : Nat) (l1 : Int64) (l3 : Int64) (l5 : Int64) (l7 : Int64) (t0 : Int32) (r : Int64) (H : Heap) (locs : List Loc) (ls : Array Slot), k < 2 → jq_X D Y aR A p s m args meth c cX4_quotientOf RX4 "quotientOf" 11 (some .long) → va_S A s.heap H locs → f_X4_quotientOf_b25 k l1 l3 l5 l7 t0 = some r → lv_has ls 11 [(0, .ref (aR k)), (1, .long l1), (3, .long l3), (5, .long l5), (7, .long l7)] → W p l e { frames := 3, cells := 0, slots := 0, locals := 96 } s m args below meth c H locs 0 0 (jq_Z below A (fun v k n H' => v = (some (.long r)) ∧ k = 0 ∧ n = 0 ∧ H' = H) s) (F0 m 25 ls [.int t0]) := by
  intro k l1 l3 l5 l7 t0 r H locs ls hk2 hX hS hf hl
  unfold f_X4_quotientOf_b25 at hf
  have hx := hX.1
  have hb := hX.2.1
  have hm := hX.2.2.1
  have ho := hX.2.2.2.1
  have ht := hX.2.2.2.2.1
  have hn := hX.2.2.2.2.2.1.2.1
  refine lv_lload_n hx hb dX4_quotientOf_25 rfl (lv_at hl 2 rfl) ?_
  refine lv_lconst (v := 0) hx hb dX4_quotientOf_26 (by decide) ?_
  refine W.lcmp hx hb dX4_quotientOf_27 ?_
  refine lv_if_ge (tgt := 35) hx hb dX4_quotientOf_28 (by decide) (fun c1 => ?_) (fun c1 => ?_)
  · replace hf := o_t hf (qc_ge.mp c1)
    refine lv_iconst (v := 0) hx hb dX4_quotientOf_35 (by decide) ?_
    refine lv_icmp_eq (tgt := 43) hx hb dX4_quotientOf_36 (by decide) (fun c2 => ?_) (fun c2 => ?_)
    · replace hf := o_t hf c2
      refine lv_iconst (v := 0) hx hb dX4_quotientOf_43 (by decide) ?_
      replace hl := lv_sub hl (l' := [(0, .ref (aR k)), (1, .long l1), (3, .long l3), (5, .long l5), (7, .long l7)]) [0, 1, 2, 3, 4] rfl
      exact w_X4_quotientOf_b44 k l1 l3 l5 l7 0 r H locs ls hk2 hX hS hf hl
    · replace hf := o_f hf c2
      refine lv_iconst (v := 1) hx hb dX4_quotientOf_39 (by decide) ?_
      refine lv_goto (tgt := 44) hx hb dX4_quotientOf_40 (by decide) ?_
      replace hl := lv_sub hl (l' := [(0, .ref (aR k)), (1, .long l1), (3, .long l3), (5, .long l5), (7, .long l7)]) [0, 1, 2, 3, 4] rfl
      exact w_X4_quotientOf_b44 k l1 l3 l5 l7 1 r H locs ls hk2 hX hS hf hl
  · replace hf := o_f hf (fun z => c1 (qc_ge.mpr z))
    refine lv_iconst (v := 1) hx hb dX4_quotientOf_31 (by decide) ?_
    refine lv_goto (tgt := 36) hx hb dX4_quotientOf_32 (by decide) ?_
    refine lv_icmp_eq (tgt := 43) hx hb dX4_quotientOf_36 (by decide) (fun c3 => ?_) (fun c3 => ?_)
    · replace hf := o_t hf c3
      refine lv_iconst (v := 0) hx hb dX4_quotientOf_43 (by decide) ?_
      replace hl := lv_sub hl (l' := [(0, .ref (aR k)), (1, .long l1), (3, .long l3), (5, .long l5), (7, .long l7)]) [0, 1, 2, 3, 4] rfl
      exact w_X4_quotientOf_b44 k l1 l3 l5 l7 0 r H locs ls hk2 hX hS hf hl
    · replace hf := o_f hf c3
      refine lv_iconst (v := 1) hx hb dX4_quotientOf_39 (by decide) ?_
      refine lv_goto (tgt := 44) hx hb dX4_quotientOf_40 (by decide) ?_
      replace hl := lv_sub hl (l' := [(0, .ref (aR k)), (1, .long l1), (3, .long l3), (5, .long l5), (7, .long l7)]) [0, 1, 2, 3, 4] rfl
      exact w_X4_quotientOf_b44 k l1 l3 l5 l7 1 r H locs ls hk2 hX hS hf hl
def f_X4_quotientOf (k : Nat) (p1 : Int64) (p2 : Int64) : Option (Int64) :=
  o_cP (f_X4_magnitude k p1) fun x1 =>
  o_cP (f_X4_magnitude k p2) fun x2 =>
  if 0 ≤ p1 then (
  f_X4_quotientOf_b25 k p1 p2 x1 x2 0) else (
  f_X4_quotientOf_b25 k p1 p2 x1 x2 1)
set_option maxHeartbeats 4000000 in
set_option maxRecDepth 100000 in
theorem c_X4_quotientOf {l : Launch} {D : va_G} {Y : Nat → ClassId} {aR : Nat → Nat} {A : Nat → Prop} {k : Nat} {p1 : Int64} {p2 : Int64} {r : Int64} (hk2 : k < 2) (hf : f_X4_quotientOf k p1 p2 = some r) : jq_P l D Y aR A yX4_quotientOf cX4_quotientOf 11 (some .long) 3 96 [.ref (aR k), .long p1, .long p2] (some (.long r)) := by
  unfold f_X4_quotientOf at hf
  refine jq_enterP (by decide) (Nat.le_of_ble_eq_true rfl) fun p e s m args below meth c ls H locs hX hS hl => ?_
  have hl : lv_has ls 11 [(0, .ref (aR k)), (1, .long p1), (3, .long p2)] := hl
  have hx := hX.1
  have hb := hX.2.1
  have hm := hX.2.2.1
  have ho := hX.2.2.2.1
  have ht := hX.2.2.2.2.1
  have hn := hX.2.2.2.2.2.1.2.1
  refine lv_aload_n hx hb dX4_quotientOf_0 rfl (lv_at hl 0 rfl) ?_
  refine lv_lload_n hx hb dX4_quotientOf_1 rfl (lv_at hl 1 rfl) ?_
  replace hf := o_cP_e hf
  obtain ⟨x1, hq1, hf⟩ := hf
  refine jq_doP hX hS (jq_okV (As := [.long p1]) (rest := []) hx hb hm ho ht (jq_const hX hS hk2) qw208 qw210 qs5 qw211 qw12 hy_X4_magnitude rfl hl.1 (Nat.le_of_ble_eq_true rfl) dX4_quotientOf_2) (c_X4_magnitude hk2 hq1) (Nat.le_of_ble_eq_true rfl) (Nat.le_of_ble_eq_true rfl) (Nat.le_refl _) (Nat.le_refl _) (fun locs hS' => ?_)
  clear hS
  have hS := hS'
  clear hS'
  refine lv_lstore (lv' := [(5, .long x1), (0, .ref (aR k)), (1, .long p1), (3, .long p2)]) hx hb dX4_quotientOf_5 hl (by decide) rfl (fun ls hl' => ?_)
  clear hl
  have hl := hl'
  clear hl'
  refine lv_aload_n hx hb dX4_quotientOf_7 rfl (lv_at hl 1 rfl) ?_
  refine lv_lload_n hx hb dX4_quotientOf_8 rfl (lv_at hl 3 rfl) ?_
  replace hf := o_cP_e hf
  obtain ⟨x2, hq2, hf⟩ := hf
  refine jq_doP hX hS (jq_okV (As := [.long p2]) (rest := []) hx hb hm ho ht (jq_const hX hS hk2) qw208 qw210 qs5 qw211 qw12 hy_X4_magnitude rfl hl.1 (Nat.le_of_ble_eq_true rfl) dX4_quotientOf_9) (c_X4_magnitude hk2 hq2) (Nat.le_of_ble_eq_true rfl) (Nat.le_of_ble_eq_true rfl) (Nat.le_refl _) (Nat.le_refl _) (fun locs hS' => ?_)
  clear hS
  have hS := hS'
  clear hS'
  refine lv_lstore (lv' := [(7, .long x2), (5, .long x1), (0, .ref (aR k)), (1, .long p1), (3, .long p2)]) hx hb dX4_quotientOf_12 hl (by decide) rfl (fun ls hl' => ?_)
  clear hl
  have hl := hl'
  clear hl'
  refine lv_lload_n hx hb dX4_quotientOf_14 rfl (lv_at hl 3 rfl) ?_
  refine lv_lconst (v := 0) hx hb dX4_quotientOf_15 (by decide) ?_
  refine W.lcmp hx hb dX4_quotientOf_16 ?_
  refine lv_if_ge (tgt := 24) hx hb dX4_quotientOf_17 (by decide) (fun c1 => ?_) (fun c1 => ?_)
  · replace hf := o_t hf (qc_ge.mp c1)
    refine lv_iconst (v := 0) hx hb dX4_quotientOf_24 (by decide) ?_
    replace hl := lv_sub hl (l' := [(0, .ref (aR k)), (1, .long p1), (3, .long p2), (5, .long x1), (7, .long x2)]) [2, 3, 4, 1, 0] rfl
    exact w_X4_quotientOf_b25 k p1 p2 x1 x2 0 r H locs ls hk2 hX hS hf hl
  · replace hf := o_f hf (fun z => c1 (qc_ge.mpr z))
    refine lv_iconst (v := 1) hx hb dX4_quotientOf_20 (by decide) ?_
    refine lv_goto (tgt := 25) hx hb dX4_quotientOf_21 (by decide) ?_
    replace hl := lv_sub hl (l' := [(0, .ref (aR k)), (1, .long p1), (3, .long p2), (5, .long x1), (7, .long x2)]) [2, 3, 4, 1, 0] rfl
    exact w_X4_quotientOf_b25 k p1 p2 x1 x2 1 r H locs ls hk2 hX hS hf hl
theorem dX4_ordered_0 : decode cX4_ordered 0 = .ok (.lload_n 1, 1) := by decide +kernel
theorem dX4_ordered_1 : decode cX4_ordered 1 = .ok (.lconst 0, 1) := by decide +kernel
theorem dX4_ordered_2 : decode cX4_ordered 2 = .ok (.lcmp, 1) := by decide +kernel
theorem dX4_ordered_15 : decode cX4_ordered 15 = .ok (.aload_n 0, 1) := by decide +kernel
theorem dX4_ordered_16 : decode cX4_ordered 16 = .ok (.lload_n 1, 1) := by decide +kernel
theorem dX4_ordered_17 : decode cX4_ordered 17 = .ok (.invokevirtual 49, 3) := by decide +kernel
theorem dX4_ordered_20 : decode cX4_ordered 20 = .ok (.lreturn, 1) := by decide +kernel
theorem dX4_ordered_6 : decode cX4_ordered 6 = .ok (.aload_n 0, 1) := by decide +kernel
theorem dX4_ordered_7 : decode cX4_ordered 7 = .ok (.lload_n 1, 1) := by decide +kernel
theorem dX4_ordered_8 : decode cX4_ordered 8 = .ok (.invokevirtual 49, 3) := by decide +kernel
theorem dX4_ordered_11 : decode cX4_ordered 11 = .ok (.lneg, 1) := by decide +kernel
theorem dX4_ordered_12 : decode cX4_ordered 12 = .ok (.goto 8, 3) := by decide +kernel
theorem dX4_ordered_3 : decode cX4_ordered 3 = .ok (.ifCond .ge 12, 3) := by decide +kernel
theorem hy_X4_ordered : yX4_ordered.cls ≠ "java/lang/invoke/MethodHandle" ∧ yX4_ordered.cls ≠ "java/lang/invoke/VarHandle" ∧ (parseMethodDescriptor yX4_ordered.desc).map (fun d => d.parameters.length) = some 1 := ⟨by decide, by decide, by decide +kernel⟩
def f_X4_ordered (k : Nat) (p1 : Int64) : Option (Int64) :=
  if 0 ≤ p1 then (
  o_cP (f_X4_magnitude k p1) fun x1 =>
  some x1) else (
  o_cP (f_X4_magnitude k p1) fun x2 =>
  some (-x2))
set_option maxHeartbeats 4000000 in
set_option maxRecDepth 100000 in
theorem c_X4_ordered {l : Launch} {D : va_G} {Y : Nat → ClassId} {aR : Nat → Nat} {A : Nat → Prop} {k : Nat} {p1 : Int64} {r : Int64} (hk2 : k < 2) (hf : f_X4_ordered k p1 = some r) : jq_P l D Y aR A yX4_ordered cX4_ordered 3 (some .long) 1 22 [.ref (aR k), .long p1] (some (.long r)) := by
  unfold f_X4_ordered at hf
  refine jq_enterP (by decide) (Nat.le_of_ble_eq_true rfl) fun p e s m args below meth c ls H locs hX hS hl => ?_
  have hl : lv_has ls 3 [(0, .ref (aR k)), (1, .long p1)] := hl
  have hx := hX.1
  have hb := hX.2.1
  have hm := hX.2.2.1
  have ho := hX.2.2.2.1
  have ht := hX.2.2.2.2.1
  have hn := hX.2.2.2.2.2.1.2.1
  refine lv_lload_n hx hb dX4_ordered_0 rfl (lv_at hl 1 rfl) ?_
  refine lv_lconst (v := 0) hx hb dX4_ordered_1 (by decide) ?_
  refine W.lcmp hx hb dX4_ordered_2 ?_
  refine lv_if_ge (tgt := 15) hx hb dX4_ordered_3 (by decide) (fun c1 => ?_) (fun c1 => ?_)
  · replace hf := o_t hf (qc_ge.mp c1)
    refine lv_aload_n hx hb dX4_ordered_15 rfl (lv_at hl 0 rfl) ?_
    refine lv_lload_n hx hb dX4_ordered_16 rfl (lv_at hl 1 rfl) ?_
    replace hf := o_cP_e hf
    obtain ⟨x1, hq1, hf⟩ := hf
    refine jq_doP hX hS (jq_okV (As := [.long p1]) (rest := []) hx hb hm ho ht (jq_const hX hS hk2) qw208 qw210 qs5 qw211 qw12 hy_X4_magnitude rfl hl.1 (Nat.le_of_ble_eq_true rfl) dX4_ordered_17) (c_X4_magnitude hk2 hq1) (Nat.le_of_ble_eq_true rfl) (Nat.le_of_ble_eq_true rfl) (Nat.le_refl _) (Nat.le_refl _) (fun locs hS' => ?_)
    clear hS
    have hS := hS'
    clear hS'
    cases hf
    exact jq_lret hX hS dX4_ordered_20 ⟨rfl, rfl, rfl, rfl⟩
  · replace hf := o_f hf (fun z => c1 (qc_ge.mpr z))
    refine lv_aload_n hx hb dX4_ordered_6 rfl (lv_at hl 0 rfl) ?_
    refine lv_lload_n hx hb dX4_ordered_7 rfl (lv_at hl 1 rfl) ?_
    replace hf := o_cP_e hf
    obtain ⟨x2, hq2, hf⟩ := hf
    refine jq_doP hX hS (jq_okV (As := [.long p1]) (rest := []) hx hb hm ho ht (jq_const hX hS hk2) qw208 qw210 qs5 qw211 qw12 hy_X4_magnitude rfl hl.1 (Nat.le_of_ble_eq_true rfl) dX4_ordered_8) (c_X4_magnitude hk2 hq2) (Nat.le_of_ble_eq_true rfl) (Nat.le_of_ble_eq_true rfl) (Nat.le_refl _) (Nat.le_refl _) (fun locs hS' => ?_)
    clear hS
    have hS := hS'
    clear hS'
    refine lv_lneg hx hb dX4_ordered_11 ?_
    refine lv_goto (tgt := 20) hx hb dX4_ordered_12 (by decide) ?_
    cases hf
    exact jq_lret hX hS dX4_ordered_20 ⟨rfl, rfl, rfl, rfl⟩
theorem dX4_isAbove_0 : decode cX4_isAbove 0 = .ok (.aload_n 0, 1) := by decide +kernel
theorem dX4_isAbove_1 : decode cX4_isAbove 1 = .ok (.lload_n 1, 1) := by decide +kernel
theorem dX4_isAbove_2 : decode cX4_isAbove 2 = .ok (.invokevirtual 53, 3) := by decide +kernel
theorem dX4_isAbove_5 : decode cX4_isAbove 5 = .ok (.ifCond .ne 29, 3) := by decide +kernel
theorem dX4_isAbove_34 : decode cX4_isAbove 34 = .ok (.iconst 0, 1) := by decide +kernel
theorem dX4_isAbove_35 : decode cX4_isAbove 35 = .ok (.ireturn, 1) := by decide +kernel
theorem dX4_isAbove_8 : decode cX4_isAbove 8 = .ok (.aload_n 0, 1) := by decide +kernel
theorem dX4_isAbove_9 : decode cX4_isAbove 9 = .ok (.lload_n 3, 1) := by decide +kernel
theorem dX4_isAbove_10 : decode cX4_isAbove 10 = .ok (.invokevirtual 53, 3) := by decide +kernel
theorem dX4_isAbove_13 : decode cX4_isAbove 13 = .ok (.ifCond .ne 21, 3) := by decide +kernel
theorem dX4_isAbove_16 : decode cX4_isAbove 16 = .ok (.aload_n 0, 1) := by decide +kernel
theorem dX4_isAbove_17 : decode cX4_isAbove 17 = .ok (.lload_n 1, 1) := by decide +kernel
theorem dX4_isAbove_18 : decode cX4_isAbove 18 = .ok (.invokevirtual 66, 3) := by decide +kernel
theorem dX4_isAbove_21 : decode cX4_isAbove 21 = .ok (.aload_n 0, 1) := by decide +kernel
theorem dX4_isAbove_22 : decode cX4_isAbove 22 = .ok (.lload_n 3, 1) := by decide +kernel
theorem dX4_isAbove_23 : decode cX4_isAbove 23 = .ok (.invokevirtual 66, 3) := by decide +kernel
theorem dX4_isAbove_26 : decode cX4_isAbove 26 = .ok (.lcmp, 1) := by decide +kernel
theorem dX4_isAbove_30 : decode cX4_isAbove 30 = .ok (.iconst 1, 1) := by decide +kernel
theorem dX4_isAbove_31 : decode cX4_isAbove 31 = .ok (.goto 4, 3) := by decide +kernel
theorem dX4_isAbove_27 : decode cX4_isAbove 27 = .ok (.ifCond .le 7, 3) := by decide +kernel
theorem hy_X4_isAbove : yX4_isAbove.cls ≠ "java/lang/invoke/MethodHandle" ∧ yX4_isAbove.cls ≠ "java/lang/invoke/VarHandle" ∧ (parseMethodDescriptor yX4_isAbove.desc).map (fun d => d.parameters.length) = some 2 := ⟨by decide, by decide, by decide +kernel⟩
def f_X4_isAbove (k : Nat) (p1 : Int64) (p2 : Int64) : Option (Int32) :=
  o_cP (f_X4_isNoNumber k p1) fun x1 =>
  if x1 = 0 then (
  o_cP (f_X4_isNoNumber k p2) fun x2 =>
  if x2 = 0 then (
  o_cP (f_X4_ordered k p1) fun x3 =>
  o_cP (f_X4_ordered k p2) fun x4 =>
  if x3 ≤ x4 then (
  some 0) else (
  some 1)) else (
  some 0)) else (
  some 0)
set_option maxHeartbeats 4000000 in
set_option maxRecDepth 100000 in
theorem c_X4_isAbove {l : Launch} {D : va_G} {Y : Nat → ClassId} {aR : Nat → Nat} {A : Nat → Prop} {k : Nat} {p1 : Int64} {p2 : Int64} {r : Int32} (hk2 : k < 2) (hf : f_X4_isAbove k p1 p2 = some r) : jq_P l D Y aR A yX4_isAbove cX4_isAbove 5 (some .boolean) 2 44 [.ref (aR k), .long p1, .long p2] (some (.int r)) := by
  unfold f_X4_isAbove at hf
  refine jq_enterP (by decide) (Nat.le_of_ble_eq_true rfl) fun p e s m args below meth c ls H locs hX hS hl => ?_
  have hl : lv_has ls 5 [(0, .ref (aR k)), (1, .long p1), (3, .long p2)] := hl
  have hx := hX.1
  have hb := hX.2.1
  have hm := hX.2.2.1
  have ho := hX.2.2.2.1
  have ht := hX.2.2.2.2.1
  have hn := hX.2.2.2.2.2.1.2.1
  refine lv_aload_n hx hb dX4_isAbove_0 rfl (lv_at hl 0 rfl) ?_
  refine lv_lload_n hx hb dX4_isAbove_1 rfl (lv_at hl 1 rfl) ?_
  replace hf := o_cP_e hf
  obtain ⟨x1, hq1, hf⟩ := hf
  refine jq_doP hX hS (jq_okV (As := [.long p1]) (rest := []) hx hb hm ho ht (jq_const hX hS hk2) qw204 qw206 qs4 qw207 qw12 hy_X4_isNoNumber rfl hl.1 (Nat.le_of_ble_eq_true rfl) dX4_isAbove_2) (c_X4_isNoNumber hk2 hq1) (Nat.le_of_ble_eq_true rfl) (Nat.le_of_ble_eq_true rfl) (Nat.le_refl _) (Nat.le_refl _) (fun locs hS' => ?_)
  clear hS
  have hS := hS'
  clear hS'
  refine lv_if_ne (tgt := 34) hx hb dX4_isAbove_5 (by decide) (fun c1 => ?_) (fun c1 => ?_)
  · replace hf := o_f hf c1
    refine lv_iconst (v := 0) hx hb dX4_isAbove_34 (by decide) ?_
    cases hf
    exact jq_zret hX hS (by decide) dX4_isAbove_35 ⟨rfl, rfl, rfl, rfl⟩
  · replace hf := o_t hf c1
    refine lv_aload_n hx hb dX4_isAbove_8 rfl (lv_at hl 0 rfl) ?_
    refine lv_lload_n hx hb dX4_isAbove_9 rfl (lv_at hl 2 rfl) ?_
    replace hf := o_cP_e hf
    obtain ⟨x2, hq2, hf⟩ := hf
    refine jq_doP hX hS (jq_okV (As := [.long p2]) (rest := []) hx hb hm ho ht (jq_const hX hS hk2) qw204 qw206 qs4 qw207 qw12 hy_X4_isNoNumber rfl hl.1 (Nat.le_of_ble_eq_true rfl) dX4_isAbove_10) (c_X4_isNoNumber hk2 hq2) (Nat.le_of_ble_eq_true rfl) (Nat.le_of_ble_eq_true rfl) (Nat.le_refl _) (Nat.le_refl _) (fun locs hS' => ?_)
    clear hS
    have hS := hS'
    clear hS'
    refine lv_if_ne (tgt := 34) hx hb dX4_isAbove_13 (by decide) (fun c2 => ?_) (fun c2 => ?_)
    · replace hf := o_f hf c2
      refine lv_iconst (v := 0) hx hb dX4_isAbove_34 (by decide) ?_
      cases hf
      exact jq_zret hX hS (by decide) dX4_isAbove_35 ⟨rfl, rfl, rfl, rfl⟩
    · replace hf := o_t hf c2
      refine lv_aload_n hx hb dX4_isAbove_16 rfl (lv_at hl 0 rfl) ?_
      refine lv_lload_n hx hb dX4_isAbove_17 rfl (lv_at hl 1 rfl) ?_
      replace hf := o_cP_e hf
      obtain ⟨x3, hq3, hf⟩ := hf
      refine jq_doP hX hS (jq_okV (As := [.long p1]) (rest := []) hx hb hm ho ht (jq_const hX hS hk2) qw585 qw587 qs56 qw588 qw12 hy_X4_ordered rfl hl.1 (Nat.le_of_ble_eq_true rfl) dX4_isAbove_18) (c_X4_ordered hk2 hq3) (Nat.le_of_ble_eq_true rfl) (Nat.le_of_ble_eq_true rfl) (Nat.le_refl _) (Nat.le_refl _) (fun locs hS' => ?_)
      clear hS
      have hS := hS'
      clear hS'
      refine lv_aload_n hx hb dX4_isAbove_21 rfl (lv_at hl 0 rfl) ?_
      refine lv_lload_n hx hb dX4_isAbove_22 rfl (lv_at hl 2 rfl) ?_
      replace hf := o_cP_e hf
      obtain ⟨x4, hq4, hf⟩ := hf
      refine jq_doP hX hS (jq_okV (As := [.long p2]) (rest := [.long x3]) hx hb hm ho ht (jq_const hX hS hk2) qw585 qw587 qs56 qw588 qw12 hy_X4_ordered rfl hl.1 (Nat.le_of_ble_eq_true rfl) dX4_isAbove_23) (c_X4_ordered hk2 hq4) (Nat.le_of_ble_eq_true rfl) (Nat.le_of_ble_eq_true rfl) (Nat.le_refl _) (Nat.le_refl _) (fun locs hS' => ?_)
      clear hS
      have hS := hS'
      clear hS'
      refine W.lcmp hx hb dX4_isAbove_26 ?_
      refine lv_if_le (tgt := 34) hx hb dX4_isAbove_27 (by decide) (fun c3 => ?_) (fun c3 => ?_)
      · replace hf := o_t hf (qc_le.mp c3)
        refine lv_iconst (v := 0) hx hb dX4_isAbove_34 (by decide) ?_
        cases hf
        exact jq_zret hX hS (by decide) dX4_isAbove_35 ⟨rfl, rfl, rfl, rfl⟩
      · replace hf := o_f hf (fun z => c3 (qc_le.mpr z))
        refine lv_iconst (v := 1) hx hb dX4_isAbove_30 (by decide) ?_
        refine lv_goto (tgt := 35) hx hb dX4_isAbove_31 (by decide) ?_
        cases hf
        exact jq_zret hX hS (by decide) dX4_isAbove_35 ⟨rfl, rfl, rfl, rfl⟩
