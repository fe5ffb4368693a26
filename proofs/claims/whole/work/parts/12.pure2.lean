theorem dX2_fromBits_0 : decode cX2_fromBits 0 = .ok (.iload_n 0, 1) := by decide +kernel
theorem dX2_fromBits_1 : decode cX2_fromBits 1 = .ok (.tableswitch 96 0 7 #[47, 59, 64, 69, 74, 96, 78, 88], 47) := by decide +kernel
theorem dX2_fromBits_48 : decode cX2_fromBits 48 = .ok (.lload_n 1, 1) := by decide +kernel
theorem dX2_fromBits_49 : decode cX2_fromBits 49 = .ok (.lconst 0, 1) := by decide +kernel
theorem dX2_fromBits_50 : decode cX2_fromBits 50 = .ok (.lcmp, 1) := by decide +kernel
theorem dX2_fromBits_58 : decode cX2_fromBits 58 = .ok (.lconst 0, 1) := by decide +kernel
theorem dX2_fromBits_59 : decode cX2_fromBits 59 = .ok (.lreturn, 1) := by decide +kernel
theorem dX2_fromBits_54 : decode cX2_fromBits 54 = .ok (.lconst 1, 1) := by decide +kernel
theorem dX2_fromBits_55 : decode cX2_fromBits 55 = .ok (.goto 4, 3) := by decide +kernel
theorem dX2_fromBits_51 : decode cX2_fromBits 51 = .ok (.ifCond .eq 7, 3) := by decide +kernel
theorem dX2_fromBits_60 : decode cX2_fromBits 60 = .ok (.lload_n 1, 1) := by decide +kernel
theorem dX2_fromBits_61 : decode cX2_fromBits 61 = .ok (.l2i, 1) := by decide +kernel
theorem dX2_fromBits_62 : decode cX2_fromBits 62 = .ok (.i2b, 1) := by decide +kernel
theorem dX2_fromBits_63 : decode cX2_fromBits 63 = .ok (.i2l, 1) := by decide +kernel
theorem dX2_fromBits_64 : decode cX2_fromBits 64 = .ok (.lreturn, 1) := by decide +kernel
theorem dX2_fromBits_65 : decode cX2_fromBits 65 = .ok (.lload_n 1, 1) := by decide +kernel
theorem dX2_fromBits_66 : decode cX2_fromBits 66 = .ok (.l2i, 1) := by decide +kernel
theorem dX2_fromBits_67 : decode cX2_fromBits 67 = .ok (.i2s, 1) := by decide +kernel
theorem dX2_fromBits_68 : decode cX2_fromBits 68 = .ok (.i2l, 1) := by decide +kernel
theorem dX2_fromBits_69 : decode cX2_fromBits 69 = .ok (.lreturn, 1) := by decide +kernel
theorem dX2_fromBits_70 : decode cX2_fromBits 70 = .ok (.lload_n 1, 1) := by decide +kernel
theorem dX2_fromBits_71 : decode cX2_fromBits 71 = .ok (.l2i, 1) := by decide +kernel
theorem dX2_fromBits_72 : decode cX2_fromBits 72 = .ok (.i2c, 1) := by decide +kernel
theorem dX2_fromBits_73 : decode cX2_fromBits 73 = .ok (.i2l, 1) := by decide +kernel
theorem dX2_fromBits_74 : decode cX2_fromBits 74 = .ok (.lreturn, 1) := by decide +kernel
theorem dX2_fromBits_75 : decode cX2_fromBits 75 = .ok (.lload_n 1, 1) := by decide +kernel
theorem dX2_fromBits_76 : decode cX2_fromBits 76 = .ok (.l2i, 1) := by decide +kernel
theorem dX2_fromBits_77 : decode cX2_fromBits 77 = .ok (.i2l, 1) := by decide +kernel
theorem dX2_fromBits_78 : decode cX2_fromBits 78 = .ok (.lreturn, 1) := by decide +kernel
theorem dX2_fromBits_79 : decode cX2_fromBits 79 = .ok (.getstatic 15, 3) := by decide +kernel
theorem dX2_fromBits_82 : decode cX2_fromBits 82 = .ok (.lload_n 1, 1) := by decide +kernel
theorem dX2_fromBits_83 : decode cX2_fromBits 83 = .ok (.l2i, 1) := by decide +kernel
theorem dX2_fromBits_84 : decode cX2_fromBits 84 = .ok (.i2l, 1) := by decide +kernel
theorem dX2_fromBits_85 : decode cX2_fromBits 85 = .ok (.invokevirtual 21, 3) := by decide +kernel
theorem dX2_fromBits_88 : decode cX2_fromBits 88 = .ok (.lreturn, 1) := by decide +kernel
theorem dX2_fromBits_89 : decode cX2_fromBits 89 = .ok (.getstatic 25, 3) := by decide +kernel
theorem dX2_fromBits_92 : decode cX2_fromBits 92 = .ok (.lload_n 1, 1) := by decide +kernel
theorem dX2_fromBits_93 : decode cX2_fromBits 93 = .ok (.invokevirtual 21, 3) := by decide +kernel
theorem dX2_fromBits_96 : decode cX2_fromBits 96 = .ok (.lreturn, 1) := by decide +kernel
theorem dX2_fromBits_97 : decode cX2_fromBits 97 = .ok (.lload_n 1, 1) := by decide +kernel
theorem dX2_fromBits_98 : decode cX2_fromBits 98 = .ok (.lreturn, 1) := by decide +kernel
theorem hy_X2_fromBits : yX2_fromBits.cls ≠ "java/lang/invoke/MethodHandle" ∧ yX2_fromBits.cls ≠ "java/lang/invoke/VarHandle" ∧ (parseMethodDescriptor yX2_fromBits.desc).map (fun d => d.parameters.length) = some 2 := ⟨by decide, by decide, by decide +kernel⟩
def f_X2_fromBits (p1 : Int32) (p2 : Int64) : Option (Int64) :=
  if p1 = 0 then (
  if p2 = 0 then (
  some 0) else (
  some 1)) else (
  if p1 = 1 then (
  some ((((((p2).toInt32)).toInt8.toInt32)).toInt64)) else (
  if p1 = 2 then (
  some ((((((p2).toInt32)).toInt16.toInt32)).toInt64)) else (
  if p1 = 3 then (
  some (((((((p2).toInt32)).toUInt32 % 65536).toInt32)).toInt64)) else (
  if p1 = 4 then (
  some ((((p2).toInt32)).toInt64)) else (
  if p1 = 6 then (
  o_cP (f_X4_plain 0 ((((p2).toInt32)).toInt64)) fun x1 =>
  some x1) else (
  if p1 = 7 then (
  o_cP (f_X4_plain 1 p2) fun x2 =>
  some x2) else (
  if p1 = 5 then (
  some p2) else (
  some p2))))))))
set_option maxHeartbeats 4000000 in
set_option maxRecDepth 100000 in
theorem c_X2_fromBits {l : Launch} {D : va_G} {Y : Nat → ClassId} {aR : Nat → Nat} {A : Nat → Prop} {p1 : Int32} {p2 : Int64} {r : Int64} (hf : f_X2_fromBits p1 p2 = some r) : jq_P l D Y aR A yX2_fromBits cX2_fromBits 3 (some .long) 3 66 [.int p1, .long p2] (some (.long r)) := by
  unfold f_X2_fromBits at hf
  refine jq_enterP (by decide) (Nat.le_of_ble_eq_true rfl) fun p e s m args below meth c ls H locs hX hS hl => ?_
  have hl : lv_has ls 3 [(0, .int p1), (1, .long p2)] := hl
  have hx := hX.1
  have hb := hX.2.1
  have hm := hX.2.2.1
  have ho := hX.2.2.2.1
  have ht := hX.2.2.2.2.1
  have hn := hX.2.2.2.2.2.1.2.1
  refine lv_iload_n hx hb dX2_fromBits_0 rfl (lv_at hl 0 rfl) ?_
  by_cases c1 : p1 = 0
  · replace hf := o_t hf c1
    refine lv_tableIn (off := 47) (tgt := 48) hx hb dX2_fromBits_1 (by rcases c1 with rfl <;> decide) (by rcases c1 with rfl <;> decide) (by rcases c1 with rfl <;> rfl) (by decide) ?_
    refine lv_lload_n hx hb dX2_fromBits_48 rfl (lv_at hl 1 rfl) ?_
    refine lv_lconst (v := 0) hx hb dX2_fromBits_49 (by decide) ?_
    refine W.lcmp hx hb dX2_fromBits_50 ?_
    refine lv_if_eq (tgt := 58) hx hb dX2_fromBits_51 (by decide) (fun c2 => ?_) (fun c2 => ?_)
    · replace hf := o_t hf (qc_eq.mp c2)
      refine lv_lconst (v := 0) hx hb dX2_fromBits_58 (by decide) ?_
      cases hf
      exact jq_lret hX hS dX2_fromBits_59 ⟨rfl, rfl, rfl, rfl⟩
    · replace hf := o_f hf (fun z => c2 (qc_eq.mpr z))
      refine lv_lconst (v := 1) hx hb dX2_fromBits_54 (by decide) ?_
      refine lv_goto (tgt := 59) hx hb dX2_fromBits_55 (by decide) ?_
      cases hf
      exact jq_lret hX hS dX2_fromBits_59 ⟨rfl, rfl, rfl, rfl⟩
  replace hf := o_f hf c1
  by_cases c3 : p1 = 1
  · replace hf := o_t hf c3
    refine lv_tableIn (off := 59) (tgt := 60) hx hb dX2_fromBits_1 (by rcases c3 with rfl <;> decide) (by rcases c3 with rfl <;> decide) (by rcases c3 with rfl <;> rfl) (by decide) ?_
    refine lv_lload_n hx hb dX2_fromBits_60 rfl (lv_at hl 1 rfl) ?_
    refine lv_l2i hx hb dX2_fromBits_61 rfl ?_
    refine lv_i2b hx hb dX2_fromBits_62 rfl ?_
    refine lv_i2l hx hb dX2_fromBits_63 rfl ?_
    cases hf
    exact jq_lret hX hS dX2_fromBits_64 ⟨rfl, rfl, rfl, rfl⟩
  replace hf := o_f hf c3
  by_cases c4 : p1 = 2
  · replace hf := o_t hf c4
    refine lv_tableIn (off := 64) (tgt := 65) hx hb dX2_fromBits_1 (by rcases c4 with rfl <;> decide) (by rcases c4 with rfl <;> decide) (by rcases c4 with rfl <;> rfl) (by decide) ?_
    refine lv_lload_n hx hb dX2_fromBits_65 rfl (lv_at hl 1 rfl) ?_
    refine lv_l2i hx hb dX2_fromBits_66 rfl ?_
    refine lv_i2s hx hb dX2_fromBits_67 rfl ?_
    refine lv_i2l hx hb dX2_fromBits_68 rfl ?_
    cases hf
    exact jq_lret hX hS dX2_fromBits_69 ⟨rfl, rfl, rfl, rfl⟩
  replace hf := o_f hf c4
  by_cases c5 : p1 = 3
  · replace hf := o_t hf c5
    refine lv_tableIn (off := 69) (tgt := 70) hx hb dX2_fromBits_1 (by rcases c5 with rfl <;> decide) (by rcases c5 with rfl <;> decide) (by rcases c5 with rfl <;> rfl) (by decide) ?_
    refine lv_lload_n hx hb dX2_fromBits_70 rfl (lv_at hl 1 rfl) ?_
    refine lv_l2i hx hb dX2_fromBits_71 rfl ?_
    refine lv_i2c hx hb dX2_fromBits_72 rfl ?_
    refine lv_i2l hx hb dX2_fromBits_73 rfl ?_
    cases hf
    exact jq_lret hX hS dX2_fromBits_74 ⟨rfl, rfl, rfl, rfl⟩
  replace hf := o_f hf c5
  by_cases c6 : p1 = 4
  · replace hf := o_t hf c6
    refine lv_tableIn (off := 74) (tgt := 75) hx hb dX2_fromBits_1 (by rcases c6 with rfl <;> decide) (by rcases c6 with rfl <;> decide) (by rcases c6 with rfl <;> rfl) (by decide) ?_
    refine lv_lload_n hx hb dX2_fromBits_75 rfl (lv_at hl 1 rfl) ?_
    refine lv_l2i hx hb dX2_fromBits_76 rfl ?_
    refine lv_i2l hx hb dX2_fromBits_77 rfl ?_
    cases hf
    exact jq_lret hX hS dX2_fromBits_78 ⟨rfl, rfl, rfl, rfl⟩
  replace hf := o_f hf c6
  by_cases c7 : p1 = 6
  · replace hf := o_t hf c7
    refine lv_tableIn (off := 78) (tgt := 79) hx hb dX2_fromBits_1 (by rcases c7 with rfl <;> decide) (by rcases c7 with rfl <;> decide) (by rcases c7 with rfl <;> rfl) (by decide) ?_
    refine jq_gets (k := 0) hX hS (by decide) qw197 dX2_fromBits_79 ?_
    refine lv_lload_n hx hb dX2_fromBits_82 rfl (lv_at hl 1 rfl) ?_
    refine lv_l2i hx hb dX2_fromBits_83 rfl ?_
    refine lv_i2l hx hb dX2_fromBits_84 rfl ?_
    replace hf := o_cP_e hf
    obtain ⟨x1, hq1, hf⟩ := hf
    refine jq_doP hX hS (jq_okVN (As := [.long ((((p2).toInt32)).toInt64)]) (rest := []) hx hb hm ho ht hn (jq_const hX hS (by decide)) qn199 qw201 qs3 qw203 qw12 hy_X4_plain rfl hl.1 (Nat.le_of_ble_eq_true rfl) dX2_fromBits_85) (c_X4_plain (by decide) hq1) (Nat.le_of_ble_eq_true rfl) (Nat.le_of_ble_eq_true rfl) (Nat.le_refl _) (Nat.le_refl _) (fun locs hS' => ?_)
    clear hS
    have hS := hS'
    clear hS'
    cases hf
    exact jq_lret hX hS dX2_fromBits_88 ⟨rfl, rfl, rfl, rfl⟩
  replace hf := o_f hf c7
  by_cases c8 : p1 = 7
  · replace hf := o_t hf c8
    refine lv_tableIn (off := 88) (tgt := 89) hx hb dX2_fromBits_1 (by rcases c8 with rfl <;> decide) (by rcases c8 with rfl <;> decide) (by rcases c8 with rfl <;> rfl) (by decide) ?_
    refine jq_gets (k := 1) hX hS (by decide) qw221 dX2_fromBits_89 ?_
    refine lv_lload_n hx hb dX2_fromBits_92 rfl (lv_at hl 1 rfl) ?_
    replace hf := o_cP_e hf
    obtain ⟨x2, hq2, hf⟩ := hf
    refine jq_doP hX hS (jq_okVN (As := [.long p2]) (rest := []) hx hb hm ho ht hn (jq_const hX hS (by decide)) qn199 qw201 qs3 qw203 qw12 hy_X4_plain rfl hl.1 (Nat.le_of_ble_eq_true rfl) dX2_fromBits_93) (c_X4_plain (by decide) hq2) (Nat.le_of_ble_eq_true rfl) (Nat.le_of_ble_eq_true rfl) (Nat.le_refl _) (Nat.le_refl _) (fun locs hS' => ?_)
    clear hS
    have hS := hS'
    clear hS'
    cases hf
    exact jq_lret hX hS dX2_fromBits_96 ⟨rfl, rfl, rfl, rfl⟩
  replace hf := o_f hf c8
  by_cases c9 : p1 = 5
  · replace hf := o_t hf c9
    refine lv_tableIn (off := 96) (tgt := 97) hx hb dX2_fromBits_1 (by rcases c9 with rfl <;> decide) (by rcases c9 with rfl <;> decide) (by rcases c9 with rfl <;> rfl) (by decide) ?_
    refine lv_lload_n hx hb dX2_fromBits_97 rfl (lv_at hl 1 rfl) ?_
    cases hf
    exact jq_lret hX hS dX2_fromBits_98 ⟨rfl, rfl, rfl, rfl⟩
  replace hf := o_f hf c9
  refine lv_tableOut (tgt := 97) hx hb dX2_fromBits_1 (by have e0 := sw_ne c1 (n := 0) (by decide); have e1 := sw_ne c3 (n := 1) (by decide); have e2 := sw_ne c4 (n := 2) (by decide); have e3 := sw_ne c5 (n := 3) (by decide); have e4 := sw_ne c6 (n := 4) (by decide); have e5 := sw_ne c7 (n := 6) (by decide); have e6 := sw_ne c8 (n := 7) (by decide); have e7 := sw_ne c9 (n := 5) (by decide); omega) (by decide) ?_
  refine lv_lload_n hx hb dX2_fromBits_97 rfl (lv_at hl 1 rfl) ?_
  cases hf
  exact jq_lret hX hS dX2_fromBits_98 ⟨rfl, rfl, rfl, rfl⟩
theorem dX2_widened_0 : decode cX2_widened 0 = .ok (.iload_n 0, 1) := by decide +kernel
theorem dX2_widened_1 : decode cX2_widened 1 = .ok (.iload_n 1, 1) := by decide +kernel
theorem dX2_widened_2 : decode cX2_widened 2 = .ok (.if_icmp .ne 5, 3) := by decide +kernel
theorem dX2_widened_7 : decode cX2_widened 7 = .ok (.iload_n 1, 1) := by decide +kernel
theorem dX2_widened_8 : decode cX2_widened 8 = .ok (.bipush 6, 2) := by decide +kernel
theorem dX2_widened_10 : decode cX2_widened 10 = .ok (.if_icmp .ne 11, 3) := by decide +kernel
theorem dX2_widened_21 : decode cX2_widened 21 = .ok (.iload_n 1, 1) := by decide +kernel
theorem dX2_widened_22 : decode cX2_widened 22 = .ok (.bipush 7, 2) := by decide +kernel
theorem dX2_widened_24 : decode cX2_widened 24 = .ok (.if_icmp .ne 27, 3) := by decide +kernel
theorem dX2_widened_51 : decode cX2_widened 51 = .ok (.lload_n 2, 1) := by decide +kernel
theorem dX2_widened_52 : decode cX2_widened 52 = .ok (.lreturn, 1) := by decide +kernel
theorem dX2_widened_27 : decode cX2_widened 27 = .ok (.iload_n 0, 1) := by decide +kernel
theorem dX2_widened_28 : decode cX2_widened 28 = .ok (.bipush 6, 2) := by decide +kernel
theorem dX2_widened_30 : decode cX2_widened 30 = .ok (.if_icmp .ne 13, 3) := by decide +kernel
theorem dX2_widened_43 : decode cX2_widened 43 = .ok (.getstatic 25, 3) := by decide +kernel
theorem dX2_widened_46 : decode cX2_widened 46 = .ok (.lload_n 2, 1) := by decide +kernel
theorem dX2_widened_47 : decode cX2_widened 47 = .ok (.invokevirtual 28, 3) := by decide +kernel
theorem dX2_widened_50 : decode cX2_widened 50 = .ok (.lreturn, 1) := by decide +kernel
theorem dX2_widened_33 : decode cX2_widened 33 = .ok (.getstatic 25, 3) := by decide +kernel
theorem dX2_widened_36 : decode cX2_widened 36 = .ok (.lload_n 2, 1) := by decide +kernel
theorem dX2_widened_37 : decode cX2_widened 37 = .ok (.invokevirtual 31, 3) := by decide +kernel
theorem dX2_widened_40 : decode cX2_widened 40 = .ok (.goto 10, 3) := by decide +kernel
theorem dX2_widened_13 : decode cX2_widened 13 = .ok (.getstatic 15, 3) := by decide +kernel
theorem dX2_widened_16 : decode cX2_widened 16 = .ok (.lload_n 2, 1) := by decide +kernel
theorem dX2_widened_17 : decode cX2_widened 17 = .ok (.invokevirtual 28, 3) := by decide +kernel
theorem dX2_widened_20 : decode cX2_widened 20 = .ok (.lreturn, 1) := by decide +kernel
theorem dX2_widened_5 : decode cX2_widened 5 = .ok (.lload_n 2, 1) := by decide +kernel
theorem dX2_widened_6 : decode cX2_widened 6 = .ok (.lreturn, 1) := by decide +kernel
theorem hy_X2_widened : yX2_widened.cls ≠ "java/lang/invoke/MethodHandle" ∧ yX2_widened.cls ≠ "java/lang/invoke/VarHandle" ∧ (parseMethodDescriptor yX2_widened.desc).map (fun d => d.parameters.length) = some 3 := ⟨by decide, by decide, by decide +kernel⟩
def f_X2_widened (p1 : Int32) (p2 : Int32) (p3 : Int64) : Option (Int64) :=
  if p1 = p2 then (
  some p3) else (
  if p2 = 6 then (
  o_cP (f_X4_fromWhole 0 p3) fun x3 =>
  some x3) else (
  if p2 = 7 then (
  if p1 = 6 then (
  o_cP (f_X4_fromSingle 1 p3) fun x2 =>
  some x2) else (
  o_cP (f_X4_fromWhole 1 p3) fun x1 =>
  some x1)) else (
  some p3)))
set_option maxHeartbeats 4000000 in
set_option maxRecDepth 100000 in
theorem c_X2_widened {l : Launch} {D : va_G} {Y : Nat → ClassId} {aR : Nat → Nat} {A : Nat → Prop} {p1 : Int32} {p2 : Int32} {p3 : Int64} {r : Int64} (hf : f_X2_widened p1 p2 p3 = some r) : jq_P l D Y aR A yX2_widened cX2_widened 4 (some .long) 3 86 [.int p1, .int p2, .long p3] (some (.long r)) := by
  unfold f_X2_widened at hf
  refine jq_enterP (by decide) (Nat.le_of_ble_eq_true rfl) fun p e s m args below meth c ls H locs hX hS hl => ?_
  have hl : lv_has ls 4 [(0, .int p1), (1, .int p2), (2, .long p3)] := hl
  have hx := hX.1
  have hb := hX.2.1
  have hm := hX.2.2.1
  have ho := hX.2.2.2.1
  have ht := hX.2.2.2.2.1
  have hn := hX.2.2.2.2.2.1.2.1
  refine lv_iload_n hx hb dX2_widened_0 rfl (lv_at hl 0 rfl) ?_
  refine lv_iload_n hx hb dX2_widened_1 rfl (lv_at hl 1 rfl) ?_
  refine lv_icmp_ne (tgt := 7) hx hb dX2_widened_2 (by decide) (fun c1 => ?_) (fun c1 => ?_)
  · replace hf := o_f hf c1
    refine lv_iload_n hx hb dX2_widened_7 rfl (lv_at hl 1 rfl) ?_
    refine lv_bipush (v := 6) hx hb dX2_widened_8 (by decide) ?_
    refine lv_icmp_ne (tgt := 21) hx hb dX2_widened_10 (by decide) (fun c2 => ?_) (fun c2 => ?_)
    · replace hf := o_f hf c2
      refine lv_iload_n hx hb dX2_widened_21 rfl (lv_at hl 1 rfl) ?_
      refine lv_bipush (v := 7) hx hb dX2_widened_22 (by decide) ?_
      refine lv_icmp_ne (tgt := 51) hx hb dX2_widened_24 (by decide) (fun c3 => ?_) (fun c3 => ?_)
      · replace hf := o_f hf c3
        refine lv_lload_n hx hb dX2_widened_51 rfl (lv_at hl 2 rfl) ?_
        cases hf
        exact jq_lret hX hS dX2_widened_52 ⟨rfl, rfl, rfl, rfl⟩
      · replace hf := o_t hf c3
        refine lv_iload_n hx hb dX2_widened_27 rfl (lv_at hl 0 rfl) ?_
        refine lv_bipush (v := 6) hx hb dX2_widened_28 (by decide) ?_
        refine lv_icmp_ne (tgt := 43) hx hb dX2_widened_30 (by decide) (fun c4 => ?_) (fun c4 => ?_)
        · replace hf := o_f hf c4
          refine jq_gets (k := 1) hX hS (by decide) qw221 dX2_widened_43 ?_
          refine lv_lload_n hx hb dX2_widened_46 rfl (lv_at hl 2 rfl) ?_
          replace hf := o_cP_e hf
          obtain ⟨x1, hq1, hf⟩ := hf
          refine jq_doP hX hS (jq_okVN (As := [.long p3]) (rest := []) hx hb hm ho ht hn (jq_const hX hS (by decide)) qn491 qw493 qs38 qw494 qw12 hy_X4_fromWhole rfl hl.1 (Nat.le_of_ble_eq_true rfl) dX2_widened_47) (c_X4_fromWhole (by decide) hq1) (Nat.le_of_ble_eq_true rfl) (Nat.le_of_ble_eq_true rfl) (Nat.le_refl _) (Nat.le_refl _) (fun locs hS' => ?_)
          clear hS
          have hS := hS'
          clear hS'
          cases hf
          exact jq_lret hX hS dX2_widened_50 ⟨rfl, rfl, rfl, rfl⟩
        · replace hf := o_t hf c4
          refine jq_gets (k := 1) hX hS (by decide) qw221 dX2_widened_33 ?_
          refine lv_lload_n hx hb dX2_widened_36 rfl (lv_at hl 2 rfl) ?_
          replace hf := o_cP_e hf
          obtain ⟨x2, hq2, hf⟩ := hf
          refine jq_doP hX hS (jq_okVN (As := [.long p3]) (rest := []) hx hb hm ho ht hn (jq_const hX hS (by decide)) qn510 qw512 qs41 qw513 qw12 hy_X4_fromSingle rfl hl.1 (Nat.le_of_ble_eq_true rfl) dX2_widened_37) (c_X4_fromSingle (by decide) hq2) (Nat.le_of_ble_eq_true rfl) (Nat.le_of_ble_eq_true rfl) (Nat.le_refl _) (Nat.le_refl _) (fun locs hS' => ?_)
          clear hS
          have hS := hS'
          clear hS'
          refine lv_goto (tgt := 50) hx hb dX2_widened_40 (by decide) ?_
          cases hf
          exact jq_lret hX hS dX2_widened_50 ⟨rfl, rfl, rfl, rfl⟩
    · replace hf := o_t hf c2
      refine jq_gets (k := 0) hX hS (by decide) qw197 dX2_widened_13 ?_
      refine lv_lload_n hx hb dX2_widened_16 rfl (lv_at hl 2 rfl) ?_
      replace hf := o_cP_e hf
      obtain ⟨x3, hq3, hf⟩ := hf
      refine jq_doP hX hS (jq_okVN (As := [.long p3]) (rest := []) hx hb hm ho ht hn (jq_const hX hS (by decide)) qn491 qw493 qs38 qw494 qw12 hy_X4_fromWhole rfl hl.1 (Nat.le_of_ble_eq_true rfl) dX2_widened_17) (c_X4_fromWhole (by decide) hq3) (Nat.le_of_ble_eq_true rfl) (Nat.le_of_ble_eq_true rfl) (Nat.le_refl _) (Nat.le_refl _) (fun locs hS' => ?_)
      clear hS
      have hS := hS'
      clear hS'
      cases hf
      exact jq_lret hX hS dX2_widened_20 ⟨rfl, rfl, rfl, rfl⟩
  · replace hf := o_t hf c1
    refine lv_lload_n hx hb dX2_widened_5 rfl (lv_at hl 2 rfl) ?_
    cases hf
    exact jq_lret hX hS dX2_widened_6 ⟨rfl, rfl, rfl, rfl⟩
theorem dX7_sum_0 : decode cX7_sum 0 = .ok (.iload_n 0, 1) := by decide +kernel
theorem dX7_sum_1 : decode cX7_sum 1 = .ok (.tableswitch 55 4 7 #[31, 55, 37, 46], 31) := by decide +kernel
theorem dX7_sum_32 : decode cX7_sum 32 = .ok (.lload_n 1, 1) := by decide +kernel
theorem dX7_sum_33 : decode cX7_sum 33 = .ok (.lload_n 3, 1) := by decide +kernel
theorem dX7_sum_34 : decode cX7_sum 34 = .ok (.ladd, 1) := by decide +kernel
theorem dX7_sum_35 : decode cX7_sum 35 = .ok (.l2i, 1) := by decide +kernel
theorem dX7_sum_36 : decode cX7_sum 36 = .ok (.i2l, 1) := by decide +kernel
theorem dX7_sum_37 : decode cX7_sum 37 = .ok (.lreturn, 1) := by decide +kernel
theorem dX7_sum_38 : decode cX7_sum 38 = .ok (.getstatic 175, 3) := by decide +kernel
theorem dX7_sum_41 : decode cX7_sum 41 = .ok (.lload_n 1, 1) := by decide +kernel
theorem dX7_sum_42 : decode cX7_sum 42 = .ok (.lload_n 3, 1) := by decide +kernel
theorem dX7_sum_43 : decode cX7_sum 43 = .ok (.invokevirtual 181, 3) := by decide +kernel
theorem dX7_sum_46 : decode cX7_sum 46 = .ok (.lreturn, 1) := by decide +kernel
theorem dX7_sum_47 : decode cX7_sum 47 = .ok (.getstatic 185, 3) := by decide +kernel
theorem dX7_sum_50 : decode cX7_sum 50 = .ok (.lload_n 1, 1) := by decide +kernel
theorem dX7_sum_51 : decode cX7_sum 51 = .ok (.lload_n 3, 1) := by decide +kernel
theorem dX7_sum_52 : decode cX7_sum 52 = .ok (.invokevirtual 181, 3) := by decide +kernel
theorem dX7_sum_55 : decode cX7_sum 55 = .ok (.lreturn, 1) := by decide +kernel
theorem dX7_sum_56 : decode cX7_sum 56 = .ok (.lload_n 1, 1) := by decide +kernel
theorem dX7_sum_57 : decode cX7_sum 57 = .ok (.lload_n 3, 1) := by decide +kernel
theorem dX7_sum_58 : decode cX7_sum 58 = .ok (.ladd, 1) := by decide +kernel
theorem dX7_sum_59 : decode cX7_sum 59 = .ok (.lreturn, 1) := by decide +kernel
theorem hy_X7_sum : yX7_sum.cls ≠ "java/lang/invoke/MethodHandle" ∧ yX7_sum.cls ≠ "java/lang/invoke/VarHandle" ∧ (parseMethodDescriptor yX7_sum.desc).map (fun d => d.parameters.length) = some 3 := ⟨by decide, by decide, by decide +kernel⟩
def f_X7_sum (p1 : Int32) (p2 : Int64) (p3 : Int64) : Option (Int64) :=
  if p1 = 4 then (
  some (((((p2 + p3)).toInt32)).toInt64)) else (
  if p1 = 6 then (
  o_cP (f_X4_sumOf 0 p2 p3) fun x1 =>
  some x1) else (
  if p1 = 7 then (
  o_cP (f_X4_sumOf 1 p2 p3) fun x2 =>
  some x2) else (
  if p1 = 5 then (
  some (p2 + p3)) else (
  some (p2 + p3)))))
set_option maxHeartbeats 4000000 in
set_option maxRecDepth 100000 in
theorem c_X7_sum {l : Launch} {D : va_G} {Y : Nat → ClassId} {aR : Nat → Nat} {A : Nat → Prop} {p1 : Int32} {p2 : Int64} {p3 : Int64} {r : Int64} (hf : f_X7_sum p1 p2 p3 = some r) : jq_P l D Y aR A yX7_sum cX7_sum 5 (some .long) 4 106 [.int p1, .long p2, .long p3] (some (.long r)) := by
  unfold f_X7_sum at hf
  refine jq_enterP (by decide) (Nat.le_of_ble_eq_true rfl) fun p e s m args below meth c ls H locs hX hS hl => ?_
  have hl : lv_has ls 5 [(0, .int p1), (1, .long p2), (3, .long p3)] := hl
  have hx := hX.1
  have hb := hX.2.1
  have hm := hX.2.2.1
  have ho := hX.2.2.2.1
  have ht := hX.2.2.2.2.1
  have hn := hX.2.2.2.2.2.1.2.1
  refine lv_iload_n hx hb dX7_sum_0 rfl (lv_at hl 0 rfl) ?_
  by_cases c1 : p1 = 4
  · replace hf := o_t hf c1
    refine lv_tableIn (off := 31) (tgt := 32) hx hb dX7_sum_1 (by rcases c1 with rfl <;> decide) (by rcases c1 with rfl <;> decide) (by rcases c1 with rfl <;> rfl) (by decide) ?_
    refine lv_lload_n hx hb dX7_sum_32 rfl (lv_at hl 1 rfl) ?_
    refine lv_lload_n hx hb dX7_sum_33 rfl (lv_at hl 2 rfl) ?_
    refine lv_ladd hx hb dX7_sum_34 ?_
    refine lv_l2i hx hb dX7_sum_35 rfl ?_
    refine lv_i2l hx hb dX7_sum_36 rfl ?_
    cases hf
    exact jq_lret hX hS dX7_sum_37 ⟨rfl, rfl, rfl, rfl⟩
  replace hf := o_f hf c1
  by_cases c2 : p1 = 6
  · replace hf := o_t hf c2
    refine lv_tableIn (off := 37) (tgt := 38) hx hb dX7_sum_1 (by rcases c2 with rfl <;> decide) (by rcases c2 with rfl <;> decide) (by rcases c2 with rfl <;> rfl) (by decide) ?_
    refine jq_gets (k := 0) hX hS (by decide) qw547 dX7_sum_38 ?_
    refine lv_lload_n hx hb dX7_sum_41 rfl (lv_at hl 1 rfl) ?_
    refine lv_lload_n hx hb dX7_sum_42 rfl (lv_at hl 2 rfl) ?_
    replace hf := o_cP_e hf
    obtain ⟨x1, hq1, hf⟩ := hf
    refine jq_doP hX hS (jq_okVN (As := [.long p2, .long p3]) (rest := []) hx hb hm ho ht hn (jq_const hX hS (by decide)) qn548 qw550 qs48 qw551 qw12 hy_X4_sumOf rfl hl.1 (Nat.le_of_ble_eq_true rfl) dX7_sum_43) (c_X4_sumOf (by decide) hq1) (Nat.le_of_ble_eq_true rfl) (Nat.le_of_ble_eq_true rfl) (Nat.le_refl _) (Nat.le_refl _) (fun locs hS' => ?_)
    clear hS
    have hS := hS'
    clear hS'
    cases hf
    exact jq_lret hX hS dX7_sum_46 ⟨rfl, rfl, rfl, rfl⟩
  replace hf := o_f hf c2
  by_cases c3 : p1 = 7
  · replace hf := o_t hf c3
    refine lv_tableIn (off := 46) (tgt := 47) hx hb dX7_sum_1 (by rcases c3 with rfl <;> decide) (by rcases c3 with rfl <;> decide) (by rcases c3 with rfl <;> rfl) (by decide) ?_
    refine jq_gets (k := 1) hX hS (by decide) qw560 dX7_sum_47 ?_
    refine lv_lload_n hx hb dX7_sum_50 rfl (lv_at hl 1 rfl) ?_
    refine lv_lload_n hx hb dX7_sum_51 rfl (lv_at hl 2 rfl) ?_
    replace hf := o_cP_e hf
    obtain ⟨x2, hq2, hf⟩ := hf
    refine jq_doP hX hS (jq_okVN (As := [.long p2, .long p3]) (rest := []) hx hb hm ho ht hn (jq_const hX hS (by decide)) qn548 qw550 qs48 qw551 qw12 hy_X4_sumOf rfl hl.1 (Nat.le_of_ble_eq_true rfl) dX7_sum_52) (c_X4_sumOf (by decide) hq2) (Nat.le_of_ble_eq_true rfl) (Nat.le_of_ble_eq_true rfl) (Nat.le_refl _) (Nat.le_refl _) (fun locs hS' => ?_)
    clear hS
    have hS := hS'
    clear hS'
    cases hf
    exact jq_lret hX hS dX7_sum_55 ⟨rfl, rfl, rfl, rfl⟩
  replace hf := o_f hf c3
  by_cases c4 : p1 = 5
  · replace hf := o_t hf c4
    refine lv_tableIn (off := 55) (tgt := 56) hx hb dX7_sum_1 (by rcases c4 with rfl <;> decide) (by rcases c4 with rfl <;> decide) (by rcases c4 with rfl <;> rfl) (by decide) ?_
    refine lv_lload_n hx hb dX7_sum_56 rfl (lv_at hl 1 rfl) ?_
    refine lv_lload_n hx hb dX7_sum_57 rfl (lv_at hl 2 rfl) ?_
    refine lv_ladd hx hb dX7_sum_58 ?_
    cases hf
    exact jq_lret hX hS dX7_sum_59 ⟨rfl, rfl, rfl, rfl⟩
  replace hf := o_f hf c4
  refine lv_tableOut (tgt := 56) hx hb dX7_sum_1 (by have e0 := sw_ne c1 (n := 4) (by decide); have e1 := sw_ne c2 (n := 6) (by decide); have e2 := sw_ne c3 (n := 7) (by decide); have e3 := sw_ne c4 (n := 5) (by decide); omega) (by decide) ?_
  refine lv_lload_n hx hb dX7_sum_56 rfl (lv_at hl 1 rfl) ?_
  refine lv_lload_n hx hb dX7_sum_57 rfl (lv_at hl 2 rfl) ?_
  refine lv_ladd hx hb dX7_sum_58 ?_
  cases hf
  exact jq_lret hX hS dX7_sum_59 ⟨rfl, rfl, rfl, rfl⟩
theorem dX7_isAbove_0 : decode cX7_isAbove 0 = .ok (.iload_n 0, 1) := by decide +kernel
theorem dX7_isAbove_1 : decode cX7_isAbove 1 = .ok (.lookupswitch 45 #[(6, 27), (7, 36)], 27) := by decide +kernel
theorem dX7_isAbove_28 : decode cX7_isAbove 28 = .ok (.getstatic 175, 3) := by decide +kernel
theorem dX7_isAbove_31 : decode cX7_isAbove 31 = .ok (.lload_n 1, 1) := by decide +kernel
theorem dX7_isAbove_32 : decode cX7_isAbove 32 = .ok (.lload_n 3, 1) := by decide +kernel
theorem dX7_isAbove_33 : decode cX7_isAbove 33 = .ok (.invokevirtual 191, 3) := by decide +kernel
theorem dX7_isAbove_36 : decode cX7_isAbove 36 = .ok (.ireturn, 1) := by decide +kernel
theorem dX7_isAbove_37 : decode cX7_isAbove 37 = .ok (.getstatic 185, 3) := by decide +kernel
theorem dX7_isAbove_40 : decode cX7_isAbove 40 = .ok (.lload_n 1, 1) := by decide +kernel
theorem dX7_isAbove_41 : decode cX7_isAbove 41 = .ok (.lload_n 3, 1) := by decide +kernel
theorem dX7_isAbove_42 : decode cX7_isAbove 42 = .ok (.invokevirtual 191, 3) := by decide +kernel
theorem dX7_isAbove_45 : decode cX7_isAbove 45 = .ok (.ireturn, 1) := by decide +kernel
theorem dX7_isAbove_46 : decode cX7_isAbove 46 = .ok (.lload_n 1, 1) := by decide +kernel
theorem dX7_isAbove_47 : decode cX7_isAbove 47 = .ok (.lload_n 3, 1) := by decide +kernel
theorem dX7_isAbove_48 : decode cX7_isAbove 48 = .ok (.lcmp, 1) := by decide +kernel
theorem dX7_isAbove_56 : decode cX7_isAbove 56 = .ok (.iconst 0, 1) := by decide +kernel
theorem dX7_isAbove_57 : decode cX7_isAbove 57 = .ok (.ireturn, 1) := by decide +kernel
theorem dX7_isAbove_52 : decode cX7_isAbove 52 = .ok (.iconst 1, 1) := by decide +kernel
theorem dX7_isAbove_53 : decode cX7_isAbove 53 = .ok (.goto 4, 3) := by decide +kernel
theorem dX7_isAbove_49 : decode cX7_isAbove 49 = .ok (.ifCond .le 7, 3) := by decide +kernel
theorem hy_X7_isAbove : yX7_isAbove.cls ≠ "java/lang/invoke/MethodHandle" ∧ yX7_isAbove.cls ≠ "java/lang/invoke/VarHandle" ∧ (parseMethodDescriptor yX7_isAbove.desc).map (fun d => d.parameters.length) = some 3 := ⟨by decide, by decide, by decide +kernel⟩
def f_X7_isAbove (p1 : Int32) (p2 : Int64) (p3 : Int64) : Option (Int32) :=
  if p1 = 6 then (
  o_cP (f_X4_isAbove 0 p2 p3) fun x1 =>
  o_ck (x1 = 0 ∨ x1 = 1) (some x1)) else (
  if p1 = 7 then (
  o_cP (f_X4_isAbove 1 p2 p3) fun x2 =>
  o_ck (x2 = 0 ∨ x2 = 1) (some x2)) else (
  if p2 ≤ p3 then (
  some 0) else (
  some 1)))
set_option maxHeartbeats 4000000 in
set_option maxRecDepth 100000 in
theorem c_X7_isAbove {l : Launch} {D : va_G} {Y : Nat → ClassId} {aR : Nat → Nat} {A : Nat → Prop} {p1 : Int32} {p2 : Int64} {p3 : Int64} {r : Int32} (hf : f_X7_isAbove p1 p2 p3 = some r) : jq_P l D Y aR A yX7_isAbove cX7_isAbove 5 (some .boolean) 3 68 [.int p1, .long p2, .long p3] (some (.int r)) := by
  unfold f_X7_isAbove at hf
  refine jq_enterP (by decide) (Nat.le_of_ble_eq_true rfl) fun p e s m args below meth c ls H locs hX hS hl => ?_
  have hl : lv_has ls 5 [(0, .int p1), (1, .long p2), (3, .long p3)] := hl
  have hx := hX.1
  have hb := hX.2.1
  have hm := hX.2.2.1
  have ho := hX.2.2.2.1
  have ht := hX.2.2.2.2.1
  have hn := hX.2.2.2.2.2.1.2.1
  refine lv_iload_n hx hb dX7_isAbove_0 rfl (lv_at hl 0 rfl) ?_
  by_cases c1 : p1 = 6
  · replace hf := o_t hf c1
    refine lv_lookup (off := 27) (tgt := 28) hx hb dX7_isAbove_1 (by decide) (by rcases c1 with rfl <;> rfl) (by decide) ?_
    refine jq_gets (k := 0) hX hS (by decide) qw547 dX7_isAbove_28 ?_
    refine lv_lload_n hx hb dX7_isAbove_31 rfl (lv_at hl 1 rfl) ?_
    refine lv_lload_n hx hb dX7_isAbove_32 rfl (lv_at hl 2 rfl) ?_
    replace hf := o_cP_e hf
    obtain ⟨x1, hq1, hf⟩ := hf
    refine jq_doP hX hS (jq_okVN (As := [.long p2, .long p3]) (rest := []) hx hb hm ho ht hn (jq_const hX hS (by decide)) qn581 qw583 qs55 qw584 qw12 hy_X4_isAbove rfl hl.1 (Nat.le_of_ble_eq_true rfl) dX7_isAbove_33) (c_X4_isAbove (by decide) hq1) (Nat.le_of_ble_eq_true rfl) (Nat.le_of_ble_eq_true rfl) (Nat.le_refl _) (Nat.le_refl _) (fun locs hS' => ?_)
    clear hS
    have hS := hS'
    clear hS'
    replace hf := o_ck_e hf
    obtain ⟨hc1, hf⟩ := hf
    cases hf
    exact jq_zret hX hS (qz_b hc1) dX7_isAbove_36 ⟨rfl, rfl, rfl, rfl⟩
  replace hf := o_f hf c1
  by_cases c2 : p1 = 7
  · replace hf := o_t hf c2
    refine lv_lookup (off := 36) (tgt := 37) hx hb dX7_isAbove_1 (by decide) (by rcases c2 with rfl <;> rfl) (by decide) ?_
    refine jq_gets (k := 1) hX hS (by decide) qw560 dX7_isAbove_37 ?_
    refine lv_lload_n hx hb dX7_isAbove_40 rfl (lv_at hl 1 rfl) ?_
    refine lv_lload_n hx hb dX7_isAbove_41 rfl (lv_at hl 2 rfl) ?_
    replace hf := o_cP_e hf
    obtain ⟨x2, hq2, hf⟩ := hf
    refine jq_doP hX hS (jq_okVN (As := [.long p2, .long p3]) (rest := []) hx hb hm ho ht hn (jq_const hX hS (by decide)) qn581 qw583 qs55 qw584 qw12 hy_X4_isAbove rfl hl.1 (Nat.le_of_ble_eq_true rfl) dX7_isAbove_42) (c_X4_isAbove (by decide) hq2) (Nat.le_of_ble_eq_true rfl) (Nat.le_of_ble_eq_true rfl) (Nat.le_refl _) (Nat.le_refl _) (fun locs hS' => ?_)
    clear hS
    have hS := hS'
    clear hS'
    replace hf := o_ck_e hf
    obtain ⟨hc2, hf⟩ := hf
    cases hf
    exact jq_zret hX hS (qz_b hc2) dX7_isAbove_45 ⟨rfl, rfl, rfl, rfl⟩
  replace hf := o_f hf c2
  refine lv_lookup (off := 45) (tgt := 46) hx hb dX7_isAbove_1 (by decide) (by show Op.lookupswitch.offset [(6, 27), (7, 36)] _ _ = _; rw [lv_osw c1 (by decide), lv_osw c2 (by decide)]; rfl) (by decide) ?_
  refine lv_lload_n hx hb dX7_isAbove_46 rfl (lv_at hl 1 rfl) ?_
  refine lv_lload_n hx hb dX7_isAbove_47 rfl (lv_at hl 2 rfl) ?_
  refine W.lcmp hx hb dX7_isAbove_48 ?_
  refine lv_if_le (tgt := 56) hx hb dX7_isAbove_49 (by decide) (fun c3 => ?_) (fun c3 => ?_)
  · replace hf := o_t hf (qc_le.mp c3)
    refine lv_iconst (v := 0) hx hb dX7_isAbove_56 (by decide) ?_
    cases hf
    exact jq_zret hX hS (by decide) dX7_isAbove_57 ⟨rfl, rfl, rfl, rfl⟩
  · replace hf := o_f hf (fun z => c3 (qc_le.mpr z))
    refine lv_iconst (v := 1) hx hb dX7_isAbove_52 (by decide) ?_
    refine lv_goto (tgt := 57) hx hb dX7_isAbove_53 (by decide) ?_
    cases hf
    exact jq_zret hX hS (by decide) dX7_isAbove_57 ⟨rfl, rfl, rfl, rfl⟩
