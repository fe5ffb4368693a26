theorem dX11_in_0 : decode cX11_in 0 = .ok (.lload_n 0, 1) := by decide +kernel
theorem dX11_in_1 : decode cX11_in 1 = .ok (.lload_n 2, 1) := by decide +kernel
theorem dX11_in_2 : decode cX11_in 2 = .ok (.lcmp, 1) := by decide +kernel
theorem dX11_in_17 : decode cX11_in 17 = .ok (.iconst 0, 1) := by decide +kernel
theorem dX11_in_18 : decode cX11_in 18 = .ok (.ireturn, 1) := by decide +kernel
theorem dX11_in_6 : decode cX11_in 6 = .ok (.lload_n 0, 1) := by decide +kernel
theorem dX11_in_7 : decode cX11_in 7 = .ok (.lload 4, 2) := by decide +kernel
theorem dX11_in_9 : decode cX11_in 9 = .ok (.lcmp, 1) := by decide +kernel
theorem dX11_in_13 : decode cX11_in 13 = .ok (.iconst 1, 1) := by decide +kernel
theorem dX11_in_14 : decode cX11_in 14 = .ok (.goto 4, 3) := by decide +kernel
theorem dX11_in_10 : decode cX11_in 10 = .ok (.ifCond .gt 7, 3) := by decide +kernel
theorem dX11_in_3 : decode cX11_in 3 = .ok (.ifCond .lt 14, 3) := by decide +kernel
theorem hy_X11_in : yX11_in.cls ≠ "java/lang/invoke/MethodHandle" ∧ yX11_in.cls ≠ "java/lang/invoke/VarHandle" ∧ (parseMethodDescriptor yX11_in.desc).map (fun d => d.parameters.length) = some 3 := ⟨by decide, by decide, by decide +kernel⟩
def f_X11_in (p1 : Int64) (p2 : Int64) (p3 : Int64) : Option (Int32) :=
  if p1 < p2 then (
  some 0) else (
  if p3 < p1 then (
  some 0) else (
  some 1))
set_option maxHeartbeats 4000000 in
set_option maxRecDepth 100000 in
theorem c_X11_in {l : Launch} {D : va_G} {Y : Nat → ClassId} {aR : Nat → Nat} {A : Nat → Prop} {p1 : Int64} {p2 : Int64} {p3 : Int64} {r : Int32} (hf : f_X11_in p1 p2 p3 = some r) : jq_P l D Y aR A yX11_in cX11_in 6 (some .boolean) 0 0 [.long p1, .long p2, .long p3] (some (.int r)) := by
  unfold f_X11_in at hf
  refine jq_enterP (by decide) (Nat.le_of_ble_eq_true rfl) fun p e s m args below meth c ls H locs hX hS hl => ?_
  have hl : lv_has ls 6 [(0, .long p1), (2, .long p2), (4, .long p3)] := hl
  have hx := hX.1
  have hb := hX.2.1
  have hm := hX.2.2.1
  have ho := hX.2.2.2.1
  have ht := hX.2.2.2.2.1
  have hn := hX.2.2.2.2.2.1.2.1
  refine lv_lload_n hx hb dX11_in_0 rfl (lv_at hl 0 rfl) ?_
  refine lv_lload_n hx hb dX11_in_1 rfl (lv_at hl 1 rfl) ?_
  refine W.lcmp hx hb dX11_in_2 ?_
  refine lv_if_lt (tgt := 17) hx hb dX11_in_3 (by decide) (fun c1 => ?_) (fun c1 => ?_)
  · replace hf := o_t hf (qc_lt.mp c1)
    refine lv_iconst (v := 0) hx hb dX11_in_17 (by decide) ?_
    obtain rfl := Option.some.inj hf
    exact jq_zret hX hS (by decide) dX11_in_18 ⟨rfl, rfl, rfl, rfl⟩
  · replace hf := o_f hf (fun z => c1 (qc_lt.mpr z))
    refine lv_lload_n hx hb dX11_in_6 rfl (lv_at hl 0 rfl) ?_
    refine lv_lload hx hb dX11_in_7 (lv_at hl 2 rfl) ?_
    refine W.lcmp hx hb dX11_in_9 ?_
    refine lv_if_gt (tgt := 17) hx hb dX11_in_10 (by decide) (fun c2 => ?_) (fun c2 => ?_)
    · replace hf := o_t hf (qc_gt.mp c2)
      refine lv_iconst (v := 0) hx hb dX11_in_17 (by decide) ?_
      obtain rfl := Option.some.inj hf
      exact jq_zret hX hS (by decide) dX11_in_18 ⟨rfl, rfl, rfl, rfl⟩
    · replace hf := o_f hf (fun z => c2 (qc_gt.mpr z))
      refine lv_iconst (v := 1) hx hb dX11_in_13 (by decide) ?_
      refine lv_goto (tgt := 18) hx hb dX11_in_14 (by decide) ?_
      obtain rfl := Option.some.inj hf
      exact jq_zret hX hS (by decide) dX11_in_18 ⟨rfl, rfl, rfl, rfl⟩
theorem dX11_cast_0 : decode cX11_cast 0 = .ok (.iload_n 2, 1) := by decide +kernel
theorem dX11_cast_1 : decode cX11_cast 1 = .ok (.tableswitch 120 0 7 #[47, 59, 64, 69, 74, 120, 78, 100], 47) := by decide +kernel
theorem dX11_cast_48 : decode cX11_cast 48 = .ok (.lload_n 0, 1) := by decide +kernel
theorem dX11_cast_49 : decode cX11_cast 49 = .ok (.lconst 0, 1) := by decide +kernel
theorem dX11_cast_50 : decode cX11_cast 50 = .ok (.lcmp, 1) := by decide +kernel
theorem dX11_cast_58 : decode cX11_cast 58 = .ok (.lconst 0, 1) := by decide +kernel
theorem dX11_cast_59 : decode cX11_cast 59 = .ok (.lreturn, 1) := by decide +kernel
theorem dX11_cast_54 : decode cX11_cast 54 = .ok (.lconst 1, 1) := by decide +kernel
theorem dX11_cast_55 : decode cX11_cast 55 = .ok (.goto 4, 3) := by decide +kernel
theorem dX11_cast_51 : decode cX11_cast 51 = .ok (.ifCond .eq 7, 3) := by decide +kernel
theorem dX11_cast_60 : decode cX11_cast 60 = .ok (.lload_n 0, 1) := by decide +kernel
theorem dX11_cast_61 : decode cX11_cast 61 = .ok (.l2i, 1) := by decide +kernel
theorem dX11_cast_62 : decode cX11_cast 62 = .ok (.i2b, 1) := by decide +kernel
theorem dX11_cast_63 : decode cX11_cast 63 = .ok (.i2l, 1) := by decide +kernel
theorem dX11_cast_64 : decode cX11_cast 64 = .ok (.lreturn, 1) := by decide +kernel
theorem dX11_cast_65 : decode cX11_cast 65 = .ok (.lload_n 0, 1) := by decide +kernel
theorem dX11_cast_66 : decode cX11_cast 66 = .ok (.l2i, 1) := by decide +kernel
theorem dX11_cast_67 : decode cX11_cast 67 = .ok (.i2s, 1) := by decide +kernel
theorem dX11_cast_68 : decode cX11_cast 68 = .ok (.i2l, 1) := by decide +kernel
theorem dX11_cast_69 : decode cX11_cast 69 = .ok (.lreturn, 1) := by decide +kernel
theorem dX11_cast_70 : decode cX11_cast 70 = .ok (.lload_n 0, 1) := by decide +kernel
theorem dX11_cast_71 : decode cX11_cast 71 = .ok (.l2i, 1) := by decide +kernel
theorem dX11_cast_72 : decode cX11_cast 72 = .ok (.i2c, 1) := by decide +kernel
theorem dX11_cast_73 : decode cX11_cast 73 = .ok (.i2l, 1) := by decide +kernel
theorem dX11_cast_74 : decode cX11_cast 74 = .ok (.lreturn, 1) := by decide +kernel
theorem dX11_cast_75 : decode cX11_cast 75 = .ok (.lload_n 0, 1) := by decide +kernel
theorem dX11_cast_76 : decode cX11_cast 76 = .ok (.l2i, 1) := by decide +kernel
theorem dX11_cast_77 : decode cX11_cast 77 = .ok (.i2l, 1) := by decide +kernel
theorem dX11_cast_78 : decode cX11_cast 78 = .ok (.lreturn, 1) := by decide +kernel
theorem dX11_cast_79 : decode cX11_cast 79 = .ok (.lload_n 0, 1) := by decide +kernel
theorem dX11_cast_80 : decode cX11_cast 80 = .ok (.ldc2_w 105, 3) := by decide +kernel
theorem dX11_cast_83 : decode cX11_cast 83 = .ok (.land, 1) := by decide +kernel
theorem dX11_cast_84 : decode cX11_cast 84 = .ok (.ldc2_w 107, 3) := by decide +kernel
theorem dX11_cast_87 : decode cX11_cast 87 = .ok (.lcmp, 1) := by decide +kernel
theorem dX11_cast_97 : decode cX11_cast 97 = .ok (.lload_n 0, 1) := by decide +kernel
theorem dX11_cast_98 : decode cX11_cast 98 = .ok (.l2i, 1) := by decide +kernel
theorem dX11_cast_99 : decode cX11_cast 99 = .ok (.i2l, 1) := by decide +kernel
theorem dX11_cast_100 : decode cX11_cast 100 = .ok (.lreturn, 1) := by decide +kernel
theorem dX11_cast_91 : decode cX11_cast 91 = .ok (.ldc2_w 109, 3) := by decide +kernel
theorem dX11_cast_94 : decode cX11_cast 94 = .ok (.goto 6, 3) := by decide +kernel
theorem dX11_cast_88 : decode cX11_cast 88 = .ok (.ifCond .le 9, 3) := by decide +kernel
theorem dX11_cast_101 : decode cX11_cast 101 = .ok (.lload_n 0, 1) := by decide +kernel
theorem dX11_cast_102 : decode cX11_cast 102 = .ok (.ldc2_w 111, 3) := by decide +kernel
theorem dX11_cast_105 : decode cX11_cast 105 = .ok (.land, 1) := by decide +kernel
theorem dX11_cast_106 : decode cX11_cast 106 = .ok (.ldc2_w 113, 3) := by decide +kernel
theorem dX11_cast_109 : decode cX11_cast 109 = .ok (.lcmp, 1) := by decide +kernel
theorem dX11_cast_119 : decode cX11_cast 119 = .ok (.lload_n 0, 1) := by decide +kernel
theorem dX11_cast_120 : decode cX11_cast 120 = .ok (.lreturn, 1) := by decide +kernel
theorem dX11_cast_113 : decode cX11_cast 113 = .ok (.ldc2_w 115, 3) := by decide +kernel
theorem dX11_cast_116 : decode cX11_cast 116 = .ok (.goto 4, 3) := by decide +kernel
theorem dX11_cast_110 : decode cX11_cast 110 = .ok (.ifCond .le 9, 3) := by decide +kernel
theorem dX11_cast_121 : decode cX11_cast 121 = .ok (.lload_n 0, 1) := by decide +kernel
theorem dX11_cast_122 : decode cX11_cast 122 = .ok (.lreturn, 1) := by decide +kernel
theorem hy_X11_cast : yX11_cast.cls ≠ "java/lang/invoke/MethodHandle" ∧ yX11_cast.cls ≠ "java/lang/invoke/VarHandle" ∧ (parseMethodDescriptor yX11_cast.desc).map (fun d => d.parameters.length) = some 2 := ⟨by decide, by decide, by decide +kernel⟩
def f_X11_cast (p1 : Int64) (p2 : Int32) : Option (Int64) :=
  if p2 = 0 then (
  if p1 = 0 then (
  some 0) else (
  some 1)) else (
  if p2 = 1 then (
  some ((((((p1).toInt32)).toInt8.toInt32)).toInt64)) else (
  if p2 = 2 then (
  some ((((((p1).toInt32)).toInt16.toInt32)).toInt64)) else (
  if p2 = 3 then (
  some (((((((p1).toInt32)).toUInt32 % 65536).toInt32)).toInt64)) else (
  if p2 = 4 then (
  some ((((p1).toInt32)).toInt64)) else (
  if p2 = 6 then (
  if (p1 &&& (2147483647 : Int64)) ≤ 2139095040 then (
  some ((((p1).toInt32)).toInt64)) else (
  some 2143289344)) else (
  if p2 = 7 then (
  if (p1 &&& (9223372036854775807 : Int64)) ≤ 9218868437227405312 then (
  some p1) else (
  some 9221120237041090560)) else (
  if p2 = 5 then (
  some p1) else (
  some p1))))))))
set_option maxHeartbeats 4000000 in
set_option maxRecDepth 100000 in
theorem c_X11_cast {l : Launch} {D : va_G} {Y : Nat → ClassId} {aR : Nat → Nat} {A : Nat → Prop} {p1 : Int64} {p2 : Int32} {r : Int64} (hf : f_X11_cast p1 p2 = some r) : jq_P l D Y aR A yX11_cast cX11_cast 3 (some .long) 0 0 [.long p1, .int p2] (some (.long r)) := by
  unfold f_X11_cast at hf
  refine jq_enterP (by decide) (Nat.le_of_ble_eq_true rfl) fun p e s m args below meth c ls H locs hX hS hl => ?_
  have hl : lv_has ls 3 [(0, .long p1), (2, .int p2)] := hl
  have hx := hX.1
  have hb := hX.2.1
  have hm := hX.2.2.1
  have ho := hX.2.2.2.1
  have ht := hX.2.2.2.2.1
  have hn := hX.2.2.2.2.2.1.2.1
  refine lv_iload_n hx hb dX11_cast_0 rfl (lv_at hl 1 rfl) ?_
  by_cases c1 : p2 = 0
  · replace hf := o_t hf c1
    refine lv_tableIn (off := 47) (tgt := 48) hx hb dX11_cast_1 (by rcases c1 with rfl <;> decide) (by rcases c1 with rfl <;> decide) (by rcases c1 with rfl <;> rfl) (by decide) ?_
    refine lv_lload_n hx hb dX11_cast_48 rfl (lv_at hl 0 rfl) ?_
    refine lv_lconst (v := 0) hx hb dX11_cast_49 (by decide) ?_
    refine W.lcmp hx hb dX11_cast_50 ?_
    refine lv_if_eq (tgt := 58) hx hb dX11_cast_51 (by decide) (fun c2 => ?_) (fun c2 => ?_)
    · replace hf := o_t hf (qc_eq.mp c2)
      refine lv_lconst (v := 0) hx hb dX11_cast_58 (by decide) ?_
      obtain rfl := Option.some.inj hf
      exact jq_lret hX hS dX11_cast_59 ⟨rfl, rfl, rfl, rfl⟩
    · replace hf := o_f hf (fun z => c2 (qc_eq.mpr z))
      refine lv_lconst (v := 1) hx hb dX11_cast_54 (by decide) ?_
      refine lv_goto (tgt := 59) hx hb dX11_cast_55 (by decide) ?_
      obtain rfl := Option.some.inj hf
      exact jq_lret hX hS dX11_cast_59 ⟨rfl, rfl, rfl, rfl⟩
  replace hf := o_f hf c1
  by_cases c3 : p2 = 1
  · replace hf := o_t hf c3
    refine lv_tableIn (off := 59) (tgt := 60) hx hb dX11_cast_1 (by rcases c3 with rfl <;> decide) (by rcases c3 with rfl <;> decide) (by rcases c3 with rfl <;> rfl) (by decide) ?_
    refine lv_lload_n hx hb dX11_cast_60 rfl (lv_at hl 0 rfl) ?_
    refine lv_l2i hx hb dX11_cast_61 rfl ?_
    refine lv_i2b hx hb dX11_cast_62 rfl ?_
    refine lv_i2l hx hb dX11_cast_63 rfl ?_
    obtain rfl := Option.some.inj hf
    exact jq_lret hX hS dX11_cast_64 ⟨rfl, rfl, rfl, rfl⟩
  replace hf := o_f hf c3
  by_cases c4 : p2 = 2
  · replace hf := o_t hf c4
    refine lv_tableIn (off := 64) (tgt := 65) hx hb dX11_cast_1 (by rcases c4 with rfl <;> decide) (by rcases c4 with rfl <;> decide) (by rcases c4 with rfl <;> rfl) (by decide) ?_
    refine lv_lload_n hx hb dX11_cast_65 rfl (lv_at hl 0 rfl) ?_
    refine lv_l2i hx hb dX11_cast_66 rfl ?_
    refine lv_i2s hx hb dX11_cast_67 rfl ?_
    refine lv_i2l hx hb dX11_cast_68 rfl ?_
    obtain rfl := Option.some.inj hf
    exact jq_lret hX hS dX11_cast_69 ⟨rfl, rfl, rfl, rfl⟩
  replace hf := o_f hf c4
  by_cases c5 : p2 = 3
  · replace hf := o_t hf c5
    refine lv_tableIn (off := 69) (tgt := 70) hx hb dX11_cast_1 (by rcases c5 with rfl <;> decide) (by rcases c5 with rfl <;> decide) (by rcases c5 with rfl <;> rfl) (by decide) ?_
    refine lv_lload_n hx hb dX11_cast_70 rfl (lv_at hl 0 rfl) ?_
    refine lv_l2i hx hb dX11_cast_71 rfl ?_
    refine lv_i2c hx hb dX11_cast_72 rfl ?_
    refine lv_i2l hx hb dX11_cast_73 rfl ?_
    obtain rfl := Option.some.inj hf
    exact jq_lret hX hS dX11_cast_74 ⟨rfl, rfl, rfl, rfl⟩
  replace hf := o_f hf c5
  by_cases c6 : p2 = 4
  · replace hf := o_t hf c6
    refine lv_tableIn (off := 74) (tgt := 75) hx hb dX11_cast_1 (by rcases c6 with rfl <;> decide) (by rcases c6 with rfl <;> decide) (by rcases c6 with rfl <;> rfl) (by decide) ?_
    refine lv_lload_n hx hb dX11_cast_75 rfl (lv_at hl 0 rfl) ?_
    refine lv_l2i hx hb dX11_cast_76 rfl ?_
    refine lv_i2l hx hb dX11_cast_77 rfl ?_
    obtain rfl := Option.some.inj hf
    exact jq_lret hX hS dX11_cast_78 ⟨rfl, rfl, rfl, rfl⟩
  replace hf := o_f hf c6
  by_cases c7 : p2 = 6
  · replace hf := o_t hf c7
    refine lv_tableIn (off := 78) (tgt := 79) hx hb dX11_cast_1 (by rcases c7 with rfl <;> decide) (by rcases c7 with rfl <;> decide) (by rcases c7 with rfl <;> rfl) (by decide) ?_
    refine lv_lload_n hx hb dX11_cast_79 rfl (lv_at hl 0 rfl) ?_
    refine lv_ldc2 (v := 2147483647) hx hb ho (ht _ qw826) dX11_cast_80 ?_
    refine lv_land hx hb dX11_cast_83 ?_
    refine lv_ldc2 (v := 2139095040) hx hb ho (ht _ qw827) dX11_cast_84 ?_
    refine W.lcmp hx hb dX11_cast_87 ?_
    refine lv_if_le (tgt := 97) hx hb dX11_cast_88 (by decide) (fun c8 => ?_) (fun c8 => ?_)
    · replace hf := o_t hf (qc_le.mp c8)
      refine lv_lload_n hx hb dX11_cast_97 rfl (lv_at hl 0 rfl) ?_
      refine lv_l2i hx hb dX11_cast_98 rfl ?_
      refine lv_i2l hx hb dX11_cast_99 rfl ?_
      obtain rfl := Option.some.inj hf
      exact jq_lret hX hS dX11_cast_100 ⟨rfl, rfl, rfl, rfl⟩
    · replace hf := o_f hf (fun z => c8 (qc_le.mpr z))
      refine lv_ldc2 (v := 2143289344) hx hb ho (ht _ qw828) dX11_cast_91 ?_
      refine lv_goto (tgt := 100) hx hb dX11_cast_94 (by decide) ?_
      obtain rfl := Option.some.inj hf
      exact jq_lret hX hS dX11_cast_100 ⟨rfl, rfl, rfl, rfl⟩
  replace hf := o_f hf c7
  by_cases c9 : p2 = 7
  · replace hf := o_t hf c9
    refine lv_tableIn (off := 100) (tgt := 101) hx hb dX11_cast_1 (by rcases c9 with rfl <;> decide) (by rcases c9 with rfl <;> decide) (by rcases c9 with rfl <;> rfl) (by decide) ?_
    refine lv_lload_n hx hb dX11_cast_101 rfl (lv_at hl 0 rfl) ?_
    refine lv_ldc2 (v := 9223372036854775807) hx hb ho (ht _ qw829) dX11_cast_102 ?_
    refine lv_land hx hb dX11_cast_105 ?_
    refine lv_ldc2 (v := 9218868437227405312) hx hb ho (ht _ qw830) dX11_cast_106 ?_
    refine W.lcmp hx hb dX11_cast_109 ?_
    refine lv_if_le (tgt := 119) hx hb dX11_cast_110 (by decide) (fun c10 => ?_) (fun c10 => ?_)
    · replace hf := o_t hf (qc_le.mp c10)
      refine lv_lload_n hx hb dX11_cast_119 rfl (lv_at hl 0 rfl) ?_
      obtain rfl := Option.some.inj hf
      exact jq_lret hX hS dX11_cast_120 ⟨rfl, rfl, rfl, rfl⟩
    · replace hf := o_f hf (fun z => c10 (qc_le.mpr z))
      refine lv_ldc2 (v := 9221120237041090560) hx hb ho (ht _ qw831) dX11_cast_113 ?_
      refine lv_goto (tgt := 120) hx hb dX11_cast_116 (by decide) ?_
      obtain rfl := Option.some.inj hf
      exact jq_lret hX hS dX11_cast_120 ⟨rfl, rfl, rfl, rfl⟩
  replace hf := o_f hf c9
  by_cases c11 : p2 = 5
  · replace hf := o_t hf c11
    refine lv_tableIn (off := 120) (tgt := 121) hx hb dX11_cast_1 (by rcases c11 with rfl <;> decide) (by rcases c11 with rfl <;> decide) (by rcases c11 with rfl <;> rfl) (by decide) ?_
    refine lv_lload_n hx hb dX11_cast_121 rfl (lv_at hl 0 rfl) ?_
    obtain rfl := Option.some.inj hf
    exact jq_lret hX hS dX11_cast_122 ⟨rfl, rfl, rfl, rfl⟩
  replace hf := o_f hf c11
  refine lv_tableOut (tgt := 121) hx hb dX11_cast_1 (by have e0 := sw_ne c1 (n := 0) (by decide); have e1 := sw_ne c3 (n := 1) (by decide); have e2 := sw_ne c4 (n := 2) (by decide); have e3 := sw_ne c5 (n := 3) (by decide); have e4 := sw_ne c6 (n := 4) (by decide); have e5 := sw_ne c7 (n := 6) (by decide); have e6 := sw_ne c9 (n := 7) (by decide); have e7 := sw_ne c11 (n := 5) (by decide); omega) (by decide) ?_
  refine lv_lload_n hx hb dX11_cast_121 rfl (lv_at hl 0 rfl) ?_
  obtain rfl := Option.some.inj hf
  exact jq_lret hX hS dX11_cast_122 ⟨rfl, rfl, rfl, rfl⟩
theorem dX11_isKind_0 : decode cX11_isKind 0 = .ok (.iload_n 0, 1) := by decide +kernel
theorem dX11_isKind_1 : decode cX11_isKind 1 = .ok (.i2l, 1) := by decide +kernel
theorem dX11_isKind_2 : decode cX11_isKind 2 = .ok (.lconst 0, 1) := by decide +kernel
theorem dX11_isKind_3 : decode cX11_isKind 3 = .ok (.ldc2_w 153, 3) := by decide +kernel
theorem dX11_isKind_6 : decode cX11_isKind 6 = .ok (.invokestatic 80, 3) := by decide +kernel
theorem dX11_isKind_9 : decode cX11_isKind 9 = .ok (.ireturn, 1) := by decide +kernel
theorem hy_X11_isKind : yX11_isKind.cls ≠ "java/lang/invoke/MethodHandle" ∧ yX11_isKind.cls ≠ "java/lang/invoke/VarHandle" ∧ (parseMethodDescriptor yX11_isKind.desc).map (fun d => d.parameters.length) = some 1 := ⟨by decide, by decide, by decide +kernel⟩
def f_X11_isKind (p1 : Int32) : Option (Int32) :=
  o_cP (f_X11_in ((p1).toInt64) 0 16) fun x1 =>
  o_ck (x1 = 0 ∨ x1 = 1) (some x1)
set_option maxHeartbeats 4000000 in
set_option maxRecDepth 100000 in
theorem c_X11_isKind {l : Launch} {D : va_G} {Y : Nat → ClassId} {aR : Nat → Nat} {A : Nat → Prop} {p1 : Int32} {r : Int32} (hf : f_X11_isKind p1 = some r) : jq_P l D Y aR A yX11_isKind cX11_isKind 1 (some .boolean) 1 25 [.int p1] (some (.int r)) := by
  unfold f_X11_isKind at hf
  refine jq_enterP (by decide) (Nat.le_of_ble_eq_true rfl) fun p e s m args below meth c ls H locs hX hS hl => ?_
  have hl : lv_has ls 1 [(0, .int p1)] := hl
  have hx := hX.1
  have hb := hX.2.1
  have hm := hX.2.2.1
  have ho := hX.2.2.2.1
  have ht := hX.2.2.2.2.1
  have hn := hX.2.2.2.2.2.1.2.1
  refine lv_iload_n hx hb dX11_isKind_0 rfl (lv_at hl 0 rfl) ?_
  refine lv_i2l hx hb dX11_isKind_1 rfl ?_
  refine lv_lconst (v := 0) hx hb dX11_isKind_2 (by decide) ?_
  refine lv_ldc2 (v := 16) hx hb ho (ht _ qw847) dX11_isKind_3 ?_
  replace hf := o_cP_e hf
  obtain ⟨x1, hq1, hf⟩ := hf
  refine jq_doP hX hS (jq_okS (As := [.long ((p1).toInt64), .long 0, .long 16]) (rest := []) hx hb hm ho ht qw803 qw804 qw805 qw7 hy_X11_in rfl hl.1 (Nat.le_of_ble_eq_true rfl) dX11_isKind_6) (c_X11_in hq1) (Nat.le_of_ble_eq_true rfl) (Nat.le_of_ble_eq_true rfl) (Nat.le_refl _) (Nat.le_refl _) (fun locs hS' => ?_)
  clear hS
  have hS := hS'
  clear hS'
  replace hf := o_ck_e hf
  obtain ⟨hc1, hf⟩ := hf
  obtain rfl := Option.some.inj hf
  exact jq_zret hX hS (qz_b hc1) dX11_isKind_9 ⟨rfl, rfl, rfl, rfl⟩
theorem dX11_isLane_0 : decode cX11_isLane 0 = .ok (.iload_n 0, 1) := by decide +kernel
theorem dX11_isLane_1 : decode cX11_isLane 1 = .ok (.i2l, 1) := by decide +kernel
theorem dX11_isLane_2 : decode cX11_isLane 2 = .ok (.lconst 0, 1) := by decide +kernel
theorem dX11_isLane_3 : decode cX11_isLane 3 = .ok (.ldc2_w 78, 3) := by decide +kernel
theorem dX11_isLane_6 : decode cX11_isLane 6 = .ok (.invokestatic 80, 3) := by decide +kernel
theorem dX11_isLane_9 : decode cX11_isLane 9 = .ok (.ireturn, 1) := by decide +kernel
theorem hy_X11_isLane : yX11_isLane.cls ≠ "java/lang/invoke/MethodHandle" ∧ yX11_isLane.cls ≠ "java/lang/invoke/VarHandle" ∧ (parseMethodDescriptor yX11_isLane.desc).map (fun d => d.parameters.length) = some 1 := ⟨by decide, by decide, by decide +kernel⟩
def f_X11_isLane (p1 : Int32) : Option (Int32) :=
  o_cP (f_X11_in ((p1).toInt64) 0 7) fun x1 =>
  o_ck (x1 = 0 ∨ x1 = 1) (some x1)
set_option maxHeartbeats 4000000 in
set_option maxRecDepth 100000 in
theorem c_X11_isLane {l : Launch} {D : va_G} {Y : Nat → ClassId} {aR : Nat → Nat} {A : Nat → Prop} {p1 : Int32} {r : Int32} (hf : f_X11_isLane p1 = some r) : jq_P l D Y aR A yX11_isLane cX11_isLane 1 (some .boolean) 1 25 [.int p1] (some (.int r)) := by
  unfold f_X11_isLane at hf
  refine jq_enterP (by decide) (Nat.le_of_ble_eq_true rfl) fun p e s m args below meth c ls H locs hX hS hl => ?_
  have hl : lv_has ls 1 [(0, .int p1)] := hl
  have hx := hX.1
  have hb := hX.2.1
  have hm := hX.2.2.1
  have ho := hX.2.2.2.1
  have ht := hX.2.2.2.2.1
  have hn := hX.2.2.2.2.2.1.2.1
  refine lv_iload_n hx hb dX11_isLane_0 rfl (lv_at hl 0 rfl) ?_
  refine lv_i2l hx hb dX11_isLane_1 rfl ?_
  refine lv_lconst (v := 0) hx hb dX11_isLane_2 (by decide) ?_
  refine lv_ldc2 (v := 7) hx hb ho (ht _ qw802) dX11_isLane_3 ?_
  replace hf := o_cP_e hf
  obtain ⟨x1, hq1, hf⟩ := hf
  refine jq_doP hX hS (jq_okS (As := [.long ((p1).toInt64), .long 0, .long 7]) (rest := []) hx hb hm ho ht qw803 qw804 qw805 qw7 hy_X11_in rfl hl.1 (Nat.le_of_ble_eq_true rfl) dX11_isLane_6) (c_X11_in hq1) (Nat.le_of_ble_eq_true rfl) (Nat.le_of_ble_eq_true rfl) (Nat.le_refl _) (Nat.le_refl _) (fun locs hS' => ?_)
  clear hS
  have hS := hS'
  clear hS'
  replace hf := o_ck_e hf
  obtain ⟨hc1, hf⟩ := hf
  obtain rfl := Option.some.inj hf
  exact jq_zret hX hS (qz_b hc1) dX11_isLane_9 ⟨rfl, rfl, rfl, rfl⟩
theorem dX11_goes_0 : decode cX11_goes 0 = .ok (.iload_n 0, 1) := by decide +kernel
theorem dX11_goes_1 : decode cX11_goes 1 = .ok (.iload_n 1, 1) := by decide +kernel
theorem dX11_goes_2 : decode cX11_goes 2 = .ok (.if_icmp .ne 5, 3) := by decide +kernel
theorem dX11_goes_7 : decode cX11_goes 7 = .ok (.iload_n 0, 1) := by decide +kernel
theorem dX11_goes_8 : decode cX11_goes 8 = .ok (.bipush 8, 2) := by decide +kernel
theorem dX11_goes_10 : decode cX11_goes 10 = .ok (.if_icmp .lt 15, 3) := by decide +kernel
theorem dX11_goes_25 : decode cX11_goes 25 = .ok (.iload_n 0, 1) := by decide +kernel
theorem dX11_goes_26 : decode cX11_goes 26 = .ok (.tableswitch 88 1 6 #[38, 63, 63, 75, 75, 75], 38) := by decide +kernel
theorem dX11_goes_64 : decode cX11_goes 64 = .ok (.iload_n 1, 1) := by decide +kernel
theorem dX11_goes_65 : decode cX11_goes 65 = .ok (.iconst 2, 1) := by decide +kernel
theorem dX11_goes_66 : decode cX11_goes 66 = .ok (.if_icmp .eq 17, 3) := by decide +kernel
theorem dX11_goes_83 : decode cX11_goes 83 = .ok (.iconst 1, 1) := by decide +kernel
theorem dX11_goes_84 : decode cX11_goes 84 = .ok (.goto 4, 3) := by decide +kernel
theorem dX11_goes_88 : decode cX11_goes 88 = .ok (.ireturn, 1) := by decide +kernel
theorem dX11_goes_69 : decode cX11_goes 69 = .ok (.iload_n 1, 1) := by decide +kernel
theorem dX11_goes_70 : decode cX11_goes 70 = .ok (.i2l, 1) := by decide +kernel
theorem dX11_goes_71 : decode cX11_goes 71 = .ok (.ldc2_w 117, 3) := by decide +kernel
theorem dX11_goes_74 : decode cX11_goes 74 = .ok (.ldc2_w 78, 3) := by decide +kernel
theorem dX11_goes_77 : decode cX11_goes 77 = .ok (.invokestatic 80, 3) := by decide +kernel
theorem dX11_goes_80 : decode cX11_goes 80 = .ok (.ifCond .eq 7, 3) := by decide +kernel
theorem dX11_goes_87 : decode cX11_goes 87 = .ok (.iconst 0, 1) := by decide +kernel
theorem dX11_goes_89 : decode cX11_goes 89 = .ok (.iload_n 1, 1) := by decide +kernel
theorem dX11_goes_90 : decode cX11_goes 90 = .ok (.i2l, 1) := by decide +kernel
theorem dX11_goes_91 : decode cX11_goes 91 = .ok (.ldc2_w 117, 3) := by decide +kernel
theorem dX11_goes_94 : decode cX11_goes 94 = .ok (.ldc2_w 78, 3) := by decide +kernel
theorem dX11_goes_97 : decode cX11_goes 97 = .ok (.invokestatic 80, 3) := by decide +kernel
theorem dX11_goes_100 : decode cX11_goes 100 = .ok (.ireturn, 1) := by decide +kernel
theorem dX11_goes_101 : decode cX11_goes 101 = .ok (.iload_n 1, 1) := by decide +kernel
theorem dX11_goes_102 : decode cX11_goes 102 = .ok (.i2l, 1) := by decide +kernel
theorem dX11_goes_103 : decode cX11_goes 103 = .ok (.iload_n 0, 1) := by decide +kernel
theorem dX11_goes_104 : decode cX11_goes 104 = .ok (.iconst 1, 1) := by decide +kernel
theorem dX11_goes_105 : decode cX11_goes 105 = .ok (.iadd, 1) := by decide +kernel
theorem dX11_goes_106 : decode cX11_goes 106 = .ok (.i2l, 1) := by decide +kernel
theorem dX11_goes_107 : decode cX11_goes 107 = .ok (.ldc2_w 78, 3) := by decide +kernel
theorem dX11_goes_110 : decode cX11_goes 110 = .ok (.invokestatic 80, 3) := by decide +kernel
theorem dX11_goes_113 : decode cX11_goes 113 = .ok (.ireturn, 1) := by decide +kernel
theorem dX11_goes_114 : decode cX11_goes 114 = .ok (.iconst 0, 1) := by decide +kernel
theorem dX11_goes_115 : decode cX11_goes 115 = .ok (.ireturn, 1) := by decide +kernel
theorem dX11_goes_13 : decode cX11_goes 13 = .ok (.iload_n 1, 1) := by decide +kernel
theorem dX11_goes_14 : decode cX11_goes 14 = .ok (.bipush 16, 2) := by decide +kernel
theorem dX11_goes_16 : decode cX11_goes 16 = .ok (.if_icmp .ne 7, 3) := by decide +kernel
theorem dX11_goes_23 : decode cX11_goes 23 = .ok (.iconst 0, 1) := by decide +kernel
theorem dX11_goes_24 : decode cX11_goes 24 = .ok (.ireturn, 1) := by decide +kernel
theorem dX11_goes_19 : decode cX11_goes 19 = .ok (.iconst 1, 1) := by decide +kernel
theorem dX11_goes_20 : decode cX11_goes 20 = .ok (.goto 4, 3) := by decide +kernel
theorem dX11_goes_5 : decode cX11_goes 5 = .ok (.iconst 1, 1) := by decide +kernel
theorem dX11_goes_6 : decode cX11_goes 6 = .ok (.ireturn, 1) := by decide +kernel
theorem hy_X11_goes : yX11_goes.cls ≠ "java/lang/invoke/MethodHandle" ∧ yX11_goes.cls ≠ "java/lang/invoke/VarHandle" ∧ (parseMethodDescriptor yX11_goes.desc).map (fun d => d.parameters.length) = some 2 := ⟨by decide, by decide, by decide +kernel⟩
def f_X11_goes (p1 : Int32) (p2 : Int32) : Option (Int32) :=
  if p1 = p2 then (
  some 1) else (
  if p1 < 8 then (
  if p1 = 1 then (
  if p2 = 2 then (
  some 1) else (
  o_cP (f_X11_in ((p2).toInt64) 4 7) fun x1 =>
  if x1 = 0 then (
  some 0) else (
  some 1))) else (
  if p1 = 2 ∨ p1 = 3 then (
  o_cP (f_X11_in ((p2).toInt64) 4 7) fun x2 =>
  o_ck (x2 = 0 ∨ x2 = 1) (some x2)) else (
  if p1 = 4 ∨ p1 = 5 ∨ p1 = 6 then (
  o_cP (f_X11_in ((p2).toInt64) (((p1 + (1 : Int32))).toInt64) 7) fun x3 =>
  o_ck (x3 = 0 ∨ x3 = 1) (some x3)) else (
  some 0)))) else (
  if p2 = 16 then (
  some 1) else (
  some 0)))
set_option maxHeartbeats 4000000 in
set_option maxRecDepth 100000 in
theorem c_X11_goes {l : Launch} {D : va_G} {Y : Nat → ClassId} {aR : Nat → Nat} {A : Nat → Prop} {p1 : Int32} {p2 : Int32} {r : Int32} (hf : f_X11_goes p1 p2 = some r) : jq_P l D Y aR A yX11_goes cX11_goes 2 (some .boolean) 1 25 [.int p1, .int p2] (some (.int r)) := by
  unfold f_X11_goes at hf
  refine jq_enterP (by decide) (Nat.le_of_ble_eq_true rfl) fun p e s m args below meth c ls H locs hX hS hl => ?_
  have hl : lv_has ls 2 [(0, .int p1), (1, .int p2)] := hl
  have hx := hX.1
  have hb := hX.2.1
  have hm := hX.2.2.1
  have ho := hX.2.2.2.1
  have ht := hX.2.2.2.2.1
  have hn := hX.2.2.2.2.2.1.2.1
  refine lv_iload_n hx hb dX11_goes_0 rfl (lv_at hl 0 rfl) ?_
  refine lv_iload_n hx hb dX11_goes_1 rfl (lv_at hl 1 rfl) ?_
  refine lv_icmp_ne (tgt := 7) hx hb dX11_goes_2 (by decide) (fun c1 => ?_) (fun c1 => ?_)
  · replace hf := o_f hf c1
    refine lv_iload_n hx hb dX11_goes_7 rfl (lv_at hl 0 rfl) ?_
    refine lv_bipush (v := 8) hx hb dX11_goes_8 (by decide) ?_
    refine lv_icmp_lt (tgt := 25) hx hb dX11_goes_10 (by decide) (fun c2 => ?_) (fun c2 => ?_)
    · replace hf := o_t hf c2
      refine lv_iload_n hx hb dX11_goes_25 rfl (lv_at hl 0 rfl) ?_
      by_cases c3 : p1 = 1
      · replace hf := o_t hf c3
        refine lv_tableIn (off := 38) (tgt := 64) hx hb dX11_goes_26 (by rcases c3 with rfl <;> decide) (by rcases c3 with rfl <;> decide) (by rcases c3 with rfl <;> rfl) (by decide) ?_
        refine lv_iload_n hx hb dX11_goes_64 rfl (lv_at hl 1 rfl) ?_
        refine lv_iconst (v := 2) hx hb dX11_goes_65 (by decide) ?_
        refine lv_icmp_eq (tgt := 83) hx hb dX11_goes_66 (by decide) (fun c4 => ?_) (fun c4 => ?_)
        · replace hf := o_t hf c4
          refine lv_iconst (v := 1) hx hb dX11_goes_83 (by decide) ?_
          refine lv_goto (tgt := 88) hx hb dX11_goes_84 (by decide) ?_
          obtain rfl := Option.some.inj hf
          exact jq_zret hX hS (by decide) dX11_goes_88 ⟨rfl, rfl, rfl, rfl⟩
        · replace hf := o_f hf c4
          refine lv_iload_n hx hb dX11_goes_69 rfl (lv_at hl 1 rfl) ?_
          refine lv_i2l hx hb dX11_goes_70 rfl ?_
          refine lv_ldc2 (v := 4) hx hb ho (ht _ qw848) dX11_goes_71 ?_
          refine lv_ldc2 (v := 7) hx hb ho (ht _ qw802) dX11_goes_74 ?_
          replace hf := o_cP_e hf
          obtain ⟨x1, hq1, hf⟩ := hf
          refine jq_doP hX hS (jq_okS (As := [.long ((p2).toInt64), .long 4, .long 7]) (rest := []) hx hb hm ho ht qw803 qw804 qw805 qw7 hy_X11_in rfl hl.1 (Nat.le_of_ble_eq_true rfl) dX11_goes_77) (c_X11_in hq1) (Nat.le_of_ble_eq_true rfl) (Nat.le_of_ble_eq_true rfl) (Nat.le_refl _) (Nat.le_refl _) (fun locs hS' => ?_)
          clear hS
          have hS := hS'
          clear hS'
          refine lv_if_eq (tgt := 87) hx hb dX11_goes_80 (by decide) (fun c5 => ?_) (fun c5 => ?_)
          · replace hf := o_t hf c5
            refine lv_iconst (v := 0) hx hb dX11_goes_87 (by decide) ?_
            obtain rfl := Option.some.inj hf
            exact jq_zret hX hS (by decide) dX11_goes_88 ⟨rfl, rfl, rfl, rfl⟩
          · replace hf := o_f hf c5
            refine lv_iconst (v := 1) hx hb dX11_goes_83 (by decide) ?_
            refine lv_goto (tgt := 88) hx hb dX11_goes_84 (by decide) ?_
            obtain rfl := Option.some.inj hf
            exact jq_zret hX hS (by decide) dX11_goes_88 ⟨rfl, rfl, rfl, rfl⟩
      replace hf := o_f hf c3
      by_cases c6 : p1 = 2 ∨ p1 = 3
      · replace hf := o_t hf c6
        refine lv_tableIn (off := 63) (tgt := 89) hx hb dX11_goes_26 (by rcases c6 with rfl | rfl <;> decide) (by rcases c6 with rfl | rfl <;> decide) (by rcases c6 with rfl | rfl <;> rfl) (by decide) ?_
        refine lv_iload_n hx hb dX11_goes_89 rfl (lv_at hl 1 rfl) ?_
        refine lv_i2l hx hb dX11_goes_90 rfl ?_
        refine lv_ldc2 (v := 4) hx hb ho (ht _ qw848) dX11_goes_91 ?_
        refine lv_ldc2 (v := 7) hx hb ho (ht _ qw802) dX11_goes_94 ?_
        replace hf := o_cP_e hf
        obtain ⟨x2, hq2, hf⟩ := hf
        refine jq_doP hX hS (jq_okS (As := [.long ((p2).toInt64), .long 4, .long 7]) (rest := []) hx hb hm ho ht qw803 qw804 qw805 qw7 hy_X11_in rfl hl.1 (Nat.le_of_ble_eq_true rfl) dX11_goes_97) (c_X11_in hq2) (Nat.le_of_ble_eq_true rfl) (Nat.le_of_ble_eq_true rfl) (Nat.le_refl _) (Nat.le_refl _) (fun locs hS' => ?_)
        clear hS
        have hS := hS'
        clear hS'
        replace hf := o_ck_e hf
        obtain ⟨hc1, hf⟩ := hf
        obtain rfl := Option.some.inj hf
        exact jq_zret hX hS (qz_b hc1) dX11_goes_100 ⟨rfl, rfl, rfl, rfl⟩
      replace hf := o_f hf c6
      by_cases c7 : p1 = 4 ∨ p1 = 5 ∨ p1 = 6
      · replace hf := o_t hf c7
        refine lv_tableIn (off := 75) (tgt := 101) hx hb dX11_goes_26 (by rcases c7 with rfl | rfl | rfl <;> decide) (by rcases c7 with rfl | rfl | rfl <;> decide) (by rcases c7 with rfl | rfl | rfl <;> rfl) (by decide) ?_
        refine lv_iload_n hx hb dX11_goes_101 rfl (lv_at hl 1 rfl) ?_
        refine lv_i2l hx hb dX11_goes_102 rfl ?_
        refine lv_iload_n hx hb dX11_goes_103 rfl (lv_at hl 0 rfl) ?_
        refine lv_iconst (v := 1) hx hb dX11_goes_104 (by decide) ?_
        refine lv_iadd hx hb dX11_goes_105 ?_
        refine lv_i2l hx hb dX11_goes_106 rfl ?_
        refine lv_ldc2 (v := 7) hx hb ho (ht _ qw802) dX11_goes_107 ?_
        replace hf := o_cP_e hf
        obtain ⟨x3, hq3, hf⟩ := hf
        refine jq_doP hX hS (jq_okS (As := [.long ((p2).toInt64), .long (((p1 + (1 : Int32))).toInt64), .long 7]) (rest := []) hx hb hm ho ht qw803 qw804 qw805 qw7 hy_X11_in rfl hl.1 (Nat.le_of_ble_eq_true rfl) dX11_goes_110) (c_X11_in hq3) (Nat.le_of_ble_eq_true rfl) (Nat.le_of_ble_eq_true rfl) (Nat.le_refl _) (Nat.le_refl _) (fun locs hS' => ?_)
        clear hS
        have hS := hS'
        clear hS'
        replace hf := o_ck_e hf
        obtain ⟨hc2, hf⟩ := hf
        obtain rfl := Option.some.inj hf
        exact jq_zret hX hS (qz_b hc2) dX11_goes_113 ⟨rfl, rfl, rfl, rfl⟩
      replace hf := o_f hf c7
      refine lv_tableOut (tgt := 114) hx hb dX11_goes_26 (by have e0 := sw_ne c3 (n := 1) (by decide); have e1 := sw_ne (fun z => c6 (Or.inl z)) (n := 2) (by decide); have e2 := sw_ne (fun z => c6 (Or.inr z)) (n := 3) (by decide); have e3 := sw_ne (fun z => c7 (Or.inl z)) (n := 4) (by decide); have e4 := sw_ne (fun z => c7 (Or.inr (Or.inl z))) (n := 5) (by decide); have e5 := sw_ne (fun z => c7 (Or.inr (Or.inr z))) (n := 6) (by decide); omega) (by decide) ?_
      refine lv_iconst (v := 0) hx hb dX11_goes_114 (by decide) ?_
      obtain rfl := Option.some.inj hf
      exact jq_zret hX hS (by decide) dX11_goes_115 ⟨rfl, rfl, rfl, rfl⟩
    · replace hf := o_f hf c2
      refine lv_iload_n hx hb dX11_goes_13 rfl (lv_at hl 1 rfl) ?_
      refine lv_bipush (v := 16) hx hb dX11_goes_14 (by decide) ?_
      refine lv_icmp_ne (tgt := 23) hx hb dX11_goes_16 (by decide) (fun c8 => ?_) (fun c8 => ?_)
      · replace hf := o_f hf c8
        refine lv_iconst (v := 0) hx hb dX11_goes_23 (by decide) ?_
        obtain rfl := Option.some.inj hf
        exact jq_zret hX hS (by decide) dX11_goes_24 ⟨rfl, rfl, rfl, rfl⟩
      · replace hf := o_t hf c8
        refine lv_iconst (v := 1) hx hb dX11_goes_19 (by decide) ?_
        refine lv_goto (tgt := 24) hx hb dX11_goes_20 (by decide) ?_
        obtain rfl := Option.some.inj hf
        exact jq_zret hX hS (by decide) dX11_goes_24 ⟨rfl, rfl, rfl, rfl⟩
  · replace hf := o_t hf c1
    refine lv_iconst (v := 1) hx hb dX11_goes_5 (by decide) ?_
    obtain rfl := Option.some.inj hf
    exact jq_zret hX hS (by decide) dX11_goes_6 ⟨rfl, rfl, rfl, rfl⟩
theorem dX11_sizeBits_0 : decode cX11_sizeBits 0 = .ok (.iload_n 2, 1) := by decide +kernel
theorem dX11_sizeBits_1 : decode cX11_sizeBits 1 = .ok (.bipush 6, 2) := by decide +kernel
theorem dX11_sizeBits_3 : decode cX11_sizeBits 3 = .ok (.if_icmp .ne 11, 3) := by decide +kernel
theorem dX11_sizeBits_14 : decode cX11_sizeBits 14 = .ok (.lload_n 0, 1) := by decide +kernel
theorem dX11_sizeBits_15 : decode cX11_sizeBits 15 = .ok (.ldc2_w 111, 3) := by decide +kernel
theorem dX11_sizeBits_18 : decode cX11_sizeBits 18 = .ok (.land, 1) := by decide +kernel
theorem dX11_sizeBits_19 : decode cX11_sizeBits 19 = .ok (.lreturn, 1) := by decide +kernel
theorem dX11_sizeBits_6 : decode cX11_sizeBits 6 = .ok (.lload_n 0, 1) := by decide +kernel
theorem dX11_sizeBits_7 : decode cX11_sizeBits 7 = .ok (.ldc2_w 105, 3) := by decide +kernel
theorem dX11_sizeBits_10 : decode cX11_sizeBits 10 = .ok (.land, 1) := by decide +kernel
theorem dX11_sizeBits_11 : decode cX11_sizeBits 11 = .ok (.goto 8, 3) := by decide +kernel
theorem hy_X11_sizeBits : yX11_sizeBits.cls ≠ "java/lang/invoke/MethodHandle" ∧ yX11_sizeBits.cls ≠ "java/lang/invoke/VarHandle" ∧ (parseMethodDescriptor yX11_sizeBits.desc).map (fun d => d.parameters.length) = some 2 := ⟨by decide, by decide, by decide +kernel⟩
def f_X11_sizeBits (p1 : Int64) (p2 : Int32) : Option (Int64) :=
  if p2 = 6 then (
  some (p1 &&& (2147483647 : Int64))) else (
  some (p1 &&& (9223372036854775807 : Int64)))
set_option maxHeartbeats 4000000 in
set_option maxRecDepth 100000 in
theorem c_X11_sizeBits {l : Launch} {D : va_G} {Y : Nat → ClassId} {aR : Nat → Nat} {A : Nat → Prop} {p1 : Int64} {p2 : Int32} {r : Int64} (hf : f_X11_sizeBits p1 p2 = some r) : jq_P l D Y aR A yX11_sizeBits cX11_sizeBits 3 (some .long) 0 0 [.long p1, .int p2] (some (.long r)) := by
  unfold f_X11_sizeBits at hf
  refine jq_enterP (by decide) (Nat.le_of_ble_eq_true rfl) fun p e s m args below meth c ls H locs hX hS hl => ?_
  have hl : lv_has ls 3 [(0, .long p1), (2, .int p2)] := hl
  have hx := hX.1
  have hb := hX.2.1
  have hm := hX.2.2.1
  have ho := hX.2.2.2.1
  have ht := hX.2.2.2.2.1
  have hn := hX.2.2.2.2.2.1.2.1
  refine lv_iload_n hx hb dX11_sizeBits_0 rfl (lv_at hl 1 rfl) ?_
  refine lv_bipush (v := 6) hx hb dX11_sizeBits_1 (by decide) ?_
  refine lv_icmp_ne (tgt := 14) hx hb dX11_sizeBits_3 (by decide) (fun c1 => ?_) (fun c1 => ?_)
  · replace hf := o_f hf c1
    refine lv_lload_n hx hb dX11_sizeBits_14 rfl (lv_at hl 0 rfl) ?_
    refine lv_ldc2 (v := 9223372036854775807) hx hb ho (ht _ qw829) dX11_sizeBits_15 ?_
    refine lv_land hx hb dX11_sizeBits_18 ?_
    obtain rfl := Option.some.inj hf
    exact jq_lret hX hS dX11_sizeBits_19 ⟨rfl, rfl, rfl, rfl⟩
  · replace hf := o_t hf c1
    refine lv_lload_n hx hb dX11_sizeBits_6 rfl (lv_at hl 0 rfl) ?_
    refine lv_ldc2 (v := 2147483647) hx hb ho (ht _ qw826) dX11_sizeBits_7 ?_
    refine lv_land hx hb dX11_sizeBits_10 ?_
    refine lv_goto (tgt := 19) hx hb dX11_sizeBits_11 (by decide) ?_
    obtain rfl := Option.some.inj hf
    exact jq_lret hX hS dX11_sizeBits_19 ⟨rfl, rfl, rfl, rfl⟩
theorem dX11_most_0 : decode cX11_most 0 = .ok (.iload_n 0, 1) := by decide +kernel
theorem dX11_most_1 : decode cX11_most 1 = .ok (.bipush 6, 2) := by decide +kernel
theorem dX11_most_3 : decode cX11_most 3 = .ok (.if_icmp .ne 9, 3) := by decide +kernel
theorem dX11_most_12 : decode cX11_most 12 = .ok (.ldc2_w 113, 3) := by decide +kernel
theorem dX11_most_15 : decode cX11_most 15 = .ok (.lreturn, 1) := by decide +kernel
theorem dX11_most_6 : decode cX11_most 6 = .ok (.ldc2_w 107, 3) := by decide +kernel
theorem dX11_most_9 : decode cX11_most 9 = .ok (.goto 6, 3) := by decide +kernel
theorem hy_X11_most : yX11_most.cls ≠ "java/lang/invoke/MethodHandle" ∧ yX11_most.cls ≠ "java/lang/invoke/VarHandle" ∧ (parseMethodDescriptor yX11_most.desc).map (fun d => d.parameters.length) = some 1 := ⟨by decide, by decide, by decide +kernel⟩
def f_X11_most (p1 : Int32) : Option (Int64) :=
  if p1 = 6 then (
  some 2139095040) else (
  some 9218868437227405312)
set_option maxHeartbeats 4000000 in
set_option maxRecDepth 100000 in
theorem c_X11_most {l : Launch} {D : va_G} {Y : Nat → ClassId} {aR : Nat → Nat} {A : Nat → Prop} {p1 : Int32} {r : Int64} (hf : f_X11_most p1 = some r) : jq_P l D Y aR A yX11_most cX11_most 1 (some .long) 0 0 [.int p1] (some (.long r)) := by
  unfold f_X11_most at hf
  refine jq_enterP (by decide) (Nat.le_of_ble_eq_true rfl) fun p e s m args below meth c ls H locs hX hS hl => ?_
  have hl : lv_has ls 1 [(0, .int p1)] := hl
  have hx := hX.1
  have hb := hX.2.1
  have hm := hX.2.2.1
  have ho := hX.2.2.2.1
  have ht := hX.2.2.2.2.1
  have hn := hX.2.2.2.2.2.1.2.1
  refine lv_iload_n hx hb dX11_most_0 rfl (lv_at hl 0 rfl) ?_
  refine lv_bipush (v := 6) hx hb dX11_most_1 (by decide) ?_
  refine lv_icmp_ne (tgt := 12) hx hb dX11_most_3 (by decide) (fun c1 => ?_) (fun c1 => ?_)
  · replace hf := o_f hf c1
    refine lv_ldc2 (v := 9218868437227405312) hx hb ho (ht _ qw830) dX11_most_12 ?_
    obtain rfl := Option.some.inj hf
    exact jq_lret hX hS dX11_most_15 ⟨rfl, rfl, rfl, rfl⟩
  · replace hf := o_t hf c1
    refine lv_ldc2 (v := 2139095040) hx hb ho (ht _ qw827) dX11_most_6 ?_
    refine lv_goto (tgt := 15) hx hb dX11_most_9 (by decide) ?_
    obtain rfl := Option.some.inj hf
    exact jq_lret hX hS dX11_most_15 ⟨rfl, rfl, rfl, rfl⟩
theorem dX11_none_0 : decode cX11_none 0 = .ok (.iload_n 0, 1) := by decide +kernel
theorem dX11_none_1 : decode cX11_none 1 = .ok (.bipush 6, 2) := by decide +kernel
theorem dX11_none_3 : decode cX11_none 3 = .ok (.if_icmp .ne 9, 3) := by decide +kernel
theorem dX11_none_12 : decode cX11_none 12 = .ok (.ldc2_w 115, 3) := by decide +kernel
theorem dX11_none_15 : decode cX11_none 15 = .ok (.lreturn, 1) := by decide +kernel
theorem dX11_none_6 : decode cX11_none 6 = .ok (.ldc2_w 109, 3) := by decide +kernel
theorem dX11_none_9 : decode cX11_none 9 = .ok (.goto 6, 3) := by decide +kernel
theorem hy_X11_none : yX11_none.cls ≠ "java/lang/invoke/MethodHandle" ∧ yX11_none.cls ≠ "java/lang/invoke/VarHandle" ∧ (parseMethodDescriptor yX11_none.desc).map (fun d => d.parameters.length) = some 1 := ⟨by decide, by decide, by decide +kernel⟩
def f_X11_none (p1 : Int32) : Option (Int64) :=
  if p1 = 6 then (
  some 2143289344) else (
  some 9221120237041090560)
set_option maxHeartbeats 4000000 in
set_option maxRecDepth 100000 in
theorem c_X11_none {l : Launch} {D : va_G} {Y : Nat → ClassId} {aR : Nat → Nat} {A : Nat → Prop} {p1 : Int32} {r : Int64} (hf : f_X11_none p1 = some r) : jq_P l D Y aR A yX11_none cX11_none 1 (some .long) 0 0 [.int p1] (some (.long r)) := by
  unfold f_X11_none at hf
  refine jq_enterP (by decide) (Nat.le_of_ble_eq_true rfl) fun p e s m args below meth c ls H locs hX hS hl => ?_
  have hl : lv_has ls 1 [(0, .int p1)] := hl
  have hx := hX.1
  have hb := hX.2.1
  have hm := hX.2.2.1
  have ho := hX.2.2.2.1
  have ht := hX.2.2.2.2.1
  have hn := hX.2.2.2.2.2.1.2.1
  refine lv_iload_n hx hb dX11_none_0 rfl (lv_at hl 0 rfl) ?_
  refine lv_bipush (v := 6) hx hb dX11_none_1 (by decide) ?_
  refine lv_icmp_ne (tgt := 12) hx hb dX11_none_3 (by decide) (fun c1 => ?_) (fun c1 => ?_)
  · replace hf := o_f hf c1
    refine lv_ldc2 (v := 9221120237041090560) hx hb ho (ht _ qw831) dX11_none_12 ?_
    obtain rfl := Option.some.inj hf
    exact jq_lret hX hS dX11_none_15 ⟨rfl, rfl, rfl, rfl⟩
  · replace hf := o_t hf c1
    refine lv_ldc2 (v := 2143289344) hx hb ho (ht _ qw828) dX11_none_6 ?_
    refine lv_goto (tgt := 15) hx hb dX11_none_9 (by decide) ?_
    obtain rfl := Option.some.inj hf
    exact jq_lret hX hS dX11_none_15 ⟨rfl, rfl, rfl, rfl⟩
theorem dX11_floatOf_0 : decode cX11_floatOf 0 = .ok (.lload_n 0, 1) := by decide +kernel
theorem dX11_floatOf_1 : decode cX11_floatOf 1 = .ok (.l2i, 1) := by decide +kernel
theorem dX11_floatOf_2 : decode cX11_floatOf 2 = .ok (.invokestatic 119, 3) := by decide +kernel
theorem dX11_floatOf_5 : decode cX11_floatOf 5 = .ok (.freturn, 1) := by decide +kernel
theorem hy_X11_floatOf : yX11_floatOf.cls ≠ "java/lang/invoke/MethodHandle" ∧ yX11_floatOf.cls ≠ "java/lang/invoke/VarHandle" ∧ (parseMethodDescriptor yX11_floatOf.desc).map (fun d => d.parameters.length) = some 1 := ⟨by decide, by decide, by decide +kernel⟩
def f_X11_floatOf (p1 : Int64) : Option (UInt32) :=
  o_ck (vn_sni2f ((p1).toInt32) = false) (
  some ((((p1).toInt32)).toUInt32))
set_option maxHeartbeats 4000000 in
set_option maxRecDepth 100000 in
theorem c_X11_floatOf {l : Launch} {D : va_G} {Y : Nat → ClassId} {aR : Nat → Nat} {A : Nat → Prop} {p1 : Int64} {r : UInt32} (hf : f_X11_floatOf p1 = some r) : jq_P l D Y aR A yX11_floatOf cX11_floatOf 2 (some .float) 1 15 [.long p1] (some (.float r)) := by
  unfold f_X11_floatOf at hf
  refine jq_enterP (by decide) (Nat.le_of_ble_eq_true rfl) fun p e s m args below meth c ls H locs hX hS hl => ?_
  have hl : lv_has ls 2 [(0, .long p1)] := hl
  have hx := hX.1
  have hb := hX.2.1
  have hm := hX.2.2.1
  have ho := hX.2.2.2.1
  have ht := hX.2.2.2.2.1
  have hn := hX.2.2.2.2.2.1.2.1
  refine lv_lload_n hx hb dX11_floatOf_0 rfl (lv_at hl 0 rfl) ?_
  refine lv_l2i hx hb dX11_floatOf_1 rfl ?_
  replace hf := o_ck_e hf
  obtain ⟨hc1, hf⟩ := hf
  refine vn_i2f hx hb (hm.trans hl.1.symm) ho (ht _ qw975) (ht _ qw977) (ht _ qw976) (ht _ qw15) hc1 (Nat.le_of_ble_eq_true rfl) (Nat.le_of_ble_eq_true rfl) dX11_floatOf_2 ?_
  obtain rfl := Option.some.inj hf
  exact jq_fret hX hS dX11_floatOf_5 ⟨rfl, rfl, rfl, rfl⟩
theorem dX11_widen_0 : decode cX11_widen 0 = .ok (.iload_n 2, 1) := by decide +kernel
theorem dX11_widen_1 : decode cX11_widen 1 = .ok (.iload_n 3, 1) := by decide +kernel
theorem dX11_widen_2 : decode cX11_widen 2 = .ok (.if_icmp .eq 15, 3) := by decide +kernel
theorem dX11_widen_17 : decode cX11_widen 17 = .ok (.lload_n 0, 1) := by decide +kernel
theorem dX11_widen_18 : decode cX11_widen 18 = .ok (.lreturn, 1) := by decide +kernel
theorem dX11_widen_5 : decode cX11_widen 5 = .ok (.iload_n 3, 1) := by decide +kernel
theorem dX11_widen_6 : decode cX11_widen 6 = .ok (.bipush 8, 2) := by decide +kernel
theorem dX11_widen_8 : decode cX11_widen 8 = .ok (.if_icmp .ge 9, 3) := by decide +kernel
theorem dX11_widen_11 : decode cX11_widen 11 = .ok (.iload_n 3, 1) := by decide +kernel
theorem dX11_widen_12 : decode cX11_widen 12 = .ok (.bipush 6, 2) := by decide +kernel
theorem dX11_widen_14 : decode cX11_widen 14 = .ok (.if_icmp .ge 5, 3) := by decide +kernel
theorem dX11_widen_19 : decode cX11_widen 19 = .ok (.iload_n 3, 1) := by decide +kernel
theorem dX11_widen_20 : decode cX11_widen 20 = .ok (.bipush 6, 2) := by decide +kernel
theorem dX11_widen_22 : decode cX11_widen 22 = .ok (.if_icmp .ne 10, 3) := by decide +kernel
theorem dX11_widen_32 : decode cX11_widen 32 = .ok (.iload_n 2, 1) := by decide +kernel
theorem dX11_widen_33 : decode cX11_widen 33 = .ok (.bipush 6, 2) := by decide +kernel
theorem dX11_widen_35 : decode cX11_widen 35 = .ok (.if_icmp .ne 35, 3) := by decide +kernel
theorem dX11_widen_70 : decode cX11_widen 70 = .ok (.lload_n 0, 1) := by decide +kernel
theorem dX11_widen_71 : decode cX11_widen 71 = .ok (.l2d, 1) := by decide +kernel
theorem dX11_widen_72 : decode cX11_widen 72 = .ok (.invokestatic 149, 3) := by decide +kernel
theorem dX11_widen_75 : decode cX11_widen 75 = .ok (.lreturn, 1) := by decide +kernel
theorem dX11_widen_38 : decode cX11_widen 38 = .ok (.lload_n 0, 1) := by decide +kernel
theorem dX11_widen_39 : decode cX11_widen 39 = .ok (.bipush 6, 2) := by decide +kernel
theorem dX11_widen_41 : decode cX11_widen 41 = .ok (.invokestatic 131, 3) := by decide +kernel
theorem dX11_widen_44 : decode cX11_widen 44 = .ok (.bipush 6, 2) := by decide +kernel
theorem dX11_widen_46 : decode cX11_widen 46 = .ok (.invokestatic 134, 3) := by decide +kernel
theorem dX11_widen_49 : decode cX11_widen 49 = .ok (.lcmp, 1) := by decide +kernel
theorem dX11_widen_61 : decode cX11_widen 61 = .ok (.lload_n 0, 1) := by decide +kernel
theorem dX11_widen_62 : decode cX11_widen 62 = .ok (.invokestatic 145, 3) := by decide +kernel
theorem dX11_widen_65 : decode cX11_widen 65 = .ok (.f2d, 1) := by decide +kernel
theorem dX11_widen_66 : decode cX11_widen 66 = .ok (.invokestatic 149, 3) := by decide +kernel
theorem dX11_widen_69 : decode cX11_widen 69 = .ok (.lreturn, 1) := by decide +kernel
theorem dX11_widen_53 : decode cX11_widen 53 = .ok (.bipush 7, 2) := by decide +kernel
theorem dX11_widen_55 : decode cX11_widen 55 = .ok (.invokestatic 142, 3) := by decide +kernel
theorem dX11_widen_58 : decode cX11_widen 58 = .ok (.goto 11, 3) := by decide +kernel
theorem dX11_widen_50 : decode cX11_widen 50 = .ok (.ifCond .le 11, 3) := by decide +kernel
theorem dX11_widen_25 : decode cX11_widen 25 = .ok (.lload_n 0, 1) := by decide +kernel
theorem dX11_widen_26 : decode cX11_widen 26 = .ok (.l2f, 1) := by decide +kernel
theorem dX11_widen_27 : decode cX11_widen 27 = .ok (.invokestatic 138, 3) := by decide +kernel
theorem dX11_widen_30 : decode cX11_widen 30 = .ok (.i2l, 1) := by decide +kernel
theorem dX11_widen_31 : decode cX11_widen 31 = .ok (.lreturn, 1) := by decide +kernel
theorem hy_X11_widen : yX11_widen.cls ≠ "java/lang/invoke/MethodHandle" ∧ yX11_widen.cls ≠ "java/lang/invoke/VarHandle" ∧ (parseMethodDescriptor yX11_widen.desc).map (fun d => d.parameters.length) = some 3 := ⟨by decide, by decide, by decide +kernel⟩
def f_X11_widen (p1 : Int64) (p2 : Int32) (p3 : Int32) : Option (Int64) :=
  if p2 = p3 then (
  some p1) else (
  if 8 ≤ p3 then (
  some p1) else (
  if 6 ≤ p3 then (
  if p3 = 6 then (
  o_cP (f_Jxf58ca_floatToIntBits_5c35a (FP.l2f p1)) fun x7 =>
  some ((x7).toInt64)) else (
  if p2 = 6 then (
  o_cP (f_X11_sizeBits p1 6) fun x2 =>
  o_cP (f_X11_most 6) fun x3 =>
  if x2 ≤ x3 then (
  o_cP (f_X11_floatOf p1) fun x4 =>
  o_ck ((FP.f2d x4) &&& 0x7fffffffffffffff ≤ 0x7ff0000000000000) (
  o_cP (f_Jxe99ae_doubleToLongBits_ccdee (FP.f2d x4)) fun x5 =>
  some x5)) else (
  o_cP (f_X11_none 7) fun x6 =>
  some x6)) else (
  o_cP (f_Jxe99ae_doubleToLongBits_ccdee (FP.l2d p1)) fun x1 =>
  some x1))) else (
  some p1)))
set_option maxHeartbeats 4000000 in
set_option maxRecDepth 100000 in
theorem c_X11_widen {l : Launch} {D : va_G} {Y : Nat → ClassId} {aR : Nat → Nat} {A : Nat → Prop} {p1 : Int64} {p2 : Int32} {p3 : Int32} {r : Int64} (hf : f_X11_widen p1 p2 p3 = some r) : jq_P l D Y aR A yX11_widen cX11_widen 4 (some .long) 2 42 [.long p1, .int p2, .int p3] (some (.long r)) := by
  unfold f_X11_widen at hf
  refine jq_enterP (by decide) (Nat.le_of_ble_eq_true rfl) fun p e s m args below meth c ls H locs hX hS hl => ?_
  have hl : lv_has ls 4 [(0, .long p1), (2, .int p2), (3, .int p3)] := hl
  have hx := hX.1
  have hb := hX.2.1
  have hm := hX.2.2.1
  have ho := hX.2.2.2.1
  have ht := hX.2.2.2.2.1
  have hn := hX.2.2.2.2.2.1.2.1
  refine lv_iload_n hx hb dX11_widen_0 rfl (lv_at hl 1 rfl) ?_
  refine lv_iload_n hx hb dX11_widen_1 rfl (lv_at hl 2 rfl) ?_
  refine lv_icmp_eq (tgt := 17) hx hb dX11_widen_2 (by decide) (fun c1 => ?_) (fun c1 => ?_)
  · replace hf := o_t hf c1
    refine lv_lload_n hx hb dX11_widen_17 rfl (lv_at hl 0 rfl) ?_
    obtain rfl := Option.some.inj hf
    exact jq_lret hX hS dX11_widen_18 ⟨rfl, rfl, rfl, rfl⟩
  · replace hf := o_f hf c1
    refine lv_iload_n hx hb dX11_widen_5 rfl (lv_at hl 2 rfl) ?_
    refine lv_bipush (v := 8) hx hb dX11_widen_6 (by decide) ?_
    refine lv_icmp_ge (tgt := 17) hx hb dX11_widen_8 (by decide) (fun c2 => ?_) (fun c2 => ?_)
    · replace hf := o_t hf c2
      refine lv_lload_n hx hb dX11_widen_17 rfl (lv_at hl 0 rfl) ?_
      obtain rfl := Option.some.inj hf
      exact jq_lret hX hS dX11_widen_18 ⟨rfl, rfl, rfl, rfl⟩
    · replace hf := o_f hf c2
      refine lv_iload_n hx hb dX11_widen_11 rfl (lv_at hl 2 rfl) ?_
      refine lv_bipush (v := 6) hx hb dX11_widen_12 (by decide) ?_
      refine lv_icmp_ge (tgt := 19) hx hb dX11_widen_14 (by decide) (fun c3 => ?_) (fun c3 => ?_)
      · replace hf := o_t hf c3
        refine lv_iload_n hx hb dX11_widen_19 rfl (lv_at hl 2 rfl) ?_
        refine lv_bipush (v := 6) hx hb dX11_widen_20 (by decide) ?_
        refine lv_icmp_ne (tgt := 32) hx hb dX11_widen_22 (by decide) (fun c4 => ?_) (fun c4 => ?_)
        · replace hf := o_f hf c4
          refine lv_iload_n hx hb dX11_widen_32 rfl (lv_at hl 1 rfl) ?_
          refine lv_bipush (v := 6) hx hb dX11_widen_33 (by decide) ?_
          refine lv_icmp_ne (tgt := 70) hx hb dX11_widen_35 (by decide) (fun c5 => ?_) (fun c5 => ?_)
          · replace hf := o_f hf c5
            refine lv_lload_n hx hb dX11_widen_70 rfl (lv_at hl 0 rfl) ?_
            refine lv_l2d hx hb dX11_widen_71 ?_
            replace hf := o_cP_e hf
            obtain ⟨x1, hq1, hf⟩ := hf
            refine jq_doP hX hS (jq_okS (As := [.double (FP.l2d p1)]) (rest := []) hx hb hm ho ht qw978 qw979 qw980 qw16 hy_Jxe99ae_doubleToLongBits_ccdee rfl hl.1 (Nat.le_of_ble_eq_true rfl) dX11_widen_72) (c_Jxe99ae_doubleToLongBits_ccdee hq1) (Nat.le_of_ble_eq_true rfl) (Nat.le_of_ble_eq_true rfl) (Nat.le_refl _) (Nat.le_refl _) (fun locs hS' => ?_)
            clear hS
            have hS := hS'
            clear hS'
            obtain rfl := Option.some.inj hf
            exact jq_lret hX hS dX11_widen_75 ⟨rfl, rfl, rfl, rfl⟩
          · replace hf := o_t hf c5
            refine lv_lload_n hx hb dX11_widen_38 rfl (lv_at hl 0 rfl) ?_
            refine lv_bipush (v := 6) hx hb dX11_widen_39 (by decide) ?_
            replace hf := o_cP_e hf
            obtain ⟨x2, hq2, hf⟩ := hf
            refine jq_doP hX hS (jq_okS (As := [.long p1, .int 6]) (rest := []) hx hb hm ho ht qw963 qw964 qw965 qw7 hy_X11_sizeBits rfl hl.1 (Nat.le_of_ble_eq_true rfl) dX11_widen_41) (c_X11_sizeBits hq2) (Nat.le_of_ble_eq_true rfl) (Nat.le_of_ble_eq_true rfl) (Nat.le_refl _) (Nat.le_refl _) (fun locs hS' => ?_)
            clear hS
            have hS := hS'
            clear hS'
            refine lv_bipush (v := 6) hx hb dX11_widen_44 (by decide) ?_
            replace hf := o_cP_e hf
            obtain ⟨x3, hq3, hf⟩ := hf
            refine jq_doP hX hS (jq_okS (As := [.int 6]) (rest := [.long x2]) hx hb hm ho ht qw966 qw967 qw968 qw7 hy_X11_most rfl hl.1 (Nat.le_of_ble_eq_true rfl) dX11_widen_46) (c_X11_most hq3) (Nat.le_of_ble_eq_true rfl) (Nat.le_of_ble_eq_true rfl) (Nat.le_refl _) (Nat.le_refl _) (fun locs hS' => ?_)
            clear hS
            have hS := hS'
            clear hS'
            refine W.lcmp hx hb dX11_widen_49 ?_
            refine lv_if_le (tgt := 61) hx hb dX11_widen_50 (by decide) (fun c6 => ?_) (fun c6 => ?_)
            · replace hf := o_t hf (qc_le.mp c6)
              refine lv_lload_n hx hb dX11_widen_61 rfl (lv_at hl 0 rfl) ?_
              replace hf := o_cP_e hf
              obtain ⟨x4, hq4, hf⟩ := hf
              refine jq_doP hX hS (jq_okS (As := [.long p1]) (rest := []) hx hb hm ho ht qw972 qw973 qw974 qw7 hy_X11_floatOf rfl hl.1 (Nat.le_of_ble_eq_true rfl) dX11_widen_62) (c_X11_floatOf hq4) (Nat.le_of_ble_eq_true rfl) (Nat.le_of_ble_eq_true rfl) (Nat.le_refl _) (Nat.le_refl _) (fun locs hS' => ?_)
              clear hS
              have hS := hS'
              clear hS'
              replace hf := o_ck_e hf
              obtain ⟨hc1, hf⟩ := hf
              refine lv_f2d hx hb dX11_widen_65 hc1 ?_
              replace hf := o_cP_e hf
              obtain ⟨x5, hq5, hf⟩ := hf
              refine jq_doP hX hS (jq_okS (As := [.double (FP.f2d x4)]) (rest := []) hx hb hm ho ht qw978 qw979 qw980 qw16 hy_Jxe99ae_doubleToLongBits_ccdee rfl hl.1 (Nat.le_of_ble_eq_true rfl) dX11_widen_66) (c_Jxe99ae_doubleToLongBits_ccdee hq5) (Nat.le_of_ble_eq_true rfl) (Nat.le_of_ble_eq_true rfl) (Nat.le_refl _) (Nat.le_refl _) (fun locs hS' => ?_)
              clear hS
              have hS := hS'
              clear hS'
              obtain rfl := Option.some.inj hf
              exact jq_lret hX hS dX11_widen_69 ⟨rfl, rfl, rfl, rfl⟩
            · replace hf := o_f hf (fun z => c6 (qc_le.mpr z))
              refine lv_bipush (v := 7) hx hb dX11_widen_53 (by decide) ?_
              replace hf := o_cP_e hf
              obtain ⟨x6, hq6, hf⟩ := hf
              refine jq_doP hX hS (jq_okS (As := [.int 7]) (rest := []) hx hb hm ho ht qw969 qw970 qw971 qw7 hy_X11_none rfl hl.1 (Nat.le_of_ble_eq_true rfl) dX11_widen_55) (c_X11_none hq6) (Nat.le_of_ble_eq_true rfl) (Nat.le_of_ble_eq_true rfl) (Nat.le_refl _) (Nat.le_refl _) (fun locs hS' => ?_)
              clear hS
              have hS := hS'
              clear hS'
              refine lv_goto (tgt := 69) hx hb dX11_widen_58 (by decide) ?_
              obtain rfl := Option.some.inj hf
              exact jq_lret hX hS dX11_widen_69 ⟨rfl, rfl, rfl, rfl⟩
        · replace hf := o_t hf c4
          refine lv_lload_n hx hb dX11_widen_25 rfl (lv_at hl 0 rfl) ?_
          refine lv_l2f hx hb dX11_widen_26 ?_
          replace hf := o_cP_e hf
          obtain ⟨x7, hq7, hf⟩ := hf
          refine jq_doP hX hS (jq_okS (As := [.float (FP.l2f p1)]) (rest := []) hx hb hm ho ht qw953 qw954 qw955 qw15 hy_Jxf58ca_floatToIntBits_5c35a rfl hl.1 (Nat.le_of_ble_eq_true rfl) dX11_widen_27) (c_Jxf58ca_floatToIntBits_5c35a hq7) (Nat.le_of_ble_eq_true rfl) (Nat.le_of_ble_eq_true rfl) (Nat.le_refl _) (Nat.le_refl _) (fun locs hS' => ?_)
          clear hS
          have hS := hS'
          clear hS'
          refine lv_i2l hx hb dX11_widen_30 rfl ?_
          obtain rfl := Option.some.inj hf
          exact jq_lret hX hS dX11_widen_31 ⟨rfl, rfl, rfl, rfl⟩
      · replace hf := o_f hf c3
        refine lv_lload_n hx hb dX11_widen_17 rfl (lv_at hl 0 rfl) ?_
        obtain rfl := Option.some.inj hf
        exact jq_lret hX hS dX11_widen_18 ⟨rfl, rfl, rfl, rfl⟩
theorem dX11_givesNone_0 : decode cX11_givesNone 0 = .ok (.lload_n 0, 1) := by decide +kernel
theorem dX11_givesNone_1 : decode cX11_givesNone 1 = .ok (.iload 4, 2) := by decide +kernel
theorem dX11_givesNone_3 : decode cX11_givesNone 3 = .ok (.invokestatic 131, 3) := by decide +kernel
theorem dX11_givesNone_6 : decode cX11_givesNone 6 = .ok (.lstore 6, 2) := by decide +kernel
theorem dX11_givesNone_8 : decode cX11_givesNone 8 = .ok (.lload_n 2, 1) := by decide +kernel
theorem dX11_givesNone_9 : decode cX11_givesNone 9 = .ok (.iload 4, 2) := by decide +kernel
theorem dX11_givesNone_11 : decode cX11_givesNone 11 = .ok (.invokestatic 131, 3) := by decide +kernel
theorem dX11_givesNone_14 : decode cX11_givesNone 14 = .ok (.lstore 8, 2) := by decide +kernel
theorem dX11_givesNone_16 : decode cX11_givesNone 16 = .ok (.lload 6, 2) := by decide +kernel
theorem dX11_givesNone_18 : decode cX11_givesNone 18 = .ok (.iload 4, 2) := by decide +kernel
theorem dX11_givesNone_20 : decode cX11_givesNone 20 = .ok (.invokestatic 134, 3) := by decide +kernel
theorem dX11_givesNone_23 : decode cX11_givesNone 23 = .ok (.lcmp, 1) := by decide +kernel
theorem dX11_givesNone_42 : decode cX11_givesNone 42 = .ok (.iconst 0, 1) := by decide +kernel
theorem dX11_givesNone_27 : decode cX11_givesNone 27 = .ok (.lload 8, 2) := by decide +kernel
theorem dX11_givesNone_29 : decode cX11_givesNone 29 = .ok (.iload 4, 2) := by decide +kernel
theorem dX11_givesNone_31 : decode cX11_givesNone 31 = .ok (.invokestatic 134, 3) := by decide +kernel
theorem dX11_givesNone_34 : decode cX11_givesNone 34 = .ok (.lcmp, 1) := by decide +kernel
theorem dX11_givesNone_38 : decode cX11_givesNone 38 = .ok (.iconst 1, 1) := by decide +kernel
theorem dX11_givesNone_39 : decode cX11_givesNone 39 = .ok (.goto 4, 3) := by decide +kernel
theorem dX11_givesNone_35 : decode cX11_givesNone 35 = .ok (.ifCond .ne 7, 3) := by decide +kernel
theorem dX11_givesNone_24 : decode cX11_givesNone 24 = .ok (.ifCond .ne 18, 3) := by decide +kernel
theorem dX11_givesNone_43 : decode cX11_givesNone 43 = .ok (.istore 10, 2) := by decide +kernel
theorem dX11_givesNone_45 : decode cX11_givesNone 45 = .ok (.lload 6, 2) := by decide +kernel
theorem dX11_givesNone_47 : decode cX11_givesNone 47 = .ok (.iload 4, 2) := by decide +kernel
theorem dX11_givesNone_49 : decode cX11_givesNone 49 = .ok (.invokestatic 134, 3) := by decide +kernel
theorem dX11_givesNone_52 : decode cX11_givesNone 52 = .ok (.lcmp, 1) := by decide +kernel
theorem dX11_givesNone_105 : decode cX11_givesNone 105 = .ok (.iconst 1, 1) := by decide +kernel
theorem dX11_givesNone_106 : decode cX11_givesNone 106 = .ok (.goto 4, 3) := by decide +kernel
theorem dX11_givesNone_110 : decode cX11_givesNone 110 = .ok (.ireturn, 1) := by decide +kernel
theorem dX11_givesNone_56 : decode cX11_givesNone 56 = .ok (.lload 8, 2) := by decide +kernel
theorem dX11_givesNone_58 : decode cX11_givesNone 58 = .ok (.iload 4, 2) := by decide +kernel
theorem dX11_givesNone_60 : decode cX11_givesNone 60 = .ok (.invokestatic 134, 3) := by decide +kernel
theorem dX11_givesNone_63 : decode cX11_givesNone 63 = .ok (.lcmp, 1) := by decide +kernel
theorem dX11_givesNone_67 : decode cX11_givesNone 67 = .ok (.iload 5, 2) := by decide +kernel
theorem dX11_givesNone_69 : decode cX11_givesNone 69 = .ok (.ifCond .eq 17, 3) := by decide +kernel
theorem dX11_givesNone_86 : decode cX11_givesNone 86 = .ok (.iload 10, 2) := by decide +kernel
theorem dX11_givesNone_88 : decode cX11_givesNone 88 = .ok (.ifCond .ne 17, 3) := by decide +kernel
theorem dX11_givesNone_91 : decode cX11_givesNone 91 = .ok (.lload 6, 2) := by decide +kernel
theorem dX11_givesNone_93 : decode cX11_givesNone 93 = .ok (.lconst 0, 1) := by decide +kernel
theorem dX11_givesNone_94 : decode cX11_givesNone 94 = .ok (.lcmp, 1) := by decide +kernel
theorem dX11_givesNone_109 : decode cX11_givesNone 109 = .ok (.iconst 0, 1) := by decide +kernel
theorem dX11_givesNone_98 : decode cX11_givesNone 98 = .ok (.lload 8, 2) := by decide +kernel
theorem dX11_givesNone_100 : decode cX11_givesNone 100 = .ok (.lconst 0, 1) := by decide +kernel
theorem dX11_givesNone_101 : decode cX11_givesNone 101 = .ok (.lcmp, 1) := by decide +kernel
theorem dX11_givesNone_102 : decode cX11_givesNone 102 = .ok (.ifCond .ne 7, 3) := by decide +kernel
theorem dX11_givesNone_95 : decode cX11_givesNone 95 = .ok (.ifCond .ne 14, 3) := by decide +kernel
theorem dX11_givesNone_72 : decode cX11_givesNone 72 = .ok (.iload 10, 2) := by decide +kernel
theorem dX11_givesNone_74 : decode cX11_givesNone 74 = .ok (.ifCond .eq 35, 3) := by decide +kernel
theorem dX11_givesNone_77 : decode cX11_givesNone 77 = .ok (.lload_n 0, 1) := by decide +kernel
theorem dX11_givesNone_78 : decode cX11_givesNone 78 = .ok (.lload_n 2, 1) := by decide +kernel
theorem dX11_givesNone_79 : decode cX11_givesNone 79 = .ok (.lcmp, 1) := by decide +kernel
theorem dX11_givesNone_83 : decode cX11_givesNone 83 = .ok (.goto 22, 3) := by decide +kernel
theorem dX11_givesNone_80 : decode cX11_givesNone 80 = .ok (.ifCond .eq 29, 3) := by decide +kernel
theorem dX11_givesNone_64 : decode cX11_givesNone 64 = .ok (.ifCond .gt 41, 3) := by decide +kernel
theorem dX11_givesNone_53 : decode cX11_givesNone 53 = .ok (.ifCond .gt 52, 3) := by decide +kernel
theorem hy_X11_givesNone : yX11_givesNone.cls ≠ "java/lang/invoke/MethodHandle" ∧ yX11_givesNone.cls ≠ "java/lang/invoke/VarHandle" ∧ (parseMethodDescriptor yX11_givesNone.desc).map (fun d => d.parameters.length) = some 4 := ⟨by decide, by decide, by decide +kernel⟩
def f_X11_givesNone_b43 (l0 : Int64) (l2 : Int64) (l4 : Int32) (l5 : Int32) (l6 : Int64) (l8 : Int64) (t0 : Int32) : Option (Int32) :=
  o_cP (f_X11_most l4) fun x1 =>
  if x1 < l6 then (
  some 1) else (
  o_cP (f_X11_most l4) fun x2 =>
  if x2 < l8 then (
  some 1) else (
  if l5 = 0 then (
  if t0 = 0 then (
  if l6 = 0 then (
  if l8 = 0 then (
  some 1) else (
  some 0)) else (
  some 0)) else (
  some 1)) else (
  if t0 = 0 then (
  some 0) else (
  if l0 = l2 then (
  some 0) else (
  some 1)))))
set_option maxHeartbeats 4000000 in
set_option maxRecDepth 100000 in
theorem w_X11_givesNone_b43 {l : Launch} {D : va_G} {Y : Nat → ClassId} {aR : Nat → Nat} {A : Nat → Prop} {p : Program} {e : Env} {s : State} {m : MethodId} {args : Array Value} {below : List Frame} {meth : Method} {c : Code} : ∀ (l0 : Int64) (l2 : Int64) (l4 : Int32) (l5 : Int32) (l6 : Int64) (l8 : Int64) (t0 : Int32) (r : Int32) (H : Heap) (locs : List Loc) (ls : Array Slot), jq_X D Y aR A p s m args meth c cX11_givesNone RX11 "givesNone" 11 (some .boolean) → va_S A s.heap H locs → f_X11_givesNone_b43 l0 l2 l4 l5 l6 l8 t0 = some r → lv_has ls 11 [(0, .long l0), (2, .long l2), (4, .int l4), (5, .int l5), (6, .long l6), (8, .long l8)] → W p l e { frames := 1, cells := 0, slots := 0, locals := 22 } s m args below meth c H locs 0 0 (jq_Z below A (fun v k n H' => v = (some (.int r)) ∧ k = 0 ∧ n = 0 ∧ H' = H) s) (F0 m 43 ls [.int t0]) := by
  intro l0 l2 l4 l5 l6 l8 t0 r H locs ls hX hS hf hl
  unfold f_X11_givesNone_b43 at hf
  have hx := hX.1
  have hb := hX.2.1
  have hm := hX.2.2.1
  have ho := hX.2.2.2.1
  have ht := hX.2.2.2.2.1
  have hn := hX.2.2.2.2.2.1.2.1
  refine lv_istore (lv' := [(10, .int t0), (0, .long l0), (2, .long l2), (4, .int l4), (5, .int l5), (6, .long l6), (8, .long l8)]) hx hb dX11_givesNone_43 hl (by decide) rfl (fun ls hl' => ?_)
  clear hl
  have hl := hl'
  clear hl'
  refine lv_lload hx hb dX11_givesNone_45 (lv_at hl 5 rfl) ?_
  refine lv_iload hx hb dX11_givesNone_47 (lv_at hl 3 rfl) ?_
  replace hf := o_cP_e hf
  obtain ⟨x1, hq1, hf⟩ := hf
  refine jq_doP hX hS (jq_okS (As := [.int l4]) (rest := [.long l6]) hx hb hm ho ht qw966 qw967 qw968 qw7 hy_X11_most rfl hl.1 (Nat.le_of_ble_eq_true rfl) dX11_givesNone_49) (c_X11_most hq1) (Nat.le_of_ble_eq_true rfl) (Nat.le_of_ble_eq_true rfl) (Nat.le_refl _) (Nat.le_refl _) (fun locs hS' => ?_)
  clear hS
  have hS := hS'
  clear hS'
  refine W.lcmp hx hb dX11_givesNone_52 ?_
  refine lv_if_gt (tgt := 105) hx hb dX11_givesNone_53 (by decide) (fun c1 => ?_) (fun c1 => ?_)
  · replace hf := o_t hf (qc_gt.mp c1)
    refine lv_iconst (v := 1) hx hb dX11_givesNone_105 (by decide) ?_
    refine lv_goto (tgt := 110) hx hb dX11_givesNone_106 (by decide) ?_
    obtain rfl := Option.some.inj hf
    exact jq_zret hX hS (by decide) dX11_givesNone_110 ⟨rfl, rfl, rfl, rfl⟩
  · replace hf := o_f hf (fun z => c1 (qc_gt.mpr z))
    refine lv_lload hx hb dX11_givesNone_56 (lv_at hl 6 rfl) ?_
    refine lv_iload hx hb dX11_givesNone_58 (lv_at hl 3 rfl) ?_
    replace hf := o_cP_e hf
    obtain ⟨x2, hq2, hf⟩ := hf
    refine jq_doP hX hS (jq_okS (As := [.int l4]) (rest := [.long l8]) hx hb hm ho ht qw966 qw967 qw968 qw7 hy_X11_most rfl hl.1 (Nat.le_of_ble_eq_true rfl) dX11_givesNone_60) (c_X11_most hq2) (Nat.le_of_ble_eq_true rfl) (Nat.le_of_ble_eq_true rfl) (Nat.le_refl _) (Nat.le_refl _) (fun locs hS' => ?_)
    clear hS
    have hS := hS'
    clear hS'
    refine W.lcmp hx hb dX11_givesNone_63 ?_
    refine lv_if_gt (tgt := 105) hx hb dX11_givesNone_64 (by decide) (fun c2 => ?_) (fun c2 => ?_)
    · replace hf := o_t hf (qc_gt.mp c2)
      refine lv_iconst (v := 1) hx hb dX11_givesNone_105 (by decide) ?_
      refine lv_goto (tgt := 110) hx hb dX11_givesNone_106 (by decide) ?_
      obtain rfl := Option.some.inj hf
      exact jq_zret hX hS (by decide) dX11_givesNone_110 ⟨rfl, rfl, rfl, rfl⟩
    · replace hf := o_f hf (fun z => c2 (qc_gt.mpr z))
      refine lv_iload hx hb dX11_givesNone_67 (lv_at hl 4 rfl) ?_
      refine lv_if_eq (tgt := 86) hx hb dX11_givesNone_69 (by decide) (fun c3 => ?_) (fun c3 => ?_)
      · replace hf := o_t hf c3
        refine lv_iload hx hb dX11_givesNone_86 (lv_at hl 0 rfl) ?_
        refine lv_if_ne (tgt := 105) hx hb dX11_givesNone_88 (by decide) (fun c4 => ?_) (fun c4 => ?_)
        · replace hf := o_f hf c4
          refine lv_iconst (v := 1) hx hb dX11_givesNone_105 (by decide) ?_
          refine lv_goto (tgt := 110) hx hb dX11_givesNone_106 (by decide) ?_
          obtain rfl := Option.some.inj hf
          exact jq_zret hX hS (by decide) dX11_givesNone_110 ⟨rfl, rfl, rfl, rfl⟩
        · replace hf := o_t hf c4
          refine lv_lload hx hb dX11_givesNone_91 (lv_at hl 5 rfl) ?_
          refine lv_lconst (v := 0) hx hb dX11_givesNone_93 (by decide) ?_
          refine W.lcmp hx hb dX11_givesNone_94 ?_
          refine lv_if_ne (tgt := 109) hx hb dX11_givesNone_95 (by decide) (fun c5 => ?_) (fun c5 => ?_)
          · replace hf := o_f hf (fun z => c5 (qc_eq.mpr z))
            refine lv_iconst (v := 0) hx hb dX11_givesNone_109 (by decide) ?_
            obtain rfl := Option.some.inj hf
            exact jq_zret hX hS (by decide) dX11_givesNone_110 ⟨rfl, rfl, rfl, rfl⟩
          · replace hf := o_t hf (qc_eq.mp c5)
            refine lv_lload hx hb dX11_givesNone_98 (lv_at hl 6 rfl) ?_
            refine lv_lconst (v := 0) hx hb dX11_givesNone_100 (by decide) ?_
            refine W.lcmp hx hb dX11_givesNone_101 ?_
            refine lv_if_ne (tgt := 109) hx hb dX11_givesNone_102 (by decide) (fun c6 => ?_) (fun c6 => ?_)
            · replace hf := o_f hf (fun z => c6 (qc_eq.mpr z))
              refine lv_iconst (v := 0) hx hb dX11_givesNone_109 (by decide) ?_
              obtain rfl := Option.some.inj hf
              exact jq_zret hX hS (by decide) dX11_givesNone_110 ⟨rfl, rfl, rfl, rfl⟩
            · replace hf := o_t hf (qc_eq.mp c6)
              refine lv_iconst (v := 1) hx hb dX11_givesNone_105 (by decide) ?_
              refine lv_goto (tgt := 110) hx hb dX11_givesNone_106 (by decide) ?_
              obtain rfl := Option.some.inj hf
              exact jq_zret hX hS (by decide) dX11_givesNone_110 ⟨rfl, rfl, rfl, rfl⟩
      · replace hf := o_f hf c3
        refine lv_iload hx hb dX11_givesNone_72 (lv_at hl 0 rfl) ?_
        refine lv_if_eq (tgt := 109) hx hb dX11_givesNone_74 (by decide) (fun c7 => ?_) (fun c7 => ?_)
        · replace hf := o_t hf c7
          refine lv_iconst (v := 0) hx hb dX11_givesNone_109 (by decide) ?_
          obtain rfl := Option.some.inj hf
          exact jq_zret hX hS (by decide) dX11_givesNone_110 ⟨rfl, rfl, rfl, rfl⟩
        · replace hf := o_f hf c7
          refine lv_lload_n hx hb dX11_givesNone_77 rfl (lv_at hl 1 rfl) ?_
          refine lv_lload_n hx hb dX11_givesNone_78 rfl (lv_at hl 2 rfl) ?_
          refine W.lcmp hx hb dX11_givesNone_79 ?_
          refine lv_if_eq (tgt := 109) hx hb dX11_givesNone_80 (by decide) (fun c8 => ?_) (fun c8 => ?_)
          · replace hf := o_t hf (qc_eq.mp c8)
            refine lv_iconst (v := 0) hx hb dX11_givesNone_109 (by decide) ?_
            obtain rfl := Option.some.inj hf
            exact jq_zret hX hS (by decide) dX11_givesNone_110 ⟨rfl, rfl, rfl, rfl⟩
          · replace hf := o_f hf (fun z => c8 (qc_eq.mpr z))
            refine lv_goto (tgt := 105) hx hb dX11_givesNone_83 (by decide) ?_
            refine lv_iconst (v := 1) hx hb dX11_givesNone_105 (by decide) ?_
            refine lv_goto (tgt := 110) hx hb dX11_givesNone_106 (by decide) ?_
            obtain rfl := Option.some.inj hf
            exact jq_zret hX hS (by decide) dX11_givesNone_110 ⟨rfl, rfl, rfl, rfl⟩
def f_X11_givesNone (p1 : Int64) (p2 : Int64) (p3 : Int32) (p4 : Int32) : Option (Int32) :=
  o_cP (f_X11_sizeBits p1 p3) fun x1 =>
  o_cP (f_X11_sizeBits p2 p3) fun x2 =>
  o_cP (f_X11_most p3) fun x3 =>
  if x1 = x3 then (
  o_cP (f_X11_most p3) fun x4 =>
  if x2 = x4 then (
  f_X11_givesNone_b43 p1 p2 p3 p4 x1 x2 1) else (
  f_X11_givesNone_b43 p1 p2 p3 p4 x1 x2 0)) else (
  f_X11_givesNone_b43 p1 p2 p3 p4 x1 x2 0)
set_option maxHeartbeats 4000000 in
set_option maxRecDepth 100000 in
theorem c_X11_givesNone {l : Launch} {D : va_G} {Y : Nat → ClassId} {aR : Nat → Nat} {A : Nat → Prop} {p1 : Int64} {p2 : Int64} {p3 : Int32} {p4 : Int32} {r : Int32} (hf : f_X11_givesNone p1 p2 p3 p4 = some r) : jq_P l D Y aR A yX11_givesNone cX11_givesNone 11 (some .boolean) 1 22 [.long p1, .long p2, .int p3, .int p4] (some (.int r)) := by
  unfold f_X11_givesNone at hf
  refine jq_enterP (by decide) (Nat.le_of_ble_eq_true rfl) fun p e s m args below meth c ls H locs hX hS hl => ?_
  have hl : lv_has ls 11 [(0, .long p1), (2, .long p2), (4, .int p3), (5, .int p4)] := hl
  have hx := hX.1
  have hb := hX.2.1
  have hm := hX.2.2.1
  have ho := hX.2.2.2.1
  have ht := hX.2.2.2.2.1
  have hn := hX.2.2.2.2.2.1.2.1
  refine lv_lload_n hx hb dX11_givesNone_0 rfl (lv_at hl 0 rfl) ?_
  refine lv_iload hx hb dX11_givesNone_1 (lv_at hl 2 rfl) ?_
  replace hf := o_cP_e hf
  obtain ⟨x1, hq1, hf⟩ := hf
  refine jq_doP hX hS (jq_okS (As := [.long p1, .int p3]) (rest := []) hx hb hm ho ht qw963 qw964 qw965 qw7 hy_X11_sizeBits rfl hl.1 (Nat.le_of_ble_eq_true rfl) dX11_givesNone_3) (c_X11_sizeBits hq1) (Nat.le_of_ble_eq_true rfl) (Nat.le_of_ble_eq_true rfl) (Nat.le_refl _) (Nat.le_refl _) (fun locs hS' => ?_)
  clear hS
  have hS := hS'
  clear hS'
  refine lv_lstore (lv' := [(6, .long x1), (0, .long p1), (2, .long p2), (4, .int p3), (5, .int p4)]) hx hb dX11_givesNone_6 hl (by decide) rfl (fun ls hl' => ?_)
  clear hl
  have hl := hl'
  clear hl'
  refine lv_lload_n hx hb dX11_givesNone_8 rfl (lv_at hl 2 rfl) ?_
  refine lv_iload hx hb dX11_givesNone_9 (lv_at hl 3 rfl) ?_
  replace hf := o_cP_e hf
  obtain ⟨x2, hq2, hf⟩ := hf
  refine jq_doP hX hS (jq_okS (As := [.long p2, .int p3]) (rest := []) hx hb hm ho ht qw963 qw964 qw965 qw7 hy_X11_sizeBits rfl hl.1 (Nat.le_of_ble_eq_true rfl) dX11_givesNone_11) (c_X11_sizeBits hq2) (Nat.le_of_ble_eq_true rfl) (Nat.le_of_ble_eq_true rfl) (Nat.le_refl _) (Nat.le_refl _) (fun locs hS' => ?_)
  clear hS
  have hS := hS'
  clear hS'
  refine lv_lstore (lv' := [(8, .long x2), (6, .long x1), (0, .long p1), (2, .long p2), (4, .int p3), (5, .int p4)]) hx hb dX11_givesNone_14 hl (by decide) rfl (fun ls hl' => ?_)
  clear hl
  have hl := hl'
  clear hl'
  refine lv_lload hx hb dX11_givesNone_16 (lv_at hl 1 rfl) ?_
  refine lv_iload hx hb dX11_givesNone_18 (lv_at hl 4 rfl) ?_
  replace hf := o_cP_e hf
  obtain ⟨x3, hq3, hf⟩ := hf
  refine jq_doP hX hS (jq_okS (As := [.int p3]) (rest := [.long x1]) hx hb hm ho ht qw966 qw967 qw968 qw7 hy_X11_most rfl hl.1 (Nat.le_of_ble_eq_true rfl) dX11_givesNone_20) (c_X11_most hq3) (Nat.le_of_ble_eq_true rfl) (Nat.le_of_ble_eq_true rfl) (Nat.le_refl _) (Nat.le_refl _) (fun locs hS' => ?_)
  clear hS
  have hS := hS'
  clear hS'
  refine W.lcmp hx hb dX11_givesNone_23 ?_
  refine lv_if_ne (tgt := 42) hx hb dX11_givesNone_24 (by decide) (fun c1 => ?_) (fun c1 => ?_)
  · replace hf := o_f hf (fun z => c1 (qc_eq.mpr z))
    refine lv_iconst (v := 0) hx hb dX11_givesNone_42 (by decide) ?_
    replace hl := lv_sub hl (l' := [(0, .long p1), (2, .long p2), (4, .int p3), (5, .int p4), (6, .long x1), (8, .long x2)]) [2, 3, 4, 5, 1, 0] rfl
    exact w_X11_givesNone_b43 p1 p2 p3 p4 x1 x2 0 r H locs ls hX hS hf hl
  · replace hf := o_t hf (qc_eq.mp c1)
    refine lv_lload hx hb dX11_givesNone_27 (lv_at hl 0 rfl) ?_
    refine lv_iload hx hb dX11_givesNone_29 (lv_at hl 4 rfl) ?_
    replace hf := o_cP_e hf
    obtain ⟨x4, hq4, hf⟩ := hf
    refine jq_doP hX hS (jq_okS (As := [.int p3]) (rest := [.long x2]) hx hb hm ho ht qw966 qw967 qw968 qw7 hy_X11_most rfl hl.1 (Nat.le_of_ble_eq_true rfl) dX11_givesNone_31) (c_X11_most hq4) (Nat.le_of_ble_eq_true rfl) (Nat.le_of_ble_eq_true rfl) (Nat.le_refl _) (Nat.le_refl _) (fun locs hS' => ?_)
    clear hS
    have hS := hS'
    clear hS'
    refine W.lcmp hx hb dX11_givesNone_34 ?_
    refine lv_if_ne (tgt := 42) hx hb dX11_givesNone_35 (by decide) (fun c2 => ?_) (fun c2 => ?_)
    · replace hf := o_f hf (fun z => c2 (qc_eq.mpr z))
      refine lv_iconst (v := 0) hx hb dX11_givesNone_42 (by decide) ?_
      replace hl := lv_sub hl (l' := [(0, .long p1), (2, .long p2), (4, .int p3), (5, .int p4), (6, .long x1), (8, .long x2)]) [2, 3, 4, 5, 1, 0] rfl
      exact w_X11_givesNone_b43 p1 p2 p3 p4 x1 x2 0 r H locs ls hX hS hf hl
    · replace hf := o_t hf (qc_eq.mp c2)
      refine lv_iconst (v := 1) hx hb dX11_givesNone_38 (by decide) ?_
      refine lv_goto (tgt := 43) hx hb dX11_givesNone_39 (by decide) ?_
      replace hl := lv_sub hl (l' := [(0, .long p1), (2, .long p2), (4, .int p3), (5, .int p4), (6, .long x1), (8, .long x2)]) [2, 3, 4, 5, 1, 0] rfl
      exact w_X11_givesNone_b43 p1 p2 p3 p4 x1 x2 1 r H locs ls hX hS hf hl
theorem dX11_doubleOf_0 : decode cX11_doubleOf 0 = .ok (.lload_n 0, 1) := by decide +kernel
theorem dX11_doubleOf_1 : decode cX11_doubleOf 1 = .ok (.invokestatic 125, 3) := by decide +kernel
theorem dX11_doubleOf_4 : decode cX11_doubleOf 4 = .ok (.dreturn, 1) := by decide +kernel
theorem hy_X11_doubleOf : yX11_doubleOf.cls ≠ "java/lang/invoke/MethodHandle" ∧ yX11_doubleOf.cls ≠ "java/lang/invoke/VarHandle" ∧ (parseMethodDescriptor yX11_doubleOf.desc).map (fun d => d.parameters.length) = some 1 := ⟨by decide, by decide, by decide +kernel⟩
def f_X11_doubleOf (p1 : Int64) : Option (UInt64) :=
  o_ck (vn_snl2d p1 = false) (
  some ((p1).toUInt64))
set_option maxHeartbeats 4000000 in
set_option maxRecDepth 100000 in
theorem c_X11_doubleOf {l : Launch} {D : va_G} {Y : Nat → ClassId} {aR : Nat → Nat} {A : Nat → Prop} {p1 : Int64} {r : UInt64} (hf : f_X11_doubleOf p1 = some r) : jq_P l D Y aR A yX11_doubleOf cX11_doubleOf 2 (some .double) 1 15 [.long p1] (some (.double r)) := by
  unfold f_X11_doubleOf at hf
  refine jq_enterP (by decide) (Nat.le_of_ble_eq_true rfl) fun p e s m args below meth c ls H locs hX hS hl => ?_
  have hl : lv_has ls 2 [(0, .long p1)] := hl
  have hx := hX.1
  have hb := hX.2.1
  have hm := hX.2.2.1
  have ho := hX.2.2.2.1
  have ht := hX.2.2.2.2.1
  have hn := hX.2.2.2.2.2.1.2.1
  refine lv_lload_n hx hb dX11_doubleOf_0 rfl (lv_at hl 0 rfl) ?_
  replace hf := o_ck_e hf
  obtain ⟨hc1, hf⟩ := hf
  refine vn_l2d hx hb (hm.trans hl.1.symm) ho (ht _ qw1022) (ht _ qw1024) (ht _ qw1023) (ht _ qw16) hc1 (Nat.le_of_ble_eq_true rfl) (Nat.le_of_ble_eq_true rfl) dX11_doubleOf_1 ?_
  obtain rfl := Option.some.inj hf
  exact jq_dret hX hS dX11_doubleOf_4 ⟨rfl, rfl, rfl, rfl⟩
