theorem dX11_init_0 : decode cX11_init 0 = .ok (.aload_n 0, 1) := by decide +kernel
theorem dX11_init_1 : decode cX11_init 1 = .ok (.invokespecial 1, 3) := by decide +kernel
theorem dX11_init_4 : decode cX11_init 4 = .ok (.aload_n 0, 1) := by decide +kernel
theorem dX11_init_5 : decode cX11_init 5 = .ok (.bipush 16, 2) := by decide +kernel
theorem dX11_init_7 : decode cX11_init 7 = .ok (.newarray .int, 2) := by decide +kernel
theorem dX11_init_9 : decode cX11_init 9 = .ok (.putfield 7, 3) := by decide +kernel
theorem dX11_init_12 : decode cX11_init 12 = .ok (.aload_n 0, 1) := by decide +kernel
theorem dX11_init_13 : decode cX11_init 13 = .ok (.bipush 16, 2) := by decide +kernel
theorem dX11_init_15 : decode cX11_init 15 = .ok (.newarray .int, 2) := by decide +kernel
theorem dX11_init_17 : decode cX11_init 17 = .ok (.putfield 13, 3) := by decide +kernel
theorem dX11_init_20 : decode cX11_init 20 = .ok (.aload_n 0, 1) := by decide +kernel
theorem dX11_init_21 : decode cX11_init 21 = .ok (.sipush 128, 3) := by decide +kernel
theorem dX11_init_24 : decode cX11_init 24 = .ok (.newarray .long, 2) := by decide +kernel
theorem dX11_init_26 : decode cX11_init 26 = .ok (.putfield 16, 3) := by decide +kernel
theorem dX11_init_29 : decode cX11_init 29 = .ok (.aload_n 0, 1) := by decide +kernel
theorem dX11_init_30 : decode cX11_init 30 = .ok (.iconst 4, 1) := by decide +kernel
theorem dX11_init_31 : decode cX11_init 31 = .ok (.putfield 20, 3) := by decide +kernel
theorem dX11_init_34 : decode cX11_init 34 = .ok (.aload_n 0, 1) := by decide +kernel
theorem dX11_init_35 : decode cX11_init 35 = .ok (.iconst 4, 1) := by decide +kernel
theorem dX11_init_36 : decode cX11_init 36 = .ok (.newarray .int, 2) := by decide +kernel
theorem dX11_init_38 : decode cX11_init 38 = .ok (.putfield 24, 3) := by decide +kernel
theorem dX11_init_41 : decode cX11_init 41 = .ok (.aload_n 0, 1) := by decide +kernel
theorem dX11_init_42 : decode cX11_init 42 = .ok (.iconst 4, 1) := by decide +kernel
theorem dX11_init_43 : decode cX11_init 43 = .ok (.newarray .long, 2) := by decide +kernel
theorem dX11_init_45 : decode cX11_init 45 = .ok (.putfield 27, 3) := by decide +kernel
theorem dX11_init_48 : decode cX11_init 48 = .ok (.aload_n 0, 1) := by decide +kernel
theorem dX11_init_49 : decode cX11_init 49 = .ok (.bipush 32, 2) := by decide +kernel
theorem dX11_init_51 : decode cX11_init 51 = .ok (.newarray .int, 2) := by decide +kernel
theorem dX11_init_53 : decode cX11_init 53 = .ok (.putfield 30, 3) := by decide +kernel
theorem dX11_init_56 : decode cX11_init 56 = .ok (.aload_n 0, 1) := by decide +kernel
theorem dX11_init_57 : decode cX11_init 57 = .ok (.bipush 32, 2) := by decide +kernel
theorem dX11_init_59 : decode cX11_init 59 = .ok (.newarray .int, 2) := by decide +kernel
theorem dX11_init_61 : decode cX11_init 61 = .ok (.putfield 33, 3) := by decide +kernel
theorem dX11_init_64 : decode cX11_init 64 = .ok (.aload_n 0, 1) := by decide +kernel
theorem dX11_init_65 : decode cX11_init 65 = .ok (.bipush 32, 2) := by decide +kernel
theorem dX11_init_67 : decode cX11_init 67 = .ok (.newarray .int, 2) := by decide +kernel
theorem dX11_init_69 : decode cX11_init 69 = .ok (.putfield 36, 3) := by decide +kernel
theorem dX11_init_72 : decode cX11_init 72 = .ok (.aload_n 0, 1) := by decide +kernel
theorem dX11_init_73 : decode cX11_init 73 = .ok (.bipush 32, 2) := by decide +kernel
theorem dX11_init_75 : decode cX11_init 75 = .ok (.newarray .int, 2) := by decide +kernel
theorem dX11_init_77 : decode cX11_init 77 = .ok (.putfield 39, 3) := by decide +kernel
theorem dX11_init_80 : decode cX11_init 80 = .ok (.aload_n 0, 1) := by decide +kernel
theorem dX11_init_81 : decode cX11_init 81 = .ok (.bipush 32, 2) := by decide +kernel
theorem dX11_init_83 : decode cX11_init 83 = .ok (.newarray .long, 2) := by decide +kernel
theorem dX11_init_85 : decode cX11_init 85 = .ok (.putfield 42, 3) := by decide +kernel
theorem dX11_init_88 : decode cX11_init 88 = .ok (.aload_n 0, 1) := by decide +kernel
theorem dX11_init_89 : decode cX11_init 89 = .ok (.bipush 33, 2) := by decide +kernel
theorem dX11_init_91 : decode cX11_init 91 = .ok (.newarray .int, 2) := by decide +kernel
theorem dX11_init_93 : decode cX11_init 93 = .ok (.putfield 45, 3) := by decide +kernel
theorem dX11_init_96 : decode cX11_init 96 = .ok (.aload_n 0, 1) := by decide +kernel
theorem dX11_init_97 : decode cX11_init 97 = .ok (.sipush 132, 3) := by decide +kernel
theorem dX11_init_100 : decode cX11_init 100 = .ok (.newarray .int, 2) := by decide +kernel
theorem dX11_init_102 : decode cX11_init 102 = .ok (.putfield 48, 3) := by decide +kernel
theorem dX11_init_105 : decode cX11_init 105 = .ok (.aload_n 0, 1) := by decide +kernel
theorem dX11_init_106 : decode cX11_init 106 = .ok (.bipush 33, 2) := by decide +kernel
theorem dX11_init_108 : decode cX11_init 108 = .ok (.newarray .int, 2) := by decide +kernel
theorem dX11_init_110 : decode cX11_init 110 = .ok (.putfield 51, 3) := by decide +kernel
theorem dX11_init_113 : decode cX11_init 113 = .ok (.aload_n 0, 1) := by decide +kernel
theorem dX11_init_114 : decode cX11_init 114 = .ok (.bipush 33, 2) := by decide +kernel
theorem dX11_init_116 : decode cX11_init 116 = .ok (.newarray .int, 2) := by decide +kernel
theorem dX11_init_118 : decode cX11_init 118 = .ok (.putfield 54, 3) := by decide +kernel
theorem dX11_init_121 : decode cX11_init 121 = .ok (.aload_n 0, 1) := by decide +kernel
theorem dX11_init_122 : decode cX11_init 122 = .ok (.bipush 33, 2) := by decide +kernel
theorem dX11_init_124 : decode cX11_init 124 = .ok (.newarray .int, 2) := by decide +kernel
theorem dX11_init_126 : decode cX11_init 126 = .ok (.putfield 57, 3) := by decide +kernel
theorem dX11_init_129 : decode cX11_init 129 = .ok (.aload_n 0, 1) := by decide +kernel
theorem dX11_init_130 : decode cX11_init 130 = .ok (.sipush 132, 3) := by decide +kernel
theorem dX11_init_133 : decode cX11_init 133 = .ok (.newarray .long, 2) := by decide +kernel
theorem dX11_init_135 : decode cX11_init 135 = .ok (.putfield 60, 3) := by decide +kernel
theorem dX11_init_138 : decode cX11_init 138 = .ok (.aload_n 0, 1) := by decide +kernel
theorem dX11_init_139 : decode cX11_init 139 = .ok (.bipush 33, 2) := by decide +kernel
theorem dX11_init_141 : decode cX11_init 141 = .ok (.newarray .long, 2) := by decide +kernel
theorem dX11_init_143 : decode cX11_init 143 = .ok (.putfield 63, 3) := by decide +kernel
theorem dX11_init_146 : decode cX11_init 146 = .ok (.aload_n 0, 1) := by decide +kernel
theorem dX11_init_147 : decode cX11_init 147 = .ok (.bipush 33, 2) := by decide +kernel
theorem dX11_init_149 : decode cX11_init 149 = .ok (.newarray .int, 2) := by decide +kernel
theorem dX11_init_151 : decode cX11_init 151 = .ok (.putfield 66, 3) := by decide +kernel
theorem dX11_init_154 : decode cX11_init 154 = .ok (.aload_n 0, 1) := by decide +kernel
theorem dX11_init_155 : decode cX11_init 155 = .ok (.bipush 33, 2) := by decide +kernel
theorem dX11_init_157 : decode cX11_init 157 = .ok (.newarray .int, 2) := by decide +kernel
theorem dX11_init_159 : decode cX11_init 159 = .ok (.putfield 69, 3) := by decide +kernel
theorem dX11_init_162 : decode cX11_init 162 = .ok (.aload_n 0, 1) := by decide +kernel
theorem dX11_init_163 : decode cX11_init 163 = .ok (.iconst (-1), 1) := by decide +kernel
theorem dX11_init_164 : decode cX11_init 164 = .ok (.putfield 72, 3) := by decide +kernel
theorem dX11_init_167 : decode cX11_init 167 = .ok (.aload_n 0, 1) := by decide +kernel
theorem dX11_init_168 : decode cX11_init 168 = .ok (.iconst 4, 1) := by decide +kernel
theorem dX11_init_169 : decode cX11_init 169 = .ok (.newarray .long, 2) := by decide +kernel
theorem dX11_init_171 : decode cX11_init 171 = .ok (.putfield 75, 3) := by decide +kernel
theorem dX11_init_174 : decode cX11_init 174 = .ok (.return_, 1) := by decide +kernel
theorem hy_X11_init : yX11_init.cls ≠ "java/lang/invoke/MethodHandle" ∧ yX11_init.cls ≠ "java/lang/invoke/VarHandle" ∧ (parseMethodDescriptor yX11_init.desc).map (fun d => d.parameters.length) = some 0 := ⟨by decide, by decide, by decide +kernel⟩
def f_X11_init (o : Nat) (S : wS) : Option ((Unit) × wS) :=
  o_newA 21 16 S fun a1 S1 =>
  o_pR 10 16 o (some a1) S1 fun S2 =>
  o_newA 21 16 S2 fun a2 S3 =>
  o_pR 10 17 o (some a2) S3 fun S4 =>
  o_newA 22 128 S4 fun a3 S5 =>
  o_pR 10 18 o (some a3) S5 fun S6 =>
  o_pI 10 16 o 4 S6 fun S7 =>
  o_newA 21 4 S7 fun a4 S8 =>
  o_pR 10 19 o (some a4) S8 fun S9 =>
  o_newA 22 4 S9 fun a5 S10 =>
  o_pR 10 20 o (some a5) S10 fun S11 =>
  o_newA 21 32 S11 fun a6 S12 =>
  o_pR 10 21 o (some a6) S12 fun S13 =>
  o_newA 21 32 S13 fun a7 S14 =>
  o_pR 10 22 o (some a7) S14 fun S15 =>
  o_newA 21 32 S15 fun a8 S16 =>
  o_pR 10 23 o (some a8) S16 fun S17 =>
  o_newA 21 32 S17 fun a9 S18 =>
  o_pR 10 24 o (some a9) S18 fun S19 =>
  o_newA 22 32 S19 fun a10 S20 =>
  o_pR 10 25 o (some a10) S20 fun S21 =>
  o_newA 21 33 S21 fun a11 S22 =>
  o_pR 10 26 o (some a11) S22 fun S23 =>
  o_newA 21 132 S23 fun a12 S24 =>
  o_pR 10 27 o (some a12) S24 fun S25 =>
  o_newA 21 33 S25 fun a13 S26 =>
  o_pR 10 28 o (some a13) S26 fun S27 =>
  o_newA 21 33 S27 fun a14 S28 =>
  o_pR 10 29 o (some a14) S28 fun S29 =>
  o_newA 21 33 S29 fun a15 S30 =>
  o_pR 10 30 o (some a15) S30 fun S31 =>
  o_newA 22 132 S31 fun a16 S32 =>
  o_pR 10 31 o (some a16) S32 fun S33 =>
  o_newA 22 33 S33 fun a17 S34 =>
  o_pR 10 32 o (some a17) S34 fun S35 =>
  o_newA 21 33 S35 fun a18 S36 =>
  o_pR 10 33 o (some a18) S36 fun S37 =>
  o_newA 21 33 S37 fun a19 S38 =>
  o_pR 10 34 o (some a19) S38 fun S39 =>
  o_pI 10 26 o (-1) S39 fun S40 =>
  o_newA 22 4 S40 fun a20 S41 =>
  o_pR 10 35 o (some a20) S41 fun S42 =>
  some ((), S42)
set_option maxHeartbeats 4000000 in
set_option maxRecDepth 100000 in
theorem c_X11_init {l : Launch} {D : va_G} {Y : Nat → ClassId} {aR : Nat → Nat} {A : Nat → Prop} {o : Nat} {S S' : wS} {r : Unit} (hf : f_X11_init o S = some (r, S')) : jq_S l D Y aR A yX11_init cX11_init 1 none 1 12 [.ref o] S none S' := by
  unfold f_X11_init at hf
  refine jq_enterS (by decide) (Nat.le_of_ble_eq_true rfl) fun p e s m args below meth c ls H locs hX hJ hl => ?_
  have hl : lv_has ls 1 [(0, .ref o)] := hl
  have hx := hX.1
  have hb := hX.2.1
  have hm := hX.2.2.1
  have ho := hX.2.2.2.1
  have ht := hX.2.2.2.2.1
  have hn := hX.2.2.2.2.2.1.2.1
  refine lv_aload_n hx hb dX11_init_0 rfl (lv_at hl 0 rfl) ?_
  refine W.objInit hx hb ho (ht _ qw688) (ht _ qw23) (ht _ qw24) rfl (hl.1.trans hm.symm) rfl dX11_init_1 (Nat.le_of_ble_eq_true rfl) (Nat.le_of_ble_eq_true rfl) ?_
  refine W.eq (g2 := F0 m 4 ls []) rfl ?_
  refine lv_aload_n hx hb dX11_init_4 rfl (lv_at hl 0 rfl) ?_
  refine lv_bipush (v := 16) hx hb dX11_init_5 (by decide) ?_
  replace hf := o_newA_e hf
  obtain ⟨hk1, a1, S1, ha1, hS1, hf⟩ := hf
  refine na_I hX hJ hk1 ha1 hS1 dX11_init_7 (fun H hJ' => ?_)
  clear hJ
  have hJ := hJ'
  clear hJ'
  replace hf := o_pR_e hf
  obtain ⟨hk42, S2, hS2, hf⟩ := hf
  refine pf_X11_laneOf hX hJ hk42 hS2 rfl rfl qw690 dX11_init_9 (fun H locs hJ' => ?_)
  clear hJ
  have hJ := hJ'
  clear hJ'
  refine lv_aload_n hx hb dX11_init_12 rfl (lv_at hl 0 rfl) ?_
  refine lv_bipush (v := 16) hx hb dX11_init_13 (by decide) ?_
  replace hf := o_newA_e hf
  obtain ⟨hk2, a2, S3, ha2, hS3, hf⟩ := hf
  refine na_I hX hJ hk2 ha2 hS3 dX11_init_15 (fun H hJ' => ?_)
  clear hJ
  have hJ := hJ'
  clear hJ'
  replace hf := o_pR_e hf
  obtain ⟨hk41, S4, hS4, hf⟩ := hf
  refine pf_X11_sizeOf hX hJ hk41 hS4 rfl rfl qw691 dX11_init_17 (fun H locs hJ' => ?_)
  clear hJ
  have hJ := hJ'
  clear hJ'
  refine lv_aload_n hx hb dX11_init_20 rfl (lv_at hl 0 rfl) ?_
  refine lv_sipush (v := 128) hx hb dX11_init_21 (by decide) ?_
  replace hf := o_newA_e hf
  obtain ⟨hk3, a3, S5, ha3, hS5, hf⟩ := hf
  refine na_L hX hJ hk3 ha3 hS5 dX11_init_24 (fun H hJ' => ?_)
  clear hJ
  have hJ := hJ'
  clear hJ'
  replace hf := o_pR_e hf
  obtain ⟨hk40, S6, hS6, hf⟩ := hf
  refine pf_X11_items hX hJ hk40 hS6 rfl rfl qw692 dX11_init_26 (fun H locs hJ' => ?_)
  clear hJ
  have hJ := hJ'
  clear hJ'
  refine lv_aload_n hx hb dX11_init_29 rfl (lv_at hl 0 rfl) ?_
  refine lv_iconst (v := 4) hx hb dX11_init_30 (by decide) ?_
  replace hf := o_pI_e hf
  obtain ⟨hk39, S7, hS7, hf⟩ := hf
  refine pf_X11_handResult hX hJ hk39 hS7 qw693 dX11_init_31 (fun H locs hJ' => ?_)
  clear hJ
  have hJ := hJ'
  clear hJ'
  refine lv_aload_n hx hb dX11_init_34 rfl (lv_at hl 0 rfl) ?_
  refine lv_iconst (v := 4) hx hb dX11_init_35 (by decide) ?_
  replace hf := o_newA_e hf
  obtain ⟨hk4, a4, S8, ha4, hS8, hf⟩ := hf
  refine na_I hX hJ hk4 ha4 hS8 dX11_init_36 (fun H hJ' => ?_)
  clear hJ
  have hJ := hJ'
  clear hJ'
  replace hf := o_pR_e hf
  obtain ⟨hk38, S9, hS9, hf⟩ := hf
  refine pf_X11_handKind hX hJ hk38 hS9 rfl rfl qw695 dX11_init_38 (fun H locs hJ' => ?_)
  clear hJ
  have hJ := hJ'
  clear hJ'
  refine lv_aload_n hx hb dX11_init_41 rfl (lv_at hl 0 rfl) ?_
  refine lv_iconst (v := 4) hx hb dX11_init_42 (by decide) ?_
  replace hf := o_newA_e hf
  obtain ⟨hk5, a5, S10, ha5, hS10, hf⟩ := hf
  refine na_L hX hJ hk5 ha5 hS10 dX11_init_43 (fun H hJ' => ?_)
  clear hJ
  have hJ := hJ'
  clear hJ'
  replace hf := o_pR_e hf
  obtain ⟨hk37, S11, hS11, hf⟩ := hf
  refine pf_X11_given hX hJ hk37 hS11 rfl rfl qw696 dX11_init_45 (fun H locs hJ' => ?_)
  clear hJ
  have hJ := hJ'
  clear hJ'
  refine lv_aload_n hx hb dX11_init_48 rfl (lv_at hl 0 rfl) ?_
  refine lv_bipush (v := 32) hx hb dX11_init_49 (by decide) ?_
  replace hf := o_newA_e hf
  obtain ⟨hk6, a6, S12, ha6, hS12, hf⟩ := hf
  refine na_I hX hJ hk6 ha6 hS12 dX11_init_51 (fun H hJ' => ?_)
  clear hJ
  have hJ := hJ'
  clear hJ'
  replace hf := o_pR_e hf
  obtain ⟨hk36, S13, hS13, hf⟩ := hf
  refine pf_X11_sortOf hX hJ hk36 hS13 rfl rfl qw698 dX11_init_53 (fun H locs hJ' => ?_)
  clear hJ
  have hJ := hJ'
  clear hJ'
  refine lv_aload_n hx hb dX11_init_56 rfl (lv_at hl 0 rfl) ?_
  refine lv_bipush (v := 32) hx hb dX11_init_57 (by decide) ?_
  replace hf := o_newA_e hf
  obtain ⟨hk7, a7, S14, ha7, hS14, hf⟩ := hf
  refine na_I hX hJ hk7 ha7 hS14 dX11_init_59 (fun H hJ' => ?_)
  clear hJ
  have hJ := hJ'
  clear hJ'
  replace hf := o_pR_e hf
  obtain ⟨hk35, S15, hS15, hf⟩ := hf
  refine pf_X11_aOf hX hJ hk35 hS15 rfl rfl qw699 dX11_init_61 (fun H locs hJ' => ?_)
  clear hJ
  have hJ := hJ'
  clear hJ'
  refine lv_aload_n hx hb dX11_init_64 rfl (lv_at hl 0 rfl) ?_
  refine lv_bipush (v := 32) hx hb dX11_init_65 (by decide) ?_
  replace hf := o_newA_e hf
  obtain ⟨hk8, a8, S16, ha8, hS16, hf⟩ := hf
  refine na_I hX hJ hk8 ha8 hS16 dX11_init_67 (fun H hJ' => ?_)
  clear hJ
  have hJ := hJ'
  clear hJ'
  replace hf := o_pR_e hf
  obtain ⟨hk34, S17, hS17, hf⟩ := hf
  refine pf_X11_bOf hX hJ hk34 hS17 rfl rfl qw700 dX11_init_69 (fun H locs hJ' => ?_)
  clear hJ
  have hJ := hJ'
  clear hJ'
  refine lv_aload_n hx hb dX11_init_72 rfl (lv_at hl 0 rfl) ?_
  refine lv_bipush (v := 32) hx hb dX11_init_73 (by decide) ?_
  replace hf := o_newA_e hf
  obtain ⟨hk9, a9, S18, ha9, hS18, hf⟩ := hf
  refine na_I hX hJ hk9 ha9 hS18 dX11_init_75 (fun H hJ' => ?_)
  clear hJ
  have hJ := hJ'
  clear hJ'
  replace hf := o_pR_e hf
  obtain ⟨hk33, S19, hS19, hf⟩ := hf
  refine pf_X11_cOf hX hJ hk33 hS19 rfl rfl qw701 dX11_init_77 (fun H locs hJ' => ?_)
  clear hJ
  have hJ := hJ'
  clear hJ'
  refine lv_aload_n hx hb dX11_init_80 rfl (lv_at hl 0 rfl) ?_
  refine lv_bipush (v := 32) hx hb dX11_init_81 (by decide) ?_
  replace hf := o_newA_e hf
  obtain ⟨hk10, a10, S20, ha10, hS20, hf⟩ := hf
  refine na_L hX hJ hk10 ha10 hS20 dX11_init_83 (fun H hJ' => ?_)
  clear hJ
  have hJ := hJ'
  clear hJ'
  replace hf := o_pR_e hf
  obtain ⟨hk32, S21, hS21, hf⟩ := hf
  refine pf_X11_vOf hX hJ hk32 hS21 rfl rfl qw702 dX11_init_85 (fun H locs hJ' => ?_)
  clear hJ
  have hJ := hJ'
  clear hJ'
  refine lv_aload_n hx hb dX11_init_88 rfl (lv_at hl 0 rfl) ?_
  refine lv_bipush (v := 33) hx hb dX11_init_89 (by decide) ?_
  replace hf := o_newA_e hf
  obtain ⟨hk11, a11, S22, ha11, hS22, hf⟩ := hf
  refine na_I hX hJ hk11 ha11 hS22 dX11_init_91 (fun H hJ' => ?_)
  clear hJ
  have hJ := hJ'
  clear hJ'
  replace hf := o_pR_e hf
  obtain ⟨hk31, S23, hS23, hf⟩ := hf
  refine pf_X11_manyOf hX hJ hk31 hS23 rfl rfl qw703 dX11_init_93 (fun H locs hJ' => ?_)
  clear hJ
  have hJ := hJ'
  clear hJ'
  refine lv_aload_n hx hb dX11_init_96 rfl (lv_at hl 0 rfl) ?_
  refine lv_sipush (v := 132) hx hb dX11_init_97 (by decide) ?_
  replace hf := o_newA_e hf
  obtain ⟨hk12, a12, S24, ha12, hS24, hf⟩ := hf
  refine na_I hX hJ hk12 ha12 hS24 dX11_init_100 (fun H hJ' => ?_)
  clear hJ
  have hJ := hJ'
  clear hJ'
  replace hf := o_pR_e hf
  obtain ⟨hk30, S25, hS25, hf⟩ := hf
  refine pf_X11_kindOf hX hJ hk30 hS25 rfl rfl qw704 dX11_init_102 (fun H locs hJ' => ?_)
  clear hJ
  have hJ := hJ'
  clear hJ'
  refine lv_aload_n hx hb dX11_init_105 rfl (lv_at hl 0 rfl) ?_
  refine lv_bipush (v := 33) hx hb dX11_init_106 (by decide) ?_
  replace hf := o_newA_e hf
  obtain ⟨hk13, a13, S26, ha13, hS26, hf⟩ := hf
  refine na_I hX hJ hk13 ha13 hS26 dX11_init_108 (fun H hJ' => ?_)
  clear hJ
  have hJ := hJ'
  clear hJ'
  replace hf := o_pR_e hf
  obtain ⟨hk29, S27, hS27, hf⟩ := hf
  refine pf_X11_resultOf hX hJ hk29 hS27 rfl rfl qw705 dX11_init_110 (fun H locs hJ' => ?_)
  clear hJ
  have hJ := hJ'
  clear hJ'
  refine lv_aload_n hx hb dX11_init_113 rfl (lv_at hl 0 rfl) ?_
  refine lv_bipush (v := 33) hx hb dX11_init_114 (by decide) ?_
  replace hf := o_newA_e hf
  obtain ⟨hk14, a14, S28, ha14, hS28, hf⟩ := hf
  refine na_I hX hJ hk14 ha14 hS28 dX11_init_116 (fun H hJ' => ?_)
  clear hJ
  have hJ := hJ'
  clear hJ'
  replace hf := o_pR_e hf
  obtain ⟨hk28, S29, hS29, hf⟩ := hf
  refine pf_X11_frame hX hJ hk28 hS29 rfl rfl qw711 dX11_init_118 (fun H locs hJ' => ?_)
  clear hJ
  have hJ := hJ'
  clear hJ'
  refine lv_aload_n hx hb dX11_init_121 rfl (lv_at hl 0 rfl) ?_
  refine lv_bipush (v := 33) hx hb dX11_init_122 (by decide) ?_
  replace hf := o_newA_e hf
  obtain ⟨hk15, a15, S30, ha15, hS30, hf⟩ := hf
  refine na_I hX hJ hk15 ha15 hS30 dX11_init_124 (fun H hJ' => ?_)
  clear hJ
  have hJ := hJ'
  clear hJ'
  replace hf := o_pR_e hf
  obtain ⟨hk27, S31, hS31, hf⟩ := hf
  refine pf_X11_phase hX hJ hk27 hS31 rfl rfl qw712 dX11_init_126 (fun H locs hJ' => ?_)
  clear hJ
  have hJ := hJ'
  clear hJ'
  refine lv_aload_n hx hb dX11_init_129 rfl (lv_at hl 0 rfl) ?_
  refine lv_sipush (v := 132) hx hb dX11_init_130 (by decide) ?_
  replace hf := o_newA_e hf
  obtain ⟨hk16, a16, S32, ha16, hS32, hf⟩ := hf
  refine na_L hX hJ hk16 ha16 hS32 dX11_init_133 (fun H hJ' => ?_)
  clear hJ
  have hJ := hJ'
  clear hJ'
  replace hf := o_pR_e hf
  obtain ⟨hk26, S33, hS33, hf⟩ := hf
  refine pf_X11_par hX hJ hk26 hS33 rfl rfl qw713 dX11_init_135 (fun H locs hJ' => ?_)
  clear hJ
  have hJ := hJ'
  clear hJ'
  refine lv_aload_n hx hb dX11_init_138 rfl (lv_at hl 0 rfl) ?_
  refine lv_bipush (v := 33) hx hb dX11_init_139 (by decide) ?_
  replace hf := o_newA_e hf
  obtain ⟨hk17, a17, S34, ha17, hS34, hf⟩ := hf
  refine na_L hX hJ hk17 ha17 hS34 dX11_init_141 (fun H hJ' => ?_)
  clear hJ
  have hJ := hJ'
  clear hJ'
  replace hf := o_pR_e hf
  obtain ⟨hk25, S35, hS35, hf⟩ := hf
  refine pf_X11_held hX hJ hk25 hS35 rfl rfl qw714 dX11_init_143 (fun H locs hJ' => ?_)
  clear hJ
  have hJ := hJ'
  clear hJ'
  refine lv_aload_n hx hb dX11_init_146 rfl (lv_at hl 0 rfl) ?_
  refine lv_bipush (v := 33) hx hb dX11_init_147 (by decide) ?_
  replace hf := o_newA_e hf
  obtain ⟨hk18, a18, S36, ha18, hS36, hf⟩ := hf
  refine na_I hX hJ hk18 ha18 hS36 dX11_init_149 (fun H hJ' => ?_)
  clear hJ
  have hJ := hJ'
  clear hJ'
  replace hf := o_pR_e hf
  obtain ⟨hk24, S37, hS37, hf⟩ := hf
  refine pf_X11_turn hX hJ hk24 hS37 rfl rfl qw715 dX11_init_151 (fun H locs hJ' => ?_)
  clear hJ
  have hJ := hJ'
  clear hJ'
  refine lv_aload_n hx hb dX11_init_154 rfl (lv_at hl 0 rfl) ?_
  refine lv_bipush (v := 33) hx hb dX11_init_155 (by decide) ?_
  replace hf := o_newA_e hf
  obtain ⟨hk19, a19, S38, ha19, hS38, hf⟩ := hf
  refine na_I hX hJ hk19 ha19 hS38 dX11_init_157 (fun H hJ' => ?_)
  clear hJ
  have hJ := hJ'
  clear hJ'
  replace hf := o_pR_e hf
  obtain ⟨hk23, S39, hS39, hf⟩ := hf
  refine pf_X11_saved hX hJ hk23 hS39 rfl rfl qw716 dX11_init_159 (fun H locs hJ' => ?_)
  clear hJ
  have hJ := hJ'
  clear hJ'
  refine lv_aload_n hx hb dX11_init_162 rfl (lv_at hl 0 rfl) ?_
  refine lv_iconst (v := (-1)) hx hb dX11_init_163 (by decide) ?_
  replace hf := o_pI_e hf
  obtain ⟨hk22, S40, hS40, hf⟩ := hf
  refine pf_X11_blamed hX hJ hk22 hS40 qw721 dX11_init_164 (fun H locs hJ' => ?_)
  clear hJ
  have hJ := hJ'
  clear hJ'
  refine lv_aload_n hx hb dX11_init_167 rfl (lv_at hl 0 rfl) ?_
  refine lv_iconst (v := 4) hx hb dX11_init_168 (by decide) ?_
  replace hf := o_newA_e hf
  obtain ⟨hk20, a20, S41, ha20, hS41, hf⟩ := hf
  refine na_L hX hJ hk20 ha20 hS41 dX11_init_169 (fun H hJ' => ?_)
  clear hJ
  have hJ := hJ'
  clear hJ'
  replace hf := o_pR_e hf
  obtain ⟨hk21, S42, hS42, hf⟩ := hf
  refine pf_X11_hand hX hJ hk21 hS42 rfl rfl qw724 dX11_init_171 (fun H locs hJ' => ?_)
  clear hJ
  have hJ := hJ'
  clear hJ'
  obtain ⟨rfl, rfl⟩ := Prod.mk.inj (Option.some.inj hf)
  exact jq_vret hX hJ.2.2 dX11_init_174 ⟨rfl, rfl, rfl, hJ.1, hJ.2.1⟩
