theorem dX11_begin_0 : decode cX11_begin 0 = .ok (.aload_n 0, 1) := by decide +kernel
theorem dX11_begin_1 : decode cX11_begin 1 = .ok (.iconst 0, 1) := by decide +kernel
theorem dX11_begin_2 : decode cX11_begin 2 = .ok (.putfield 257, 3) := by decide +kernel
theorem dX11_begin_5 : decode cX11_begin 5 = .ok (.aload_n 0, 1) := by decide +kernel
theorem dX11_begin_6 : decode cX11_begin 6 = .ok (.getfield 260, 3) := by decide +kernel
theorem dX11_begin_9 : decode cX11_begin 9 = .ok (.sipush 2000, 3) := by decide +kernel
theorem dX11_begin_12 : decode cX11_begin 12 = .ok (.if_icmp .ne 15, 3) := by decide +kernel
theorem dX11_begin_27 : decode cX11_begin 27 = .ok (.aload_n 0, 1) := by decide +kernel
theorem dX11_begin_28 : decode cX11_begin 28 = .ok (.dup, 1) := by decide +kernel
theorem dX11_begin_29 : decode cX11_begin 29 = .ok (.getfield 260, 3) := by decide +kernel
theorem dX11_begin_32 : decode cX11_begin 32 = .ok (.iconst 1, 1) := by decide +kernel
theorem dX11_begin_33 : decode cX11_begin 33 = .ok (.iadd, 1) := by decide +kernel
theorem dX11_begin_34 : decode cX11_begin 34 = .ok (.putfield 260, 3) := by decide +kernel
theorem dX11_begin_37 : decode cX11_begin 37 = .ok (.aload_n 0, 1) := by decide +kernel
theorem dX11_begin_38 : decode cX11_begin 38 = .ok (.getfield 54, 3) := by decide +kernel
theorem dX11_begin_41 : decode cX11_begin 41 = .ok (.aload_n 0, 1) := by decide +kernel
theorem dX11_begin_42 : decode cX11_begin 42 = .ok (.getfield 263, 3) := by decide +kernel
theorem dX11_begin_45 : decode cX11_begin 45 = .ok (.iload_n 1, 1) := by decide +kernel
theorem dX11_begin_46 : decode cX11_begin 46 = .ok (.iastore, 1) := by decide +kernel
theorem dX11_begin_47 : decode cX11_begin 47 = .ok (.aload_n 0, 1) := by decide +kernel
theorem dX11_begin_48 : decode cX11_begin 48 = .ok (.getfield 57, 3) := by decide +kernel
theorem dX11_begin_51 : decode cX11_begin 51 = .ok (.aload_n 0, 1) := by decide +kernel
theorem dX11_begin_52 : decode cX11_begin 52 = .ok (.getfield 263, 3) := by decide +kernel
theorem dX11_begin_55 : decode cX11_begin 55 = .ok (.iconst 0, 1) := by decide +kernel
theorem dX11_begin_56 : decode cX11_begin 56 = .ok (.iastore, 1) := by decide +kernel
theorem dX11_begin_57 : decode cX11_begin 57 = .ok (.aload_n 0, 1) := by decide +kernel
theorem dX11_begin_58 : decode cX11_begin 58 = .ok (.getfield 66, 3) := by decide +kernel
theorem dX11_begin_61 : decode cX11_begin 61 = .ok (.aload_n 0, 1) := by decide +kernel
theorem dX11_begin_62 : decode cX11_begin 62 = .ok (.getfield 263, 3) := by decide +kernel
theorem dX11_begin_65 : decode cX11_begin 65 = .ok (.iconst 0, 1) := by decide +kernel
theorem dX11_begin_66 : decode cX11_begin 66 = .ok (.iastore, 1) := by decide +kernel
theorem dX11_begin_67 : decode cX11_begin 67 = .ok (.aload_n 0, 1) := by decide +kernel
theorem dX11_begin_68 : decode cX11_begin 68 = .ok (.getfield 69, 3) := by decide +kernel
theorem dX11_begin_71 : decode cX11_begin 71 = .ok (.aload_n 0, 1) := by decide +kernel
theorem dX11_begin_72 : decode cX11_begin 72 = .ok (.getfield 263, 3) := by decide +kernel
theorem dX11_begin_75 : decode cX11_begin 75 = .ok (.iconst 0, 1) := by decide +kernel
theorem dX11_begin_76 : decode cX11_begin 76 = .ok (.iastore, 1) := by decide +kernel
theorem dX11_begin_77 : decode cX11_begin 77 = .ok (.aload_n 0, 1) := by decide +kernel
theorem dX11_begin_78 : decode cX11_begin 78 = .ok (.getfield 63, 3) := by decide +kernel
theorem dX11_begin_81 : decode cX11_begin 81 = .ok (.aload_n 0, 1) := by decide +kernel
theorem dX11_begin_82 : decode cX11_begin 82 = .ok (.getfield 263, 3) := by decide +kernel
theorem dX11_begin_85 : decode cX11_begin 85 = .ok (.lconst 0, 1) := by decide +kernel
theorem dX11_begin_86 : decode cX11_begin 86 = .ok (.lastore, 1) := by decide +kernel
theorem dX11_begin_87 : decode cX11_begin 87 = .ok (.iconst 0, 1) := by decide +kernel
theorem dX11_begin_88 : decode cX11_begin 88 = .ok (.istore_n 2, 1) := by decide +kernel
theorem dX11_begin_15 : decode cX11_begin 15 = .ok (.aload_n 0, 1) := by decide +kernel
theorem dX11_begin_16 : decode cX11_begin 16 = .ok (.bipush 7, 2) := by decide +kernel
theorem dX11_begin_18 : decode cX11_begin 18 = .ok (.putfield 257, 3) := by decide +kernel
theorem dX11_begin_21 : decode cX11_begin 21 = .ok (.aload_n 0, 1) := by decide +kernel
theorem dX11_begin_22 : decode cX11_begin 22 = .ok (.iload_n 1, 1) := by decide +kernel
theorem dX11_begin_23 : decode cX11_begin 23 = .ok (.putfield 72, 3) := by decide +kernel
theorem dX11_begin_26 : decode cX11_begin 26 = .ok (.return_, 1) := by decide +kernel
theorem dX11_begin_89 : decode cX11_begin 89 = .ok (.iload_n 2, 1) := by decide +kernel
theorem dX11_begin_90 : decode cX11_begin 90 = .ok (.iconst 4, 1) := by decide +kernel
theorem dX11_begin_91 : decode cX11_begin 91 = .ok (.if_icmp .ge 28, 3) := by decide +kernel
theorem dX11_begin_119 : decode cX11_begin 119 = .ok (.aload_n 0, 1) := by decide +kernel
theorem dX11_begin_120 : decode cX11_begin 120 = .ok (.dup, 1) := by decide +kernel
theorem dX11_begin_121 : decode cX11_begin 121 = .ok (.getfield 263, 3) := by decide +kernel
theorem dX11_begin_124 : decode cX11_begin 124 = .ok (.iconst 1, 1) := by decide +kernel
theorem dX11_begin_125 : decode cX11_begin 125 = .ok (.iadd, 1) := by decide +kernel
theorem dX11_begin_126 : decode cX11_begin 126 = .ok (.putfield 263, 3) := by decide +kernel
theorem dX11_begin_129 : decode cX11_begin 129 = .ok (.return_, 1) := by decide +kernel
theorem dX11_begin_94 : decode cX11_begin 94 = .ok (.aload_n 0, 1) := by decide +kernel
theorem dX11_begin_95 : decode cX11_begin 95 = .ok (.getfield 60, 3) := by decide +kernel
theorem dX11_begin_98 : decode cX11_begin 98 = .ok (.iconst 4, 1) := by decide +kernel
theorem dX11_begin_99 : decode cX11_begin 99 = .ok (.aload_n 0, 1) := by decide +kernel
theorem dX11_begin_100 : decode cX11_begin 100 = .ok (.getfield 263, 3) := by decide +kernel
theorem dX11_begin_103 : decode cX11_begin 103 = .ok (.imul, 1) := by decide +kernel
theorem dX11_begin_104 : decode cX11_begin 104 = .ok (.iload_n 2, 1) := by decide +kernel
theorem dX11_begin_105 : decode cX11_begin 105 = .ok (.iadd, 1) := by decide +kernel
theorem dX11_begin_106 : decode cX11_begin 106 = .ok (.aload_n 0, 1) := by decide +kernel
theorem dX11_begin_107 : decode cX11_begin 107 = .ok (.getfield 75, 3) := by decide +kernel
theorem dX11_begin_110 : decode cX11_begin 110 = .ok (.iload_n 2, 1) := by decide +kernel
theorem dX11_begin_111 : decode cX11_begin 111 = .ok (.laload, 1) := by decide +kernel
theorem dX11_begin_112 : decode cX11_begin 112 = .ok (.lastore, 1) := by decide +kernel
theorem dX11_begin_113 : decode cX11_begin 113 = .ok (.iinc 2 1, 3) := by decide +kernel
theorem dX11_begin_116 : decode cX11_begin 116 = .ok (.goto (-27), 3) := by decide +kernel
theorem hy_X11_begin : yX11_begin.cls ≠ "java/lang/invoke/MethodHandle" ∧ yX11_begin.cls ≠ "java/lang/invoke/VarHandle" ∧ (parseMethodDescriptor yX11_begin.desc).map (fun d => d.parameters.length) = some 1 := ⟨by decide, by decide, by decide +kernel⟩
def f_X11_begin_b89 : Nat → Int32 → mS → Option ((Unit) × mS)
  | 0, _, _ => none
  | n + 1, l2, S => 
  if 4 ≤ l2 then (
  o_let (m_I S 7) fun x1 =>
  o_let (m_pI S 7 (x1 + (1 : Int32))) fun S1 =>
  some ((), S1)) else (
  o_let (m_I S 7) fun x2 =>
  o_ck (¬ (l2 < 0 ∨ 4 ≤ (l2).toNatClampNeg)) (o_let (m_aL S 20 (l2).toNatClampNeg) fun x3 =>
  o_ck (¬ ((((4 : Int32) * x2) + l2) < 0 ∨ 132 ≤ ((((4 : Int32) * x2) + l2)).toNatClampNeg)) (o_let (m_wL S 18 ((((4 : Int32) * x2) + l2)).toNatClampNeg x3) fun S2 =>
  o_let (l2 + 1) fun x4 =>
  f_X11_begin_b89 n x4 S2)))
set_option maxHeartbeats 4000000 in
set_option maxRecDepth 100000 in
theorem w_X11_begin_b89 {l : Launch} {D : va_G} {Y : Nat → ClassId} {aR : Nat → Nat} {A : Nat → Prop} {ad : Nat → Nat} {p : Program} {e : Env} {s : State} {m : MethodId} {args : Array Value} {below : List Frame} {meth : Method} {c : Code} : ∀ (n : Nat) (l2 : Int32) (S S' : mS) (r : Unit) (H : Heap) (locs : List Loc) (ls : Array Slot), jq_X D Y aR A p s m args meth c cX11_begin RX11 "begin" 3 none → mJ D Y A s ad S H locs → f_X11_begin_b89 n l2 S = some (r, S') → lv_has ls 3 [(0, .ref (ad 0)), (2, .int l2)] → W p l e { frames := 0, cells := 0, slots := 0, locals := 0 } s m args below meth c H locs 0 0 (jq_Z below A (fun v k n H => v = none ∧ k = 0 ∧ n = 0 ∧ mH D Y A ad S' H) s) (F0 m 89 ls []) := by
  intro n
  induction n with
  | zero =>
    intro l2 S S' r H locs ls hX hJ hf hl
    cases hf
  | succ n ih =>
    intro l2 S S' r H locs ls hX hJ hf hl
    rw [f_X11_begin_b89.eq_2] at hf
    have hx := hX.1
    have hb := hX.2.1
    have hm := hX.2.2.1
    have ho := hX.2.2.2.1
    have ht := hX.2.2.2.2.1
    have hn := hX.2.2.2.2.2.1.2.1
    refine lv_iload_n hx hb dX11_begin_89 rfl (lv_at hl 1 rfl) ?_
    refine lv_iconst (v := 4) hx hb dX11_begin_90 (by decide) ?_
    refine lv_icmp_ge (tgt := 119) hx hb dX11_begin_91 (by decide) (fun c1 => ?_) (fun c1 => ?_)
    · replace hf := o_t hf c1
      refine lv_aload_n hx hb dX11_begin_119 rfl (lv_at hl 0 rfl) ?_
      refine lv_dup hx hb dX11_begin_120 rfl ?_
      replace hf := o_let_e hf
      obtain ⟨x1, hx1, hf⟩ := hf
      refine mg_depth hX hJ hx1 qw710 dX11_begin_121 ?_
      refine lv_iconst (v := 1) hx hb dX11_begin_124 (by decide) ?_
      refine lv_iadd hx hb dX11_begin_125 ?_
      replace hf := o_let_e hf
      obtain ⟨S1, hS1, hf⟩ := hf
      refine mp_depth hX hJ hS1 qw710 dX11_begin_126 (fun H locs hJ' => ?_)
      clear hJ
      have hJ := hJ'
      clear hJ'
      obtain ⟨rfl, rfl⟩ := Prod.mk.inj (Option.some.inj hf)
      exact jq_vret hX hJ.2 dX11_begin_129 ⟨rfl, rfl, rfl, hJ.1⟩
    · replace hf := o_f hf c1
      refine lv_aload_n hx hb dX11_begin_94 rfl (lv_at hl 0 rfl) ?_
      refine mg_par hX hJ qw713 dX11_begin_95 ?_
      refine lv_iconst (v := 4) hx hb dX11_begin_98 (by decide) ?_
      refine lv_aload_n hx hb dX11_begin_99 rfl (lv_at hl 0 rfl) ?_
      replace hf := o_let_e hf
      obtain ⟨x2, hx2, hf⟩ := hf
      refine mg_depth hX hJ hx2 qw710 dX11_begin_100 ?_
      refine lv_imul hx hb dX11_begin_103 ?_
      refine lv_iload_n hx hb dX11_begin_104 rfl (lv_at hl 1 rfl) ?_
      refine lv_iadd hx hb dX11_begin_105 ?_
      refine lv_aload_n hx hb dX11_begin_106 rfl (lv_at hl 0 rfl) ?_
      refine mg_hand hX hJ qw724 dX11_begin_107 ?_
      refine lv_iload_n hx hb dX11_begin_110 rfl (lv_at hl 1 rfl) ?_
      replace hf := o_ck_e hf
      obtain ⟨hk1, hf⟩ := hf
      replace hf := o_let_e hf
      obtain ⟨x3, hx3, hf⟩ := hf
      refine ma_L 20 hX hJ (by decide) hk1 hx3 dX11_begin_111 ?_
      replace hf := o_ck_e hf
      obtain ⟨hk2, hf⟩ := hf
      replace hf := o_let_e hf
      obtain ⟨S2, hS2, hf⟩ := hf
      refine mw_L 18 hX hJ (by decide) hk2 hS2 dX11_begin_112 (fun H locs hJ' => ?_)
      clear hJ
      have hJ := hJ'
      clear hJ'
      replace hf := o_let_e hf
      obtain ⟨x4, hx4, hf⟩ := hf
      refine lv_iinc (v := x4) (lv' := [(2, .int x4), (0, .ref (ad 0))]) hx hb dX11_begin_113 hl (k := 1) rfl (by rw [← hx4]; rfl) (by decide) rfl (fun ls hl' => ?_)
      clear hl
      have hl := hl'
      clear hl'
      refine lv_goto (tgt := 89) hx hb dX11_begin_116 (by decide) ?_
      replace hl := lv_sub hl (l' := [(0, .ref (ad 0)), (2, .int x4)]) [1, 0] rfl
      exact ih x4 S2 S' r H locs ls hX hJ hf hl
def f_X11_begin (p1 : Int32) (S : mS) : Option ((Unit) × mS) :=
  o_let (m_pI S 8 0) fun S1 =>
  o_let (m_I S1 9) fun x1 =>
  if x1 = 2000 then (
  o_let (m_pI S1 8 7) fun S8 =>
  o_let (m_pI S8 11 p1) fun S9 =>
  some ((), S9)) else (
  o_let (m_I S1 9) fun x2 =>
  o_let (m_pI S1 9 (x2 + (1 : Int32))) fun S2 =>
  o_let (m_I S2 7) fun x3 =>
  o_ck (¬ (x3 < 0 ∨ 33 ≤ (x3).toNatClampNeg)) (o_let (m_wI S2 11 (x3).toNatClampNeg p1) fun S3 =>
  o_let (m_I S3 7) fun x4 =>
  o_ck (¬ (x4 < 0 ∨ 33 ≤ (x4).toNatClampNeg)) (o_let (m_wI S3 12 (x4).toNatClampNeg 0) fun S4 =>
  o_let (m_I S4 7) fun x5 =>
  o_ck (¬ (x5 < 0 ∨ 33 ≤ (x5).toNatClampNeg)) (o_let (m_wI S4 13 (x5).toNatClampNeg 0) fun S5 =>
  o_let (m_I S5 7) fun x6 =>
  o_ck (¬ (x6 < 0 ∨ 33 ≤ (x6).toNatClampNeg)) (o_let (m_wI S5 14 (x6).toNatClampNeg 0) fun S6 =>
  o_let (m_I S6 7) fun x7 =>
  o_ck (¬ (x7 < 0 ∨ 33 ≤ (x7).toNatClampNeg)) (o_let (m_wL S6 19 (x7).toNatClampNeg 0) fun S7 =>
  f_X11_begin_b89 12 0 S7))))))
set_option maxHeartbeats 4000000 in
set_option maxRecDepth 100000 in
theorem c_X11_begin {l : Launch} {D : va_G} {Y : Nat → ClassId} {aR : Nat → Nat} {A : Nat → Prop} {ad : Nat → Nat} {p1 : Int32} {S S' : mS} {r : Unit} (hf : f_X11_begin p1 S = some (r, S')) : jq_M l D Y aR A ad yX11_begin cX11_begin 3 none 0 0 [.ref (ad 0), .int p1] S none S' := by
  unfold f_X11_begin at hf
  refine jq_enterM (by decide) (Nat.le_of_ble_eq_true rfl) fun p e s m args below meth c ls H locs hX hJ hl => ?_
  have hl : lv_has ls 3 [(0, .ref (ad 0)), (1, .int p1)] := hl
  have hx := hX.1
  have hb := hX.2.1
  have hm := hX.2.2.1
  have ho := hX.2.2.2.1
  have ht := hX.2.2.2.2.1
  have hn := hX.2.2.2.2.2.1.2.1
  refine lv_aload_n hx hb dX11_begin_0 rfl (lv_at hl 0 rfl) ?_
  refine lv_iconst (v := 0) hx hb dX11_begin_1 (by decide) ?_
  replace hf := o_let_e hf
  obtain ⟨S1, hS1, hf⟩ := hf
  refine mp_failure hX hJ hS1 qw718 dX11_begin_2 (fun H locs hJ' => ?_)
  clear hJ
  have hJ := hJ'
  clear hJ'
  refine lv_aload_n hx hb dX11_begin_5 rfl (lv_at hl 0 rfl) ?_
  replace hf := o_let_e hf
  obtain ⟨x1, hx1, hf⟩ := hf
  refine mg_steps hX hJ hx1 qw719 dX11_begin_6 ?_
  refine lv_sipush (v := 2000) hx hb dX11_begin_9 (by decide) ?_
  refine lv_icmp_ne (tgt := 27) hx hb dX11_begin_12 (by decide) (fun c1 => ?_) (fun c1 => ?_)
  · replace hf := o_f hf c1
    refine lv_aload_n hx hb dX11_begin_27 rfl (lv_at hl 0 rfl) ?_
    refine lv_dup hx hb dX11_begin_28 rfl ?_
    replace hf := o_let_e hf
    obtain ⟨x2, hx2, hf⟩ := hf
    refine mg_steps hX hJ hx2 qw719 dX11_begin_29 ?_
    refine lv_iconst (v := 1) hx hb dX11_begin_32 (by decide) ?_
    refine lv_iadd hx hb dX11_begin_33 ?_
    replace hf := o_let_e hf
    obtain ⟨S2, hS2, hf⟩ := hf
    refine mp_steps hX hJ hS2 qw719 dX11_begin_34 (fun H locs hJ' => ?_)
    clear hJ
    have hJ := hJ'
    clear hJ'
    refine lv_aload_n hx hb dX11_begin_37 rfl (lv_at hl 0 rfl) ?_
    refine mg_frame hX hJ qw711 dX11_begin_38 ?_
    refine lv_aload_n hx hb dX11_begin_41 rfl (lv_at hl 0 rfl) ?_
    replace hf := o_let_e hf
    obtain ⟨x3, hx3, hf⟩ := hf
    refine mg_depth hX hJ hx3 qw710 dX11_begin_42 ?_
    refine lv_iload_n hx hb dX11_begin_45 rfl (lv_at hl 1 rfl) ?_
    replace hf := o_ck_e hf
    obtain ⟨hk1, hf⟩ := hf
    replace hf := o_let_e hf
    obtain ⟨S3, hS3, hf⟩ := hf
    refine mw_I 11 hX hJ (by decide) hk1 hS3 dX11_begin_46 (fun H locs hJ' => ?_)
    clear hJ
    have hJ := hJ'
    clear hJ'
    refine lv_aload_n hx hb dX11_begin_47 rfl (lv_at hl 0 rfl) ?_
    refine mg_phase hX hJ qw712 dX11_begin_48 ?_
    refine lv_aload_n hx hb dX11_begin_51 rfl (lv_at hl 0 rfl) ?_
    replace hf := o_let_e hf
    obtain ⟨x4, hx4, hf⟩ := hf
    refine mg_depth hX hJ hx4 qw710 dX11_begin_52 ?_
    refine lv_iconst (v := 0) hx hb dX11_begin_55 (by decide) ?_
    replace hf := o_ck_e hf
    obtain ⟨hk2, hf⟩ := hf
    replace hf := o_let_e hf
    obtain ⟨S4, hS4, hf⟩ := hf
    refine mw_I 12 hX hJ (by decide) hk2 hS4 dX11_begin_56 (fun H locs hJ' => ?_)
    clear hJ
    have hJ := hJ'
    clear hJ'
    refine lv_aload_n hx hb dX11_begin_57 rfl (lv_at hl 0 rfl) ?_
    refine mg_turn hX hJ qw715 dX11_begin_58 ?_
    refine lv_aload_n hx hb dX11_begin_61 rfl (lv_at hl 0 rfl) ?_
    replace hf := o_let_e hf
    obtain ⟨x5, hx5, hf⟩ := hf
    refine mg_depth hX hJ hx5 qw710 dX11_begin_62 ?_
    refine lv_iconst (v := 0) hx hb dX11_begin_65 (by decide) ?_
    replace hf := o_ck_e hf
    obtain ⟨hk3, hf⟩ := hf
    replace hf := o_let_e hf
    obtain ⟨S5, hS5, hf⟩ := hf
    refine mw_I 13 hX hJ (by decide) hk3 hS5 dX11_begin_66 (fun H locs hJ' => ?_)
    clear hJ
    have hJ := hJ'
    clear hJ'
    refine lv_aload_n hx hb dX11_begin_67 rfl (lv_at hl 0 rfl) ?_
    refine mg_saved hX hJ qw716 dX11_begin_68 ?_
    refine lv_aload_n hx hb dX11_begin_71 rfl (lv_at hl 0 rfl) ?_
    replace hf := o_let_e hf
    obtain ⟨x6, hx6, hf⟩ := hf
    refine mg_depth hX hJ hx6 qw710 dX11_begin_72 ?_
    refine lv_iconst (v := 0) hx hb dX11_begin_75 (by decide) ?_
    replace hf := o_ck_e hf
    obtain ⟨hk4, hf⟩ := hf
    replace hf := o_let_e hf
    obtain ⟨S6, hS6, hf⟩ := hf
    refine mw_I 14 hX hJ (by decide) hk4 hS6 dX11_begin_76 (fun H locs hJ' => ?_)
    clear hJ
    have hJ := hJ'
    clear hJ'
    refine lv_aload_n hx hb dX11_begin_77 rfl (lv_at hl 0 rfl) ?_
    refine mg_held hX hJ qw714 dX11_begin_78 ?_
    refine lv_aload_n hx hb dX11_begin_81 rfl (lv_at hl 0 rfl) ?_
    replace hf := o_let_e hf
    obtain ⟨x7, hx7, hf⟩ := hf
    refine mg_depth hX hJ hx7 qw710 dX11_begin_82 ?_
    refine lv_lconst (v := 0) hx hb dX11_begin_85 (by decide) ?_
    replace hf := o_ck_e hf
    obtain ⟨hk5, hf⟩ := hf
    replace hf := o_let_e hf
    obtain ⟨S7, hS7, hf⟩ := hf
    refine mw_L 19 hX hJ (by decide) hk5 hS7 dX11_begin_86 (fun H locs hJ' => ?_)
    clear hJ
    have hJ := hJ'
    clear hJ'
    refine lv_iconst (v := 0) hx hb dX11_begin_87 (by decide) ?_
    refine lv_istore_n (lv' := [(2, .int 0), (0, .ref (ad 0)), (1, .int p1)]) hx hb dX11_begin_88 rfl hl (by decide) rfl (fun ls hl' => ?_)
    clear hl
    have hl := hl'
    clear hl'
    replace hl := lv_sub hl (l' := [(0, .ref (ad 0)), (2, .int 0)]) [1, 0] rfl
    exact w_X11_begin_b89 12 0 S7 S' r H locs ls hX hJ hf hl
  · replace hf := o_t hf c1
    refine lv_aload_n hx hb dX11_begin_15 rfl (lv_at hl 0 rfl) ?_
    refine lv_bipush (v := 7) hx hb dX11_begin_16 (by decide) ?_
    replace hf := o_let_e hf
    obtain ⟨S8, hS8, hf⟩ := hf
    refine mp_failure hX hJ hS8 qw718 dX11_begin_18 (fun H locs hJ' => ?_)
    clear hJ
    have hJ := hJ'
    clear hJ'
    refine lv_aload_n hx hb dX11_begin_21 rfl (lv_at hl 0 rfl) ?_
    refine lv_iload_n hx hb dX11_begin_22 rfl (lv_at hl 1 rfl) ?_
    replace hf := o_let_e hf
    obtain ⟨S9, hS9, hf⟩ := hf
    refine mp_blamed hX hJ hS9 qw721 dX11_begin_23 (fun H locs hJ' => ?_)
    clear hJ
    have hJ := hJ'
    clear hJ'
    obtain ⟨rfl, rfl⟩ := Prod.mk.inj (Option.some.inj hf)
    exact jq_vret hX hJ.2 dX11_begin_26 ⟨rfl, rfl, rfl, hJ.1⟩
theorem dX11_end_0 : decode cX11_end 0 = .ok (.aload_n 0, 1) := by decide +kernel
theorem dX11_end_1 : decode cX11_end 1 = .ok (.dup, 1) := by decide +kernel
theorem dX11_end_2 : decode cX11_end 2 = .ok (.getfield 263, 3) := by decide +kernel
theorem dX11_end_5 : decode cX11_end 5 = .ok (.iconst 1, 1) := by decide +kernel
theorem dX11_end_6 : decode cX11_end 6 = .ok (.isub, 1) := by decide +kernel
theorem dX11_end_7 : decode cX11_end 7 = .ok (.putfield 263, 3) := by decide +kernel
theorem dX11_end_10 : decode cX11_end 10 = .ok (.aload_n 0, 1) := by decide +kernel
theorem dX11_end_11 : decode cX11_end 11 = .ok (.lload_n 1, 1) := by decide +kernel
theorem dX11_end_12 : decode cX11_end 12 = .ok (.putfield 266, 3) := by decide +kernel
theorem dX11_end_15 : decode cX11_end 15 = .ok (.aload_n 0, 1) := by decide +kernel
theorem dX11_end_16 : decode cX11_end 16 = .ok (.iconst 0, 1) := by decide +kernel
theorem dX11_end_17 : decode cX11_end 17 = .ok (.putfield 257, 3) := by decide +kernel
theorem dX11_end_20 : decode cX11_end 20 = .ok (.return_, 1) := by decide +kernel
theorem hy_X11_end : yX11_end.cls ≠ "java/lang/invoke/MethodHandle" ∧ yX11_end.cls ≠ "java/lang/invoke/VarHandle" ∧ (parseMethodDescriptor yX11_end.desc).map (fun d => d.parameters.length) = some 1 := ⟨by decide, by decide, by decide +kernel⟩
def f_X11_end (p1 : Int64) (S : mS) : Option ((Unit) × mS) :=
  o_let (m_I S 7) fun x1 =>
  o_let (m_pI S 7 (x1 - (1 : Int32))) fun S1 =>
  o_let (m_pL S1 1 p1) fun S2 =>
  o_let (m_pI S2 8 0) fun S3 =>
  some ((), S3)
set_option maxHeartbeats 4000000 in
set_option maxRecDepth 100000 in
theorem c_X11_end {l : Launch} {D : va_G} {Y : Nat → ClassId} {aR : Nat → Nat} {A : Nat → Prop} {ad : Nat → Nat} {p1 : Int64} {S S' : mS} {r : Unit} (hf : f_X11_end p1 S = some (r, S')) : jq_M l D Y aR A ad yX11_end cX11_end 3 none 0 0 [.ref (ad 0), .long p1] S none S' := by
  unfold f_X11_end at hf
  refine jq_enterM (by decide) (Nat.le_of_ble_eq_true rfl) fun p e s m args below meth c ls H locs hX hJ hl => ?_
  have hl : lv_has ls 3 [(0, .ref (ad 0)), (1, .long p1)] := hl
  have hx := hX.1
  have hb := hX.2.1
  have hm := hX.2.2.1
  have ho := hX.2.2.2.1
  have ht := hX.2.2.2.2.1
  have hn := hX.2.2.2.2.2.1.2.1
  refine lv_aload_n hx hb dX11_end_0 rfl (lv_at hl 0 rfl) ?_
  refine lv_dup hx hb dX11_end_1 rfl ?_
  replace hf := o_let_e hf
  obtain ⟨x1, hx1, hf⟩ := hf
  refine mg_depth hX hJ hx1 qw710 dX11_end_2 ?_
  refine lv_iconst (v := 1) hx hb dX11_end_5 (by decide) ?_
  refine lv_isub hx hb dX11_end_6 ?_
  replace hf := o_let_e hf
  obtain ⟨S1, hS1, hf⟩ := hf
  refine mp_depth hX hJ hS1 qw710 dX11_end_7 (fun H locs hJ' => ?_)
  clear hJ
  have hJ := hJ'
  clear hJ'
  refine lv_aload_n hx hb dX11_end_10 rfl (lv_at hl 0 rfl) ?_
  refine lv_lload_n hx hb dX11_end_11 rfl (lv_at hl 1 rfl) ?_
  replace hf := o_let_e hf
  obtain ⟨S2, hS2, hf⟩ := hf
  refine mp_back hX hJ hS2 qw717 dX11_end_12 (fun H locs hJ' => ?_)
  clear hJ
  have hJ := hJ'
  clear hJ'
  refine lv_aload_n hx hb dX11_end_15 rfl (lv_at hl 0 rfl) ?_
  refine lv_iconst (v := 0) hx hb dX11_end_16 (by decide) ?_
  replace hf := o_let_e hf
  obtain ⟨S3, hS3, hf⟩ := hf
  refine mp_failure hX hJ hS3 qw718 dX11_end_17 (fun H locs hJ' => ?_)
  clear hJ
  have hJ := hJ'
  clear hJ'
  obtain ⟨rfl, rfl⟩ := Prod.mk.inj (Option.some.inj hf)
  exact jq_vret hX hJ.2 dX11_end_20 ⟨rfl, rfl, rfl, hJ.1⟩
theorem dX11_fail_0 : decode cX11_fail 0 = .ok (.aload_n 0, 1) := by decide +kernel
theorem dX11_fail_1 : decode cX11_fail 1 = .ok (.dup, 1) := by decide +kernel
theorem dX11_fail_2 : decode cX11_fail 2 = .ok (.getfield 263, 3) := by decide +kernel
theorem dX11_fail_5 : decode cX11_fail 5 = .ok (.iconst 1, 1) := by decide +kernel
theorem dX11_fail_6 : decode cX11_fail 6 = .ok (.isub, 1) := by decide +kernel
theorem dX11_fail_7 : decode cX11_fail 7 = .ok (.putfield 263, 3) := by decide +kernel
theorem dX11_fail_10 : decode cX11_fail 10 = .ok (.aload_n 0, 1) := by decide +kernel
theorem dX11_fail_11 : decode cX11_fail 11 = .ok (.aload_n 0, 1) := by decide +kernel
theorem dX11_fail_12 : decode cX11_fail 12 = .ok (.getfield 54, 3) := by decide +kernel
theorem dX11_fail_15 : decode cX11_fail 15 = .ok (.aload_n 0, 1) := by decide +kernel
theorem dX11_fail_16 : decode cX11_fail 16 = .ok (.getfield 263, 3) := by decide +kernel
theorem dX11_fail_19 : decode cX11_fail 19 = .ok (.iaload, 1) := by decide +kernel
theorem dX11_fail_20 : decode cX11_fail 20 = .ok (.putfield 72, 3) := by decide +kernel
theorem dX11_fail_23 : decode cX11_fail 23 = .ok (.aload_n 0, 1) := by decide +kernel
theorem dX11_fail_24 : decode cX11_fail 24 = .ok (.getfield 269, 3) := by decide +kernel
theorem dX11_fail_27 : decode cX11_fail 27 = .ok (.bipush 24, 2) := by decide +kernel
theorem dX11_fail_29 : decode cX11_fail 29 = .ok (.if_icmp .ne 10, 3) := by decide +kernel
theorem dX11_fail_39 : decode cX11_fail 39 = .ok (.aload_n 0, 1) := by decide +kernel
theorem dX11_fail_40 : decode cX11_fail 40 = .ok (.dup, 1) := by decide +kernel
theorem dX11_fail_41 : decode cX11_fail 41 = .ok (.getfield 269, 3) := by decide +kernel
theorem dX11_fail_44 : decode cX11_fail 44 = .ok (.iconst 1, 1) := by decide +kernel
theorem dX11_fail_45 : decode cX11_fail 45 = .ok (.iadd, 1) := by decide +kernel
theorem dX11_fail_46 : decode cX11_fail 46 = .ok (.putfield 269, 3) := by decide +kernel
theorem dX11_fail_49 : decode cX11_fail 49 = .ok (.aload_n 0, 1) := by decide +kernel
theorem dX11_fail_50 : decode cX11_fail 50 = .ok (.iload_n 1, 1) := by decide +kernel
theorem dX11_fail_51 : decode cX11_fail 51 = .ok (.putfield 257, 3) := by decide +kernel
theorem dX11_fail_54 : decode cX11_fail 54 = .ok (.return_, 1) := by decide +kernel
theorem dX11_fail_32 : decode cX11_fail 32 = .ok (.aload_n 0, 1) := by decide +kernel
theorem dX11_fail_33 : decode cX11_fail 33 = .ok (.bipush 7, 2) := by decide +kernel
theorem dX11_fail_35 : decode cX11_fail 35 = .ok (.putfield 257, 3) := by decide +kernel
theorem dX11_fail_38 : decode cX11_fail 38 = .ok (.return_, 1) := by decide +kernel
theorem hy_X11_fail : yX11_fail.cls ≠ "java/lang/invoke/MethodHandle" ∧ yX11_fail.cls ≠ "java/lang/invoke/VarHandle" ∧ (parseMethodDescriptor yX11_fail.desc).map (fun d => d.parameters.length) = some 1 := ⟨by decide, by decide, by decide +kernel⟩
def f_X11_fail (p1 : Int32) (S : mS) : Option ((Unit) × mS) :=
  o_let (m_I S 7) fun x1 =>
  o_let (m_pI S 7 (x1 - (1 : Int32))) fun S1 =>
  o_let (m_I S1 7) fun x2 =>
  o_ck (¬ (x2 < 0 ∨ 33 ≤ (x2).toNatClampNeg)) (o_let (m_aI S1 11 (x2).toNatClampNeg) fun x3 =>
  o_let (m_pI S1 11 x3) fun S2 =>
  o_let (m_I S2 10) fun x4 =>
  if x4 = 24 then (
  o_let (m_pI S2 8 7) fun S5 =>
  some ((), S5)) else (
  o_let (m_I S2 10) fun x5 =>
  o_let (m_pI S2 10 (x5 + (1 : Int32))) fun S3 =>
  o_let (m_pI S3 8 p1) fun S4 =>
  some ((), S4)))
set_option maxHeartbeats 4000000 in
set_option maxRecDepth 100000 in
theorem c_X11_fail {l : Launch} {D : va_G} {Y : Nat → ClassId} {aR : Nat → Nat} {A : Nat → Prop} {ad : Nat → Nat} {p1 : Int32} {S S' : mS} {r : Unit} (hf : f_X11_fail p1 S = some (r, S')) : jq_M l D Y aR A ad yX11_fail cX11_fail 2 none 0 0 [.ref (ad 0), .int p1] S none S' := by
  unfold f_X11_fail at hf
  refine jq_enterM (by decide) (Nat.le_of_ble_eq_true rfl) fun p e s m args below meth c ls H locs hX hJ hl => ?_
  have hl : lv_has ls 2 [(0, .ref (ad 0)), (1, .int p1)] := hl
  have hx := hX.1
  have hb := hX.2.1
  have hm := hX.2.2.1
  have ho := hX.2.2.2.1
  have ht := hX.2.2.2.2.1
  have hn := hX.2.2.2.2.2.1.2.1
  refine lv_aload_n hx hb dX11_fail_0 rfl (lv_at hl 0 rfl) ?_
  refine lv_dup hx hb dX11_fail_1 rfl ?_
  replace hf := o_let_e hf
  obtain ⟨x1, hx1, hf⟩ := hf
  refine mg_depth hX hJ hx1 qw710 dX11_fail_2 ?_
  refine lv_iconst (v := 1) hx hb dX11_fail_5 (by decide) ?_
  refine lv_isub hx hb dX11_fail_6 ?_
  replace hf := o_let_e hf
  obtain ⟨S1, hS1, hf⟩ := hf
  refine mp_depth hX hJ hS1 qw710 dX11_fail_7 (fun H locs hJ' => ?_)
  clear hJ
  have hJ := hJ'
  clear hJ'
  refine lv_aload_n hx hb dX11_fail_10 rfl (lv_at hl 0 rfl) ?_
  refine lv_aload_n hx hb dX11_fail_11 rfl (lv_at hl 0 rfl) ?_
  refine mg_frame hX hJ qw711 dX11_fail_12 ?_
  refine lv_aload_n hx hb dX11_fail_15 rfl (lv_at hl 0 rfl) ?_
  replace hf := o_let_e hf
  obtain ⟨x2, hx2, hf⟩ := hf
  refine mg_depth hX hJ hx2 qw710 dX11_fail_16 ?_
  replace hf := o_ck_e hf
  obtain ⟨hk1, hf⟩ := hf
  replace hf := o_let_e hf
  obtain ⟨x3, hx3, hf⟩ := hf
  refine ma_I 11 hX hJ (by decide) hk1 hx3 dX11_fail_19 ?_
  replace hf := o_let_e hf
  obtain ⟨S2, hS2, hf⟩ := hf
  refine mp_blamed hX hJ hS2 qw721 dX11_fail_20 (fun H locs hJ' => ?_)
  clear hJ
  have hJ := hJ'
  clear hJ'
  refine lv_aload_n hx hb dX11_fail_23 rfl (lv_at hl 0 rfl) ?_
  replace hf := o_let_e hf
  obtain ⟨x4, hx4, hf⟩ := hf
  refine mg_failures hX hJ hx4 qw720 dX11_fail_24 ?_
  refine lv_bipush (v := 24) hx hb dX11_fail_27 (by decide) ?_
  refine lv_icmp_ne (tgt := 39) hx hb dX11_fail_29 (by decide) (fun c1 => ?_) (fun c1 => ?_)
  · replace hf := o_f hf c1
    refine lv_aload_n hx hb dX11_fail_39 rfl (lv_at hl 0 rfl) ?_
    refine lv_dup hx hb dX11_fail_40 rfl ?_
    replace hf := o_let_e hf
    obtain ⟨x5, hx5, hf⟩ := hf
    refine mg_failures hX hJ hx5 qw720 dX11_fail_41 ?_
    refine lv_iconst (v := 1) hx hb dX11_fail_44 (by decide) ?_
    refine lv_iadd hx hb dX11_fail_45 ?_
    replace hf := o_let_e hf
    obtain ⟨S3, hS3, hf⟩ := hf
    refine mp_failures hX hJ hS3 qw720 dX11_fail_46 (fun H locs hJ' => ?_)
    clear hJ
    have hJ := hJ'
    clear hJ'
    refine lv_aload_n hx hb dX11_fail_49 rfl (lv_at hl 0 rfl) ?_
    refine lv_iload_n hx hb dX11_fail_50 rfl (lv_at hl 1 rfl) ?_
    replace hf := o_let_e hf
    obtain ⟨S4, hS4, hf⟩ := hf
    refine mp_failure hX hJ hS4 qw718 dX11_fail_51 (fun H locs hJ' => ?_)
    clear hJ
    have hJ := hJ'
    clear hJ'
    obtain ⟨rfl, rfl⟩ := Prod.mk.inj (Option.some.inj hf)
    exact jq_vret hX hJ.2 dX11_fail_54 ⟨rfl, rfl, rfl, hJ.1⟩
  · replace hf := o_t hf c1
    refine lv_aload_n hx hb dX11_fail_32 rfl (lv_at hl 0 rfl) ?_
    refine lv_bipush (v := 7) hx hb dX11_fail_33 (by decide) ?_
    replace hf := o_let_e hf
    obtain ⟨S5, hS5, hf⟩ := hf
    refine mp_failure hX hJ hS5 qw718 dX11_fail_35 (fun H locs hJ' => ?_)
    clear hJ
    have hJ := hJ'
    clear hJ'
    obtain ⟨rfl, rfl⟩ := Prod.mk.inj (Option.some.inj hf)
    exact jq_vret hX hJ.2 dX11_fail_38 ⟨rfl, rfl, rfl, hJ.1⟩
theorem dX11_reads_0 : decode cX11_reads 0 = .ok (.iconst 4, 1) := by decide +kernel
theorem dX11_reads_1 : decode cX11_reads 1 = .ok (.aload_n 0, 1) := by decide +kernel
theorem dX11_reads_2 : decode cX11_reads 2 = .ok (.getfield 263, 3) := by decide +kernel
theorem dX11_reads_5 : decode cX11_reads 5 = .ok (.iconst 1, 1) := by decide +kernel
theorem dX11_reads_6 : decode cX11_reads 6 = .ok (.isub, 1) := by decide +kernel
theorem dX11_reads_7 : decode cX11_reads 7 = .ok (.imul, 1) := by decide +kernel
theorem dX11_reads_8 : decode cX11_reads 8 = .ok (.istore_n 3, 1) := by decide +kernel
theorem dX11_reads_9 : decode cX11_reads 9 = .ok (.aload_n 0, 1) := by decide +kernel
theorem dX11_reads_10 : decode cX11_reads 10 = .ok (.getfield 60, 3) := by decide +kernel
theorem dX11_reads_13 : decode cX11_reads 13 = .ok (.iload_n 3, 1) := by decide +kernel
theorem dX11_reads_14 : decode cX11_reads 14 = .ok (.laload, 1) := by decide +kernel
theorem dX11_reads_15 : decode cX11_reads 15 = .ok (.lstore 4, 2) := by decide +kernel
theorem dX11_reads_17 : decode cX11_reads 17 = .ok (.lload 4, 2) := by decide +kernel
theorem dX11_reads_19 : decode cX11_reads 19 = .ok (.ldc2_w 162, 3) := by decide +kernel
theorem dX11_reads_22 : decode cX11_reads 22 = .ok (.lcmp, 1) := by decide +kernel
theorem dX11_reads_34 : decode cX11_reads 34 = .ok (.aload_n 0, 1) := by decide +kernel
theorem dX11_reads_35 : decode cX11_reads 35 = .ok (.getfield 60, 3) := by decide +kernel
theorem dX11_reads_38 : decode cX11_reads 38 = .ok (.iload_n 3, 1) := by decide +kernel
theorem dX11_reads_39 : decode cX11_reads 39 = .ok (.iconst 1, 1) := by decide +kernel
theorem dX11_reads_40 : decode cX11_reads 40 = .ok (.iadd, 1) := by decide +kernel
theorem dX11_reads_41 : decode cX11_reads 41 = .ok (.laload, 1) := by decide +kernel
theorem dX11_reads_42 : decode cX11_reads 42 = .ok (.lconst 0, 1) := by decide +kernel
theorem dX11_reads_43 : decode cX11_reads 43 = .ok (.aload_n 0, 1) := by decide +kernel
theorem dX11_reads_44 : decode cX11_reads 44 = .ok (.getfield 13, 3) := by decide +kernel
theorem dX11_reads_47 : decode cX11_reads 47 = .ok (.lload 4, 2) := by decide +kernel
theorem dX11_reads_49 : decode cX11_reads 49 = .ok (.l2i, 1) := by decide +kernel
theorem dX11_reads_50 : decode cX11_reads 50 = .ok (.iaload, 1) := by decide +kernel
theorem dX11_reads_51 : decode cX11_reads 51 = .ok (.iconst 1, 1) := by decide +kernel
theorem dX11_reads_52 : decode cX11_reads 52 = .ok (.isub, 1) := by decide +kernel
theorem dX11_reads_53 : decode cX11_reads 53 = .ok (.i2l, 1) := by decide +kernel
theorem dX11_reads_54 : decode cX11_reads 54 = .ok (.invokestatic 80, 3) := by decide +kernel
theorem dX11_reads_57 : decode cX11_reads 57 = .ok (.ifCond .ne 11, 3) := by decide +kernel
theorem dX11_reads_68 : decode cX11_reads 68 = .ok (.bipush 8, 2) := by decide +kernel
theorem dX11_reads_70 : decode cX11_reads 70 = .ok (.lload 4, 2) := by decide +kernel
theorem dX11_reads_72 : decode cX11_reads 72 = .ok (.l2i, 1) := by decide +kernel
theorem dX11_reads_73 : decode cX11_reads 73 = .ok (.imul, 1) := by decide +kernel
theorem dX11_reads_74 : decode cX11_reads 74 = .ok (.aload_n 0, 1) := by decide +kernel
theorem dX11_reads_75 : decode cX11_reads 75 = .ok (.getfield 60, 3) := by decide +kernel
theorem dX11_reads_78 : decode cX11_reads 78 = .ok (.iload_n 3, 1) := by decide +kernel
theorem dX11_reads_79 : decode cX11_reads 79 = .ok (.iconst 1, 1) := by decide +kernel
theorem dX11_reads_80 : decode cX11_reads 80 = .ok (.iadd, 1) := by decide +kernel
theorem dX11_reads_81 : decode cX11_reads 81 = .ok (.laload, 1) := by decide +kernel
theorem dX11_reads_82 : decode cX11_reads 82 = .ok (.l2i, 1) := by decide +kernel
theorem dX11_reads_83 : decode cX11_reads 83 = .ok (.iadd, 1) := by decide +kernel
theorem dX11_reads_84 : decode cX11_reads 84 = .ok (.istore 6, 2) := by decide +kernel
theorem dX11_reads_86 : decode cX11_reads 86 = .ok (.aload_n 0, 1) := by decide +kernel
theorem dX11_reads_87 : decode cX11_reads 87 = .ok (.getfield 16, 3) := by decide +kernel
theorem dX11_reads_90 : decode cX11_reads 90 = .ok (.iload 6, 2) := by decide +kernel
theorem dX11_reads_92 : decode cX11_reads 92 = .ok (.laload, 1) := by decide +kernel
theorem dX11_reads_93 : decode cX11_reads 93 = .ok (.lstore 7, 2) := by decide +kernel
theorem dX11_reads_95 : decode cX11_reads 95 = .ok (.aload_n 0, 1) := by decide +kernel
theorem dX11_reads_96 : decode cX11_reads 96 = .ok (.getfield 16, 3) := by decide +kernel
theorem dX11_reads_99 : decode cX11_reads 99 = .ok (.iload 6, 2) := by decide +kernel
theorem dX11_reads_101 : decode cX11_reads 101 = .ok (.iload_n 2, 1) := by decide +kernel
theorem dX11_reads_102 : decode cX11_reads 102 = .ok (.ifCond .eq 14, 3) := by decide +kernel
theorem dX11_reads_116 : decode cX11_reads 116 = .ok (.lload 7, 2) := by decide +kernel
theorem dX11_reads_118 : decode cX11_reads 118 = .ok (.lastore, 1) := by decide +kernel
theorem dX11_reads_119 : decode cX11_reads 119 = .ok (.aload_n 0, 1) := by decide +kernel
theorem dX11_reads_120 : decode cX11_reads 120 = .ok (.lload 7, 2) := by decide +kernel
theorem dX11_reads_122 : decode cX11_reads 122 = .ok (.invokevirtual 275, 3) := by decide +kernel
theorem dX11_reads_125 : decode cX11_reads 125 = .ok (.return_, 1) := by decide +kernel
theorem dX11_reads_105 : decode cX11_reads 105 = .ok (.aload_n 0, 1) := by decide +kernel
theorem dX11_reads_106 : decode cX11_reads 106 = .ok (.getfield 60, 3) := by decide +kernel
theorem dX11_reads_109 : decode cX11_reads 109 = .ok (.iload_n 3, 1) := by decide +kernel
theorem dX11_reads_110 : decode cX11_reads 110 = .ok (.iconst 2, 1) := by decide +kernel
theorem dX11_reads_111 : decode cX11_reads 111 = .ok (.iadd, 1) := by decide +kernel
theorem dX11_reads_112 : decode cX11_reads 112 = .ok (.laload, 1) := by decide +kernel
theorem dX11_reads_113 : decode cX11_reads 113 = .ok (.goto 5, 3) := by decide +kernel
theorem dX11_reads_60 : decode cX11_reads 60 = .ok (.aload_n 0, 1) := by decide +kernel
theorem dX11_reads_61 : decode cX11_reads 61 = .ok (.iconst 2, 1) := by decide +kernel
theorem dX11_reads_62 : decode cX11_reads 62 = .ok (.invokevirtual 272, 3) := by decide +kernel
theorem dX11_reads_65 : decode cX11_reads 65 = .ok (.goto 60, 3) := by decide +kernel
theorem dX11_reads_26 : decode cX11_reads 26 = .ok (.aload_n 0, 1) := by decide +kernel
theorem dX11_reads_27 : decode cX11_reads 27 = .ok (.iconst 1, 1) := by decide +kernel
theorem dX11_reads_28 : decode cX11_reads 28 = .ok (.invokevirtual 272, 3) := by decide +kernel
theorem dX11_reads_31 : decode cX11_reads 31 = .ok (.goto 94, 3) := by decide +kernel
theorem dX11_reads_23 : decode cX11_reads 23 = .ok (.ifCond .ne 11, 3) := by decide +kernel
theorem hy_X11_reads : yX11_reads.cls ≠ "java/lang/invoke/MethodHandle" ∧ yX11_reads.cls ≠ "java/lang/invoke/VarHandle" ∧ (parseMethodDescriptor yX11_reads.desc).map (fun d => d.parameters.length) = some 2 := ⟨by decide, by decide, by decide +kernel⟩
def f_X11_reads (p1 : Int32) (p2 : Int32) (S : mS) : Option ((Unit) × mS) :=
  o_let (m_I S 7) fun x1 =>
  o_ck (¬ (((4 : Int32) * (x1 - (1 : Int32))) < 0 ∨ 132 ≤ (((4 : Int32) * (x1 - (1 : Int32)))).toNatClampNeg)) (o_let (m_aL S 18 (((4 : Int32) * (x1 - (1 : Int32)))).toNatClampNeg) fun x2 =>
  if x2 = (-1) then (
  o_call (f_X11_fail 1 S) fun _ S6 =>
  some ((), S6)) else (
  o_ck (¬ ((((4 : Int32) * (x1 - (1 : Int32))) + (1 : Int32)) < 0 ∨ 132 ≤ ((((4 : Int32) * (x1 - (1 : Int32))) + (1 : Int32))).toNatClampNeg)) (o_let (m_aL S 18 ((((4 : Int32) * (x1 - (1 : Int32))) + (1 : Int32))).toNatClampNeg) fun x3 =>
  o_ck (¬ (((x2).toInt32) < 0 ∨ 16 ≤ (((x2).toInt32)).toNatClampNeg)) (o_let (m_aI S 2 (((x2).toInt32)).toNatClampNeg) fun x4 =>
  o_cP (f_X11_in x3 0 (((x4 - (1 : Int32))).toInt64)) fun x5 =>
  if x5 = 0 then (
  o_call (f_X11_fail 2 S) fun _ S5 =>
  some ((), S5)) else (
  o_ck (¬ ((((4 : Int32) * (x1 - (1 : Int32))) + (1 : Int32)) < 0 ∨ 132 ≤ ((((4 : Int32) * (x1 - (1 : Int32))) + (1 : Int32))).toNatClampNeg)) (o_let (m_aL S 18 ((((4 : Int32) * (x1 - (1 : Int32))) + (1 : Int32))).toNatClampNeg) fun x6 =>
  o_ck (¬ ((((8 : Int32) * ((x2).toInt32)) + ((x6).toInt32)) < 0 ∨ 128 ≤ ((((8 : Int32) * ((x2).toInt32)) + ((x6).toInt32))).toNatClampNeg)) (o_let (m_aL S 15 ((((8 : Int32) * ((x2).toInt32)) + ((x6).toInt32))).toNatClampNeg) fun x7 =>
  if p2 = 0 then (
  o_ck (¬ ((((8 : Int32) * ((x2).toInt32)) + ((x6).toInt32)) < 0 ∨ 128 ≤ ((((8 : Int32) * ((x2).toInt32)) + ((x6).toInt32))).toNatClampNeg)) (o_let (m_wL S 15 ((((8 : Int32) * ((x2).toInt32)) + ((x6).toInt32))).toNatClampNeg x7) fun S1 =>
  o_call (f_X11_end x7 S1) fun _ S2 =>
  some ((), S2))) else (
  o_ck (¬ ((((4 : Int32) * (x1 - (1 : Int32))) + (2 : Int32)) < 0 ∨ 132 ≤ ((((4 : Int32) * (x1 - (1 : Int32))) + (2 : Int32))).toNatClampNeg)) (o_let (m_aL S 18 ((((4 : Int32) * (x1 - (1 : Int32))) + (2 : Int32))).toNatClampNeg) fun x8 =>
  o_ck (¬ ((((8 : Int32) * ((x2).toInt32)) + ((x6).toInt32)) < 0 ∨ 128 ≤ ((((8 : Int32) * ((x2).toInt32)) + ((x6).toInt32))).toNatClampNeg)) (o_let (m_wL S 15 ((((8 : Int32) * ((x2).toInt32)) + ((x6).toInt32))).toNatClampNeg x8) fun S3 =>
  o_call (f_X11_end x7 S3) fun _ S4 =>
  some ((), S4)))))))))))
set_option maxHeartbeats 4000000 in
set_option maxRecDepth 100000 in
theorem c_X11_reads {l : Launch} {D : va_G} {Y : Nat → ClassId} {aR : Nat → Nat} {A : Nat → Prop} {ad : Nat → Nat} {p1 : Int32} {p2 : Int32} {S S' : mS} {r : Unit} (hf : f_X11_reads p1 p2 S = some (r, S')) : jq_M l D Y aR A ad yX11_reads cX11_reads 9 none 1 25 [.ref (ad 0), .int p1, .int p2] S none S' := by
  unfold f_X11_reads at hf
  refine jq_enterM (by decide) (Nat.le_of_ble_eq_true rfl) fun p e s m args below meth c ls H locs hX hJ hl => ?_
  have hl : lv_has ls 9 [(0, .ref (ad 0)), (1, .int p1), (2, .int p2)] := hl
  have hx := hX.1
  have hb := hX.2.1
  have hm := hX.2.2.1
  have ho := hX.2.2.2.1
  have ht := hX.2.2.2.2.1
  have hn := hX.2.2.2.2.2.1.2.1
  refine lv_iconst (v := 4) hx hb dX11_reads_0 (by decide) ?_
  refine lv_aload_n hx hb dX11_reads_1 rfl (lv_at hl 0 rfl) ?_
  replace hf := o_let_e hf
  obtain ⟨x1, hx1, hf⟩ := hf
  refine mg_depth hX hJ hx1 qw710 dX11_reads_2 ?_
  refine lv_iconst (v := 1) hx hb dX11_reads_5 (by decide) ?_
  refine lv_isub hx hb dX11_reads_6 ?_
  refine lv_imul hx hb dX11_reads_7 ?_
  refine lv_istore_n (lv' := [(3, .int ((4 : Int32) * (x1 - (1 : Int32)))), (0, .ref (ad 0)), (1, .int p1), (2, .int p2)]) hx hb dX11_reads_8 rfl hl (by decide) rfl (fun ls hl' => ?_)
  clear hl
  have hl := hl'
  clear hl'
  refine lv_aload_n hx hb dX11_reads_9 rfl (lv_at hl 1 rfl) ?_
  refine mg_par hX hJ qw713 dX11_reads_10 ?_
  refine lv_iload_n hx hb dX11_reads_13 rfl (lv_at hl 0 rfl) ?_
  replace hf := o_ck_e hf
  obtain ⟨hk1, hf⟩ := hf
  replace hf := o_let_e hf
  obtain ⟨x2, hx2, hf⟩ := hf
  refine ma_L 18 hX hJ (by decide) hk1 hx2 dX11_reads_14 ?_
  refine lv_lstore (lv' := [(4, .long x2), (3, .int ((4 : Int32) * (x1 - (1 : Int32)))), (0, .ref (ad 0)), (1, .int p1), (2, .int p2)]) hx hb dX11_reads_15 hl (by decide) rfl (fun ls hl' => ?_)
  clear hl
  have hl := hl'
  clear hl'
  refine lv_lload hx hb dX11_reads_17 (lv_at hl 0 rfl) ?_
  refine lv_ldc2 (v := (-1)) hx hb ho (ht _ qw866) dX11_reads_19 ?_
  refine W.lcmp hx hb dX11_reads_22 ?_
  refine lv_if_ne (tgt := 34) hx hb dX11_reads_23 (by decide) (fun c1 => ?_) (fun c1 => ?_)
  · replace hf := o_f hf (fun z => c1 (qc_eq.mpr z))
    refine lv_aload_n hx hb dX11_reads_34 rfl (lv_at hl 2 rfl) ?_
    refine mg_par hX hJ qw713 dX11_reads_35 ?_
    refine lv_iload_n hx hb dX11_reads_38 rfl (lv_at hl 1 rfl) ?_
    refine lv_iconst (v := 1) hx hb dX11_reads_39 (by decide) ?_
    refine lv_iadd hx hb dX11_reads_40 ?_
    replace hf := o_ck_e hf
    obtain ⟨hk2, hf⟩ := hf
    replace hf := o_let_e hf
    obtain ⟨x3, hx3, hf⟩ := hf
    refine ma_L 18 hX hJ (by decide) hk2 hx3 dX11_reads_41 ?_
    refine lv_lconst (v := 0) hx hb dX11_reads_42 (by decide) ?_
    refine lv_aload_n hx hb dX11_reads_43 rfl (lv_at hl 2 rfl) ?_
    refine mg_sizeOf hX hJ qw691 dX11_reads_44 ?_
    refine lv_lload hx hb dX11_reads_47 (lv_at hl 0 rfl) ?_
    refine lv_l2i hx hb dX11_reads_49 rfl ?_
    replace hf := o_ck_e hf
    obtain ⟨hk3, hf⟩ := hf
    replace hf := o_let_e hf
    obtain ⟨x4, hx4, hf⟩ := hf
    refine ma_I 2 hX hJ (by decide) hk3 hx4 dX11_reads_50 ?_
    refine lv_iconst (v := 1) hx hb dX11_reads_51 (by decide) ?_
    refine lv_isub hx hb dX11_reads_52 ?_
    refine lv_i2l hx hb dX11_reads_53 rfl ?_
    replace hf := o_cP_e hf
    obtain ⟨x5, hq1, hf⟩ := hf
    refine jq_doP hX hJ.2 (jq_okS (As := [.long x3, .long 0, .long (((x4 - (1 : Int32))).toInt64)]) (rest := []) hx hb hm ho ht qw803 qw804 qw805 qw7 hy_X11_in rfl hl.1 (Nat.le_of_ble_eq_true rfl) dX11_reads_54) (c_X11_in hq1) (Nat.le_of_ble_eq_true rfl) (Nat.le_of_ble_eq_true rfl) (Nat.le_refl _) (Nat.le_refl _) (fun locs hS9 => ?_)
    replace hJ := mJ.to hJ hS9
    refine lv_if_ne (tgt := 68) hx hb dX11_reads_57 (by decide) (fun c2 => ?_) (fun c2 => ?_)
    · replace hf := o_f hf c2
      refine lv_bipush (v := 8) hx hb dX11_reads_68 (by decide) ?_
      refine lv_lload hx hb dX11_reads_70 (lv_at hl 0 rfl) ?_
      refine lv_l2i hx hb dX11_reads_72 rfl ?_
      refine lv_imul hx hb dX11_reads_73 ?_
      refine lv_aload_n hx hb dX11_reads_74 rfl (lv_at hl 2 rfl) ?_
      refine mg_par hX hJ qw713 dX11_reads_75 ?_
      refine lv_iload_n hx hb dX11_reads_78 rfl (lv_at hl 1 rfl) ?_
      refine lv_iconst (v := 1) hx hb dX11_reads_79 (by decide) ?_
      refine lv_iadd hx hb dX11_reads_80 ?_
      replace hf := o_ck_e hf
      obtain ⟨hk4, hf⟩ := hf
      replace hf := o_let_e hf
      obtain ⟨x6, hx6, hf⟩ := hf
      refine ma_L 18 hX hJ (by decide) hk4 hx6 dX11_reads_81 ?_
      refine lv_l2i hx hb dX11_reads_82 rfl ?_
      refine lv_iadd hx hb dX11_reads_83 ?_
      refine lv_istore (lv' := [(6, .int (((8 : Int32) * ((x2).toInt32)) + ((x6).toInt32))), (4, .long x2), (3, .int ((4 : Int32) * (x1 - (1 : Int32)))), (0, .ref (ad 0)), (1, .int p1), (2, .int p2)]) hx hb dX11_reads_84 hl (by decide) rfl (fun ls hl' => ?_)
      clear hl
      have hl := hl'
      clear hl'
      refine lv_aload_n hx hb dX11_reads_86 rfl (lv_at hl 3 rfl) ?_
      refine mg_items hX hJ qw692 dX11_reads_87 ?_
      refine lv_iload hx hb dX11_reads_90 (lv_at hl 0 rfl) ?_
      replace hf := o_ck_e hf
      obtain ⟨hk5, hf⟩ := hf
      replace hf := o_let_e hf
      obtain ⟨x7, hx7, hf⟩ := hf
      refine ma_L 15 hX hJ (by decide) hk5 hx7 dX11_reads_92 ?_
      refine lv_lstore (lv' := [(7, .long x7), (6, .int (((8 : Int32) * ((x2).toInt32)) + ((x6).toInt32))), (4, .long x2), (3, .int ((4 : Int32) * (x1 - (1 : Int32)))), (0, .ref (ad 0)), (1, .int p1), (2, .int p2)]) hx hb dX11_reads_93 hl (by decide) rfl (fun ls hl' => ?_)
      clear hl
      have hl := hl'
      clear hl'
      refine lv_aload_n hx hb dX11_reads_95 rfl (lv_at hl 4 rfl) ?_
      refine mg_items hX hJ qw692 dX11_reads_96 ?_
      refine lv_iload hx hb dX11_reads_99 (lv_at hl 1 rfl) ?_
      refine lv_iload_n hx hb dX11_reads_101 rfl (lv_at hl 6 rfl) ?_
      refine lv_if_eq (tgt := 116) hx hb dX11_reads_102 (by decide) (fun c3 => ?_) (fun c3 => ?_)
      · replace hf := o_t hf c3
        refine lv_lload hx hb dX11_reads_116 (lv_at hl 0 rfl) ?_
        replace hf := o_ck_e hf
        obtain ⟨hk6, hf⟩ := hf
        replace hf := o_let_e hf
        obtain ⟨S1, hS1, hf⟩ := hf
        refine mw_L 15 hX hJ (by decide) hk6 hS1 dX11_reads_118 (fun H locs hJ' => ?_)
        clear hJ
        have hJ := hJ'
        clear hJ'
        refine lv_aload_n hx hb dX11_reads_119 rfl (lv_at hl 4 rfl) ?_
        refine lv_lload hx hb dX11_reads_120 (lv_at hl 0 rfl) ?_
        replace hf := o_call_e hf
        obtain ⟨_, S2, hq2, hf⟩ := hf
        refine jq_doM hX hJ (jq_okV (As := [.long x7]) (rest := []) hx hb hm ho ht (mJ.recv hX hJ) qw1000 qw1002 qs95 qw1003 qw7 hy_X11_end rfl hl.1 (Nat.le_of_ble_eq_true rfl) dX11_reads_122) (c_X11_end hq2) (Nat.le_of_ble_eq_true rfl) (Nat.le_of_ble_eq_true rfl) (Nat.le_refl _) (Nat.le_refl _) (fun H locs hJ' => ?_)
        clear hJ
        have hJ := hJ'
        clear hJ'
        obtain ⟨rfl, rfl⟩ := Prod.mk.inj (Option.some.inj hf)
        exact jq_vret hX hJ.2 dX11_reads_125 ⟨rfl, rfl, rfl, hJ.1⟩
      · replace hf := o_f hf c3
        refine lv_aload_n hx hb dX11_reads_105 rfl (lv_at hl 4 rfl) ?_
        refine mg_par hX hJ qw713 dX11_reads_106 ?_
        refine lv_iload_n hx hb dX11_reads_109 rfl (lv_at hl 3 rfl) ?_
        refine lv_iconst (v := 2) hx hb dX11_reads_110 (by decide) ?_
        refine lv_iadd hx hb dX11_reads_111 ?_
        replace hf := o_ck_e hf
        obtain ⟨hk7, hf⟩ := hf
        replace hf := o_let_e hf
        obtain ⟨x8, hx8, hf⟩ := hf
        refine ma_L 18 hX hJ (by decide) hk7 hx8 dX11_reads_112 ?_
        refine lv_goto (tgt := 118) hx hb dX11_reads_113 (by decide) ?_
        replace hf := o_ck_e hf
        obtain ⟨hk8, hf⟩ := hf
        replace hf := o_let_e hf
        obtain ⟨S3, hS3, hf⟩ := hf
        refine mw_L 15 hX hJ (by decide) hk8 hS3 dX11_reads_118 (fun H locs hJ' => ?_)
        clear hJ
        have hJ := hJ'
        clear hJ'
        refine lv_aload_n hx hb dX11_reads_119 rfl (lv_at hl 4 rfl) ?_
        refine lv_lload hx hb dX11_reads_120 (lv_at hl 0 rfl) ?_
        replace hf := o_call_e hf
        obtain ⟨_, S4, hq3, hf⟩ := hf
        refine jq_doM hX hJ (jq_okV (As := [.long x7]) (rest := []) hx hb hm ho ht (mJ.recv hX hJ) qw1000 qw1002 qs95 qw1003 qw7 hy_X11_end rfl hl.1 (Nat.le_of_ble_eq_true rfl) dX11_reads_122) (c_X11_end hq3) (Nat.le_of_ble_eq_true rfl) (Nat.le_of_ble_eq_true rfl) (Nat.le_refl _) (Nat.le_refl _) (fun H locs hJ' => ?_)
        clear hJ
        have hJ := hJ'
        clear hJ'
        obtain ⟨rfl, rfl⟩ := Prod.mk.inj (Option.some.inj hf)
        exact jq_vret hX hJ.2 dX11_reads_125 ⟨rfl, rfl, rfl, hJ.1⟩
    · replace hf := o_t hf c2
      refine lv_aload_n hx hb dX11_reads_60 rfl (lv_at hl 2 rfl) ?_
      refine lv_iconst (v := 2) hx hb dX11_reads_61 (by decide) ?_
      replace hf := o_call_e hf
      obtain ⟨_, S5, hq4, hf⟩ := hf
      refine jq_doM hX hJ (jq_okV (As := [.int 2]) (rest := []) hx hb hm ho ht (mJ.recv hX hJ) qw1008 qw1010 qs97 qw1011 qw7 hy_X11_fail rfl hl.1 (Nat.le_of_ble_eq_true rfl) dX11_reads_62) (c_X11_fail hq4) (Nat.le_of_ble_eq_true rfl) (Nat.le_of_ble_eq_true rfl) (Nat.le_refl _) (Nat.le_refl _) (fun H locs hJ' => ?_)
      clear hJ
      have hJ := hJ'
      clear hJ'
      refine lv_goto (tgt := 125) hx hb dX11_reads_65 (by decide) ?_
      obtain ⟨rfl, rfl⟩ := Prod.mk.inj (Option.some.inj hf)
      exact jq_vret hX hJ.2 dX11_reads_125 ⟨rfl, rfl, rfl, hJ.1⟩
  · replace hf := o_t hf (qc_eq.mp c1)
    refine lv_aload_n hx hb dX11_reads_26 rfl (lv_at hl 2 rfl) ?_
    refine lv_iconst (v := 1) hx hb dX11_reads_27 (by decide) ?_
    replace hf := o_call_e hf
    obtain ⟨_, S6, hq5, hf⟩ := hf
    refine jq_doM hX hJ (jq_okV (As := [.int 1]) (rest := []) hx hb hm ho ht (mJ.recv hX hJ) qw1008 qw1010 qs97 qw1011 qw7 hy_X11_fail rfl hl.1 (Nat.le_of_ble_eq_true rfl) dX11_reads_28) (c_X11_fail hq5) (Nat.le_of_ble_eq_true rfl) (Nat.le_of_ble_eq_true rfl) (Nat.le_refl _) (Nat.le_refl _) (fun H locs hJ' => ?_)
    clear hJ
    have hJ := hJ'
    clear hJ'
    refine lv_goto (tgt := 125) hx hb dX11_reads_31 (by decide) ?_
    obtain ⟨rfl, rfl⟩ := Prod.mk.inj (Option.some.inj hf)
    exact jq_vret hX hJ.2 dX11_reads_125 ⟨rfl, rfl, rfl, hJ.1⟩
theorem dX11_reckons_0 : decode cX11_reckons 0 = .ok (.iconst 4, 1) := by decide +kernel
theorem dX11_reckons_1 : decode cX11_reckons 1 = .ok (.aload_n 0, 1) := by decide +kernel
theorem dX11_reckons_2 : decode cX11_reckons 2 = .ok (.getfield 263, 3) := by decide +kernel
theorem dX11_reckons_5 : decode cX11_reckons 5 = .ok (.iconst 1, 1) := by decide +kernel
theorem dX11_reckons_6 : decode cX11_reckons 6 = .ok (.isub, 1) := by decide +kernel
theorem dX11_reckons_7 : decode cX11_reckons 7 = .ok (.imul, 1) := by decide +kernel
theorem dX11_reckons_8 : decode cX11_reckons 8 = .ok (.istore_n 2, 1) := by decide +kernel
theorem dX11_reckons_9 : decode cX11_reckons 9 = .ok (.aload_n 0, 1) := by decide +kernel
theorem dX11_reckons_10 : decode cX11_reckons 10 = .ok (.getfield 60, 3) := by decide +kernel
theorem dX11_reckons_13 : decode cX11_reckons 13 = .ok (.iload_n 2, 1) := by decide +kernel
theorem dX11_reckons_14 : decode cX11_reckons 14 = .ok (.laload, 1) := by decide +kernel
theorem dX11_reckons_15 : decode cX11_reckons 15 = .ok (.lstore_n 3, 1) := by decide +kernel
theorem dX11_reckons_16 : decode cX11_reckons 16 = .ok (.aload_n 0, 1) := by decide +kernel
theorem dX11_reckons_17 : decode cX11_reckons 17 = .ok (.getfield 60, 3) := by decide +kernel
theorem dX11_reckons_20 : decode cX11_reckons 20 = .ok (.iload_n 2, 1) := by decide +kernel
theorem dX11_reckons_21 : decode cX11_reckons 21 = .ok (.iconst 1, 1) := by decide +kernel
theorem dX11_reckons_22 : decode cX11_reckons 22 = .ok (.iadd, 1) := by decide +kernel
theorem dX11_reckons_23 : decode cX11_reckons 23 = .ok (.laload, 1) := by decide +kernel
theorem dX11_reckons_24 : decode cX11_reckons 24 = .ok (.lstore 5, 2) := by decide +kernel
theorem dX11_reckons_26 : decode cX11_reckons 26 = .ok (.aload_n 0, 1) := by decide +kernel
theorem dX11_reckons_27 : decode cX11_reckons 27 = .ok (.getfield 33, 3) := by decide +kernel
theorem dX11_reckons_30 : decode cX11_reckons 30 = .ok (.iload_n 1, 1) := by decide +kernel
theorem dX11_reckons_31 : decode cX11_reckons 31 = .ok (.iaload, 1) := by decide +kernel
theorem dX11_reckons_32 : decode cX11_reckons 32 = .ok (.istore 7, 2) := by decide +kernel
theorem dX11_reckons_34 : decode cX11_reckons 34 = .ok (.iload 7, 2) := by decide +kernel
theorem dX11_reckons_36 : decode cX11_reckons 36 = .ok (.bipush 6, 2) := by decide +kernel
theorem dX11_reckons_38 : decode cX11_reckons 38 = .ok (.if_icmp .lt 53, 3) := by decide +kernel
theorem dX11_reckons_41 : decode cX11_reckons 41 = .ok (.aload_n 0, 1) := by decide +kernel
theorem dX11_reckons_42 : decode cX11_reckons 42 = .ok (.getfield 30, 3) := by decide +kernel
theorem dX11_reckons_45 : decode cX11_reckons 45 = .ok (.iload_n 1, 1) := by decide +kernel
theorem dX11_reckons_46 : decode cX11_reckons 46 = .ok (.iaload, 1) := by decide +kernel
theorem dX11_reckons_47 : decode cX11_reckons 47 = .ok (.bipush 8, 2) := by decide +kernel
theorem dX11_reckons_49 : decode cX11_reckons 49 = .ok (.if_icmp .eq 42, 3) := by decide +kernel
theorem dX11_reckons_52 : decode cX11_reckons 52 = .ok (.lload_n 3, 1) := by decide +kernel
theorem dX11_reckons_53 : decode cX11_reckons 53 = .ok (.lload 5, 2) := by decide +kernel
theorem dX11_reckons_55 : decode cX11_reckons 55 = .ok (.iload 7, 2) := by decide +kernel
theorem dX11_reckons_57 : decode cX11_reckons 57 = .ok (.aload_n 0, 1) := by decide +kernel
theorem dX11_reckons_58 : decode cX11_reckons 58 = .ok (.getfield 30, 3) := by decide +kernel
theorem dX11_reckons_61 : decode cX11_reckons 61 = .ok (.iload_n 1, 1) := by decide +kernel
theorem dX11_reckons_62 : decode cX11_reckons 62 = .ok (.iaload, 1) := by decide +kernel
theorem dX11_reckons_63 : decode cX11_reckons 63 = .ok (.bipush 6, 2) := by decide +kernel
theorem dX11_reckons_65 : decode cX11_reckons 65 = .ok (.if_icmp .ne 7, 3) := by decide +kernel
theorem dX11_reckons_72 : decode cX11_reckons 72 = .ok (.iconst 0, 1) := by decide +kernel
theorem dX11_reckons_73 : decode cX11_reckons 73 = .ok (.invokestatic 279, 3) := by decide +kernel
theorem dX11_reckons_76 : decode cX11_reckons 76 = .ok (.ifCond .eq 15, 3) := by decide +kernel
theorem dX11_reckons_79 : decode cX11_reckons 79 = .ok (.aload_n 0, 1) := by decide +kernel
theorem dX11_reckons_80 : decode cX11_reckons 80 = .ok (.iload 7, 2) := by decide +kernel
theorem dX11_reckons_82 : decode cX11_reckons 82 = .ok (.invokestatic 142, 3) := by decide +kernel
theorem dX11_reckons_85 : decode cX11_reckons 85 = .ok (.invokevirtual 275, 3) := by decide +kernel
theorem dX11_reckons_88 : decode cX11_reckons 88 = .ok (.goto 273, 3) := by decide +kernel
theorem dX11_reckons_361 : decode cX11_reckons 361 = .ok (.return_, 1) := by decide +kernel
theorem dX11_reckons_68 : decode cX11_reckons 68 = .ok (.iconst 1, 1) := by decide +kernel
theorem dX11_reckons_69 : decode cX11_reckons 69 = .ok (.goto 4, 3) := by decide +kernel
theorem dX11_reckons_91 : decode cX11_reckons 91 = .ok (.aload_n 0, 1) := by decide +kernel
theorem dX11_reckons_92 : decode cX11_reckons 92 = .ok (.getfield 30, 3) := by decide +kernel
theorem dX11_reckons_95 : decode cX11_reckons 95 = .ok (.iload_n 1, 1) := by decide +kernel
theorem dX11_reckons_96 : decode cX11_reckons 96 = .ok (.iaload, 1) := by decide +kernel
theorem dX11_reckons_97 : decode cX11_reckons 97 = .ok (.bipush 6, 2) := by decide +kernel
theorem dX11_reckons_99 : decode cX11_reckons 99 = .ok (.if_icmp .ne 75, 3) := by decide +kernel
theorem dX11_reckons_174 : decode cX11_reckons 174 = .ok (.aload_n 0, 1) := by decide +kernel
theorem dX11_reckons_175 : decode cX11_reckons 175 = .ok (.getfield 30, 3) := by decide +kernel
theorem dX11_reckons_178 : decode cX11_reckons 178 = .ok (.iload_n 1, 1) := by decide +kernel
theorem dX11_reckons_179 : decode cX11_reckons 179 = .ok (.iaload, 1) := by decide +kernel
theorem dX11_reckons_180 : decode cX11_reckons 180 = .ok (.bipush 8, 2) := by decide +kernel
theorem dX11_reckons_182 : decode cX11_reckons 182 = .ok (.if_icmp .ne 90, 3) := by decide +kernel
theorem dX11_reckons_272 : decode cX11_reckons 272 = .ok (.iload 7, 2) := by decide +kernel
theorem dX11_reckons_274 : decode cX11_reckons 274 = .ok (.bipush 6, 2) := by decide +kernel
theorem dX11_reckons_276 : decode cX11_reckons 276 = .ok (.if_icmp .lt 47, 3) := by decide +kernel
theorem dX11_reckons_323 : decode cX11_reckons 323 = .ok (.lload 5, 2) := by decide +kernel
theorem dX11_reckons_325 : decode cX11_reckons 325 = .ok (.lconst 0, 1) := by decide +kernel
theorem dX11_reckons_326 : decode cX11_reckons 326 = .ok (.lcmp, 1) := by decide +kernel
theorem dX11_reckons_338 : decode cX11_reckons 338 = .ok (.aload_n 0, 1) := by decide +kernel
theorem dX11_reckons_339 : decode cX11_reckons 339 = .ok (.iload 7, 2) := by decide +kernel
theorem dX11_reckons_341 : decode cX11_reckons 341 = .ok (.iconst 4, 1) := by decide +kernel
theorem dX11_reckons_342 : decode cX11_reckons 342 = .ok (.if_icmp .ne 12, 3) := by decide +kernel
theorem dX11_reckons_354 : decode cX11_reckons 354 = .ok (.lload_n 3, 1) := by decide +kernel
theorem dX11_reckons_355 : decode cX11_reckons 355 = .ok (.lload 5, 2) := by decide +kernel
theorem dX11_reckons_357 : decode cX11_reckons 357 = .ok (.ldiv, 1) := by decide +kernel
theorem dX11_reckons_358 : decode cX11_reckons 358 = .ok (.invokevirtual 275, 3) := by decide +kernel
theorem dX11_reckons_345 : decode cX11_reckons 345 = .ok (.lload_n 3, 1) := by decide +kernel
theorem dX11_reckons_346 : decode cX11_reckons 346 = .ok (.lload 5, 2) := by decide +kernel
theorem dX11_reckons_348 : decode cX11_reckons 348 = .ok (.ldiv, 1) := by decide +kernel
theorem dX11_reckons_349 : decode cX11_reckons 349 = .ok (.l2i, 1) := by decide +kernel
theorem dX11_reckons_350 : decode cX11_reckons 350 = .ok (.i2l, 1) := by decide +kernel
theorem dX11_reckons_351 : decode cX11_reckons 351 = .ok (.goto 7, 3) := by decide +kernel
theorem dX11_reckons_330 : decode cX11_reckons 330 = .ok (.aload_n 0, 1) := by decide +kernel
theorem dX11_reckons_331 : decode cX11_reckons 331 = .ok (.iconst 3, 1) := by decide +kernel
theorem dX11_reckons_332 : decode cX11_reckons 332 = .ok (.invokevirtual 272, 3) := by decide +kernel
theorem dX11_reckons_335 : decode cX11_reckons 335 = .ok (.goto 26, 3) := by decide +kernel
theorem dX11_reckons_327 : decode cX11_reckons 327 = .ok (.ifCond .ne 11, 3) := by decide +kernel
theorem dX11_reckons_279 : decode cX11_reckons 279 = .ok (.aload_n 0, 1) := by decide +kernel
theorem dX11_reckons_280 : decode cX11_reckons 280 = .ok (.iload 7, 2) := by decide +kernel
theorem dX11_reckons_282 : decode cX11_reckons 282 = .ok (.bipush 6, 2) := by decide +kernel
theorem dX11_reckons_284 : decode cX11_reckons 284 = .ok (.if_icmp .ne 20, 3) := by decide +kernel
theorem dX11_reckons_304 : decode cX11_reckons 304 = .ok (.lload_n 3, 1) := by decide +kernel
theorem dX11_reckons_305 : decode cX11_reckons 305 = .ok (.invokestatic 283, 3) := by decide +kernel
theorem dX11_reckons_308 : decode cX11_reckons 308 = .ok (.lload 5, 2) := by decide +kernel
theorem dX11_reckons_310 : decode cX11_reckons 310 = .ok (.invokestatic 283, 3) := by decide +kernel
theorem dX11_reckons_313 : decode cX11_reckons 313 = .ok (.ddiv, 1) := by decide +kernel
theorem dX11_reckons_314 : decode cX11_reckons 314 = .ok (.invokestatic 149, 3) := by decide +kernel
theorem dX11_reckons_317 : decode cX11_reckons 317 = .ok (.invokevirtual 275, 3) := by decide +kernel
theorem dX11_reckons_320 : decode cX11_reckons 320 = .ok (.goto 41, 3) := by decide +kernel
theorem dX11_reckons_287 : decode cX11_reckons 287 = .ok (.lload_n 3, 1) := by decide +kernel
theorem dX11_reckons_288 : decode cX11_reckons 288 = .ok (.invokestatic 145, 3) := by decide +kernel
theorem dX11_reckons_291 : decode cX11_reckons 291 = .ok (.lload 5, 2) := by decide +kernel
theorem dX11_reckons_293 : decode cX11_reckons 293 = .ok (.invokestatic 145, 3) := by decide +kernel
theorem dX11_reckons_296 : decode cX11_reckons 296 = .ok (.fdiv, 1) := by decide +kernel
theorem dX11_reckons_297 : decode cX11_reckons 297 = .ok (.invokestatic 138, 3) := by decide +kernel
theorem dX11_reckons_300 : decode cX11_reckons 300 = .ok (.i2l, 1) := by decide +kernel
theorem dX11_reckons_301 : decode cX11_reckons 301 = .ok (.goto 16, 3) := by decide +kernel
theorem dX11_reckons_185 : decode cX11_reckons 185 = .ok (.iload 7, 2) := by decide +kernel
theorem dX11_reckons_187 : decode cX11_reckons 187 = .ok (.bipush 6, 2) := by decide +kernel
theorem dX11_reckons_189 : decode cX11_reckons 189 = .ok (.if_icmp .ge 18, 3) := by decide +kernel
theorem dX11_reckons_207 : decode cX11_reckons 207 = .ok (.iload 7, 2) := by decide +kernel
theorem dX11_reckons_209 : decode cX11_reckons 209 = .ok (.bipush 6, 2) := by decide +kernel
theorem dX11_reckons_211 : decode cX11_reckons 211 = .ok (.if_icmp .ne 24, 3) := by decide +kernel
theorem dX11_reckons_235 : decode cX11_reckons 235 = .ok (.lload_n 3, 1) := by decide +kernel
theorem dX11_reckons_236 : decode cX11_reckons 236 = .ok (.invokestatic 283, 3) := by decide +kernel
theorem dX11_reckons_239 : decode cX11_reckons 239 = .ok (.lload 5, 2) := by decide +kernel
theorem dX11_reckons_241 : decode cX11_reckons 241 = .ok (.invokestatic 283, 3) := by decide +kernel
theorem dX11_reckons_244 : decode cX11_reckons 244 = .ok (.dcmp .l, 1) := by decide +kernel
theorem dX11_reckons_245 : decode cX11_reckons 245 = .ok (.ifCond .le 7, 3) := by decide +kernel
theorem dX11_reckons_252 : decode cX11_reckons 252 = .ok (.iconst 0, 1) := by decide +kernel
theorem dX11_reckons_253 : decode cX11_reckons 253 = .ok (.istore 8, 2) := by decide +kernel
theorem dX11_reckons_255 : decode cX11_reckons 255 = .ok (.aload_n 0, 1) := by decide +kernel
theorem dX11_reckons_256 : decode cX11_reckons 256 = .ok (.iload 8, 2) := by decide +kernel
theorem dX11_reckons_258 : decode cX11_reckons 258 = .ok (.ifCond .eq 7, 3) := by decide +kernel
theorem dX11_reckons_265 : decode cX11_reckons 265 = .ok (.lconst 0, 1) := by decide +kernel
theorem dX11_reckons_266 : decode cX11_reckons 266 = .ok (.invokevirtual 275, 3) := by decide +kernel
theorem dX11_reckons_269 : decode cX11_reckons 269 = .ok (.goto 92, 3) := by decide +kernel
theorem dX11_reckons_248 : decode cX11_reckons 248 = .ok (.iconst 1, 1) := by decide +kernel
theorem dX11_reckons_249 : decode cX11_reckons 249 = .ok (.goto 4, 3) := by decide +kernel
theorem dX11_reckons_261 : decode cX11_reckons 261 = .ok (.lconst 1, 1) := by decide +kernel
theorem dX11_reckons_262 : decode cX11_reckons 262 = .ok (.goto 4, 3) := by decide +kernel
theorem dX11_reckons_214 : decode cX11_reckons 214 = .ok (.lload_n 3, 1) := by decide +kernel
theorem dX11_reckons_215 : decode cX11_reckons 215 = .ok (.invokestatic 145, 3) := by decide +kernel
theorem dX11_reckons_218 : decode cX11_reckons 218 = .ok (.lload 5, 2) := by decide +kernel
theorem dX11_reckons_220 : decode cX11_reckons 220 = .ok (.invokestatic 145, 3) := by decide +kernel
theorem dX11_reckons_223 : decode cX11_reckons 223 = .ok (.fcmp .l, 1) := by decide +kernel
theorem dX11_reckons_224 : decode cX11_reckons 224 = .ok (.ifCond .le 7, 3) := by decide +kernel
theorem dX11_reckons_231 : decode cX11_reckons 231 = .ok (.iconst 0, 1) := by decide +kernel
theorem dX11_reckons_232 : decode cX11_reckons 232 = .ok (.goto 21, 3) := by decide +kernel
theorem dX11_reckons_227 : decode cX11_reckons 227 = .ok (.iconst 1, 1) := by decide +kernel
theorem dX11_reckons_228 : decode cX11_reckons 228 = .ok (.goto 25, 3) := by decide +kernel
theorem dX11_reckons_192 : decode cX11_reckons 192 = .ok (.lload_n 3, 1) := by decide +kernel
theorem dX11_reckons_193 : decode cX11_reckons 193 = .ok (.lload 5, 2) := by decide +kernel
theorem dX11_reckons_195 : decode cX11_reckons 195 = .ok (.lcmp, 1) := by decide +kernel
theorem dX11_reckons_203 : decode cX11_reckons 203 = .ok (.iconst 0, 1) := by decide +kernel
theorem dX11_reckons_204 : decode cX11_reckons 204 = .ok (.goto 49, 3) := by decide +kernel
theorem dX11_reckons_199 : decode cX11_reckons 199 = .ok (.iconst 1, 1) := by decide +kernel
theorem dX11_reckons_200 : decode cX11_reckons 200 = .ok (.goto 53, 3) := by decide +kernel
theorem dX11_reckons_196 : decode cX11_reckons 196 = .ok (.ifCond .le 7, 3) := by decide +kernel
theorem dX11_reckons_102 : decode cX11_reckons 102 = .ok (.aload_n 0, 1) := by decide +kernel
theorem dX11_reckons_103 : decode cX11_reckons 103 = .ok (.iload 7, 2) := by decide +kernel
theorem dX11_reckons_105 : decode cX11_reckons 105 = .ok (.iconst 4, 1) := by decide +kernel
theorem dX11_reckons_106 : decode cX11_reckons 106 = .ok (.if_icmp .ne 12, 3) := by decide +kernel
theorem dX11_reckons_118 : decode cX11_reckons 118 = .ok (.iload 7, 2) := by decide +kernel
theorem dX11_reckons_120 : decode cX11_reckons 120 = .ok (.iconst 5, 1) := by decide +kernel
theorem dX11_reckons_121 : decode cX11_reckons 121 = .ok (.if_icmp .ne 10, 3) := by decide +kernel
theorem dX11_reckons_131 : decode cX11_reckons 131 = .ok (.iload 7, 2) := by decide +kernel
theorem dX11_reckons_133 : decode cX11_reckons 133 = .ok (.bipush 6, 2) := by decide +kernel
theorem dX11_reckons_135 : decode cX11_reckons 135 = .ok (.if_icmp .ne 20, 3) := by decide +kernel
theorem dX11_reckons_155 : decode cX11_reckons 155 = .ok (.lload_n 3, 1) := by decide +kernel
theorem dX11_reckons_156 : decode cX11_reckons 156 = .ok (.invokestatic 283, 3) := by decide +kernel
theorem dX11_reckons_159 : decode cX11_reckons 159 = .ok (.lload 5, 2) := by decide +kernel
theorem dX11_reckons_161 : decode cX11_reckons 161 = .ok (.invokestatic 283, 3) := by decide +kernel
theorem dX11_reckons_164 : decode cX11_reckons 164 = .ok (.dadd, 1) := by decide +kernel
theorem dX11_reckons_165 : decode cX11_reckons 165 = .ok (.invokestatic 149, 3) := by decide +kernel
theorem dX11_reckons_168 : decode cX11_reckons 168 = .ok (.invokevirtual 275, 3) := by decide +kernel
theorem dX11_reckons_171 : decode cX11_reckons 171 = .ok (.goto 190, 3) := by decide +kernel
theorem dX11_reckons_138 : decode cX11_reckons 138 = .ok (.lload_n 3, 1) := by decide +kernel
theorem dX11_reckons_139 : decode cX11_reckons 139 = .ok (.invokestatic 145, 3) := by decide +kernel
theorem dX11_reckons_142 : decode cX11_reckons 142 = .ok (.lload 5, 2) := by decide +kernel
theorem dX11_reckons_144 : decode cX11_reckons 144 = .ok (.invokestatic 145, 3) := by decide +kernel
theorem dX11_reckons_147 : decode cX11_reckons 147 = .ok (.fadd, 1) := by decide +kernel
theorem dX11_reckons_148 : decode cX11_reckons 148 = .ok (.invokestatic 138, 3) := by decide +kernel
theorem dX11_reckons_151 : decode cX11_reckons 151 = .ok (.i2l, 1) := by decide +kernel
theorem dX11_reckons_152 : decode cX11_reckons 152 = .ok (.goto 16, 3) := by decide +kernel
theorem dX11_reckons_124 : decode cX11_reckons 124 = .ok (.lload_n 3, 1) := by decide +kernel
theorem dX11_reckons_125 : decode cX11_reckons 125 = .ok (.lload 5, 2) := by decide +kernel
theorem dX11_reckons_127 : decode cX11_reckons 127 = .ok (.ladd, 1) := by decide +kernel
theorem dX11_reckons_128 : decode cX11_reckons 128 = .ok (.goto 40, 3) := by decide +kernel
theorem dX11_reckons_109 : decode cX11_reckons 109 = .ok (.lload_n 3, 1) := by decide +kernel
theorem dX11_reckons_110 : decode cX11_reckons 110 = .ok (.lload 5, 2) := by decide +kernel
theorem dX11_reckons_112 : decode cX11_reckons 112 = .ok (.ladd, 1) := by decide +kernel
theorem dX11_reckons_113 : decode cX11_reckons 113 = .ok (.l2i, 1) := by decide +kernel
theorem dX11_reckons_114 : decode cX11_reckons 114 = .ok (.i2l, 1) := by decide +kernel
theorem dX11_reckons_115 : decode cX11_reckons 115 = .ok (.goto 53, 3) := by decide +kernel
theorem hy_X11_reckons : yX11_reckons.cls ≠ "java/lang/invoke/MethodHandle" ∧ yX11_reckons.cls ≠ "java/lang/invoke/VarHandle" ∧ (parseMethodDescriptor yX11_reckons.desc).map (fun d => d.parameters.length) = some 1 := ⟨by decide, by decide, by decide +kernel⟩
def f_X11_reckons_b91 (l1 : Int32) (l3 : Int64) (l5 : Int64) (l7 : Int32) (S : mS) : Option ((Unit) × mS) :=
  o_ck (¬ (l1 < 0 ∨ 32 ≤ (l1).toNatClampNeg)) (o_let (m_aI S 4 (l1).toNatClampNeg) fun x1 =>
  if x1 = 6 then (
  if l7 = 4 then (
  o_call (f_X11_end (((((l3 + l5)).toInt32)).toInt64) S) fun _ S15 =>
  some ((), S15)) else (
  if l7 = 5 then (
  o_call (f_X11_end (l3 + l5) S) fun _ S14 =>
  some ((), S14)) else (
  if l7 = 6 then (
  o_cP (f_X11_floatOf l3) fun x16 =>
  o_cP (f_X11_floatOf l5) fun x17 =>
  o_ck ((FP.fadd x16 x17) &&& 0x7fffffff ≤ 0x7f800000) (
  o_cP (f_Jxf58ca_floatToIntBits_5c35a (FP.fadd x16 x17)) fun x18 =>
  o_call (f_X11_end ((x18).toInt64) S) fun _ S13 =>
  some ((), S13))) else (
  o_cP (f_X11_doubleOf l3) fun x13 =>
  o_cP (f_X11_doubleOf l5) fun x14 =>
  o_ck ((FP.dadd x13 x14) &&& 0x7fffffffffffffff ≤ 0x7ff0000000000000) (
  o_cP (f_Jxe99ae_doubleToLongBits_ccdee (FP.dadd x13 x14)) fun x15 =>
  o_call (f_X11_end x15 S) fun _ S12 =>
  some ((), S12)))))) else (
  o_ck (¬ (l1 < 0 ∨ 32 ≤ (l1).toNatClampNeg)) (o_let (m_aI S 4 (l1).toNatClampNeg) fun x2 =>
  if x2 = 8 then (
  if 6 ≤ l7 then (
  if l7 = 6 then (
  o_cP (f_X11_floatOf l3) fun x11 =>
  o_cP (f_X11_floatOf l5) fun x12 =>
  if (Op.cmpValue (FP.fcmp x11 x12) .l) ≤ 0 then (
  o_call (f_X11_end 0 S) fun _ S8 =>
  some ((), S8)) else (
  o_call (f_X11_end 1 S) fun _ S9 =>
  some ((), S9))) else (
  o_cP (f_X11_doubleOf l3) fun x9 =>
  o_cP (f_X11_doubleOf l5) fun x10 =>
  if (Op.cmpValue (FP.dcmp x9 x10) .l) ≤ 0 then (
  o_call (f_X11_end 0 S) fun _ S6 =>
  some ((), S6)) else (
  o_call (f_X11_end 1 S) fun _ S7 =>
  some ((), S7)))) else (
  if l3 ≤ l5 then (
  o_call (f_X11_end 0 S) fun _ S10 =>
  some ((), S10)) else (
  o_call (f_X11_end 1 S) fun _ S11 =>
  some ((), S11)))) else (
  if l7 < 6 then (
  if l5 = 0 then (
  o_call (f_X11_fail 3 S) fun _ S3 =>
  some ((), S3)) else (
  if l7 = 4 then (
  o_ck (¬ l5 = 0) (
  o_call (f_X11_end (((((l3 / l5)).toInt32)).toInt64) S) fun _ S2 =>
  some ((), S2))) else (
  o_ck (¬ l5 = 0) (
  o_call (f_X11_end (l3 / l5) S) fun _ S1 =>
  some ((), S1))))) else (
  if l7 = 6 then (
  o_cP (f_X11_floatOf l3) fun x6 =>
  o_cP (f_X11_floatOf l5) fun x7 =>
  o_ck ((FP.fdiv x6 x7) &&& 0x7fffffff ≤ 0x7f800000) (
  o_cP (f_Jxf58ca_floatToIntBits_5c35a (FP.fdiv x6 x7)) fun x8 =>
  o_call (f_X11_end ((x8).toInt64) S) fun _ S5 =>
  some ((), S5))) else (
  o_cP (f_X11_doubleOf l3) fun x3 =>
  o_cP (f_X11_doubleOf l5) fun x4 =>
  o_ck ((FP.ddiv x3 x4) &&& 0x7fffffffffffffff ≤ 0x7ff0000000000000) (
  o_cP (f_Jxe99ae_doubleToLongBits_ccdee (FP.ddiv x3 x4)) fun x5 =>
  o_call (f_X11_end x5 S) fun _ S4 =>
  some ((), S4))))))))
set_option maxHeartbeats 4000000 in
set_option maxRecDepth 100000 in
theorem w_X11_reckons_b91 {l : Launch} {D : va_G} {Y : Nat → ClassId} {aR : Nat → Nat} {A : Nat → Prop} {ad : Nat → Nat} {p : Program} {e : Env} {s : State} {m : MethodId} {args : Array Value} {below : List Frame} {meth : Method} {c : Code} : ∀ (l1 : Int32) (l3 : Int64) (l5 : Int64) (l7 : Int32) (S S' : mS) (r : Unit) (H : Heap) (locs : List Loc) (ls : Array Slot), jq_X D Y aR A p s m args meth c cX11_reckons RX11 "reckons" 9 none → mJ D Y A s ad S H locs → f_X11_reckons_b91 l1 l3 l5 l7 S = some (r, S') → lv_has ls 9 [(0, .ref (ad 0)), (1, .int l1), (3, .long l3), (5, .long l5), (7, .int l7)] → W p l e { frames := 2, cells := 0, slots := 0, locals := 52 } s m args below meth c H locs 0 0 (jq_Z below A (fun v k n H => v = none ∧ k = 0 ∧ n = 0 ∧ mH D Y A ad S' H) s) (F0 m 91 ls []) := by
  intro l1 l3 l5 l7 S S' r H locs ls hX hJ hf hl
  unfold f_X11_reckons_b91 at hf
  have hx := hX.1
  have hb := hX.2.1
  have hm := hX.2.2.1
  have ho := hX.2.2.2.1
  have ht := hX.2.2.2.2.1
  have hn := hX.2.2.2.2.2.1.2.1
  refine lv_aload_n hx hb dX11_reckons_91 rfl (lv_at hl 0 rfl) ?_
  refine mg_sortOf hX hJ qw698 dX11_reckons_92 ?_
  refine lv_iload_n hx hb dX11_reckons_95 rfl (lv_at hl 1 rfl) ?_
  replace hf := o_ck_e hf
  obtain ⟨hk1, hf⟩ := hf
  replace hf := o_let_e hf
  obtain ⟨x1, hx1, hf⟩ := hf
  refine ma_I 4 hX hJ (by decide) hk1 hx1 dX11_reckons_96 ?_
  refine lv_bipush (v := 6) hx hb dX11_reckons_97 (by decide) ?_
  refine lv_icmp_ne (tgt := 174) hx hb dX11_reckons_99 (by decide) (fun c1 => ?_) (fun c1 => ?_)
  · replace hf := o_f hf c1
    refine lv_aload_n hx hb dX11_reckons_174 rfl (lv_at hl 0 rfl) ?_
    refine mg_sortOf hX hJ qw698 dX11_reckons_175 ?_
    refine lv_iload_n hx hb dX11_reckons_178 rfl (lv_at hl 1 rfl) ?_
    replace hf := o_ck_e hf
    obtain ⟨hk2, hf⟩ := hf
    replace hf := o_let_e hf
    obtain ⟨x2, hx2, hf⟩ := hf
    refine ma_I 4 hX hJ (by decide) hk2 hx2 dX11_reckons_179 ?_
    refine lv_bipush (v := 8) hx hb dX11_reckons_180 (by decide) ?_
    refine lv_icmp_ne (tgt := 272) hx hb dX11_reckons_182 (by decide) (fun c2 => ?_) (fun c2 => ?_)
    · replace hf := o_f hf c2
      refine lv_iload hx hb dX11_reckons_272 (lv_at hl 4 rfl) ?_
      refine lv_bipush (v := 6) hx hb dX11_reckons_274 (by decide) ?_
      refine lv_icmp_lt (tgt := 323) hx hb dX11_reckons_276 (by decide) (fun c3 => ?_) (fun c3 => ?_)
      · replace hf := o_t hf c3
        refine lv_lload hx hb dX11_reckons_323 (lv_at hl 3 rfl) ?_
        refine lv_lconst (v := 0) hx hb dX11_reckons_325 (by decide) ?_
        refine W.lcmp hx hb dX11_reckons_326 ?_
        refine lv_if_ne (tgt := 338) hx hb dX11_reckons_327 (by decide) (fun c4 => ?_) (fun c4 => ?_)
        · replace hf := o_f hf (fun z => c4 (qc_eq.mpr z))
          refine lv_aload_n hx hb dX11_reckons_338 rfl (lv_at hl 0 rfl) ?_
          refine lv_iload hx hb dX11_reckons_339 (lv_at hl 4 rfl) ?_
          refine lv_iconst (v := 4) hx hb dX11_reckons_341 (by decide) ?_
          refine lv_icmp_ne (tgt := 354) hx hb dX11_reckons_342 (by decide) (fun c5 => ?_) (fun c5 => ?_)
          · replace hf := o_f hf c5
            refine lv_lload_n hx hb dX11_reckons_354 rfl (lv_at hl 2 rfl) ?_
            refine lv_lload hx hb dX11_reckons_355 (lv_at hl 3 rfl) ?_
            replace hf := o_ck_e hf
            obtain ⟨hc1, hf⟩ := hf
            refine lv_ldiv hx hb dX11_reckons_357 hc1 ?_
            replace hf := o_call_e hf
            obtain ⟨_, S1, hq1, hf⟩ := hf
            refine jq_doM hX hJ (jq_okV (As := [.long (l3 / l5)]) (rest := []) hx hb hm ho ht (mJ.recv hX hJ) qw1000 qw1002 qs95 qw1003 qw7 hy_X11_end rfl hl.1 (Nat.le_of_ble_eq_true rfl) dX11_reckons_358) (c_X11_end hq1) (Nat.le_of_ble_eq_true rfl) (Nat.le_of_ble_eq_true rfl) (Nat.le_refl _) (Nat.le_refl _) (fun H locs hJ' => ?_)
            clear hJ
            have hJ := hJ'
            clear hJ'
            obtain ⟨rfl, rfl⟩ := Prod.mk.inj (Option.some.inj hf)
            exact jq_vret hX hJ.2 dX11_reckons_361 ⟨rfl, rfl, rfl, hJ.1⟩
          · replace hf := o_t hf c5
            refine lv_lload_n hx hb dX11_reckons_345 rfl (lv_at hl 2 rfl) ?_
            refine lv_lload hx hb dX11_reckons_346 (lv_at hl 3 rfl) ?_
            replace hf := o_ck_e hf
            obtain ⟨hc2, hf⟩ := hf
            refine lv_ldiv hx hb dX11_reckons_348 hc2 ?_
            refine lv_l2i hx hb dX11_reckons_349 rfl ?_
            refine lv_i2l hx hb dX11_reckons_350 rfl ?_
            refine lv_goto (tgt := 358) hx hb dX11_reckons_351 (by decide) ?_
            replace hf := o_call_e hf
            obtain ⟨_, S2, hq2, hf⟩ := hf
            refine jq_doM hX hJ (jq_okV (As := [.long (((((l3 / l5)).toInt32)).toInt64)]) (rest := []) hx hb hm ho ht (mJ.recv hX hJ) qw1000 qw1002 qs95 qw1003 qw7 hy_X11_end rfl hl.1 (Nat.le_of_ble_eq_true rfl) dX11_reckons_358) (c_X11_end hq2) (Nat.le_of_ble_eq_true rfl) (Nat.le_of_ble_eq_true rfl) (Nat.le_refl _) (Nat.le_refl _) (fun H locs hJ' => ?_)
            clear hJ
            have hJ := hJ'
            clear hJ'
            obtain ⟨rfl, rfl⟩ := Prod.mk.inj (Option.some.inj hf)
            exact jq_vret hX hJ.2 dX11_reckons_361 ⟨rfl, rfl, rfl, hJ.1⟩
        · replace hf := o_t hf (qc_eq.mp c4)
          refine lv_aload_n hx hb dX11_reckons_330 rfl (lv_at hl 0 rfl) ?_
          refine lv_iconst (v := 3) hx hb dX11_reckons_331 (by decide) ?_
          replace hf := o_call_e hf
          obtain ⟨_, S3, hq3, hf⟩ := hf
          refine jq_doM hX hJ (jq_okV (As := [.int 3]) (rest := []) hx hb hm ho ht (mJ.recv hX hJ) qw1008 qw1010 qs97 qw1011 qw7 hy_X11_fail rfl hl.1 (Nat.le_of_ble_eq_true rfl) dX11_reckons_332) (c_X11_fail hq3) (Nat.le_of_ble_eq_true rfl) (Nat.le_of_ble_eq_true rfl) (Nat.le_refl _) (Nat.le_refl _) (fun H locs hJ' => ?_)
          clear hJ
          have hJ := hJ'
          clear hJ'
          refine lv_goto (tgt := 361) hx hb dX11_reckons_335 (by decide) ?_
          obtain ⟨rfl, rfl⟩ := Prod.mk.inj (Option.some.inj hf)
          exact jq_vret hX hJ.2 dX11_reckons_361 ⟨rfl, rfl, rfl, hJ.1⟩
      · replace hf := o_f hf c3
        refine lv_aload_n hx hb dX11_reckons_279 rfl (lv_at hl 0 rfl) ?_
        refine lv_iload hx hb dX11_reckons_280 (lv_at hl 4 rfl) ?_
        refine lv_bipush (v := 6) hx hb dX11_reckons_282 (by decide) ?_
        refine lv_icmp_ne (tgt := 304) hx hb dX11_reckons_284 (by decide) (fun c6 => ?_) (fun c6 => ?_)
        · replace hf := o_f hf c6
          refine lv_lload_n hx hb dX11_reckons_304 rfl (lv_at hl 2 rfl) ?_
          replace hf := o_cP_e hf
          obtain ⟨x3, hq4, hf⟩ := hf
          refine jq_doP hX hJ.2 (jq_okS (As := [.long l3]) (rest := [.ref (ad 0)]) hx hb hm ho ht qw1019 qw1020 qw1021 qw7 hy_X11_doubleOf rfl hl.1 (Nat.le_of_ble_eq_true rfl) dX11_reckons_305) (c_X11_doubleOf hq4) (Nat.le_of_ble_eq_true rfl) (Nat.le_of_ble_eq_true rfl) (Nat.le_refl _) (Nat.le_refl _) (fun locs hS9 => ?_)
          replace hJ := mJ.to hJ hS9
          refine lv_lload hx hb dX11_reckons_308 (lv_at hl 3 rfl) ?_
          replace hf := o_cP_e hf
          obtain ⟨x4, hq5, hf⟩ := hf
          refine jq_doP hX hJ.2 (jq_okS (As := [.long l5]) (rest := [.double x3, .ref (ad 0)]) hx hb hm ho ht qw1019 qw1020 qw1021 qw7 hy_X11_doubleOf rfl hl.1 (Nat.le_of_ble_eq_true rfl) dX11_reckons_310) (c_X11_doubleOf hq5) (Nat.le_of_ble_eq_true rfl) (Nat.le_of_ble_eq_true rfl) (Nat.le_refl _) (Nat.le_refl _) (fun locs hS9 => ?_)
          replace hJ := mJ.to hJ hS9
          replace hf := o_ck_e hf
          obtain ⟨hc3, hf⟩ := hf
          refine lv_ddiv hx hb dX11_reckons_313 hc3 ?_
          replace hf := o_cP_e hf
          obtain ⟨x5, hq6, hf⟩ := hf
          refine jq_doP hX hJ.2 (jq_okS (As := [.double (FP.ddiv x3 x4)]) (rest := [.ref (ad 0)]) hx hb hm ho ht qw978 qw979 qw980 qw16 hy_Jxe99ae_doubleToLongBits_ccdee rfl hl.1 (Nat.le_of_ble_eq_true rfl) dX11_reckons_314) (c_Jxe99ae_doubleToLongBits_ccdee hq6) (Nat.le_of_ble_eq_true rfl) (Nat.le_of_ble_eq_true rfl) (Nat.le_refl _) (Nat.le_refl _) (fun locs hS9 => ?_)
          replace hJ := mJ.to hJ hS9
          replace hf := o_call_e hf
          obtain ⟨_, S4, hq7, hf⟩ := hf
          refine jq_doM hX hJ (jq_okV (As := [.long x5]) (rest := []) hx hb hm ho ht (mJ.recv hX hJ) qw1000 qw1002 qs95 qw1003 qw7 hy_X11_end rfl hl.1 (Nat.le_of_ble_eq_true rfl) dX11_reckons_317) (c_X11_end hq7) (Nat.le_of_ble_eq_true rfl) (Nat.le_of_ble_eq_true rfl) (Nat.le_refl _) (Nat.le_refl _) (fun H locs hJ' => ?_)
          clear hJ
          have hJ := hJ'
          clear hJ'
          refine lv_goto (tgt := 361) hx hb dX11_reckons_320 (by decide) ?_
          obtain ⟨rfl, rfl⟩ := Prod.mk.inj (Option.some.inj hf)
          exact jq_vret hX hJ.2 dX11_reckons_361 ⟨rfl, rfl, rfl, hJ.1⟩
        · replace hf := o_t hf c6
          refine lv_lload_n hx hb dX11_reckons_287 rfl (lv_at hl 2 rfl) ?_
          replace hf := o_cP_e hf
          obtain ⟨x6, hq8, hf⟩ := hf
          refine jq_doP hX hJ.2 (jq_okS (As := [.long l3]) (rest := [.ref (ad 0)]) hx hb hm ho ht qw972 qw973 qw974 qw7 hy_X11_floatOf rfl hl.1 (Nat.le_of_ble_eq_true rfl) dX11_reckons_288) (c_X11_floatOf hq8) (Nat.le_of_ble_eq_true rfl) (Nat.le_of_ble_eq_true rfl) (Nat.le_refl _) (Nat.le_refl _) (fun locs hS9 => ?_)
          replace hJ := mJ.to hJ hS9
          refine lv_lload hx hb dX11_reckons_291 (lv_at hl 3 rfl) ?_
          replace hf := o_cP_e hf
          obtain ⟨x7, hq9, hf⟩ := hf
          refine jq_doP hX hJ.2 (jq_okS (As := [.long l5]) (rest := [.float x6, .ref (ad 0)]) hx hb hm ho ht qw972 qw973 qw974 qw7 hy_X11_floatOf rfl hl.1 (Nat.le_of_ble_eq_true rfl) dX11_reckons_293) (c_X11_floatOf hq9) (Nat.le_of_ble_eq_true rfl) (Nat.le_of_ble_eq_true rfl) (Nat.le_refl _) (Nat.le_refl _) (fun locs hS9 => ?_)
          replace hJ := mJ.to hJ hS9
          replace hf := o_ck_e hf
          obtain ⟨hc4, hf⟩ := hf
          refine lv_fdiv hx hb dX11_reckons_296 hc4 ?_
          replace hf := o_cP_e hf
          obtain ⟨x8, hq10, hf⟩ := hf
          refine jq_doP hX hJ.2 (jq_okS (As := [.float (FP.fdiv x6 x7)]) (rest := [.ref (ad 0)]) hx hb hm ho ht qw953 qw954 qw955 qw15 hy_Jxf58ca_floatToIntBits_5c35a rfl hl.1 (Nat.le_of_ble_eq_true rfl) dX11_reckons_297) (c_Jxf58ca_floatToIntBits_5c35a hq10) (Nat.le_of_ble_eq_true rfl) (Nat.le_of_ble_eq_true rfl) (Nat.le_refl _) (Nat.le_refl _) (fun locs hS9 => ?_)
          replace hJ := mJ.to hJ hS9
          refine lv_i2l hx hb dX11_reckons_300 rfl ?_
          refine lv_goto (tgt := 317) hx hb dX11_reckons_301 (by decide) ?_
          replace hf := o_call_e hf
          obtain ⟨_, S5, hq11, hf⟩ := hf
          refine jq_doM hX hJ (jq_okV (As := [.long ((x8).toInt64)]) (rest := []) hx hb hm ho ht (mJ.recv hX hJ) qw1000 qw1002 qs95 qw1003 qw7 hy_X11_end rfl hl.1 (Nat.le_of_ble_eq_true rfl) dX11_reckons_317) (c_X11_end hq11) (Nat.le_of_ble_eq_true rfl) (Nat.le_of_ble_eq_true rfl) (Nat.le_refl _) (Nat.le_refl _) (fun H locs hJ' => ?_)
          clear hJ
          have hJ := hJ'
          clear hJ'
          refine lv_goto (tgt := 361) hx hb dX11_reckons_320 (by decide) ?_
          obtain ⟨rfl, rfl⟩ := Prod.mk.inj (Option.some.inj hf)
          exact jq_vret hX hJ.2 dX11_reckons_361 ⟨rfl, rfl, rfl, hJ.1⟩
    · replace hf := o_t hf c2
      refine lv_iload hx hb dX11_reckons_185 (lv_at hl 4 rfl) ?_
      refine lv_bipush (v := 6) hx hb dX11_reckons_187 (by decide) ?_
      refine lv_icmp_ge (tgt := 207) hx hb dX11_reckons_189 (by decide) (fun c7 => ?_) (fun c7 => ?_)
      · replace hf := o_t hf c7
        refine lv_iload hx hb dX11_reckons_207 (lv_at hl 4 rfl) ?_
        refine lv_bipush (v := 6) hx hb dX11_reckons_209 (by decide) ?_
        refine lv_icmp_ne (tgt := 235) hx hb dX11_reckons_211 (by decide) (fun c8 => ?_) (fun c8 => ?_)
        · replace hf := o_f hf c8
          refine lv_lload_n hx hb dX11_reckons_235 rfl (lv_at hl 2 rfl) ?_
          replace hf := o_cP_e hf
          obtain ⟨x9, hq12, hf⟩ := hf
          refine jq_doP hX hJ.2 (jq_okS (As := [.long l3]) (rest := []) hx hb hm ho ht qw1019 qw1020 qw1021 qw7 hy_X11_doubleOf rfl hl.1 (Nat.le_of_ble_eq_true rfl) dX11_reckons_236) (c_X11_doubleOf hq12) (Nat.le_of_ble_eq_true rfl) (Nat.le_of_ble_eq_true rfl) (Nat.le_refl _) (Nat.le_refl _) (fun locs hS9 => ?_)
          replace hJ := mJ.to hJ hS9
          refine lv_lload hx hb dX11_reckons_239 (lv_at hl 3 rfl) ?_
          replace hf := o_cP_e hf
          obtain ⟨x10, hq13, hf⟩ := hf
          refine jq_doP hX hJ.2 (jq_okS (As := [.long l5]) (rest := [.double x9]) hx hb hm ho ht qw1019 qw1020 qw1021 qw7 hy_X11_doubleOf rfl hl.1 (Nat.le_of_ble_eq_true rfl) dX11_reckons_241) (c_X11_doubleOf hq13) (Nat.le_of_ble_eq_true rfl) (Nat.le_of_ble_eq_true rfl) (Nat.le_refl _) (Nat.le_refl _) (fun locs hS9 => ?_)
          replace hJ := mJ.to hJ hS9
          refine lv_dcmp hx hb dX11_reckons_244 ?_
          refine lv_if_le (tgt := 252) hx hb dX11_reckons_245 (by decide) (fun c9 => ?_) (fun c9 => ?_)
          · replace hf := o_t hf c9
            refine lv_iconst (v := 0) hx hb dX11_reckons_252 (by decide) ?_
            refine lv_istore (lv' := [(8, .int 0), (0, .ref (ad 0)), (1, .int l1), (3, .long l3), (5, .long l5), (7, .int l7)]) hx hb dX11_reckons_253 hl (by decide) rfl (fun ls hl' => ?_)
            clear hl
            have hl := hl'
            clear hl'
            refine lv_aload_n hx hb dX11_reckons_255 rfl (lv_at hl 1 rfl) ?_
            refine lv_iload hx hb dX11_reckons_256 (lv_at hl 0 rfl) ?_
            refine lv_if_eq (tgt := 265) hx hb dX11_reckons_258 (by decide) (fun _ => ?_) (fun z => absurd (by decide) z)
            refine lv_lconst (v := 0) hx hb dX11_reckons_265 (by decide) ?_
            replace hf := o_call_e hf
            obtain ⟨_, S6, hq14, hf⟩ := hf
            refine jq_doM hX hJ (jq_okV (As := [.long 0]) (rest := []) hx hb hm ho ht (mJ.recv hX hJ) qw1000 qw1002 qs95 qw1003 qw7 hy_X11_end rfl hl.1 (Nat.le_of_ble_eq_true rfl) dX11_reckons_266) (c_X11_end hq14) (Nat.le_of_ble_eq_true rfl) (Nat.le_of_ble_eq_true rfl) (Nat.le_refl _) (Nat.le_refl _) (fun H locs hJ' => ?_)
            clear hJ
            have hJ := hJ'
            clear hJ'
            refine lv_goto (tgt := 361) hx hb dX11_reckons_269 (by decide) ?_
            obtain ⟨rfl, rfl⟩ := Prod.mk.inj (Option.some.inj hf)
            exact jq_vret hX hJ.2 dX11_reckons_361 ⟨rfl, rfl, rfl, hJ.1⟩
          · replace hf := o_f hf c9
            refine lv_iconst (v := 1) hx hb dX11_reckons_248 (by decide) ?_
            refine lv_goto (tgt := 253) hx hb dX11_reckons_249 (by decide) ?_
            refine lv_istore (lv' := [(8, .int 1), (0, .ref (ad 0)), (1, .int l1), (3, .long l3), (5, .long l5), (7, .int l7)]) hx hb dX11_reckons_253 hl (by decide) rfl (fun ls hl' => ?_)
            clear hl
            have hl := hl'
            clear hl'
            refine lv_aload_n hx hb dX11_reckons_255 rfl (lv_at hl 1 rfl) ?_
            refine lv_iload hx hb dX11_reckons_256 (lv_at hl 0 rfl) ?_
            refine lv_if_eq (tgt := 265) hx hb dX11_reckons_258 (by decide) (fun z => absurd z (by decide)) (fun _ => ?_)
            refine lv_lconst (v := 1) hx hb dX11_reckons_261 (by decide) ?_
            refine lv_goto (tgt := 266) hx hb dX11_reckons_262 (by decide) ?_
            replace hf := o_call_e hf
            obtain ⟨_, S7, hq15, hf⟩ := hf
            refine jq_doM hX hJ (jq_okV (As := [.long 1]) (rest := []) hx hb hm ho ht (mJ.recv hX hJ) qw1000 qw1002 qs95 qw1003 qw7 hy_X11_end rfl hl.1 (Nat.le_of_ble_eq_true rfl) dX11_reckons_266) (c_X11_end hq15) (Nat.le_of_ble_eq_true rfl) (Nat.le_of_ble_eq_true rfl) (Nat.le_refl _) (Nat.le_refl _) (fun H locs hJ' => ?_)
            clear hJ
            have hJ := hJ'
            clear hJ'
            refine lv_goto (tgt := 361) hx hb dX11_reckons_269 (by decide) ?_
            obtain ⟨rfl, rfl⟩ := Prod.mk.inj (Option.some.inj hf)
            exact jq_vret hX hJ.2 dX11_reckons_361 ⟨rfl, rfl, rfl, hJ.1⟩
        · replace hf := o_t hf c8
          refine lv_lload_n hx hb dX11_reckons_214 rfl (lv_at hl 2 rfl) ?_
          replace hf := o_cP_e hf
          obtain ⟨x11, hq16, hf⟩ := hf
          refine jq_doP hX hJ.2 (jq_okS (As := [.long l3]) (rest := []) hx hb hm ho ht qw972 qw973 qw974 qw7 hy_X11_floatOf rfl hl.1 (Nat.le_of_ble_eq_true rfl) dX11_reckons_215) (c_X11_floatOf hq16) (Nat.le_of_ble_eq_true rfl) (Nat.le_of_ble_eq_true rfl) (Nat.le_refl _) (Nat.le_refl _) (fun locs hS9 => ?_)
          replace hJ := mJ.to hJ hS9
          refine lv_lload hx hb dX11_reckons_218 (lv_at hl 3 rfl) ?_
          replace hf := o_cP_e hf
          obtain ⟨x12, hq17, hf⟩ := hf
          refine jq_doP hX hJ.2 (jq_okS (As := [.long l5]) (rest := [.float x11]) hx hb hm ho ht qw972 qw973 qw974 qw7 hy_X11_floatOf rfl hl.1 (Nat.le_of_ble_eq_true rfl) dX11_reckons_220) (c_X11_floatOf hq17) (Nat.le_of_ble_eq_true rfl) (Nat.le_of_ble_eq_true rfl) (Nat.le_refl _) (Nat.le_refl _) (fun locs hS9 => ?_)
          replace hJ := mJ.to hJ hS9
          refine lv_fcmp hx hb dX11_reckons_223 ?_
          refine lv_if_le (tgt := 231) hx hb dX11_reckons_224 (by decide) (fun c10 => ?_) (fun c10 => ?_)
          · replace hf := o_t hf c10
            refine lv_iconst (v := 0) hx hb dX11_reckons_231 (by decide) ?_
            refine lv_goto (tgt := 253) hx hb dX11_reckons_232 (by decide) ?_
            refine lv_istore (lv' := [(8, .int 0), (0, .ref (ad 0)), (1, .int l1), (3, .long l3), (5, .long l5), (7, .int l7)]) hx hb dX11_reckons_253 hl (by decide) rfl (fun ls hl' => ?_)
            clear hl
            have hl := hl'
            clear hl'
            refine lv_aload_n hx hb dX11_reckons_255 rfl (lv_at hl 1 rfl) ?_
            refine lv_iload hx hb dX11_reckons_256 (lv_at hl 0 rfl) ?_
            refine lv_if_eq (tgt := 265) hx hb dX11_reckons_258 (by decide) (fun _ => ?_) (fun z => absurd (by decide) z)
            refine lv_lconst (v := 0) hx hb dX11_reckons_265 (by decide) ?_
            replace hf := o_call_e hf
            obtain ⟨_, S8, hq18, hf⟩ := hf
            refine jq_doM hX hJ (jq_okV (As := [.long 0]) (rest := []) hx hb hm ho ht (mJ.recv hX hJ) qw1000 qw1002 qs95 qw1003 qw7 hy_X11_end rfl hl.1 (Nat.le_of_ble_eq_true rfl) dX11_reckons_266) (c_X11_end hq18) (Nat.le_of_ble_eq_true rfl) (Nat.le_of_ble_eq_true rfl) (Nat.le_refl _) (Nat.le_refl _) (fun H locs hJ' => ?_)
            clear hJ
            have hJ := hJ'
            clear hJ'
            refine lv_goto (tgt := 361) hx hb dX11_reckons_269 (by decide) ?_
            obtain ⟨rfl, rfl⟩ := Prod.mk.inj (Option.some.inj hf)
            exact jq_vret hX hJ.2 dX11_reckons_361 ⟨rfl, rfl, rfl, hJ.1⟩
          · replace hf := o_f hf c10
            refine lv_iconst (v := 1) hx hb dX11_reckons_227 (by decide) ?_
            refine lv_goto (tgt := 253) hx hb dX11_reckons_228 (by decide) ?_
            refine lv_istore (lv' := [(8, .int 1), (0, .ref (ad 0)), (1, .int l1), (3, .long l3), (5, .long l5), (7, .int l7)]) hx hb dX11_reckons_253 hl (by decide) rfl (fun ls hl' => ?_)
            clear hl
            have hl := hl'
            clear hl'
            refine lv_aload_n hx hb dX11_reckons_255 rfl (lv_at hl 1 rfl) ?_
            refine lv_iload hx hb dX11_reckons_256 (lv_at hl 0 rfl) ?_
            refine lv_if_eq (tgt := 265) hx hb dX11_reckons_258 (by decide) (fun z => absurd z (by decide)) (fun _ => ?_)
            refine lv_lconst (v := 1) hx hb dX11_reckons_261 (by decide) ?_
            refine lv_goto (tgt := 266) hx hb dX11_reckons_262 (by decide) ?_
            replace hf := o_call_e hf
            obtain ⟨_, S9, hq19, hf⟩ := hf
            refine jq_doM hX hJ (jq_okV (As := [.long 1]) (rest := []) hx hb hm ho ht (mJ.recv hX hJ) qw1000 qw1002 qs95 qw1003 qw7 hy_X11_end rfl hl.1 (Nat.le_of_ble_eq_true rfl) dX11_reckons_266) (c_X11_end hq19) (Nat.le_of_ble_eq_true rfl) (Nat.le_of_ble_eq_true rfl) (Nat.le_refl _) (Nat.le_refl _) (fun H locs hJ' => ?_)
            clear hJ
            have hJ := hJ'
            clear hJ'
            refine lv_goto (tgt := 361) hx hb dX11_reckons_269 (by decide) ?_
            obtain ⟨rfl, rfl⟩ := Prod.mk.inj (Option.some.inj hf)
            exact jq_vret hX hJ.2 dX11_reckons_361 ⟨rfl, rfl, rfl, hJ.1⟩
      · replace hf := o_f hf c7
        refine lv_lload_n hx hb dX11_reckons_192 rfl (lv_at hl 2 rfl) ?_
        refine lv_lload hx hb dX11_reckons_193 (lv_at hl 3 rfl) ?_
        refine W.lcmp hx hb dX11_reckons_195 ?_
        refine lv_if_le (tgt := 203) hx hb dX11_reckons_196 (by decide) (fun c11 => ?_) (fun c11 => ?_)
        · replace hf := o_t hf (qc_le.mp c11)
          refine lv_iconst (v := 0) hx hb dX11_reckons_203 (by decide) ?_
          refine lv_goto (tgt := 253) hx hb dX11_reckons_204 (by decide) ?_
          refine lv_istore (lv' := [(8, .int 0), (0, .ref (ad 0)), (1, .int l1), (3, .long l3), (5, .long l5), (7, .int l7)]) hx hb dX11_reckons_253 hl (by decide) rfl (fun ls hl' => ?_)
          clear hl
          have hl := hl'
          clear hl'
          refine lv_aload_n hx hb dX11_reckons_255 rfl (lv_at hl 1 rfl) ?_
          refine lv_iload hx hb dX11_reckons_256 (lv_at hl 0 rfl) ?_
          refine lv_if_eq (tgt := 265) hx hb dX11_reckons_258 (by decide) (fun _ => ?_) (fun z => absurd (by decide) z)
          refine lv_lconst (v := 0) hx hb dX11_reckons_265 (by decide) ?_
          replace hf := o_call_e hf
          obtain ⟨_, S10, hq20, hf⟩ := hf
          refine jq_doM hX hJ (jq_okV (As := [.long 0]) (rest := []) hx hb hm ho ht (mJ.recv hX hJ) qw1000 qw1002 qs95 qw1003 qw7 hy_X11_end rfl hl.1 (Nat.le_of_ble_eq_true rfl) dX11_reckons_266) (c_X11_end hq20) (Nat.le_of_ble_eq_true rfl) (Nat.le_of_ble_eq_true rfl) (Nat.le_refl _) (Nat.le_refl _) (fun H locs hJ' => ?_)
          clear hJ
          have hJ := hJ'
          clear hJ'
          refine lv_goto (tgt := 361) hx hb dX11_reckons_269 (by decide) ?_
          obtain ⟨rfl, rfl⟩ := Prod.mk.inj (Option.some.inj hf)
          exact jq_vret hX hJ.2 dX11_reckons_361 ⟨rfl, rfl, rfl, hJ.1⟩
        · replace hf := o_f hf (fun z => c11 (qc_le.mpr z))
          refine lv_iconst (v := 1) hx hb dX11_reckons_199 (by decide) ?_
          refine lv_goto (tgt := 253) hx hb dX11_reckons_200 (by decide) ?_
          refine lv_istore (lv' := [(8, .int 1), (0, .ref (ad 0)), (1, .int l1), (3, .long l3), (5, .long l5), (7, .int l7)]) hx hb dX11_reckons_253 hl (by decide) rfl (fun ls hl' => ?_)
          clear hl
          have hl := hl'
          clear hl'
          refine lv_aload_n hx hb dX11_reckons_255 rfl (lv_at hl 1 rfl) ?_
          refine lv_iload hx hb dX11_reckons_256 (lv_at hl 0 rfl) ?_
          refine lv_if_eq (tgt := 265) hx hb dX11_reckons_258 (by decide) (fun z => absurd z (by decide)) (fun _ => ?_)
          refine lv_lconst (v := 1) hx hb dX11_reckons_261 (by decide) ?_
          refine lv_goto (tgt := 266) hx hb dX11_reckons_262 (by decide) ?_
          replace hf := o_call_e hf
          obtain ⟨_, S11, hq21, hf⟩ := hf
          refine jq_doM hX hJ (jq_okV (As := [.long 1]) (rest := []) hx hb hm ho ht (mJ.recv hX hJ) qw1000 qw1002 qs95 qw1003 qw7 hy_X11_end rfl hl.1 (Nat.le_of_ble_eq_true rfl) dX11_reckons_266) (c_X11_end hq21) (Nat.le_of_ble_eq_true rfl) (Nat.le_of_ble_eq_true rfl) (Nat.le_refl _) (Nat.le_refl _) (fun H locs hJ' => ?_)
          clear hJ
          have hJ := hJ'
          clear hJ'
          refine lv_goto (tgt := 361) hx hb dX11_reckons_269 (by decide) ?_
          obtain ⟨rfl, rfl⟩ := Prod.mk.inj (Option.some.inj hf)
          exact jq_vret hX hJ.2 dX11_reckons_361 ⟨rfl, rfl, rfl, hJ.1⟩
  · replace hf := o_t hf c1
    refine lv_aload_n hx hb dX11_reckons_102 rfl (lv_at hl 0 rfl) ?_
    refine lv_iload hx hb dX11_reckons_103 (lv_at hl 4 rfl) ?_
    refine lv_iconst (v := 4) hx hb dX11_reckons_105 (by decide) ?_
    refine lv_icmp_ne (tgt := 118) hx hb dX11_reckons_106 (by decide) (fun c12 => ?_) (fun c12 => ?_)
    · replace hf := o_f hf c12
      refine lv_iload hx hb dX11_reckons_118 (lv_at hl 4 rfl) ?_
      refine lv_iconst (v := 5) hx hb dX11_reckons_120 (by decide) ?_
      refine lv_icmp_ne (tgt := 131) hx hb dX11_reckons_121 (by decide) (fun c13 => ?_) (fun c13 => ?_)
      · replace hf := o_f hf c13
        refine lv_iload hx hb dX11_reckons_131 (lv_at hl 4 rfl) ?_
        refine lv_bipush (v := 6) hx hb dX11_reckons_133 (by decide) ?_
        refine lv_icmp_ne (tgt := 155) hx hb dX11_reckons_135 (by decide) (fun c14 => ?_) (fun c14 => ?_)
        · replace hf := o_f hf c14
          refine lv_lload_n hx hb dX11_reckons_155 rfl (lv_at hl 2 rfl) ?_
          replace hf := o_cP_e hf
          obtain ⟨x13, hq22, hf⟩ := hf
          refine jq_doP hX hJ.2 (jq_okS (As := [.long l3]) (rest := [.ref (ad 0)]) hx hb hm ho ht qw1019 qw1020 qw1021 qw7 hy_X11_doubleOf rfl hl.1 (Nat.le_of_ble_eq_true rfl) dX11_reckons_156) (c_X11_doubleOf hq22) (Nat.le_of_ble_eq_true rfl) (Nat.le_of_ble_eq_true rfl) (Nat.le_refl _) (Nat.le_refl _) (fun locs hS9 => ?_)
          replace hJ := mJ.to hJ hS9
          refine lv_lload hx hb dX11_reckons_159 (lv_at hl 3 rfl) ?_
          replace hf := o_cP_e hf
          obtain ⟨x14, hq23, hf⟩ := hf
          refine jq_doP hX hJ.2 (jq_okS (As := [.long l5]) (rest := [.double x13, .ref (ad 0)]) hx hb hm ho ht qw1019 qw1020 qw1021 qw7 hy_X11_doubleOf rfl hl.1 (Nat.le_of_ble_eq_true rfl) dX11_reckons_161) (c_X11_doubleOf hq23) (Nat.le_of_ble_eq_true rfl) (Nat.le_of_ble_eq_true rfl) (Nat.le_refl _) (Nat.le_refl _) (fun locs hS9 => ?_)
          replace hJ := mJ.to hJ hS9
          replace hf := o_ck_e hf
          obtain ⟨hc5, hf⟩ := hf
          refine lv_dadd hx hb dX11_reckons_164 hc5 ?_
          replace hf := o_cP_e hf
          obtain ⟨x15, hq24, hf⟩ := hf
          refine jq_doP hX hJ.2 (jq_okS (As := [.double (FP.dadd x13 x14)]) (rest := [.ref (ad 0)]) hx hb hm ho ht qw978 qw979 qw980 qw16 hy_Jxe99ae_doubleToLongBits_ccdee rfl hl.1 (Nat.le_of_ble_eq_true rfl) dX11_reckons_165) (c_Jxe99ae_doubleToLongBits_ccdee hq24) (Nat.le_of_ble_eq_true rfl) (Nat.le_of_ble_eq_true rfl) (Nat.le_refl _) (Nat.le_refl _) (fun locs hS9 => ?_)
          replace hJ := mJ.to hJ hS9
          replace hf := o_call_e hf
          obtain ⟨_, S12, hq25, hf⟩ := hf
          refine jq_doM hX hJ (jq_okV (As := [.long x15]) (rest := []) hx hb hm ho ht (mJ.recv hX hJ) qw1000 qw1002 qs95 qw1003 qw7 hy_X11_end rfl hl.1 (Nat.le_of_ble_eq_true rfl) dX11_reckons_168) (c_X11_end hq25) (Nat.le_of_ble_eq_true rfl) (Nat.le_of_ble_eq_true rfl) (Nat.le_refl _) (Nat.le_refl _) (fun H locs hJ' => ?_)
          clear hJ
          have hJ := hJ'
          clear hJ'
          refine lv_goto (tgt := 361) hx hb dX11_reckons_171 (by decide) ?_
          obtain ⟨rfl, rfl⟩ := Prod.mk.inj (Option.some.inj hf)
          exact jq_vret hX hJ.2 dX11_reckons_361 ⟨rfl, rfl, rfl, hJ.1⟩
        · replace hf := o_t hf c14
          refine lv_lload_n hx hb dX11_reckons_138 rfl (lv_at hl 2 rfl) ?_
          replace hf := o_cP_e hf
          obtain ⟨x16, hq26, hf⟩ := hf
          refine jq_doP hX hJ.2 (jq_okS (As := [.long l3]) (rest := [.ref (ad 0)]) hx hb hm ho ht qw972 qw973 qw974 qw7 hy_X11_floatOf rfl hl.1 (Nat.le_of_ble_eq_true rfl) dX11_reckons_139) (c_X11_floatOf hq26) (Nat.le_of_ble_eq_true rfl) (Nat.le_of_ble_eq_true rfl) (Nat.le_refl _) (Nat.le_refl _) (fun locs hS9 => ?_)
          replace hJ := mJ.to hJ hS9
          refine lv_lload hx hb dX11_reckons_142 (lv_at hl 3 rfl) ?_
          replace hf := o_cP_e hf
          obtain ⟨x17, hq27, hf⟩ := hf
          refine jq_doP hX hJ.2 (jq_okS (As := [.long l5]) (rest := [.float x16, .ref (ad 0)]) hx hb hm ho ht qw972 qw973 qw974 qw7 hy_X11_floatOf rfl hl.1 (Nat.le_of_ble_eq_true rfl) dX11_reckons_144) (c_X11_floatOf hq27) (Nat.le_of_ble_eq_true rfl) (Nat.le_of_ble_eq_true rfl) (Nat.le_refl _) (Nat.le_refl _) (fun locs hS9 => ?_)
          replace hJ := mJ.to hJ hS9
          replace hf := o_ck_e hf
          obtain ⟨hc6, hf⟩ := hf
          refine lv_fadd hx hb dX11_reckons_147 hc6 ?_
          replace hf := o_cP_e hf
          obtain ⟨x18, hq28, hf⟩ := hf
          refine jq_doP hX hJ.2 (jq_okS (As := [.float (FP.fadd x16 x17)]) (rest := [.ref (ad 0)]) hx hb hm ho ht qw953 qw954 qw955 qw15 hy_Jxf58ca_floatToIntBits_5c35a rfl hl.1 (Nat.le_of_ble_eq_true rfl) dX11_reckons_148) (c_Jxf58ca_floatToIntBits_5c35a hq28) (Nat.le_of_ble_eq_true rfl) (Nat.le_of_ble_eq_true rfl) (Nat.le_refl _) (Nat.le_refl _) (fun locs hS9 => ?_)
          replace hJ := mJ.to hJ hS9
          refine lv_i2l hx hb dX11_reckons_151 rfl ?_
          refine lv_goto (tgt := 168) hx hb dX11_reckons_152 (by decide) ?_
          replace hf := o_call_e hf
          obtain ⟨_, S13, hq29, hf⟩ := hf
          refine jq_doM hX hJ (jq_okV (As := [.long ((x18).toInt64)]) (rest := []) hx hb hm ho ht (mJ.recv hX hJ) qw1000 qw1002 qs95 qw1003 qw7 hy_X11_end rfl hl.1 (Nat.le_of_ble_eq_true rfl) dX11_reckons_168) (c_X11_end hq29) (Nat.le_of_ble_eq_true rfl) (Nat.le_of_ble_eq_true rfl) (Nat.le_refl _) (Nat.le_refl _) (fun H locs hJ' => ?_)
          clear hJ
          have hJ := hJ'
          clear hJ'
          refine lv_goto (tgt := 361) hx hb dX11_reckons_171 (by decide) ?_
          obtain ⟨rfl, rfl⟩ := Prod.mk.inj (Option.some.inj hf)
          exact jq_vret hX hJ.2 dX11_reckons_361 ⟨rfl, rfl, rfl, hJ.1⟩
      · replace hf := o_t hf c13
        refine lv_lload_n hx hb dX11_reckons_124 rfl (lv_at hl 2 rfl) ?_
        refine lv_lload hx hb dX11_reckons_125 (lv_at hl 3 rfl) ?_
        refine lv_ladd hx hb dX11_reckons_127 ?_
        refine lv_goto (tgt := 168) hx hb dX11_reckons_128 (by decide) ?_
        replace hf := o_call_e hf
        obtain ⟨_, S14, hq30, hf⟩ := hf
        refine jq_doM hX hJ (jq_okV (As := [.long (l3 + l5)]) (rest := []) hx hb hm ho ht (mJ.recv hX hJ) qw1000 qw1002 qs95 qw1003 qw7 hy_X11_end rfl hl.1 (Nat.le_of_ble_eq_true rfl) dX11_reckons_168) (c_X11_end hq30) (Nat.le_of_ble_eq_true rfl) (Nat.le_of_ble_eq_true rfl) (Nat.le_refl _) (Nat.le_refl _) (fun H locs hJ' => ?_)
        clear hJ
        have hJ := hJ'
        clear hJ'
        refine lv_goto (tgt := 361) hx hb dX11_reckons_171 (by decide) ?_
        obtain ⟨rfl, rfl⟩ := Prod.mk.inj (Option.some.inj hf)
        exact jq_vret hX hJ.2 dX11_reckons_361 ⟨rfl, rfl, rfl, hJ.1⟩
    · replace hf := o_t hf c12
      refine lv_lload_n hx hb dX11_reckons_109 rfl (lv_at hl 2 rfl) ?_
      refine lv_lload hx hb dX11_reckons_110 (lv_at hl 3 rfl) ?_
      refine lv_ladd hx hb dX11_reckons_112 ?_
      refine lv_l2i hx hb dX11_reckons_113 rfl ?_
      refine lv_i2l hx hb dX11_reckons_114 rfl ?_
      refine lv_goto (tgt := 168) hx hb dX11_reckons_115 (by decide) ?_
      replace hf := o_call_e hf
      obtain ⟨_, S15, hq31, hf⟩ := hf
      refine jq_doM hX hJ (jq_okV (As := [.long (((((l3 + l5)).toInt32)).toInt64)]) (rest := []) hx hb hm ho ht (mJ.recv hX hJ) qw1000 qw1002 qs95 qw1003 qw7 hy_X11_end rfl hl.1 (Nat.le_of_ble_eq_true rfl) dX11_reckons_168) (c_X11_end hq31) (Nat.le_of_ble_eq_true rfl) (Nat.le_of_ble_eq_true rfl) (Nat.le_refl _) (Nat.le_refl _) (fun H locs hJ' => ?_)
      clear hJ
      have hJ := hJ'
      clear hJ'
      refine lv_goto (tgt := 361) hx hb dX11_reckons_171 (by decide) ?_
      obtain ⟨rfl, rfl⟩ := Prod.mk.inj (Option.some.inj hf)
      exact jq_vret hX hJ.2 dX11_reckons_361 ⟨rfl, rfl, rfl, hJ.1⟩
def f_X11_reckons (p1 : Int32) (S : mS) : Option ((Unit) × mS) :=
  o_let (m_I S 7) fun x1 =>
  o_ck (¬ (((4 : Int32) * (x1 - (1 : Int32))) < 0 ∨ 132 ≤ (((4 : Int32) * (x1 - (1 : Int32)))).toNatClampNeg)) (o_let (m_aL S 18 (((4 : Int32) * (x1 - (1 : Int32)))).toNatClampNeg) fun x2 =>
  o_ck (¬ ((((4 : Int32) * (x1 - (1 : Int32))) + (1 : Int32)) < 0 ∨ 132 ≤ ((((4 : Int32) * (x1 - (1 : Int32))) + (1 : Int32))).toNatClampNeg)) (o_let (m_aL S 18 ((((4 : Int32) * (x1 - (1 : Int32))) + (1 : Int32))).toNatClampNeg) fun x3 =>
  o_ck (¬ (p1 < 0 ∨ 32 ≤ (p1).toNatClampNeg)) (o_let (m_aI S 5 (p1).toNatClampNeg) fun x4 =>
  if x4 < 6 then (
  f_X11_reckons_b91 p1 x2 x3 x4 S) else (
  o_ck (¬ (p1 < 0 ∨ 32 ≤ (p1).toNatClampNeg)) (o_let (m_aI S 4 (p1).toNatClampNeg) fun x5 =>
  if x5 = 8 then (
  f_X11_reckons_b91 p1 x2 x3 x4 S) else (
  o_ck (¬ (p1 < 0 ∨ 32 ≤ (p1).toNatClampNeg)) (o_let (m_aI S 4 (p1).toNatClampNeg) fun x6 =>
  if x6 = 6 then (
  o_cP (f_X11_givesNone x2 x3 x4 1) fun x9 =>
  if x9 = 0 then (
  f_X11_reckons_b91 p1 x2 x3 x4 S) else (
  o_cP (f_X11_none x4) fun x10 =>
  o_call (f_X11_end x10 S) fun _ S2 =>
  some ((), S2))) else (
  o_cP (f_X11_givesNone x2 x3 x4 0) fun x7 =>
  if x7 = 0 then (
  f_X11_reckons_b91 p1 x2 x3 x4 S) else (
  o_cP (f_X11_none x4) fun x8 =>
  o_call (f_X11_end x8 S) fun _ S1 =>
  some ((), S1))))))))))
set_option maxHeartbeats 4000000 in
set_option maxRecDepth 100000 in
theorem c_X11_reckons {l : Launch} {D : va_G} {Y : Nat → ClassId} {aR : Nat → Nat} {A : Nat → Prop} {ad : Nat → Nat} {p1 : Int32} {S S' : mS} {r : Unit} (hf : f_X11_reckons p1 S = some (r, S')) : jq_M l D Y aR A ad yX11_reckons cX11_reckons 9 none 2 52 [.ref (ad 0), .int p1] S none S' := by
  unfold f_X11_reckons at hf
  refine jq_enterM (by decide) (Nat.le_of_ble_eq_true rfl) fun p e s m args below meth c ls H locs hX hJ hl => ?_
  have hl : lv_has ls 9 [(0, .ref (ad 0)), (1, .int p1)] := hl
  have hx := hX.1
  have hb := hX.2.1
  have hm := hX.2.2.1
  have ho := hX.2.2.2.1
  have ht := hX.2.2.2.2.1
  have hn := hX.2.2.2.2.2.1.2.1
  refine lv_iconst (v := 4) hx hb dX11_reckons_0 (by decide) ?_
  refine lv_aload_n hx hb dX11_reckons_1 rfl (lv_at hl 0 rfl) ?_
  replace hf := o_let_e hf
  obtain ⟨x1, hx1, hf⟩ := hf
  refine mg_depth hX hJ hx1 qw710 dX11_reckons_2 ?_
  refine lv_iconst (v := 1) hx hb dX11_reckons_5 (by decide) ?_
  refine lv_isub hx hb dX11_reckons_6 ?_
  refine lv_imul hx hb dX11_reckons_7 ?_
  refine lv_istore_n (lv' := [(2, .int ((4 : Int32) * (x1 - (1 : Int32)))), (0, .ref (ad 0)), (1, .int p1)]) hx hb dX11_reckons_8 rfl hl (by decide) rfl (fun ls hl' => ?_)
  clear hl
  have hl := hl'
  clear hl'
  refine lv_aload_n hx hb dX11_reckons_9 rfl (lv_at hl 1 rfl) ?_
  refine mg_par hX hJ qw713 dX11_reckons_10 ?_
  refine lv_iload_n hx hb dX11_reckons_13 rfl (lv_at hl 0 rfl) ?_
  replace hf := o_ck_e hf
  obtain ⟨hk1, hf⟩ := hf
  replace hf := o_let_e hf
  obtain ⟨x2, hx2, hf⟩ := hf
  refine ma_L 18 hX hJ (by decide) hk1 hx2 dX11_reckons_14 ?_
  refine lv_lstore_n (lv' := [(3, .long x2), (2, .int ((4 : Int32) * (x1 - (1 : Int32)))), (0, .ref (ad 0)), (1, .int p1)]) hx hb dX11_reckons_15 rfl hl (by decide) rfl (fun ls hl' => ?_)
  clear hl
  have hl := hl'
  clear hl'
  refine lv_aload_n hx hb dX11_reckons_16 rfl (lv_at hl 2 rfl) ?_
  refine mg_par hX hJ qw713 dX11_reckons_17 ?_
  refine lv_iload_n hx hb dX11_reckons_20 rfl (lv_at hl 1 rfl) ?_
  refine lv_iconst (v := 1) hx hb dX11_reckons_21 (by decide) ?_
  refine lv_iadd hx hb dX11_reckons_22 ?_
  replace hf := o_ck_e hf
  obtain ⟨hk2, hf⟩ := hf
  replace hf := o_let_e hf
  obtain ⟨x3, hx3, hf⟩ := hf
  refine ma_L 18 hX hJ (by decide) hk2 hx3 dX11_reckons_23 ?_
  refine lv_lstore (lv' := [(5, .long x3), (3, .long x2), (2, .int ((4 : Int32) * (x1 - (1 : Int32)))), (0, .ref (ad 0)), (1, .int p1)]) hx hb dX11_reckons_24 hl (by decide) rfl (fun ls hl' => ?_)
  clear hl
  have hl := hl'
  clear hl'
  refine lv_aload_n hx hb dX11_reckons_26 rfl (lv_at hl 3 rfl) ?_
  refine mg_aOf hX hJ qw699 dX11_reckons_27 ?_
  refine lv_iload_n hx hb dX11_reckons_30 rfl (lv_at hl 4 rfl) ?_
  replace hf := o_ck_e hf
  obtain ⟨hk3, hf⟩ := hf
  replace hf := o_let_e hf
  obtain ⟨x4, hx4, hf⟩ := hf
  refine ma_I 5 hX hJ (by decide) hk3 hx4 dX11_reckons_31 ?_
  refine lv_istore (lv' := [(7, .int x4), (5, .long x3), (3, .long x2), (2, .int ((4 : Int32) * (x1 - (1 : Int32)))), (0, .ref (ad 0)), (1, .int p1)]) hx hb dX11_reckons_32 hl (by decide) rfl (fun ls hl' => ?_)
  clear hl
  have hl := hl'
  clear hl'
  refine lv_iload hx hb dX11_reckons_34 (lv_at hl 0 rfl) ?_
  refine lv_bipush (v := 6) hx hb dX11_reckons_36 (by decide) ?_
  refine lv_icmp_lt (tgt := 91) hx hb dX11_reckons_38 (by decide) (fun c1 => ?_) (fun c1 => ?_)
  · replace hf := o_t hf c1
    replace hl := lv_sub hl (l' := [(0, .ref (ad 0)), (1, .int p1), (3, .long x2), (5, .long x3), (7, .int x4)]) [4, 5, 2, 1, 0] rfl
    exact w_X11_reckons_b91 p1 x2 x3 x4 S S' r H locs ls hX hJ hf hl
  · replace hf := o_f hf c1
    refine lv_aload_n hx hb dX11_reckons_41 rfl (lv_at hl 4 rfl) ?_
    refine mg_sortOf hX hJ qw698 dX11_reckons_42 ?_
    refine lv_iload_n hx hb dX11_reckons_45 rfl (lv_at hl 5 rfl) ?_
    replace hf := o_ck_e hf
    obtain ⟨hk4, hf⟩ := hf
    replace hf := o_let_e hf
    obtain ⟨x5, hx5, hf⟩ := hf
    refine ma_I 4 hX hJ (by decide) hk4 hx5 dX11_reckons_46 ?_
    refine lv_bipush (v := 8) hx hb dX11_reckons_47 (by decide) ?_
    refine lv_icmp_eq (tgt := 91) hx hb dX11_reckons_49 (by decide) (fun c2 => ?_) (fun c2 => ?_)
    · replace hf := o_t hf c2
      replace hl := lv_sub hl (l' := [(0, .ref (ad 0)), (1, .int p1), (3, .long x2), (5, .long x3), (7, .int x4)]) [4, 5, 2, 1, 0] rfl
      exact w_X11_reckons_b91 p1 x2 x3 x4 S S' r H locs ls hX hJ hf hl
    · replace hf := o_f hf c2
      refine lv_lload_n hx hb dX11_reckons_52 rfl (lv_at hl 2 rfl) ?_
      refine lv_lload hx hb dX11_reckons_53 (lv_at hl 1 rfl) ?_
      refine lv_iload hx hb dX11_reckons_55 (lv_at hl 0 rfl) ?_
      refine lv_aload_n hx hb dX11_reckons_57 rfl (lv_at hl 4 rfl) ?_
      refine mg_sortOf hX hJ qw698 dX11_reckons_58 ?_
      refine lv_iload_n hx hb dX11_reckons_61 rfl (lv_at hl 5 rfl) ?_
      replace hf := o_ck_e hf
      obtain ⟨hk5, hf⟩ := hf
      replace hf := o_let_e hf
      obtain ⟨x6, hx6, hf⟩ := hf
      refine ma_I 4 hX hJ (by decide) hk5 hx6 dX11_reckons_62 ?_
      refine lv_bipush (v := 6) hx hb dX11_reckons_63 (by decide) ?_
      refine lv_icmp_ne (tgt := 72) hx hb dX11_reckons_65 (by decide) (fun c3 => ?_) (fun c3 => ?_)
      · replace hf := o_f hf c3
        refine lv_iconst (v := 0) hx hb dX11_reckons_72 (by decide) ?_
        replace hf := o_cP_e hf
        obtain ⟨x7, hq1, hf⟩ := hf
        refine jq_doP hX hJ.2 (jq_okS (As := [.long x2, .long x3, .int x4, .int 0]) (rest := []) hx hb hm ho ht qw1016 qw1017 qw1018 qw7 hy_X11_givesNone rfl hl.1 (Nat.le_of_ble_eq_true rfl) dX11_reckons_73) (c_X11_givesNone hq1) (Nat.le_of_ble_eq_true rfl) (Nat.le_of_ble_eq_true rfl) (Nat.le_refl _) (Nat.le_refl _) (fun locs hS9 => ?_)
        replace hJ := mJ.to hJ hS9
        refine lv_if_eq (tgt := 91) hx hb dX11_reckons_76 (by decide) (fun c4 => ?_) (fun c4 => ?_)
        · replace hf := o_t hf c4
          replace hl := lv_sub hl (l' := [(0, .ref (ad 0)), (1, .int p1), (3, .long x2), (5, .long x3), (7, .int x4)]) [4, 5, 2, 1, 0] rfl
          exact w_X11_reckons_b91 p1 x2 x3 x4 S S' r H locs ls hX hJ hf hl
        · replace hf := o_f hf c4
          refine lv_aload_n hx hb dX11_reckons_79 rfl (lv_at hl 4 rfl) ?_
          refine lv_iload hx hb dX11_reckons_80 (lv_at hl 0 rfl) ?_
          replace hf := o_cP_e hf
          obtain ⟨x8, hq2, hf⟩ := hf
          refine jq_doP hX hJ.2 (jq_okS (As := [.int x4]) (rest := [.ref (ad 0)]) hx hb hm ho ht qw969 qw970 qw971 qw7 hy_X11_none rfl hl.1 (Nat.le_of_ble_eq_true rfl) dX11_reckons_82) (c_X11_none hq2) (Nat.le_of_ble_eq_true rfl) (Nat.le_of_ble_eq_true rfl) (Nat.le_refl _) (Nat.le_refl _) (fun locs hS9 => ?_)
          replace hJ := mJ.to hJ hS9
          replace hf := o_call_e hf
          obtain ⟨_, S1, hq3, hf⟩ := hf
          refine jq_doM hX hJ (jq_okV (As := [.long x8]) (rest := []) hx hb hm ho ht (mJ.recv hX hJ) qw1000 qw1002 qs95 qw1003 qw7 hy_X11_end rfl hl.1 (Nat.le_of_ble_eq_true rfl) dX11_reckons_85) (c_X11_end hq3) (Nat.le_of_ble_eq_true rfl) (Nat.le_of_ble_eq_true rfl) (Nat.le_refl _) (Nat.le_refl _) (fun H locs hJ' => ?_)
          clear hJ
          have hJ := hJ'
          clear hJ'
          refine lv_goto (tgt := 361) hx hb dX11_reckons_88 (by decide) ?_
          obtain ⟨rfl, rfl⟩ := Prod.mk.inj (Option.some.inj hf)
          exact jq_vret hX hJ.2 dX11_reckons_361 ⟨rfl, rfl, rfl, hJ.1⟩
      · replace hf := o_t hf c3
        refine lv_iconst (v := 1) hx hb dX11_reckons_68 (by decide) ?_
        refine lv_goto (tgt := 73) hx hb dX11_reckons_69 (by decide) ?_
        replace hf := o_cP_e hf
        obtain ⟨x9, hq4, hf⟩ := hf
        refine jq_doP hX hJ.2 (jq_okS (As := [.long x2, .long x3, .int x4, .int 1]) (rest := []) hx hb hm ho ht qw1016 qw1017 qw1018 qw7 hy_X11_givesNone rfl hl.1 (Nat.le_of_ble_eq_true rfl) dX11_reckons_73) (c_X11_givesNone hq4) (Nat.le_of_ble_eq_true rfl) (Nat.le_of_ble_eq_true rfl) (Nat.le_refl _) (Nat.le_refl _) (fun locs hS9 => ?_)
        replace hJ := mJ.to hJ hS9
        refine lv_if_eq (tgt := 91) hx hb dX11_reckons_76 (by decide) (fun c5 => ?_) (fun c5 => ?_)
        · replace hf := o_t hf c5
          replace hl := lv_sub hl (l' := [(0, .ref (ad 0)), (1, .int p1), (3, .long x2), (5, .long x3), (7, .int x4)]) [4, 5, 2, 1, 0] rfl
          exact w_X11_reckons_b91 p1 x2 x3 x4 S S' r H locs ls hX hJ hf hl
        · replace hf := o_f hf c5
          refine lv_aload_n hx hb dX11_reckons_79 rfl (lv_at hl 4 rfl) ?_
          refine lv_iload hx hb dX11_reckons_80 (lv_at hl 0 rfl) ?_
          replace hf := o_cP_e hf
          obtain ⟨x10, hq5, hf⟩ := hf
          refine jq_doP hX hJ.2 (jq_okS (As := [.int x4]) (rest := [.ref (ad 0)]) hx hb hm ho ht qw969 qw970 qw971 qw7 hy_X11_none rfl hl.1 (Nat.le_of_ble_eq_true rfl) dX11_reckons_82) (c_X11_none hq5) (Nat.le_of_ble_eq_true rfl) (Nat.le_of_ble_eq_true rfl) (Nat.le_refl _) (Nat.le_refl _) (fun locs hS9 => ?_)
          replace hJ := mJ.to hJ hS9
          replace hf := o_call_e hf
          obtain ⟨_, S2, hq6, hf⟩ := hf
          refine jq_doM hX hJ (jq_okV (As := [.long x10]) (rest := []) hx hb hm ho ht (mJ.recv hX hJ) qw1000 qw1002 qs95 qw1003 qw7 hy_X11_end rfl hl.1 (Nat.le_of_ble_eq_true rfl) dX11_reckons_85) (c_X11_end hq6) (Nat.le_of_ble_eq_true rfl) (Nat.le_of_ble_eq_true rfl) (Nat.le_refl _) (Nat.le_refl _) (fun H locs hJ' => ?_)
          clear hJ
          have hJ := hJ'
          clear hJ'
          refine lv_goto (tgt := 361) hx hb dX11_reckons_88 (by decide) ?_
          obtain ⟨rfl, rfl⟩ := Prod.mk.inj (Option.some.inj hf)
          exact jq_vret hX hJ.2 dX11_reckons_361 ⟨rfl, rfl, rfl, hJ.1⟩
theorem dX11_acts_0 : decode cX11_acts 0 = .ok (.iconst 4, 1) := by decide +kernel
theorem dX11_acts_1 : decode cX11_acts 1 = .ok (.aload_n 0, 1) := by decide +kernel
theorem dX11_acts_2 : decode cX11_acts 2 = .ok (.getfield 263, 3) := by decide +kernel
theorem dX11_acts_5 : decode cX11_acts 5 = .ok (.iconst 1, 1) := by decide +kernel
theorem dX11_acts_6 : decode cX11_acts 6 = .ok (.isub, 1) := by decide +kernel
theorem dX11_acts_7 : decode cX11_acts 7 = .ok (.imul, 1) := by decide +kernel
theorem dX11_acts_8 : decode cX11_acts 8 = .ok (.istore_n 2, 1) := by decide +kernel
theorem dX11_acts_9 : decode cX11_acts 9 = .ok (.aload_n 0, 1) := by decide +kernel
theorem dX11_acts_10 : decode cX11_acts 10 = .ok (.getfield 30, 3) := by decide +kernel
theorem dX11_acts_13 : decode cX11_acts 13 = .ok (.iload_n 1, 1) := by decide +kernel
theorem dX11_acts_14 : decode cX11_acts 14 = .ok (.iaload, 1) := by decide +kernel
theorem dX11_acts_15 : decode cX11_acts 15 = .ok (.tableswitch 293 0 10 #[57, 70, 83, 83, 106, 147, 293, 293, 293, 222, 238], 57) := by decide +kernel
theorem dX11_acts_72 : decode cX11_acts 72 = .ok (.aload_n 0, 1) := by decide +kernel
theorem dX11_acts_73 : decode cX11_acts 73 = .ok (.aload_n 0, 1) := by decide +kernel
theorem dX11_acts_74 : decode cX11_acts 74 = .ok (.getfield 42, 3) := by decide +kernel
theorem dX11_acts_77 : decode cX11_acts 77 = .ok (.iload_n 1, 1) := by decide +kernel
theorem dX11_acts_78 : decode cX11_acts 78 = .ok (.laload, 1) := by decide +kernel
theorem dX11_acts_79 : decode cX11_acts 79 = .ok (.invokevirtual 275, 3) := by decide +kernel
theorem dX11_acts_82 : decode cX11_acts 82 = .ok (.goto 231, 3) := by decide +kernel
theorem dX11_acts_313 : decode cX11_acts 313 = .ok (.return_, 1) := by decide +kernel
theorem dX11_acts_85 : decode cX11_acts 85 = .ok (.aload_n 0, 1) := by decide +kernel
theorem dX11_acts_86 : decode cX11_acts 86 = .ok (.aload_n 0, 1) := by decide +kernel
theorem dX11_acts_87 : decode cX11_acts 87 = .ok (.getfield 60, 3) := by decide +kernel
theorem dX11_acts_90 : decode cX11_acts 90 = .ok (.iload_n 2, 1) := by decide +kernel
theorem dX11_acts_91 : decode cX11_acts 91 = .ok (.laload, 1) := by decide +kernel
theorem dX11_acts_92 : decode cX11_acts 92 = .ok (.invokevirtual 275, 3) := by decide +kernel
theorem dX11_acts_95 : decode cX11_acts 95 = .ok (.goto 218, 3) := by decide +kernel
theorem dX11_acts_98 : decode cX11_acts 98 = .ok (.aload_n 0, 1) := by decide +kernel
theorem dX11_acts_99 : decode cX11_acts 99 = .ok (.iload_n 1, 1) := by decide +kernel
theorem dX11_acts_100 : decode cX11_acts 100 = .ok (.aload_n 0, 1) := by decide +kernel
theorem dX11_acts_101 : decode cX11_acts 101 = .ok (.getfield 30, 3) := by decide +kernel
theorem dX11_acts_104 : decode cX11_acts 104 = .ok (.iload_n 1, 1) := by decide +kernel
theorem dX11_acts_105 : decode cX11_acts 105 = .ok (.iaload, 1) := by decide +kernel
theorem dX11_acts_106 : decode cX11_acts 106 = .ok (.iconst 3, 1) := by decide +kernel
theorem dX11_acts_107 : decode cX11_acts 107 = .ok (.if_icmp .ne 7, 3) := by decide +kernel
theorem dX11_acts_114 : decode cX11_acts 114 = .ok (.iconst 0, 1) := by decide +kernel
theorem dX11_acts_115 : decode cX11_acts 115 = .ok (.invokevirtual 286, 3) := by decide +kernel
theorem dX11_acts_118 : decode cX11_acts 118 = .ok (.goto 195, 3) := by decide +kernel
theorem dX11_acts_110 : decode cX11_acts 110 = .ok (.iconst 1, 1) := by decide +kernel
theorem dX11_acts_111 : decode cX11_acts 111 = .ok (.goto 4, 3) := by decide +kernel
theorem dX11_acts_121 : decode cX11_acts 121 = .ok (.aload_n 0, 1) := by decide +kernel
theorem dX11_acts_122 : decode cX11_acts 122 = .ok (.getfield 60, 3) := by decide +kernel
theorem dX11_acts_125 : decode cX11_acts 125 = .ok (.iload_n 2, 1) := by decide +kernel
theorem dX11_acts_126 : decode cX11_acts 126 = .ok (.laload, 1) := by decide +kernel
theorem dX11_acts_127 : decode cX11_acts 127 = .ok (.ldc2_w 162, 3) := by decide +kernel
theorem dX11_acts_130 : decode cX11_acts 130 = .ok (.lcmp, 1) := by decide +kernel
theorem dX11_acts_142 : decode cX11_acts 142 = .ok (.aload_n 0, 1) := by decide +kernel
theorem dX11_acts_143 : decode cX11_acts 143 = .ok (.aload_n 0, 1) := by decide +kernel
theorem dX11_acts_144 : decode cX11_acts 144 = .ok (.getfield 13, 3) := by decide +kernel
theorem dX11_acts_147 : decode cX11_acts 147 = .ok (.aload_n 0, 1) := by decide +kernel
theorem dX11_acts_148 : decode cX11_acts 148 = .ok (.getfield 60, 3) := by decide +kernel
theorem dX11_acts_151 : decode cX11_acts 151 = .ok (.iload_n 2, 1) := by decide +kernel
theorem dX11_acts_152 : decode cX11_acts 152 = .ok (.laload, 1) := by decide +kernel
theorem dX11_acts_153 : decode cX11_acts 153 = .ok (.l2i, 1) := by decide +kernel
theorem dX11_acts_154 : decode cX11_acts 154 = .ok (.iaload, 1) := by decide +kernel
theorem dX11_acts_155 : decode cX11_acts 155 = .ok (.i2l, 1) := by decide +kernel
theorem dX11_acts_156 : decode cX11_acts 156 = .ok (.invokevirtual 275, 3) := by decide +kernel
theorem dX11_acts_159 : decode cX11_acts 159 = .ok (.goto 154, 3) := by decide +kernel
theorem dX11_acts_134 : decode cX11_acts 134 = .ok (.aload_n 0, 1) := by decide +kernel
theorem dX11_acts_135 : decode cX11_acts 135 = .ok (.iconst 1, 1) := by decide +kernel
theorem dX11_acts_136 : decode cX11_acts 136 = .ok (.invokevirtual 272, 3) := by decide +kernel
theorem dX11_acts_139 : decode cX11_acts 139 = .ok (.goto 174, 3) := by decide +kernel
theorem dX11_acts_131 : decode cX11_acts 131 = .ok (.ifCond .ne 11, 3) := by decide +kernel
theorem dX11_acts_162 : decode cX11_acts 162 = .ok (.aload_n 0, 1) := by decide +kernel
theorem dX11_acts_163 : decode cX11_acts 163 = .ok (.getfield 60, 3) := by decide +kernel
theorem dX11_acts_166 : decode cX11_acts 166 = .ok (.iload_n 2, 1) := by decide +kernel
theorem dX11_acts_167 : decode cX11_acts 167 = .ok (.laload, 1) := by decide +kernel
theorem dX11_acts_168 : decode cX11_acts 168 = .ok (.lconst 0, 1) := by decide +kernel
theorem dX11_acts_169 : decode cX11_acts 169 = .ok (.lcmp, 1) := by decide +kernel
theorem dX11_acts_181 : decode cX11_acts 181 = .ok (.aload_n 0, 1) := by decide +kernel
theorem dX11_acts_182 : decode cX11_acts 182 = .ok (.getfield 60, 3) := by decide +kernel
theorem dX11_acts_185 : decode cX11_acts 185 = .ok (.iload_n 2, 1) := by decide +kernel
theorem dX11_acts_186 : decode cX11_acts 186 = .ok (.laload, 1) := by decide +kernel
theorem dX11_acts_187 : decode cX11_acts 187 = .ok (.ldc2_w 84, 3) := by decide +kernel
theorem dX11_acts_190 : decode cX11_acts 190 = .ok (.lcmp, 1) := by decide +kernel
theorem dX11_acts_203 : decode cX11_acts 203 = .ok (.aload_n 0, 1) := by decide +kernel
theorem dX11_acts_204 : decode cX11_acts 204 = .ok (.bipush 6, 2) := by decide +kernel
theorem dX11_acts_206 : decode cX11_acts 206 = .ok (.invokevirtual 272, 3) := by decide +kernel
theorem dX11_acts_209 : decode cX11_acts 209 = .ok (.goto 104, 3) := by decide +kernel
theorem dX11_acts_194 : decode cX11_acts 194 = .ok (.aload_n 0, 1) := by decide +kernel
theorem dX11_acts_195 : decode cX11_acts 195 = .ok (.getfield 86, 3) := by decide +kernel
theorem dX11_acts_198 : decode cX11_acts 198 = .ok (.bipush 16, 2) := by decide +kernel
theorem dX11_acts_200 : decode cX11_acts 200 = .ok (.if_icmp .ne 12, 3) := by decide +kernel
theorem dX11_acts_212 : decode cX11_acts 212 = .ok (.aload_n 0, 1) := by decide +kernel
theorem dX11_acts_213 : decode cX11_acts 213 = .ok (.aload_n 0, 1) := by decide +kernel
theorem dX11_acts_214 : decode cX11_acts 214 = .ok (.aload_n 0, 1) := by decide +kernel
theorem dX11_acts_215 : decode cX11_acts 215 = .ok (.getfield 33, 3) := by decide +kernel
theorem dX11_acts_218 : decode cX11_acts 218 = .ok (.iload_n 1, 1) := by decide +kernel
theorem dX11_acts_219 : decode cX11_acts 219 = .ok (.iaload, 1) := by decide +kernel
theorem dX11_acts_220 : decode cX11_acts 220 = .ok (.aload_n 0, 1) := by decide +kernel
theorem dX11_acts_221 : decode cX11_acts 221 = .ok (.getfield 60, 3) := by decide +kernel
theorem dX11_acts_224 : decode cX11_acts 224 = .ok (.iload_n 2, 1) := by decide +kernel
theorem dX11_acts_225 : decode cX11_acts 225 = .ok (.laload, 1) := by decide +kernel
theorem dX11_acts_226 : decode cX11_acts 226 = .ok (.l2i, 1) := by decide +kernel
theorem dX11_acts_227 : decode cX11_acts 227 = .ok (.invokevirtual 89, 3) := by decide +kernel
theorem dX11_acts_230 : decode cX11_acts 230 = .ok (.i2l, 1) := by decide +kernel
theorem dX11_acts_231 : decode cX11_acts 231 = .ok (.invokevirtual 275, 3) := by decide +kernel
theorem dX11_acts_234 : decode cX11_acts 234 = .ok (.goto 79, 3) := by decide +kernel
theorem dX11_acts_191 : decode cX11_acts 191 = .ok (.ifCond .gt 12, 3) := by decide +kernel
theorem dX11_acts_173 : decode cX11_acts 173 = .ok (.aload_n 0, 1) := by decide +kernel
theorem dX11_acts_174 : decode cX11_acts 174 = .ok (.iconst 4, 1) := by decide +kernel
theorem dX11_acts_175 : decode cX11_acts 175 = .ok (.invokevirtual 272, 3) := by decide +kernel
theorem dX11_acts_178 : decode cX11_acts 178 = .ok (.goto 135, 3) := by decide +kernel
theorem dX11_acts_170 : decode cX11_acts 170 = .ok (.ifCond .ge 11, 3) := by decide +kernel
theorem dX11_acts_237 : decode cX11_acts 237 = .ok (.aload_n 0, 1) := by decide +kernel
theorem dX11_acts_238 : decode cX11_acts 238 = .ok (.bipush 20, 2) := by decide +kernel
theorem dX11_acts_240 : decode cX11_acts 240 = .ok (.aload_n 0, 1) := by decide +kernel
theorem dX11_acts_241 : decode cX11_acts 241 = .ok (.getfield 36, 3) := by decide +kernel
theorem dX11_acts_244 : decode cX11_acts 244 = .ok (.iload_n 1, 1) := by decide +kernel
theorem dX11_acts_245 : decode cX11_acts 245 = .ok (.iaload, 1) := by decide +kernel
theorem dX11_acts_246 : decode cX11_acts 246 = .ok (.iadd, 1) := by decide +kernel
theorem dX11_acts_247 : decode cX11_acts 247 = .ok (.invokevirtual 272, 3) := by decide +kernel
theorem dX11_acts_250 : decode cX11_acts 250 = .ok (.goto 63, 3) := by decide +kernel
theorem dX11_acts_253 : decode cX11_acts 253 = .ok (.aload_n 0, 1) := by decide +kernel
theorem dX11_acts_254 : decode cX11_acts 254 = .ok (.getfield 60, 3) := by decide +kernel
theorem dX11_acts_257 : decode cX11_acts 257 = .ok (.iload_n 2, 1) := by decide +kernel
theorem dX11_acts_258 : decode cX11_acts 258 = .ok (.laload, 1) := by decide +kernel
theorem dX11_acts_259 : decode cX11_acts 259 = .ok (.ldc2_w 162, 3) := by decide +kernel
theorem dX11_acts_262 : decode cX11_acts 262 = .ok (.lcmp, 1) := by decide +kernel
theorem dX11_acts_295 : decode cX11_acts 295 = .ok (.aload_n 0, 1) := by decide +kernel
theorem dX11_acts_296 : decode cX11_acts 296 = .ok (.aload_n 0, 1) := by decide +kernel
theorem dX11_acts_297 : decode cX11_acts 297 = .ok (.getfield 60, 3) := by decide +kernel
theorem dX11_acts_300 : decode cX11_acts 300 = .ok (.iload_n 2, 1) := by decide +kernel
theorem dX11_acts_301 : decode cX11_acts 301 = .ok (.laload, 1) := by decide +kernel
theorem dX11_acts_302 : decode cX11_acts 302 = .ok (.invokevirtual 275, 3) := by decide +kernel
theorem dX11_acts_305 : decode cX11_acts 305 = .ok (.goto 8, 3) := by decide +kernel
theorem dX11_acts_266 : decode cX11_acts 266 = .ok (.aload_n 0, 1) := by decide +kernel
theorem dX11_acts_267 : decode cX11_acts 267 = .ok (.getfield 7, 3) := by decide +kernel
theorem dX11_acts_270 : decode cX11_acts 270 = .ok (.aload_n 0, 1) := by decide +kernel
theorem dX11_acts_271 : decode cX11_acts 271 = .ok (.getfield 60, 3) := by decide +kernel
theorem dX11_acts_274 : decode cX11_acts 274 = .ok (.iload_n 2, 1) := by decide +kernel
theorem dX11_acts_275 : decode cX11_acts 275 = .ok (.laload, 1) := by decide +kernel
theorem dX11_acts_276 : decode cX11_acts 276 = .ok (.l2i, 1) := by decide +kernel
theorem dX11_acts_277 : decode cX11_acts 277 = .ok (.iaload, 1) := by decide +kernel
theorem dX11_acts_278 : decode cX11_acts 278 = .ok (.aload_n 0, 1) := by decide +kernel
theorem dX11_acts_279 : decode cX11_acts 279 = .ok (.getfield 33, 3) := by decide +kernel
theorem dX11_acts_282 : decode cX11_acts 282 = .ok (.iload_n 1, 1) := by decide +kernel
theorem dX11_acts_283 : decode cX11_acts 283 = .ok (.iaload, 1) := by decide +kernel
theorem dX11_acts_284 : decode cX11_acts 284 = .ok (.if_icmp .eq 11, 3) := by decide +kernel
theorem dX11_acts_287 : decode cX11_acts 287 = .ok (.aload_n 0, 1) := by decide +kernel
theorem dX11_acts_288 : decode cX11_acts 288 = .ok (.iconst 5, 1) := by decide +kernel
theorem dX11_acts_289 : decode cX11_acts 289 = .ok (.invokevirtual 272, 3) := by decide +kernel
theorem dX11_acts_292 : decode cX11_acts 292 = .ok (.goto 21, 3) := by decide +kernel
theorem dX11_acts_263 : decode cX11_acts 263 = .ok (.ifCond .eq 32, 3) := by decide +kernel
theorem dX11_acts_308 : decode cX11_acts 308 = .ok (.aload_n 0, 1) := by decide +kernel
theorem dX11_acts_309 : decode cX11_acts 309 = .ok (.iload_n 1, 1) := by decide +kernel
theorem dX11_acts_310 : decode cX11_acts 310 = .ok (.invokevirtual 290, 3) := by decide +kernel
theorem hy_X11_acts : yX11_acts.cls ≠ "java/lang/invoke/MethodHandle" ∧ yX11_acts.cls ≠ "java/lang/invoke/VarHandle" ∧ (parseMethodDescriptor yX11_acts.desc).map (fun d => d.parameters.length) = some 1 := ⟨by decide, by decide, by decide +kernel⟩
def f_X11_acts (p1 : Int32) (S : mS) : Option ((Unit) × mS) :=
  o_let (m_I S 7) fun x1 =>
  o_ck (¬ (p1 < 0 ∨ 32 ≤ (p1).toNatClampNeg)) (o_let (m_aI S 4 (p1).toNatClampNeg) fun x2 =>
  if x2 = 0 then (
  o_ck (¬ (p1 < 0 ∨ 32 ≤ (p1).toNatClampNeg)) (o_let (m_aL S 17 (p1).toNatClampNeg) fun x3 =>
  o_call (f_X11_end x3 S) fun _ S1 =>
  some ((), S1))) else (
  if x2 = 1 then (
  o_ck (¬ (((4 : Int32) * (x1 - (1 : Int32))) < 0 ∨ 132 ≤ (((4 : Int32) * (x1 - (1 : Int32)))).toNatClampNeg)) (o_let (m_aL S 18 (((4 : Int32) * (x1 - (1 : Int32)))).toNatClampNeg) fun x4 =>
  o_call (f_X11_end x4 S) fun _ S2 =>
  some ((), S2))) else (
  if x2 = 2 ∨ x2 = 3 then (
  o_ck (¬ (p1 < 0 ∨ 32 ≤ (p1).toNatClampNeg)) (o_let (m_aI S 4 (p1).toNatClampNeg) fun x5 =>
  if x5 = 3 then (
  o_call (f_X11_reads p1 1 S) fun _ S4 =>
  some ((), S4)) else (
  o_call (f_X11_reads p1 0 S) fun _ S3 =>
  some ((), S3)))) else (
  if x2 = 4 then (
  o_ck (¬ (((4 : Int32) * (x1 - (1 : Int32))) < 0 ∨ 132 ≤ (((4 : Int32) * (x1 - (1 : Int32)))).toNatClampNeg)) (o_let (m_aL S 18 (((4 : Int32) * (x1 - (1 : Int32)))).toNatClampNeg) fun x6 =>
  if x6 = (-1) then (
  o_call (f_X11_fail 1 S) fun _ S6 =>
  some ((), S6)) else (
  o_ck (¬ (((4 : Int32) * (x1 - (1 : Int32))) < 0 ∨ 132 ≤ (((4 : Int32) * (x1 - (1 : Int32)))).toNatClampNeg)) (o_let (m_aL S 18 (((4 : Int32) * (x1 - (1 : Int32)))).toNatClampNeg) fun x7 =>
  o_ck (¬ (((x7).toInt32) < 0 ∨ 16 ≤ (((x7).toInt32)).toNatClampNeg)) (o_let (m_aI S 2 (((x7).toInt32)).toNatClampNeg) fun x8 =>
  o_call (f_X11_end ((x8).toInt64) S) fun _ S5 =>
  some ((), S5)))))) else (
  if x2 = 5 then (
  o_ck (¬ (((4 : Int32) * (x1 - (1 : Int32))) < 0 ∨ 132 ≤ (((4 : Int32) * (x1 - (1 : Int32)))).toNatClampNeg)) (o_let (m_aL S 18 (((4 : Int32) * (x1 - (1 : Int32)))).toNatClampNeg) fun x9 =>
  if 0 ≤ x9 then (
  o_ck (¬ (((4 : Int32) * (x1 - (1 : Int32))) < 0 ∨ 132 ≤ (((4 : Int32) * (x1 - (1 : Int32)))).toNatClampNeg)) (o_let (m_aL S 18 (((4 : Int32) * (x1 - (1 : Int32)))).toNatClampNeg) fun x10 =>
  if 8 < x10 then (
  o_call (f_X11_fail 6 S) fun _ S7 =>
  some ((), S7)) else (
  o_let (m_I S 0) fun x11 =>
  if x11 = 16 then (
  o_call (f_X11_fail 6 S) fun _ S10 =>
  some ((), S10)) else (
  o_ck (¬ (p1 < 0 ∨ 32 ≤ (p1).toNatClampNeg)) (o_let (m_aI S 5 (p1).toNatClampNeg) fun x12 =>
  o_ck (¬ (((4 : Int32) * (x1 - (1 : Int32))) < 0 ∨ 132 ≤ (((4 : Int32) * (x1 - (1 : Int32)))).toNatClampNeg)) (o_let (m_aL S 18 (((4 : Int32) * (x1 - (1 : Int32)))).toNatClampNeg) fun x13 =>
  o_call (f_X11_freshRow x12 ((x13).toInt32) S) fun x14 S8 =>
  o_call (f_X11_end ((x14).toInt64) S8) fun _ S9 =>
  some ((), S9))))))) else (
  o_call (f_X11_fail 4 S) fun _ S11 =>
  some ((), S11)))) else (
  if x2 = 9 then (
  o_ck (¬ (p1 < 0 ∨ 32 ≤ (p1).toNatClampNeg)) (o_let (m_aI S 6 (p1).toNatClampNeg) fun x15 =>
  o_call (f_X11_fail ((20 : Int32) + x15) S) fun _ S12 =>
  some ((), S12))) else (
  if x2 = 10 then (
  o_ck (¬ (((4 : Int32) * (x1 - (1 : Int32))) < 0 ∨ 132 ≤ (((4 : Int32) * (x1 - (1 : Int32)))).toNatClampNeg)) (o_let (m_aL S 18 (((4 : Int32) * (x1 - (1 : Int32)))).toNatClampNeg) fun x16 =>
  if x16 = (-1) then (
  o_ck (¬ (((4 : Int32) * (x1 - (1 : Int32))) < 0 ∨ 132 ≤ (((4 : Int32) * (x1 - (1 : Int32)))).toNatClampNeg)) (o_let (m_aL S 18 (((4 : Int32) * (x1 - (1 : Int32)))).toNatClampNeg) fun x17 =>
  o_call (f_X11_end x17 S) fun _ S13 =>
  some ((), S13))) else (
  o_ck (¬ (((4 : Int32) * (x1 - (1 : Int32))) < 0 ∨ 132 ≤ (((4 : Int32) * (x1 - (1 : Int32)))).toNatClampNeg)) (o_let (m_aL S 18 (((4 : Int32) * (x1 - (1 : Int32)))).toNatClampNeg) fun x18 =>
  o_ck (¬ (((x18).toInt32) < 0 ∨ 16 ≤ (((x18).toInt32)).toNatClampNeg)) (o_let (m_aI S 1 (((x18).toInt32)).toNatClampNeg) fun x19 =>
  o_ck (¬ (p1 < 0 ∨ 32 ≤ (p1).toNatClampNeg)) (o_let (m_aI S 5 (p1).toNatClampNeg) fun x20 =>
  if x19 = x20 then (
  o_ck (¬ (((4 : Int32) * (x1 - (1 : Int32))) < 0 ∨ 132 ≤ (((4 : Int32) * (x1 - (1 : Int32)))).toNatClampNeg)) (o_let (m_aL S 18 (((4 : Int32) * (x1 - (1 : Int32)))).toNatClampNeg) fun x21 =>
  o_call (f_X11_end x21 S) fun _ S14 =>
  some ((), S14))) else (
  o_call (f_X11_fail 5 S) fun _ S15 =>
  some ((), S15)))))))) else (
  if x2 = 6 ∨ x2 = 7 ∨ x2 = 8 then (
  o_call (f_X11_reckons p1 S) fun _ S16 =>
  some ((), S16)) else (
  o_call (f_X11_reckons p1 S) fun _ S17 =>
  some ((), S17))))))))))
set_option maxHeartbeats 4000000 in
set_option maxRecDepth 100000 in
theorem c_X11_acts {l : Launch} {D : va_G} {Y : Nat → ClassId} {aR : Nat → Nat} {A : Nat → Prop} {ad : Nat → Nat} {p1 : Int32} {S S' : mS} {r : Unit} (hf : f_X11_acts p1 S = some (r, S')) : jq_M l D Y aR A ad yX11_acts cX11_acts 3 none 3 80 [.ref (ad 0), .int p1] S none S' := by
  unfold f_X11_acts at hf
  refine jq_enterM (by decide) (Nat.le_of_ble_eq_true rfl) fun p e s m args below meth c ls H locs hX hJ hl => ?_
  have hl : lv_has ls 3 [(0, .ref (ad 0)), (1, .int p1)] := hl
  have hx := hX.1
  have hb := hX.2.1
  have hm := hX.2.2.1
  have ho := hX.2.2.2.1
  have ht := hX.2.2.2.2.1
  have hn := hX.2.2.2.2.2.1.2.1
  refine lv_iconst (v := 4) hx hb dX11_acts_0 (by decide) ?_
  refine lv_aload_n hx hb dX11_acts_1 rfl (lv_at hl 0 rfl) ?_
  replace hf := o_let_e hf
  obtain ⟨x1, hx1, hf⟩ := hf
  refine mg_depth hX hJ hx1 qw710 dX11_acts_2 ?_
  refine lv_iconst (v := 1) hx hb dX11_acts_5 (by decide) ?_
  refine lv_isub hx hb dX11_acts_6 ?_
  refine lv_imul hx hb dX11_acts_7 ?_
  refine lv_istore_n (lv' := [(2, .int ((4 : Int32) * (x1 - (1 : Int32)))), (0, .ref (ad 0)), (1, .int p1)]) hx hb dX11_acts_8 rfl hl (by decide) rfl (fun ls hl' => ?_)
  clear hl
  have hl := hl'
  clear hl'
  refine lv_aload_n hx hb dX11_acts_9 rfl (lv_at hl 1 rfl) ?_
  refine mg_sortOf hX hJ qw698 dX11_acts_10 ?_
  refine lv_iload_n hx hb dX11_acts_13 rfl (lv_at hl 2 rfl) ?_
  replace hf := o_ck_e hf
  obtain ⟨hk1, hf⟩ := hf
  replace hf := o_let_e hf
  obtain ⟨x2, hx2, hf⟩ := hf
  refine ma_I 4 hX hJ (by decide) hk1 hx2 dX11_acts_14 ?_
  by_cases c1 : x2 = 0
  · replace hf := o_t hf c1
    refine lv_tableIn (off := 57) (tgt := 72) hx hb dX11_acts_15 (by rcases c1 with rfl <;> decide) (by rcases c1 with rfl <;> decide) (by rcases c1 with rfl <;> rfl) (by decide) ?_
    refine lv_aload_n hx hb dX11_acts_72 rfl (lv_at hl 1 rfl) ?_
    refine lv_aload_n hx hb dX11_acts_73 rfl (lv_at hl 1 rfl) ?_
    refine mg_vOf hX hJ qw702 dX11_acts_74 ?_
    refine lv_iload_n hx hb dX11_acts_77 rfl (lv_at hl 2 rfl) ?_
    replace hf := o_ck_e hf
    obtain ⟨hk2, hf⟩ := hf
    replace hf := o_let_e hf
    obtain ⟨x3, hx3, hf⟩ := hf
    refine ma_L 17 hX hJ (by decide) hk2 hx3 dX11_acts_78 ?_
    replace hf := o_call_e hf
    obtain ⟨_, S1, hq1, hf⟩ := hf
    refine jq_doM hX hJ (jq_okV (As := [.long x3]) (rest := []) hx hb hm ho ht (mJ.recv hX hJ) qw1000 qw1002 qs95 qw1003 qw7 hy_X11_end rfl hl.1 (Nat.le_of_ble_eq_true rfl) dX11_acts_79) (c_X11_end hq1) (Nat.le_of_ble_eq_true rfl) (Nat.le_of_ble_eq_true rfl) (Nat.le_refl _) (Nat.le_refl _) (fun H locs hJ' => ?_)
    clear hJ
    have hJ := hJ'
    clear hJ'
    refine lv_goto (tgt := 313) hx hb dX11_acts_82 (by decide) ?_
    obtain ⟨rfl, rfl⟩ := Prod.mk.inj (Option.some.inj hf)
    exact jq_vret hX hJ.2 dX11_acts_313 ⟨rfl, rfl, rfl, hJ.1⟩
  replace hf := o_f hf c1
  by_cases c2 : x2 = 1
  · replace hf := o_t hf c2
    refine lv_tableIn (off := 70) (tgt := 85) hx hb dX11_acts_15 (by rcases c2 with rfl <;> decide) (by rcases c2 with rfl <;> decide) (by rcases c2 with rfl <;> rfl) (by decide) ?_
    refine lv_aload_n hx hb dX11_acts_85 rfl (lv_at hl 1 rfl) ?_
    refine lv_aload_n hx hb dX11_acts_86 rfl (lv_at hl 1 rfl) ?_
    refine mg_par hX hJ qw713 dX11_acts_87 ?_
    refine lv_iload_n hx hb dX11_acts_90 rfl (lv_at hl 0 rfl) ?_
    replace hf := o_ck_e hf
    obtain ⟨hk3, hf⟩ := hf
    replace hf := o_let_e hf
    obtain ⟨x4, hx4, hf⟩ := hf
    refine ma_L 18 hX hJ (by decide) hk3 hx4 dX11_acts_91 ?_
    replace hf := o_call_e hf
    obtain ⟨_, S2, hq2, hf⟩ := hf
    refine jq_doM hX hJ (jq_okV (As := [.long x4]) (rest := []) hx hb hm ho ht (mJ.recv hX hJ) qw1000 qw1002 qs95 qw1003 qw7 hy_X11_end rfl hl.1 (Nat.le_of_ble_eq_true rfl) dX11_acts_92) (c_X11_end hq2) (Nat.le_of_ble_eq_true rfl) (Nat.le_of_ble_eq_true rfl) (Nat.le_refl _) (Nat.le_refl _) (fun H locs hJ' => ?_)
    clear hJ
    have hJ := hJ'
    clear hJ'
    refine lv_goto (tgt := 313) hx hb dX11_acts_95 (by decide) ?_
    obtain ⟨rfl, rfl⟩ := Prod.mk.inj (Option.some.inj hf)
    exact jq_vret hX hJ.2 dX11_acts_313 ⟨rfl, rfl, rfl, hJ.1⟩
  replace hf := o_f hf c2
  by_cases c3 : x2 = 2 ∨ x2 = 3
  · replace hf := o_t hf c3
    refine lv_tableIn (off := 83) (tgt := 98) hx hb dX11_acts_15 (by rcases c3 with rfl | rfl <;> decide) (by rcases c3 with rfl | rfl <;> decide) (by rcases c3 with rfl | rfl <;> rfl) (by decide) ?_
    refine lv_aload_n hx hb dX11_acts_98 rfl (lv_at hl 1 rfl) ?_
    refine lv_iload_n hx hb dX11_acts_99 rfl (lv_at hl 2 rfl) ?_
    refine lv_aload_n hx hb dX11_acts_100 rfl (lv_at hl 1 rfl) ?_
    refine mg_sortOf hX hJ qw698 dX11_acts_101 ?_
    refine lv_iload_n hx hb dX11_acts_104 rfl (lv_at hl 2 rfl) ?_
    replace hf := o_ck_e hf
    obtain ⟨hk4, hf⟩ := hf
    replace hf := o_let_e hf
    obtain ⟨x5, hx5, hf⟩ := hf
    refine ma_I 4 hX hJ (by decide) hk4 hx5 dX11_acts_105 ?_
    refine lv_iconst (v := 3) hx hb dX11_acts_106 (by decide) ?_
    refine lv_icmp_ne (tgt := 114) hx hb dX11_acts_107 (by decide) (fun c4 => ?_) (fun c4 => ?_)
    · replace hf := o_f hf c4
      refine lv_iconst (v := 0) hx hb dX11_acts_114 (by decide) ?_
      replace hf := o_call_e hf
      obtain ⟨_, S3, hq3, hf⟩ := hf
      refine jq_doM hX hJ (jq_okV (As := [.int p1, .int 0]) (rest := []) hx hb hm ho ht (mJ.recv hX hJ) qw1004 qw1006 qs96 qw1007 qw7 hy_X11_reads rfl hl.1 (Nat.le_of_ble_eq_true rfl) dX11_acts_115) (c_X11_reads hq3) (Nat.le_of_ble_eq_true rfl) (Nat.le_of_ble_eq_true rfl) (Nat.le_refl _) (Nat.le_refl _) (fun H locs hJ' => ?_)
      clear hJ
      have hJ := hJ'
      clear hJ'
      refine lv_goto (tgt := 313) hx hb dX11_acts_118 (by decide) ?_
      obtain ⟨rfl, rfl⟩ := Prod.mk.inj (Option.some.inj hf)
      exact jq_vret hX hJ.2 dX11_acts_313 ⟨rfl, rfl, rfl, hJ.1⟩
    · replace hf := o_t hf c4
      refine lv_iconst (v := 1) hx hb dX11_acts_110 (by decide) ?_
      refine lv_goto (tgt := 115) hx hb dX11_acts_111 (by decide) ?_
      replace hf := o_call_e hf
      obtain ⟨_, S4, hq4, hf⟩ := hf
      refine jq_doM hX hJ (jq_okV (As := [.int p1, .int 1]) (rest := []) hx hb hm ho ht (mJ.recv hX hJ) qw1004 qw1006 qs96 qw1007 qw7 hy_X11_reads rfl hl.1 (Nat.le_of_ble_eq_true rfl) dX11_acts_115) (c_X11_reads hq4) (Nat.le_of_ble_eq_true rfl) (Nat.le_of_ble_eq_true rfl) (Nat.le_refl _) (Nat.le_refl _) (fun H locs hJ' => ?_)
      clear hJ
      have hJ := hJ'
      clear hJ'
      refine lv_goto (tgt := 313) hx hb dX11_acts_118 (by decide) ?_
      obtain ⟨rfl, rfl⟩ := Prod.mk.inj (Option.some.inj hf)
      exact jq_vret hX hJ.2 dX11_acts_313 ⟨rfl, rfl, rfl, hJ.1⟩
  replace hf := o_f hf c3
  by_cases c5 : x2 = 4
  · replace hf := o_t hf c5
    refine lv_tableIn (off := 106) (tgt := 121) hx hb dX11_acts_15 (by rcases c5 with rfl <;> decide) (by rcases c5 with rfl <;> decide) (by rcases c5 with rfl <;> rfl) (by decide) ?_
    refine lv_aload_n hx hb dX11_acts_121 rfl (lv_at hl 1 rfl) ?_
    refine mg_par hX hJ qw713 dX11_acts_122 ?_
    refine lv_iload_n hx hb dX11_acts_125 rfl (lv_at hl 0 rfl) ?_
    replace hf := o_ck_e hf
    obtain ⟨hk5, hf⟩ := hf
    replace hf := o_let_e hf
    obtain ⟨x6, hx6, hf⟩ := hf
    refine ma_L 18 hX hJ (by decide) hk5 hx6 dX11_acts_126 ?_
    refine lv_ldc2 (v := (-1)) hx hb ho (ht _ qw866) dX11_acts_127 ?_
    refine W.lcmp hx hb dX11_acts_130 ?_
    refine lv_if_ne (tgt := 142) hx hb dX11_acts_131 (by decide) (fun c6 => ?_) (fun c6 => ?_)
    · replace hf := o_f hf (fun z => c6 (qc_eq.mpr z))
      refine lv_aload_n hx hb dX11_acts_142 rfl (lv_at hl 1 rfl) ?_
      refine lv_aload_n hx hb dX11_acts_143 rfl (lv_at hl 1 rfl) ?_
      refine mg_sizeOf hX hJ qw691 dX11_acts_144 ?_
      refine lv_aload_n hx hb dX11_acts_147 rfl (lv_at hl 1 rfl) ?_
      refine mg_par hX hJ qw713 dX11_acts_148 ?_
      refine lv_iload_n hx hb dX11_acts_151 rfl (lv_at hl 0 rfl) ?_
      replace hf := o_ck_e hf
      obtain ⟨hk6, hf⟩ := hf
      replace hf := o_let_e hf
      obtain ⟨x7, hx7, hf⟩ := hf
      refine ma_L 18 hX hJ (by decide) hk6 hx7 dX11_acts_152 ?_
      refine lv_l2i hx hb dX11_acts_153 rfl ?_
      replace hf := o_ck_e hf
      obtain ⟨hk7, hf⟩ := hf
      replace hf := o_let_e hf
      obtain ⟨x8, hx8, hf⟩ := hf
      refine ma_I 2 hX hJ (by decide) hk7 hx8 dX11_acts_154 ?_
      refine lv_i2l hx hb dX11_acts_155 rfl ?_
      replace hf := o_call_e hf
      obtain ⟨_, S5, hq5, hf⟩ := hf
      refine jq_doM hX hJ (jq_okV (As := [.long ((x8).toInt64)]) (rest := []) hx hb hm ho ht (mJ.recv hX hJ) qw1000 qw1002 qs95 qw1003 qw7 hy_X11_end rfl hl.1 (Nat.le_of_ble_eq_true rfl) dX11_acts_156) (c_X11_end hq5) (Nat.le_of_ble_eq_true rfl) (Nat.le_of_ble_eq_true rfl) (Nat.le_refl _) (Nat.le_refl _) (fun H locs hJ' => ?_)
      clear hJ
      have hJ := hJ'
      clear hJ'
      refine lv_goto (tgt := 313) hx hb dX11_acts_159 (by decide) ?_
      obtain ⟨rfl, rfl⟩ := Prod.mk.inj (Option.some.inj hf)
      exact jq_vret hX hJ.2 dX11_acts_313 ⟨rfl, rfl, rfl, hJ.1⟩
    · replace hf := o_t hf (qc_eq.mp c6)
      refine lv_aload_n hx hb dX11_acts_134 rfl (lv_at hl 1 rfl) ?_
      refine lv_iconst (v := 1) hx hb dX11_acts_135 (by decide) ?_
      replace hf := o_call_e hf
      obtain ⟨_, S6, hq6, hf⟩ := hf
      refine jq_doM hX hJ (jq_okV (As := [.int 1]) (rest := []) hx hb hm ho ht (mJ.recv hX hJ) qw1008 qw1010 qs97 qw1011 qw7 hy_X11_fail rfl hl.1 (Nat.le_of_ble_eq_true rfl) dX11_acts_136) (c_X11_fail hq6) (Nat.le_of_ble_eq_true rfl) (Nat.le_of_ble_eq_true rfl) (Nat.le_refl _) (Nat.le_refl _) (fun H locs hJ' => ?_)
      clear hJ
      have hJ := hJ'
      clear hJ'
      refine lv_goto (tgt := 313) hx hb dX11_acts_139 (by decide) ?_
      obtain ⟨rfl, rfl⟩ := Prod.mk.inj (Option.some.inj hf)
      exact jq_vret hX hJ.2 dX11_acts_313 ⟨rfl, rfl, rfl, hJ.1⟩
  replace hf := o_f hf c5
  by_cases c7 : x2 = 5
  · replace hf := o_t hf c7
    refine lv_tableIn (off := 147) (tgt := 162) hx hb dX11_acts_15 (by rcases c7 with rfl <;> decide) (by rcases c7 with rfl <;> decide) (by rcases c7 with rfl <;> rfl) (by decide) ?_
    refine lv_aload_n hx hb dX11_acts_162 rfl (lv_at hl 1 rfl) ?_
    refine mg_par hX hJ qw713 dX11_acts_163 ?_
    refine lv_iload_n hx hb dX11_acts_166 rfl (lv_at hl 0 rfl) ?_
    replace hf := o_ck_e hf
    obtain ⟨hk8, hf⟩ := hf
    replace hf := o_let_e hf
    obtain ⟨x9, hx9, hf⟩ := hf
    refine ma_L 18 hX hJ (by decide) hk8 hx9 dX11_acts_167 ?_
    refine lv_lconst (v := 0) hx hb dX11_acts_168 (by decide) ?_
    refine W.lcmp hx hb dX11_acts_169 ?_
    refine lv_if_ge (tgt := 181) hx hb dX11_acts_170 (by decide) (fun c8 => ?_) (fun c8 => ?_)
    · replace hf := o_t hf (qc_ge.mp c8)
      refine lv_aload_n hx hb dX11_acts_181 rfl (lv_at hl 1 rfl) ?_
      refine mg_par hX hJ qw713 dX11_acts_182 ?_
      refine lv_iload_n hx hb dX11_acts_185 rfl (lv_at hl 0 rfl) ?_
      replace hf := o_ck_e hf
      obtain ⟨hk9, hf⟩ := hf
      replace hf := o_let_e hf
      obtain ⟨x10, hx10, hf⟩ := hf
      refine ma_L 18 hX hJ (by decide) hk9 hx10 dX11_acts_186 ?_
      refine lv_ldc2 (v := 8) hx hb ho (ht _ qw806) dX11_acts_187 ?_
      refine W.lcmp hx hb dX11_acts_190 ?_
      refine lv_if_gt (tgt := 203) hx hb dX11_acts_191 (by decide) (fun c9 => ?_) (fun c9 => ?_)
      · replace hf := o_t hf (qc_gt.mp c9)
        refine lv_aload_n hx hb dX11_acts_203 rfl (lv_at hl 1 rfl) ?_
        refine lv_bipush (v := 6) hx hb dX11_acts_204 (by decide) ?_
        replace hf := o_call_e hf
        obtain ⟨_, S7, hq7, hf⟩ := hf
        refine jq_doM hX hJ (jq_okV (As := [.int 6]) (rest := []) hx hb hm ho ht (mJ.recv hX hJ) qw1008 qw1010 qs97 qw1011 qw7 hy_X11_fail rfl hl.1 (Nat.le_of_ble_eq_true rfl) dX11_acts_206) (c_X11_fail hq7) (Nat.le_of_ble_eq_true rfl) (Nat.le_of_ble_eq_true rfl) (Nat.le_refl _) (Nat.le_refl _) (fun H locs hJ' => ?_)
        clear hJ
        have hJ := hJ'
        clear hJ'
        refine lv_goto (tgt := 313) hx hb dX11_acts_209 (by decide) ?_
        obtain ⟨rfl, rfl⟩ := Prod.mk.inj (Option.some.inj hf)
        exact jq_vret hX hJ.2 dX11_acts_313 ⟨rfl, rfl, rfl, hJ.1⟩
      · replace hf := o_f hf (fun z => c9 (qc_gt.mpr z))
        refine lv_aload_n hx hb dX11_acts_194 rfl (lv_at hl 1 rfl) ?_
        replace hf := o_let_e hf
        obtain ⟨x11, hx11, hf⟩ := hf
        refine mg_rows hX hJ hx11 qw689 dX11_acts_195 ?_
        refine lv_bipush (v := 16) hx hb dX11_acts_198 (by decide) ?_
        refine lv_icmp_ne (tgt := 212) hx hb dX11_acts_200 (by decide) (fun c10 => ?_) (fun c10 => ?_)
        · replace hf := o_f hf c10
          refine lv_aload_n hx hb dX11_acts_212 rfl (lv_at hl 1 rfl) ?_
          refine lv_aload_n hx hb dX11_acts_213 rfl (lv_at hl 1 rfl) ?_
          refine lv_aload_n hx hb dX11_acts_214 rfl (lv_at hl 1 rfl) ?_
          refine mg_aOf hX hJ qw699 dX11_acts_215 ?_
          refine lv_iload_n hx hb dX11_acts_218 rfl (lv_at hl 2 rfl) ?_
          replace hf := o_ck_e hf
          obtain ⟨hk10, hf⟩ := hf
          replace hf := o_let_e hf
          obtain ⟨x12, hx12, hf⟩ := hf
          refine ma_I 5 hX hJ (by decide) hk10 hx12 dX11_acts_219 ?_
          refine lv_aload_n hx hb dX11_acts_220 rfl (lv_at hl 1 rfl) ?_
          refine mg_par hX hJ qw713 dX11_acts_221 ?_
          refine lv_iload_n hx hb dX11_acts_224 rfl (lv_at hl 0 rfl) ?_
          replace hf := o_ck_e hf
          obtain ⟨hk11, hf⟩ := hf
          replace hf := o_let_e hf
          obtain ⟨x13, hx13, hf⟩ := hf
          refine ma_L 18 hX hJ (by decide) hk11 hx13 dX11_acts_225 ?_
          refine lv_l2i hx hb dX11_acts_226 rfl ?_
          replace hf := o_call_e hf
          obtain ⟨x14, S8, hq8, hf⟩ := hf
          refine jq_doM hX hJ (jq_okV (As := [.int x12, .int ((x13).toInt32)]) (rest := [.ref (ad 0)]) hx hb hm ho ht (mJ.recv hX hJ) qw807 qw809 qs72 qw810 qw7 hy_X11_freshRow rfl hl.1 (Nat.le_of_ble_eq_true rfl) dX11_acts_227) (c_X11_freshRow hq8) (Nat.le_of_ble_eq_true rfl) (Nat.le_of_ble_eq_true rfl) (Nat.le_refl _) (Nat.le_refl _) (fun H locs hJ' => ?_)
          clear hJ
          have hJ := hJ'
          clear hJ'
          refine lv_i2l hx hb dX11_acts_230 rfl ?_
          replace hf := o_call_e hf
          obtain ⟨_, S9, hq9, hf⟩ := hf
          refine jq_doM hX hJ (jq_okV (As := [.long ((x14).toInt64)]) (rest := []) hx hb hm ho ht (mJ.recv hX hJ) qw1000 qw1002 qs95 qw1003 qw7 hy_X11_end rfl hl.1 (Nat.le_of_ble_eq_true rfl) dX11_acts_231) (c_X11_end hq9) (Nat.le_of_ble_eq_true rfl) (Nat.le_of_ble_eq_true rfl) (Nat.le_refl _) (Nat.le_refl _) (fun H locs hJ' => ?_)
          clear hJ
          have hJ := hJ'
          clear hJ'
          refine lv_goto (tgt := 313) hx hb dX11_acts_234 (by decide) ?_
          obtain ⟨rfl, rfl⟩ := Prod.mk.inj (Option.some.inj hf)
          exact jq_vret hX hJ.2 dX11_acts_313 ⟨rfl, rfl, rfl, hJ.1⟩
        · replace hf := o_t hf c10
          refine lv_aload_n hx hb dX11_acts_203 rfl (lv_at hl 1 rfl) ?_
          refine lv_bipush (v := 6) hx hb dX11_acts_204 (by decide) ?_
          replace hf := o_call_e hf
          obtain ⟨_, S10, hq10, hf⟩ := hf
          refine jq_doM hX hJ (jq_okV (As := [.int 6]) (rest := []) hx hb hm ho ht (mJ.recv hX hJ) qw1008 qw1010 qs97 qw1011 qw7 hy_X11_fail rfl hl.1 (Nat.le_of_ble_eq_true rfl) dX11_acts_206) (c_X11_fail hq10) (Nat.le_of_ble_eq_true rfl) (Nat.le_of_ble_eq_true rfl) (Nat.le_refl _) (Nat.le_refl _) (fun H locs hJ' => ?_)
          clear hJ
          have hJ := hJ'
          clear hJ'
          refine lv_goto (tgt := 313) hx hb dX11_acts_209 (by decide) ?_
          obtain ⟨rfl, rfl⟩ := Prod.mk.inj (Option.some.inj hf)
          exact jq_vret hX hJ.2 dX11_acts_313 ⟨rfl, rfl, rfl, hJ.1⟩
    · replace hf := o_f hf (fun z => c8 (qc_ge.mpr z))
      refine lv_aload_n hx hb dX11_acts_173 rfl (lv_at hl 1 rfl) ?_
      refine lv_iconst (v := 4) hx hb dX11_acts_174 (by decide) ?_
      replace hf := o_call_e hf
      obtain ⟨_, S11, hq11, hf⟩ := hf
      refine jq_doM hX hJ (jq_okV (As := [.int 4]) (rest := []) hx hb hm ho ht (mJ.recv hX hJ) qw1008 qw1010 qs97 qw1011 qw7 hy_X11_fail rfl hl.1 (Nat.le_of_ble_eq_true rfl) dX11_acts_175) (c_X11_fail hq11) (Nat.le_of_ble_eq_true rfl) (Nat.le_of_ble_eq_true rfl) (Nat.le_refl _) (Nat.le_refl _) (fun H locs hJ' => ?_)
      clear hJ
      have hJ := hJ'
      clear hJ'
      refine lv_goto (tgt := 313) hx hb dX11_acts_178 (by decide) ?_
      obtain ⟨rfl, rfl⟩ := Prod.mk.inj (Option.some.inj hf)
      exact jq_vret hX hJ.2 dX11_acts_313 ⟨rfl, rfl, rfl, hJ.1⟩
  replace hf := o_f hf c7
  by_cases c11 : x2 = 9
  · replace hf := o_t hf c11
    refine lv_tableIn (off := 222) (tgt := 237) hx hb dX11_acts_15 (by rcases c11 with rfl <;> decide) (by rcases c11 with rfl <;> decide) (by rcases c11 with rfl <;> rfl) (by decide) ?_
    refine lv_aload_n hx hb dX11_acts_237 rfl (lv_at hl 1 rfl) ?_
    refine lv_bipush (v := 20) hx hb dX11_acts_238 (by decide) ?_
    refine lv_aload_n hx hb dX11_acts_240 rfl (lv_at hl 1 rfl) ?_
    refine mg_bOf hX hJ qw700 dX11_acts_241 ?_
    refine lv_iload_n hx hb dX11_acts_244 rfl (lv_at hl 2 rfl) ?_
    replace hf := o_ck_e hf
    obtain ⟨hk12, hf⟩ := hf
    replace hf := o_let_e hf
    obtain ⟨x15, hx15, hf⟩ := hf
    refine ma_I 6 hX hJ (by decide) hk12 hx15 dX11_acts_245 ?_
    refine lv_iadd hx hb dX11_acts_246 ?_
    replace hf := o_call_e hf
    obtain ⟨_, S12, hq12, hf⟩ := hf
    refine jq_doM hX hJ (jq_okV (As := [.int ((20 : Int32) + x15)]) (rest := []) hx hb hm ho ht (mJ.recv hX hJ) qw1008 qw1010 qs97 qw1011 qw7 hy_X11_fail rfl hl.1 (Nat.le_of_ble_eq_true rfl) dX11_acts_247) (c_X11_fail hq12) (Nat.le_of_ble_eq_true rfl) (Nat.le_of_ble_eq_true rfl) (Nat.le_refl _) (Nat.le_refl _) (fun H locs hJ' => ?_)
    clear hJ
    have hJ := hJ'
    clear hJ'
    refine lv_goto (tgt := 313) hx hb dX11_acts_250 (by decide) ?_
    obtain ⟨rfl, rfl⟩ := Prod.mk.inj (Option.some.inj hf)
    exact jq_vret hX hJ.2 dX11_acts_313 ⟨rfl, rfl, rfl, hJ.1⟩
  replace hf := o_f hf c11
  by_cases c12 : x2 = 10
  · replace hf := o_t hf c12
    refine lv_tableIn (off := 238) (tgt := 253) hx hb dX11_acts_15 (by rcases c12 with rfl <;> decide) (by rcases c12 with rfl <;> decide) (by rcases c12 with rfl <;> rfl) (by decide) ?_
    refine lv_aload_n hx hb dX11_acts_253 rfl (lv_at hl 1 rfl) ?_
    refine mg_par hX hJ qw713 dX11_acts_254 ?_
    refine lv_iload_n hx hb dX11_acts_257 rfl (lv_at hl 0 rfl) ?_
    replace hf := o_ck_e hf
    obtain ⟨hk13, hf⟩ := hf
    replace hf := o_let_e hf
    obtain ⟨x16, hx16, hf⟩ := hf
    refine ma_L 18 hX hJ (by decide) hk13 hx16 dX11_acts_258 ?_
    refine lv_ldc2 (v := (-1)) hx hb ho (ht _ qw866) dX11_acts_259 ?_
    refine W.lcmp hx hb dX11_acts_262 ?_
    refine lv_if_eq (tgt := 295) hx hb dX11_acts_263 (by decide) (fun c13 => ?_) (fun c13 => ?_)
    · replace hf := o_t hf (qc_eq.mp c13)
      refine lv_aload_n hx hb dX11_acts_295 rfl (lv_at hl 1 rfl) ?_
      refine lv_aload_n hx hb dX11_acts_296 rfl (lv_at hl 1 rfl) ?_
      refine mg_par hX hJ qw713 dX11_acts_297 ?_
      refine lv_iload_n hx hb dX11_acts_300 rfl (lv_at hl 0 rfl) ?_
      replace hf := o_ck_e hf
      obtain ⟨hk14, hf⟩ := hf
      replace hf := o_let_e hf
      obtain ⟨x17, hx17, hf⟩ := hf
      refine ma_L 18 hX hJ (by decide) hk14 hx17 dX11_acts_301 ?_
      replace hf := o_call_e hf
      obtain ⟨_, S13, hq13, hf⟩ := hf
      refine jq_doM hX hJ (jq_okV (As := [.long x17]) (rest := []) hx hb hm ho ht (mJ.recv hX hJ) qw1000 qw1002 qs95 qw1003 qw7 hy_X11_end rfl hl.1 (Nat.le_of_ble_eq_true rfl) dX11_acts_302) (c_X11_end hq13) (Nat.le_of_ble_eq_true rfl) (Nat.le_of_ble_eq_true rfl) (Nat.le_refl _) (Nat.le_refl _) (fun H locs hJ' => ?_)
      clear hJ
      have hJ := hJ'
      clear hJ'
      refine lv_goto (tgt := 313) hx hb dX11_acts_305 (by decide) ?_
      obtain ⟨rfl, rfl⟩ := Prod.mk.inj (Option.some.inj hf)
      exact jq_vret hX hJ.2 dX11_acts_313 ⟨rfl, rfl, rfl, hJ.1⟩
    · replace hf := o_f hf (fun z => c13 (qc_eq.mpr z))
      refine lv_aload_n hx hb dX11_acts_266 rfl (lv_at hl 1 rfl) ?_
      refine mg_laneOf hX hJ qw690 dX11_acts_267 ?_
      refine lv_aload_n hx hb dX11_acts_270 rfl (lv_at hl 1 rfl) ?_
      refine mg_par hX hJ qw713 dX11_acts_271 ?_
      refine lv_iload_n hx hb dX11_acts_274 rfl (lv_at hl 0 rfl) ?_
      replace hf := o_ck_e hf
      obtain ⟨hk15, hf⟩ := hf
      replace hf := o_let_e hf
      obtain ⟨x18, hx18, hf⟩ := hf
      refine ma_L 18 hX hJ (by decide) hk15 hx18 dX11_acts_275 ?_
      refine lv_l2i hx hb dX11_acts_276 rfl ?_
      replace hf := o_ck_e hf
      obtain ⟨hk16, hf⟩ := hf
      replace hf := o_let_e hf
      obtain ⟨x19, hx19, hf⟩ := hf
      refine ma_I 1 hX hJ (by decide) hk16 hx19 dX11_acts_277 ?_
      refine lv_aload_n hx hb dX11_acts_278 rfl (lv_at hl 1 rfl) ?_
      refine mg_aOf hX hJ qw699 dX11_acts_279 ?_
      refine lv_iload_n hx hb dX11_acts_282 rfl (lv_at hl 2 rfl) ?_
      replace hf := o_ck_e hf
      obtain ⟨hk17, hf⟩ := hf
      replace hf := o_let_e hf
      obtain ⟨x20, hx20, hf⟩ := hf
      refine ma_I 5 hX hJ (by decide) hk17 hx20 dX11_acts_283 ?_
      refine lv_icmp_eq (tgt := 295) hx hb dX11_acts_284 (by decide) (fun c14 => ?_) (fun c14 => ?_)
      · replace hf := o_t hf c14
        refine lv_aload_n hx hb dX11_acts_295 rfl (lv_at hl 1 rfl) ?_
        refine lv_aload_n hx hb dX11_acts_296 rfl (lv_at hl 1 rfl) ?_
        refine mg_par hX hJ qw713 dX11_acts_297 ?_
        refine lv_iload_n hx hb dX11_acts_300 rfl (lv_at hl 0 rfl) ?_
        replace hf := o_ck_e hf
        obtain ⟨hk18, hf⟩ := hf
        replace hf := o_let_e hf
        obtain ⟨x21, hx21, hf⟩ := hf
        refine ma_L 18 hX hJ (by decide) hk18 hx21 dX11_acts_301 ?_
        replace hf := o_call_e hf
        obtain ⟨_, S14, hq14, hf⟩ := hf
        refine jq_doM hX hJ (jq_okV (As := [.long x21]) (rest := []) hx hb hm ho ht (mJ.recv hX hJ) qw1000 qw1002 qs95 qw1003 qw7 hy_X11_end rfl hl.1 (Nat.le_of_ble_eq_true rfl) dX11_acts_302) (c_X11_end hq14) (Nat.le_of_ble_eq_true rfl) (Nat.le_of_ble_eq_true rfl) (Nat.le_refl _) (Nat.le_refl _) (fun H locs hJ' => ?_)
        clear hJ
        have hJ := hJ'
        clear hJ'
        refine lv_goto (tgt := 313) hx hb dX11_acts_305 (by decide) ?_
        obtain ⟨rfl, rfl⟩ := Prod.mk.inj (Option.some.inj hf)
        exact jq_vret hX hJ.2 dX11_acts_313 ⟨rfl, rfl, rfl, hJ.1⟩
      · replace hf := o_f hf c14
        refine lv_aload_n hx hb dX11_acts_287 rfl (lv_at hl 1 rfl) ?_
        refine lv_iconst (v := 5) hx hb dX11_acts_288 (by decide) ?_
        replace hf := o_call_e hf
        obtain ⟨_, S15, hq15, hf⟩ := hf
        refine jq_doM hX hJ (jq_okV (As := [.int 5]) (rest := []) hx hb hm ho ht (mJ.recv hX hJ) qw1008 qw1010 qs97 qw1011 qw7 hy_X11_fail rfl hl.1 (Nat.le_of_ble_eq_true rfl) dX11_acts_289) (c_X11_fail hq15) (Nat.le_of_ble_eq_true rfl) (Nat.le_of_ble_eq_true rfl) (Nat.le_refl _) (Nat.le_refl _) (fun H locs hJ' => ?_)
        clear hJ
        have hJ := hJ'
        clear hJ'
        refine lv_goto (tgt := 313) hx hb dX11_acts_292 (by decide) ?_
        obtain ⟨rfl, rfl⟩ := Prod.mk.inj (Option.some.inj hf)
        exact jq_vret hX hJ.2 dX11_acts_313 ⟨rfl, rfl, rfl, hJ.1⟩
  replace hf := o_f hf c12
  by_cases c15 : x2 = 6 ∨ x2 = 7 ∨ x2 = 8
  · replace hf := o_t hf c15
    refine lv_tableIn (off := 293) (tgt := 308) hx hb dX11_acts_15 (by rcases c15 with rfl | rfl | rfl <;> decide) (by rcases c15 with rfl | rfl | rfl <;> decide) (by rcases c15 with rfl | rfl | rfl <;> rfl) (by decide) ?_
    refine lv_aload_n hx hb dX11_acts_308 rfl (lv_at hl 1 rfl) ?_
    refine lv_iload_n hx hb dX11_acts_309 rfl (lv_at hl 2 rfl) ?_
    replace hf := o_call_e hf
    obtain ⟨_, S16, hq16, hf⟩ := hf
    refine jq_doM hX hJ (jq_okV (As := [.int p1]) (rest := []) hx hb hm ho ht (mJ.recv hX hJ) qw1012 qw1014 qs98 qw1015 qw7 hy_X11_reckons rfl hl.1 (Nat.le_of_ble_eq_true rfl) dX11_acts_310) (c_X11_reckons hq16) (Nat.le_of_ble_eq_true rfl) (Nat.le_of_ble_eq_true rfl) (Nat.le_refl _) (Nat.le_refl _) (fun H locs hJ' => ?_)
    clear hJ
    have hJ := hJ'
    clear hJ'
    obtain ⟨rfl, rfl⟩ := Prod.mk.inj (Option.some.inj hf)
    exact jq_vret hX hJ.2 dX11_acts_313 ⟨rfl, rfl, rfl, hJ.1⟩
  replace hf := o_f hf c15
  refine lv_tableOut (tgt := 308) hx hb dX11_acts_15 (by have e0 := sw_ne c1 (n := 0) (by decide); have e1 := sw_ne c2 (n := 1) (by decide); have e2 := sw_ne (fun z => c3 (Or.inl z)) (n := 2) (by decide); have e3 := sw_ne (fun z => c3 (Or.inr z)) (n := 3) (by decide); have e4 := sw_ne c5 (n := 4) (by decide); have e5 := sw_ne c7 (n := 5) (by decide); have e6 := sw_ne c11 (n := 9) (by decide); have e7 := sw_ne c12 (n := 10) (by decide); have e8 := sw_ne (fun z => c15 (Or.inl z)) (n := 6) (by decide); have e9 := sw_ne (fun z => c15 (Or.inr (Or.inl z))) (n := 7) (by decide); have e10 := sw_ne (fun z => c15 (Or.inr (Or.inr z))) (n := 8) (by decide); omega) (by decide) ?_
  refine lv_aload_n hx hb dX11_acts_308 rfl (lv_at hl 1 rfl) ?_
  refine lv_iload_n hx hb dX11_acts_309 rfl (lv_at hl 2 rfl) ?_
  replace hf := o_call_e hf
  obtain ⟨_, S17, hq17, hf⟩ := hf
  refine jq_doM hX hJ (jq_okV (As := [.int p1]) (rest := []) hx hb hm ho ht (mJ.recv hX hJ) qw1012 qw1014 qs98 qw1015 qw7 hy_X11_reckons rfl hl.1 (Nat.le_of_ble_eq_true rfl) dX11_acts_310) (c_X11_reckons hq17) (Nat.le_of_ble_eq_true rfl) (Nat.le_of_ble_eq_true rfl) (Nat.le_refl _) (Nat.le_refl _) (fun H locs hJ' => ?_)
  clear hJ
  have hJ := hJ'
  clear hJ'
  obtain ⟨rfl, rfl⟩ := Prod.mk.inj (Option.some.inj hf)
  exact jq_vret hX hJ.2 dX11_acts_313 ⟨rfl, rfl, rfl, hJ.1⟩
theorem dX11_pass_0 : decode cX11_pass 0 = .ok (.iconst 4, 1) := by decide +kernel
theorem dX11_pass_1 : decode cX11_pass 1 = .ok (.aload_n 0, 1) := by decide +kernel
theorem dX11_pass_2 : decode cX11_pass 2 = .ok (.getfield 263, 3) := by decide +kernel
theorem dX11_pass_5 : decode cX11_pass 5 = .ok (.iconst 1, 1) := by decide +kernel
theorem dX11_pass_6 : decode cX11_pass 6 = .ok (.isub, 1) := by decide +kernel
theorem dX11_pass_7 : decode cX11_pass 7 = .ok (.imul, 1) := by decide +kernel
theorem dX11_pass_8 : decode cX11_pass 8 = .ok (.istore_n 3, 1) := by decide +kernel
theorem dX11_pass_9 : decode cX11_pass 9 = .ok (.iload_n 2, 1) := by decide +kernel
theorem dX11_pass_10 : decode cX11_pass 10 = .ok (.istore 4, 2) := by decide +kernel
theorem dX11_pass_12 : decode cX11_pass 12 = .ok (.iload 4, 2) := by decide +kernel
theorem dX11_pass_14 : decode cX11_pass 14 = .ok (.iconst 4, 1) := by decide +kernel
theorem dX11_pass_15 : decode cX11_pass 15 = .ok (.if_icmp .ge 43, 3) := by decide +kernel
theorem dX11_pass_58 : decode cX11_pass 58 = .ok (.return_, 1) := by decide +kernel
theorem dX11_pass_18 : decode cX11_pass 18 = .ok (.iload_n 1, 1) := by decide +kernel
theorem dX11_pass_19 : decode cX11_pass 19 = .ok (.iload 4, 2) := by decide +kernel
theorem dX11_pass_21 : decode cX11_pass 21 = .ok (.iadd, 1) := by decide +kernel
theorem dX11_pass_22 : decode cX11_pass 22 = .ok (.iload_n 2, 1) := by decide +kernel
theorem dX11_pass_23 : decode cX11_pass 23 = .ok (.isub, 1) := by decide +kernel
theorem dX11_pass_24 : decode cX11_pass 24 = .ok (.istore 5, 2) := by decide +kernel
theorem dX11_pass_26 : decode cX11_pass 26 = .ok (.aload_n 0, 1) := by decide +kernel
theorem dX11_pass_27 : decode cX11_pass 27 = .ok (.getfield 75, 3) := by decide +kernel
theorem dX11_pass_30 : decode cX11_pass 30 = .ok (.iload 4, 2) := by decide +kernel
theorem dX11_pass_32 : decode cX11_pass 32 = .ok (.iload 5, 2) := by decide +kernel
theorem dX11_pass_34 : decode cX11_pass 34 = .ok (.iconst 4, 1) := by decide +kernel
theorem dX11_pass_35 : decode cX11_pass 35 = .ok (.if_icmp .ge 15, 3) := by decide +kernel
theorem dX11_pass_50 : decode cX11_pass 50 = .ok (.lconst 0, 1) := by decide +kernel
theorem dX11_pass_51 : decode cX11_pass 51 = .ok (.lastore, 1) := by decide +kernel
theorem dX11_pass_52 : decode cX11_pass 52 = .ok (.iinc 4 1, 3) := by decide +kernel
theorem dX11_pass_55 : decode cX11_pass 55 = .ok (.goto (-43), 3) := by decide +kernel
theorem dX11_pass_38 : decode cX11_pass 38 = .ok (.aload_n 0, 1) := by decide +kernel
theorem dX11_pass_39 : decode cX11_pass 39 = .ok (.getfield 60, 3) := by decide +kernel
theorem dX11_pass_42 : decode cX11_pass 42 = .ok (.iload_n 3, 1) := by decide +kernel
theorem dX11_pass_43 : decode cX11_pass 43 = .ok (.iload 5, 2) := by decide +kernel
theorem dX11_pass_45 : decode cX11_pass 45 = .ok (.iadd, 1) := by decide +kernel
theorem dX11_pass_46 : decode cX11_pass 46 = .ok (.laload, 1) := by decide +kernel
theorem dX11_pass_47 : decode cX11_pass 47 = .ok (.goto 4, 3) := by decide +kernel
theorem hy_X11_pass : yX11_pass.cls ≠ "java/lang/invoke/MethodHandle" ∧ yX11_pass.cls ≠ "java/lang/invoke/VarHandle" ∧ (parseMethodDescriptor yX11_pass.desc).map (fun d => d.parameters.length) = some 2 := ⟨by decide, by decide, by decide +kernel⟩
def f_X11_pass_b12 : Nat → Int32 → Int32 → Int32 → Int32 → mS → Option ((Unit) × mS)
  | 0, _, _, _, _, _ => none
  | n + 1, l1, l2, l3, l4, S => 
  if 4 ≤ l4 then (
  some ((), S)) else (
  if 4 ≤ ((l1 + l4) - l2) then (
  o_ck (¬ (l4 < 0 ∨ 4 ≤ (l4).toNatClampNeg)) (o_let (m_wL S 20 (l4).toNatClampNeg 0) fun S1 =>
  o_let (l4 + 1) fun x1 =>
  f_X11_pass_b12 n l1 l2 l3 x1 S1)) else (
  o_ck (¬ ((l3 + ((l1 + l4) - l2)) < 0 ∨ 132 ≤ ((l3 + ((l1 + l4) - l2))).toNatClampNeg)) (o_let (m_aL S 18 ((l3 + ((l1 + l4) - l2))).toNatClampNeg) fun x2 =>
  o_ck (¬ (l4 < 0 ∨ 4 ≤ (l4).toNatClampNeg)) (o_let (m_wL S 20 (l4).toNatClampNeg x2) fun S2 =>
  o_let (l4 + 1) fun x3 =>
  f_X11_pass_b12 n l1 l2 l3 x3 S2))))
set_option maxHeartbeats 4000000 in
set_option maxRecDepth 100000 in
theorem w_X11_pass_b12 {l : Launch} {D : va_G} {Y : Nat → ClassId} {aR : Nat → Nat} {A : Nat → Prop} {ad : Nat → Nat} {p : Program} {e : Env} {s : State} {m : MethodId} {args : Array Value} {below : List Frame} {meth : Method} {c : Code} : ∀ (n : Nat) (l1 : Int32) (l2 : Int32) (l3 : Int32) (l4 : Int32) (S S' : mS) (r : Unit) (H : Heap) (locs : List Loc) (ls : Array Slot), jq_X D Y aR A p s m args meth c cX11_pass RX11 "pass" 6 none → mJ D Y A s ad S H locs → f_X11_pass_b12 n l1 l2 l3 l4 S = some (r, S') → lv_has ls 6 [(0, .ref (ad 0)), (1, .int l1), (2, .int l2), (3, .int l3), (4, .int l4)] → W p l e { frames := 0, cells := 0, slots := 0, locals := 0 } s m args below meth c H locs 0 0 (jq_Z below A (fun v k n H => v = none ∧ k = 0 ∧ n = 0 ∧ mH D Y A ad S' H) s) (F0 m 12 ls []) := by
  intro n
  induction n with
  | zero =>
    intro l1 l2 l3 l4 S S' r H locs ls hX hJ hf hl
    cases hf
  | succ n ih =>
    intro l1 l2 l3 l4 S S' r H locs ls hX hJ hf hl
    rw [f_X11_pass_b12.eq_2] at hf
    have hx := hX.1
    have hb := hX.2.1
    have hm := hX.2.2.1
    have ho := hX.2.2.2.1
    have ht := hX.2.2.2.2.1
    have hn := hX.2.2.2.2.2.1.2.1
    refine lv_iload hx hb dX11_pass_12 (lv_at hl 4 rfl) ?_
    refine lv_iconst (v := 4) hx hb dX11_pass_14 (by decide) ?_
    refine lv_icmp_ge (tgt := 58) hx hb dX11_pass_15 (by decide) (fun c1 => ?_) (fun c1 => ?_)
    · replace hf := o_t hf c1
      obtain ⟨rfl, rfl⟩ := Prod.mk.inj (Option.some.inj hf)
      exact jq_vret hX hJ.2 dX11_pass_58 ⟨rfl, rfl, rfl, hJ.1⟩
    · replace hf := o_f hf c1
      refine lv_iload_n hx hb dX11_pass_18 rfl (lv_at hl 1 rfl) ?_
      refine lv_iload hx hb dX11_pass_19 (lv_at hl 4 rfl) ?_
      refine lv_iadd hx hb dX11_pass_21 ?_
      refine lv_iload_n hx hb dX11_pass_22 rfl (lv_at hl 2 rfl) ?_
      refine lv_isub hx hb dX11_pass_23 ?_
      refine lv_istore (lv' := [(5, .int ((l1 + l4) - l2)), (0, .ref (ad 0)), (1, .int l1), (2, .int l2), (3, .int l3), (4, .int l4)]) hx hb dX11_pass_24 hl (by decide) rfl (fun ls hl' => ?_)
      clear hl
      have hl := hl'
      clear hl'
      refine lv_aload_n hx hb dX11_pass_26 rfl (lv_at hl 1 rfl) ?_
      refine mg_hand hX hJ qw724 dX11_pass_27 ?_
      refine lv_iload hx hb dX11_pass_30 (lv_at hl 5 rfl) ?_
      refine lv_iload hx hb dX11_pass_32 (lv_at hl 0 rfl) ?_
      refine lv_iconst (v := 4) hx hb dX11_pass_34 (by decide) ?_
      refine lv_icmp_ge (tgt := 50) hx hb dX11_pass_35 (by decide) (fun c2 => ?_) (fun c2 => ?_)
      · replace hf := o_t hf c2
        refine lv_lconst (v := 0) hx hb dX11_pass_50 (by decide) ?_
        replace hf := o_ck_e hf
        obtain ⟨hk1, hf⟩ := hf
        replace hf := o_let_e hf
        obtain ⟨S1, hS1, hf⟩ := hf
        refine mw_L 20 hX hJ (by decide) hk1 hS1 dX11_pass_51 (fun H locs hJ' => ?_)
        clear hJ
        have hJ := hJ'
        clear hJ'
        replace hf := o_let_e hf
        obtain ⟨x1, hx1, hf⟩ := hf
        refine lv_iinc (v := x1) (lv' := [(4, .int x1), (5, .int ((l1 + l4) - l2)), (0, .ref (ad 0)), (1, .int l1), (2, .int l2), (3, .int l3)]) hx hb dX11_pass_52 hl (k := 5) rfl (by rw [← hx1]; rfl) (by decide) rfl (fun ls hl' => ?_)
        clear hl
        have hl := hl'
        clear hl'
        refine lv_goto (tgt := 12) hx hb dX11_pass_55 (by decide) ?_
        replace hl := lv_sub hl (l' := [(0, .ref (ad 0)), (1, .int l1), (2, .int l2), (3, .int l3), (4, .int x1)]) [2, 3, 4, 5, 0] rfl
        exact ih l1 l2 l3 x1 S1 S' r H locs ls hX hJ hf hl
      · replace hf := o_f hf c2
        refine lv_aload_n hx hb dX11_pass_38 rfl (lv_at hl 1 rfl) ?_
        refine mg_par hX hJ qw713 dX11_pass_39 ?_
        refine lv_iload_n hx hb dX11_pass_42 rfl (lv_at hl 4 rfl) ?_
        refine lv_iload hx hb dX11_pass_43 (lv_at hl 0 rfl) ?_
        refine lv_iadd hx hb dX11_pass_45 ?_
        replace hf := o_ck_e hf
        obtain ⟨hk2, hf⟩ := hf
        replace hf := o_let_e hf
        obtain ⟨x2, hx2, hf⟩ := hf
        refine ma_L 18 hX hJ (by decide) hk2 hx2 dX11_pass_46 ?_
        refine lv_goto (tgt := 51) hx hb dX11_pass_47 (by decide) ?_
        replace hf := o_ck_e hf
        obtain ⟨hk3, hf⟩ := hf
        replace hf := o_let_e hf
        obtain ⟨S2, hS2, hf⟩ := hf
        refine mw_L 20 hX hJ (by decide) hk3 hS2 dX11_pass_51 (fun H locs hJ' => ?_)
        clear hJ
        have hJ := hJ'
        clear hJ'
        replace hf := o_let_e hf
        obtain ⟨x3, hx3, hf⟩ := hf
        refine lv_iinc (v := x3) (lv' := [(4, .int x3), (5, .int ((l1 + l4) - l2)), (0, .ref (ad 0)), (1, .int l1), (2, .int l2), (3, .int l3)]) hx hb dX11_pass_52 hl (k := 5) rfl (by rw [← hx3]; rfl) (by decide) rfl (fun ls hl' => ?_)
        clear hl
        have hl := hl'
        clear hl'
        refine lv_goto (tgt := 12) hx hb dX11_pass_55 (by decide) ?_
        replace hl := lv_sub hl (l' := [(0, .ref (ad 0)), (1, .int l1), (2, .int l2), (3, .int l3), (4, .int x3)]) [2, 3, 4, 5, 0] rfl
        exact ih l1 l2 l3 x3 S2 S' r H locs ls hX hJ hf hl
def f_X11_pass (p1 : Int32) (p2 : Int32) (S : mS) : Option ((Unit) × mS) :=
  o_let (m_I S 7) fun x1 =>
  f_X11_pass_b12 12 p1 p2 ((4 : Int32) * (x1 - (1 : Int32))) p2 S
set_option maxHeartbeats 4000000 in
set_option maxRecDepth 100000 in
theorem c_X11_pass {l : Launch} {D : va_G} {Y : Nat → ClassId} {aR : Nat → Nat} {A : Nat → Prop} {ad : Nat → Nat} {p1 : Int32} {p2 : Int32} {S S' : mS} {r : Unit} (hf : f_X11_pass p1 p2 S = some (r, S')) : jq_M l D Y aR A ad yX11_pass cX11_pass 6 none 0 0 [.ref (ad 0), .int p1, .int p2] S none S' := by
  unfold f_X11_pass at hf
  refine jq_enterM (by decide) (Nat.le_of_ble_eq_true rfl) fun p e s m args below meth c ls H locs hX hJ hl => ?_
  have hl : lv_has ls 6 [(0, .ref (ad 0)), (1, .int p1), (2, .int p2)] := hl
  have hx := hX.1
  have hb := hX.2.1
  have hm := hX.2.2.1
  have ho := hX.2.2.2.1
  have ht := hX.2.2.2.2.1
  have hn := hX.2.2.2.2.2.1.2.1
  refine lv_iconst (v := 4) hx hb dX11_pass_0 (by decide) ?_
  refine lv_aload_n hx hb dX11_pass_1 rfl (lv_at hl 0 rfl) ?_
  replace hf := o_let_e hf
  obtain ⟨x1, hx1, hf⟩ := hf
  refine mg_depth hX hJ hx1 qw710 dX11_pass_2 ?_
  refine lv_iconst (v := 1) hx hb dX11_pass_5 (by decide) ?_
  refine lv_isub hx hb dX11_pass_6 ?_
  refine lv_imul hx hb dX11_pass_7 ?_
  refine lv_istore_n (lv' := [(3, .int ((4 : Int32) * (x1 - (1 : Int32)))), (0, .ref (ad 0)), (1, .int p1), (2, .int p2)]) hx hb dX11_pass_8 rfl hl (by decide) rfl (fun ls hl' => ?_)
  clear hl
  have hl := hl'
  clear hl'
  refine lv_iload_n hx hb dX11_pass_9 rfl (lv_at hl 3 rfl) ?_
  refine lv_istore (lv' := [(4, .int p2), (3, .int ((4 : Int32) * (x1 - (1 : Int32)))), (0, .ref (ad 0)), (1, .int p1), (2, .int p2)]) hx hb dX11_pass_10 hl (by decide) rfl (fun ls hl' => ?_)
  clear hl
  have hl := hl'
  clear hl'
  replace hl := lv_sub hl (l' := [(0, .ref (ad 0)), (1, .int p1), (2, .int p2), (3, .int ((4 : Int32) * (x1 - (1 : Int32)))), (4, .int p2)]) [2, 3, 4, 1, 0] rfl
  exact w_X11_pass_b12 12 p1 p2 ((4 : Int32) * (x1 - (1 : Int32))) p2 S S' r H locs ls hX hJ hf hl
theorem dX11_begins_0 : decode cX11_begins 0 = .ok (.aload_n 0, 1) := by decide +kernel
theorem dX11_begins_1 : decode cX11_begins 1 = .ok (.getfield 30, 3) := by decide +kernel
theorem dX11_begins_4 : decode cX11_begins 4 = .ok (.iload_n 1, 1) := by decide +kernel
theorem dX11_begins_5 : decode cX11_begins 5 = .ok (.iaload, 1) := by decide +kernel
theorem dX11_begins_6 : decode cX11_begins 6 = .ok (.lookupswitch 84 #[(15, 26), (16, 65)], 26) := by decide +kernel
theorem dX11_begins_32 : decode cX11_begins 32 = .ok (.aload_n 0, 1) := by decide +kernel
theorem dX11_begins_33 : decode cX11_begins 33 = .ok (.getfield 75, 3) := by decide +kernel
theorem dX11_begins_36 : decode cX11_begins 36 = .ok (.iconst 0, 1) := by decide +kernel
theorem dX11_begins_37 : decode cX11_begins 37 = .ok (.aload_n 0, 1) := by decide +kernel
theorem dX11_begins_38 : decode cX11_begins 38 = .ok (.getfield 60, 3) := by decide +kernel
theorem dX11_begins_41 : decode cX11_begins 41 = .ok (.iconst 4, 1) := by decide +kernel
theorem dX11_begins_42 : decode cX11_begins 42 = .ok (.aload_n 0, 1) := by decide +kernel
theorem dX11_begins_43 : decode cX11_begins 43 = .ok (.getfield 263, 3) := by decide +kernel
theorem dX11_begins_46 : decode cX11_begins 46 = .ok (.iconst 1, 1) := by decide +kernel
theorem dX11_begins_47 : decode cX11_begins 47 = .ok (.isub, 1) := by decide +kernel
theorem dX11_begins_48 : decode cX11_begins 48 = .ok (.imul, 1) := by decide +kernel
theorem dX11_begins_49 : decode cX11_begins 49 = .ok (.aload_n 0, 1) := by decide +kernel
theorem dX11_begins_50 : decode cX11_begins 50 = .ok (.getfield 36, 3) := by decide +kernel
theorem dX11_begins_53 : decode cX11_begins 53 = .ok (.iload_n 1, 1) := by decide +kernel
theorem dX11_begins_54 : decode cX11_begins 54 = .ok (.iaload, 1) := by decide +kernel
theorem dX11_begins_55 : decode cX11_begins 55 = .ok (.iadd, 1) := by decide +kernel
theorem dX11_begins_56 : decode cX11_begins 56 = .ok (.laload, 1) := by decide +kernel
theorem dX11_begins_57 : decode cX11_begins 57 = .ok (.lastore, 1) := by decide +kernel
theorem dX11_begins_58 : decode cX11_begins 58 = .ok (.aload_n 0, 1) := by decide +kernel
theorem dX11_begins_59 : decode cX11_begins 59 = .ok (.aload_n 0, 1) := by decide +kernel
theorem dX11_begins_60 : decode cX11_begins 60 = .ok (.getfield 39, 3) := by decide +kernel
theorem dX11_begins_63 : decode cX11_begins 63 = .ok (.iload_n 1, 1) := by decide +kernel
theorem dX11_begins_64 : decode cX11_begins 64 = .ok (.iaload, 1) := by decide +kernel
theorem dX11_begins_65 : decode cX11_begins 65 = .ok (.invokevirtual 300, 3) := by decide +kernel
theorem dX11_begins_68 : decode cX11_begins 68 = .ok (.goto 38, 3) := by decide +kernel
theorem dX11_begins_106 : decode cX11_begins 106 = .ok (.return_, 1) := by decide +kernel
theorem dX11_begins_71 : decode cX11_begins 71 = .ok (.aload_n 0, 1) := by decide +kernel
theorem dX11_begins_72 : decode cX11_begins 72 = .ok (.iconst 0, 1) := by decide +kernel
theorem dX11_begins_73 : decode cX11_begins 73 = .ok (.iconst 0, 1) := by decide +kernel
theorem dX11_begins_74 : decode cX11_begins 74 = .ok (.invokevirtual 293, 3) := by decide +kernel
theorem dX11_begins_77 : decode cX11_begins 77 = .ok (.aload_n 0, 1) := by decide +kernel
theorem dX11_begins_78 : decode cX11_begins 78 = .ok (.aload_n 0, 1) := by decide +kernel
theorem dX11_begins_79 : decode cX11_begins 79 = .ok (.getfield 36, 3) := by decide +kernel
theorem dX11_begins_82 : decode cX11_begins 82 = .ok (.iload_n 1, 1) := by decide +kernel
theorem dX11_begins_83 : decode cX11_begins 83 = .ok (.iaload, 1) := by decide +kernel
theorem dX11_begins_84 : decode cX11_begins 84 = .ok (.invokevirtual 300, 3) := by decide +kernel
theorem dX11_begins_87 : decode cX11_begins 87 = .ok (.goto 19, 3) := by decide +kernel
theorem dX11_begins_90 : decode cX11_begins 90 = .ok (.aload_n 0, 1) := by decide +kernel
theorem dX11_begins_91 : decode cX11_begins 91 = .ok (.iconst 0, 1) := by decide +kernel
theorem dX11_begins_92 : decode cX11_begins 92 = .ok (.iconst 0, 1) := by decide +kernel
theorem dX11_begins_93 : decode cX11_begins 93 = .ok (.invokevirtual 293, 3) := by decide +kernel
theorem dX11_begins_96 : decode cX11_begins 96 = .ok (.aload_n 0, 1) := by decide +kernel
theorem dX11_begins_97 : decode cX11_begins 97 = .ok (.aload_n 0, 1) := by decide +kernel
theorem dX11_begins_98 : decode cX11_begins 98 = .ok (.getfield 33, 3) := by decide +kernel
theorem dX11_begins_101 : decode cX11_begins 101 = .ok (.iload_n 1, 1) := by decide +kernel
theorem dX11_begins_102 : decode cX11_begins 102 = .ok (.iaload, 1) := by decide +kernel
theorem dX11_begins_103 : decode cX11_begins 103 = .ok (.invokevirtual 300, 3) := by decide +kernel
theorem hy_X11_begins : yX11_begins.cls ≠ "java/lang/invoke/MethodHandle" ∧ yX11_begins.cls ≠ "java/lang/invoke/VarHandle" ∧ (parseMethodDescriptor yX11_begins.desc).map (fun d => d.parameters.length) = some 1 := ⟨by decide, by decide, by decide +kernel⟩
def f_X11_begins (p1 : Int32) (S : mS) : Option ((Unit) × mS) :=
  o_ck (¬ (p1 < 0 ∨ 32 ≤ (p1).toNatClampNeg)) (o_let (m_aI S 4 (p1).toNatClampNeg) fun x1 =>
  if x1 = 15 then (
  o_let (m_I S 7) fun x2 =>
  o_ck (¬ (p1 < 0 ∨ 32 ≤ (p1).toNatClampNeg)) (o_let (m_aI S 6 (p1).toNatClampNeg) fun x3 =>
  o_ck (¬ ((((4 : Int32) * (x2 - (1 : Int32))) + x3) < 0 ∨ 132 ≤ ((((4 : Int32) * (x2 - (1 : Int32))) + x3)).toNatClampNeg)) (o_let (m_aL S 18 ((((4 : Int32) * (x2 - (1 : Int32))) + x3)).toNatClampNeg) fun x4 =>
  o_ck (¬ ((0 : Int32) < 0 ∨ 4 ≤ ((0 : Int32)).toNatClampNeg)) (o_let (m_wL S 20 ((0 : Int32)).toNatClampNeg x4) fun S1 =>
  o_ck (¬ (p1 < 0 ∨ 32 ≤ (p1).toNatClampNeg)) (o_let (m_aI S1 7 (p1).toNatClampNeg) fun x5 =>
  o_call (f_X11_begin x5 S1) fun _ S2 =>
  some ((), S2)))))) else (
  if x1 = 16 then (
  o_call (f_X11_pass 0 0 S) fun _ S3 =>
  o_ck (¬ (p1 < 0 ∨ 32 ≤ (p1).toNatClampNeg)) (o_let (m_aI S3 6 (p1).toNatClampNeg) fun x6 =>
  o_call (f_X11_begin x6 S3) fun _ S4 =>
  some ((), S4))) else (
  o_call (f_X11_pass 0 0 S) fun _ S5 =>
  o_ck (¬ (p1 < 0 ∨ 32 ≤ (p1).toNatClampNeg)) (o_let (m_aI S5 5 (p1).toNatClampNeg) fun x7 =>
  o_call (f_X11_begin x7 S5) fun _ S6 =>
  some ((), S6)))))
set_option maxHeartbeats 4000000 in
set_option maxRecDepth 100000 in
theorem c_X11_begins {l : Launch} {D : va_G} {Y : Nat → ClassId} {aR : Nat → Nat} {A : Nat → Prop} {ad : Nat → Nat} {p1 : Int32} {S S' : mS} {r : Unit} (hf : f_X11_begins p1 S = some (r, S')) : jq_M l D Y aR A ad yX11_begins cX11_begins 2 none 1 25 [.ref (ad 0), .int p1] S none S' := by
  unfold f_X11_begins at hf
  refine jq_enterM (by decide) (Nat.le_of_ble_eq_true rfl) fun p e s m args below meth c ls H locs hX hJ hl => ?_
  have hl : lv_has ls 2 [(0, .ref (ad 0)), (1, .int p1)] := hl
  have hx := hX.1
  have hb := hX.2.1
  have hm := hX.2.2.1
  have ho := hX.2.2.2.1
  have ht := hX.2.2.2.2.1
  have hn := hX.2.2.2.2.2.1.2.1
  refine lv_aload_n hx hb dX11_begins_0 rfl (lv_at hl 0 rfl) ?_
  refine mg_sortOf hX hJ qw698 dX11_begins_1 ?_
  refine lv_iload_n hx hb dX11_begins_4 rfl (lv_at hl 1 rfl) ?_
  replace hf := o_ck_e hf
  obtain ⟨hk1, hf⟩ := hf
  replace hf := o_let_e hf
  obtain ⟨x1, hx1, hf⟩ := hf
  refine ma_I 4 hX hJ (by decide) hk1 hx1 dX11_begins_5 ?_
  by_cases c1 : x1 = 15
  · replace hf := o_t hf c1
    refine lv_lookup (off := 26) (tgt := 32) hx hb dX11_begins_6 (by decide) (by rcases c1 with rfl <;> rfl) (by decide) ?_
    refine lv_aload_n hx hb dX11_begins_32 rfl (lv_at hl 0 rfl) ?_
    refine mg_hand hX hJ qw724 dX11_begins_33 ?_
    refine lv_iconst (v := 0) hx hb dX11_begins_36 (by decide) ?_
    refine lv_aload_n hx hb dX11_begins_37 rfl (lv_at hl 0 rfl) ?_
    refine mg_par hX hJ qw713 dX11_begins_38 ?_
    refine lv_iconst (v := 4) hx hb dX11_begins_41 (by decide) ?_
    refine lv_aload_n hx hb dX11_begins_42 rfl (lv_at hl 0 rfl) ?_
    replace hf := o_let_e hf
    obtain ⟨x2, hx2, hf⟩ := hf
    refine mg_depth hX hJ hx2 qw710 dX11_begins_43 ?_
    refine lv_iconst (v := 1) hx hb dX11_begins_46 (by decide) ?_
    refine lv_isub hx hb dX11_begins_47 ?_
    refine lv_imul hx hb dX11_begins_48 ?_
    refine lv_aload_n hx hb dX11_begins_49 rfl (lv_at hl 0 rfl) ?_
    refine mg_bOf hX hJ qw700 dX11_begins_50 ?_
    refine lv_iload_n hx hb dX11_begins_53 rfl (lv_at hl 1 rfl) ?_
    replace hf := o_ck_e hf
    obtain ⟨hk2, hf⟩ := hf
    replace hf := o_let_e hf
    obtain ⟨x3, hx3, hf⟩ := hf
    refine ma_I 6 hX hJ (by decide) hk2 hx3 dX11_begins_54 ?_
    refine lv_iadd hx hb dX11_begins_55 ?_
    replace hf := o_ck_e hf
    obtain ⟨hk3, hf⟩ := hf
    replace hf := o_let_e hf
    obtain ⟨x4, hx4, hf⟩ := hf
    refine ma_L 18 hX hJ (by decide) hk3 hx4 dX11_begins_56 ?_
    replace hf := o_ck_e hf
    obtain ⟨hk4, hf⟩ := hf
    replace hf := o_let_e hf
    obtain ⟨S1, hS1, hf⟩ := hf
    refine mw_L 20 hX hJ (by decide) hk4 hS1 dX11_begins_57 (fun H locs hJ' => ?_)
    clear hJ
    have hJ := hJ'
    clear hJ'
    refine lv_aload_n hx hb dX11_begins_58 rfl (lv_at hl 0 rfl) ?_
    refine lv_aload_n hx hb dX11_begins_59 rfl (lv_at hl 0 rfl) ?_
    refine mg_cOf hX hJ qw701 dX11_begins_60 ?_
    refine lv_iload_n hx hb dX11_begins_63 rfl (lv_at hl 1 rfl) ?_
    replace hf := o_ck_e hf
    obtain ⟨hk5, hf⟩ := hf
    replace hf := o_let_e hf
    obtain ⟨x5, hx5, hf⟩ := hf
    refine ma_I 7 hX hJ (by decide) hk5 hx5 dX11_begins_64 ?_
    replace hf := o_call_e hf
    obtain ⟨_, S2, hq1, hf⟩ := hf
    refine jq_doM hX hJ (jq_okV (As := [.int x5]) (rest := []) hx hb hm ho ht (mJ.recv hX hJ) qw988 qw990 qs92 qw991 qw7 hy_X11_begin rfl hl.1 (Nat.le_of_ble_eq_true rfl) dX11_begins_65) (c_X11_begin hq1) (Nat.le_of_ble_eq_true rfl) (Nat.le_of_ble_eq_true rfl) (Nat.le_refl _) (Nat.le_refl _) (fun H locs hJ' => ?_)
    clear hJ
    have hJ := hJ'
    clear hJ'
    refine lv_goto (tgt := 106) hx hb dX11_begins_68 (by decide) ?_
    obtain ⟨rfl, rfl⟩ := Prod.mk.inj (Option.some.inj hf)
    exact jq_vret hX hJ.2 dX11_begins_106 ⟨rfl, rfl, rfl, hJ.1⟩
  replace hf := o_f hf c1
  by_cases c2 : x1 = 16
  · replace hf := o_t hf c2
    refine lv_lookup (off := 65) (tgt := 71) hx hb dX11_begins_6 (by decide) (by rcases c2 with rfl <;> rfl) (by decide) ?_
    refine lv_aload_n hx hb dX11_begins_71 rfl (lv_at hl 0 rfl) ?_
    refine lv_iconst (v := 0) hx hb dX11_begins_72 (by decide) ?_
    refine lv_iconst (v := 0) hx hb dX11_begins_73 (by decide) ?_
    replace hf := o_call_e hf
    obtain ⟨_, S3, hq2, hf⟩ := hf
    refine jq_doM hX hJ (jq_okV (As := [.int 0, .int 0]) (rest := []) hx hb hm ho ht (mJ.recv hX hJ) qw1033 qw1035 qs101 qw1036 qw7 hy_X11_pass rfl hl.1 (Nat.le_of_ble_eq_true rfl) dX11_begins_74) (c_X11_pass hq2) (Nat.le_of_ble_eq_true rfl) (Nat.le_of_ble_eq_true rfl) (Nat.le_refl _) (Nat.le_refl _) (fun H locs hJ' => ?_)
    clear hJ
    have hJ := hJ'
    clear hJ'
    refine lv_aload_n hx hb dX11_begins_77 rfl (lv_at hl 0 rfl) ?_
    refine lv_aload_n hx hb dX11_begins_78 rfl (lv_at hl 0 rfl) ?_
    refine mg_bOf hX hJ qw700 dX11_begins_79 ?_
    refine lv_iload_n hx hb dX11_begins_82 rfl (lv_at hl 1 rfl) ?_
    replace hf := o_ck_e hf
    obtain ⟨hk6, hf⟩ := hf
    replace hf := o_let_e hf
    obtain ⟨x6, hx6, hf⟩ := hf
    refine ma_I 6 hX hJ (by decide) hk6 hx6 dX11_begins_83 ?_
    replace hf := o_call_e hf
    obtain ⟨_, S4, hq3, hf⟩ := hf
    refine jq_doM hX hJ (jq_okV (As := [.int x6]) (rest := []) hx hb hm ho ht (mJ.recv hX hJ) qw988 qw990 qs92 qw991 qw7 hy_X11_begin rfl hl.1 (Nat.le_of_ble_eq_true rfl) dX11_begins_84) (c_X11_begin hq3) (Nat.le_of_ble_eq_true rfl) (Nat.le_of_ble_eq_true rfl) (Nat.le_refl _) (Nat.le_refl _) (fun H locs hJ' => ?_)
    clear hJ
    have hJ := hJ'
    clear hJ'
    refine lv_goto (tgt := 106) hx hb dX11_begins_87 (by decide) ?_
    obtain ⟨rfl, rfl⟩ := Prod.mk.inj (Option.some.inj hf)
    exact jq_vret hX hJ.2 dX11_begins_106 ⟨rfl, rfl, rfl, hJ.1⟩
  replace hf := o_f hf c2
  refine lv_lookup (off := 84) (tgt := 90) hx hb dX11_begins_6 (by decide) (by show Op.lookupswitch.offset [(15, 26), (16, 65)] _ _ = _; rw [lv_osw c1 (by decide), lv_osw c2 (by decide)]; rfl) (by decide) ?_
  refine lv_aload_n hx hb dX11_begins_90 rfl (lv_at hl 0 rfl) ?_
  refine lv_iconst (v := 0) hx hb dX11_begins_91 (by decide) ?_
  refine lv_iconst (v := 0) hx hb dX11_begins_92 (by decide) ?_
  replace hf := o_call_e hf
  obtain ⟨_, S5, hq4, hf⟩ := hf
  refine jq_doM hX hJ (jq_okV (As := [.int 0, .int 0]) (rest := []) hx hb hm ho ht (mJ.recv hX hJ) qw1033 qw1035 qs101 qw1036 qw7 hy_X11_pass rfl hl.1 (Nat.le_of_ble_eq_true rfl) dX11_begins_93) (c_X11_pass hq4) (Nat.le_of_ble_eq_true rfl) (Nat.le_of_ble_eq_true rfl) (Nat.le_refl _) (Nat.le_refl _) (fun H locs hJ' => ?_)
  clear hJ
  have hJ := hJ'
  clear hJ'
  refine lv_aload_n hx hb dX11_begins_96 rfl (lv_at hl 0 rfl) ?_
  refine lv_aload_n hx hb dX11_begins_97 rfl (lv_at hl 0 rfl) ?_
  refine mg_aOf hX hJ qw699 dX11_begins_98 ?_
  refine lv_iload_n hx hb dX11_begins_101 rfl (lv_at hl 1 rfl) ?_
  replace hf := o_ck_e hf
  obtain ⟨hk7, hf⟩ := hf
  replace hf := o_let_e hf
  obtain ⟨x7, hx7, hf⟩ := hf
  refine ma_I 5 hX hJ (by decide) hk7 hx7 dX11_begins_102 ?_
  replace hf := o_call_e hf
  obtain ⟨_, S6, hq5, hf⟩ := hf
  refine jq_doM hX hJ (jq_okV (As := [.int x7]) (rest := []) hx hb hm ho ht (mJ.recv hX hJ) qw988 qw990 qs92 qw991 qw7 hy_X11_begin rfl hl.1 (Nat.le_of_ble_eq_true rfl) dX11_begins_103) (c_X11_begin hq5) (Nat.le_of_ble_eq_true rfl) (Nat.le_of_ble_eq_true rfl) (Nat.le_refl _) (Nat.le_refl _) (fun H locs hJ' => ?_)
  clear hJ
  have hJ := hJ'
  clear hJ'
  obtain ⟨rfl, rfl⟩ := Prod.mk.inj (Option.some.inj hf)
  exact jq_vret hX hJ.2 dX11_begins_106 ⟨rfl, rfl, rfl, hJ.1⟩
theorem dX11_giveOn_0 : decode cX11_giveOn 0 = .ok (.aload_n 0, 1) := by decide +kernel
theorem dX11_giveOn_1 : decode cX11_giveOn 1 = .ok (.dup, 1) := by decide +kernel
theorem dX11_giveOn_2 : decode cX11_giveOn 2 = .ok (.getfield 263, 3) := by decide +kernel
theorem dX11_giveOn_5 : decode cX11_giveOn 5 = .ok (.iconst 1, 1) := by decide +kernel
theorem dX11_giveOn_6 : decode cX11_giveOn 6 = .ok (.isub, 1) := by decide +kernel
theorem dX11_giveOn_7 : decode cX11_giveOn 7 = .ok (.putfield 263, 3) := by decide +kernel
theorem dX11_giveOn_10 : decode cX11_giveOn 10 = .ok (.return_, 1) := by decide +kernel
theorem hy_X11_giveOn : yX11_giveOn.cls ≠ "java/lang/invoke/MethodHandle" ∧ yX11_giveOn.cls ≠ "java/lang/invoke/VarHandle" ∧ (parseMethodDescriptor yX11_giveOn.desc).map (fun d => d.parameters.length) = some 0 := ⟨by decide, by decide, by decide +kernel⟩
def f_X11_giveOn  (S : mS) : Option ((Unit) × mS) :=
  o_let (m_I S 7) fun x1 =>
  o_let (m_pI S 7 (x1 - (1 : Int32))) fun S1 =>
  some ((), S1)
set_option maxHeartbeats 4000000 in
set_option maxRecDepth 100000 in
theorem c_X11_giveOn {l : Launch} {D : va_G} {Y : Nat → ClassId} {aR : Nat → Nat} {A : Nat → Prop} {ad : Nat → Nat}  {S S' : mS} {r : Unit} (hf : f_X11_giveOn S = some (r, S')) : jq_M l D Y aR A ad yX11_giveOn cX11_giveOn 1 none 0 0 [.ref (ad 0)] S none S' := by
  unfold f_X11_giveOn at hf
  refine jq_enterM (by decide) (Nat.le_of_ble_eq_true rfl) fun p e s m args below meth c ls H locs hX hJ hl => ?_
  have hl : lv_has ls 1 [(0, .ref (ad 0))] := hl
  have hx := hX.1
  have hb := hX.2.1
  have hm := hX.2.2.1
  have ho := hX.2.2.2.1
  have ht := hX.2.2.2.2.1
  have hn := hX.2.2.2.2.2.1.2.1
  refine lv_aload_n hx hb dX11_giveOn_0 rfl (lv_at hl 0 rfl) ?_
  refine lv_dup hx hb dX11_giveOn_1 rfl ?_
  replace hf := o_let_e hf
  obtain ⟨x1, hx1, hf⟩ := hf
  refine mg_depth hX hJ hx1 qw710 dX11_giveOn_2 ?_
  refine lv_iconst (v := 1) hx hb dX11_giveOn_5 (by decide) ?_
  refine lv_isub hx hb dX11_giveOn_6 ?_
  replace hf := o_let_e hf
  obtain ⟨S1, hS1, hf⟩ := hf
  refine mp_depth hX hJ hS1 qw710 dX11_giveOn_7 (fun H locs hJ' => ?_)
  clear hJ
  have hJ := hJ'
  clear hJ'
  obtain ⟨rfl, rfl⟩ := Prod.mk.inj (Option.some.inj hf)
  exact jq_vret hX hJ.2 dX11_giveOn_10 ⟨rfl, rfl, rfl, hJ.1⟩
theorem dX11_catches_0 : decode cX11_catches 0 = .ok (.aload_n 0, 1) := by decide +kernel
theorem dX11_catches_1 : decode cX11_catches 1 = .ok (.getfield 263, 3) := by decide +kernel
theorem dX11_catches_4 : decode cX11_catches 4 = .ok (.iconst 1, 1) := by decide +kernel
theorem dX11_catches_5 : decode cX11_catches 5 = .ok (.isub, 1) := by decide +kernel
theorem dX11_catches_6 : decode cX11_catches 6 = .ok (.istore_n 2, 1) := by decide +kernel
theorem dX11_catches_7 : decode cX11_catches 7 = .ok (.aload_n 0, 1) := by decide +kernel
theorem dX11_catches_8 : decode cX11_catches 8 = .ok (.getfield 57, 3) := by decide +kernel
theorem dX11_catches_11 : decode cX11_catches 11 = .ok (.iload_n 2, 1) := by decide +kernel
theorem dX11_catches_12 : decode cX11_catches 12 = .ok (.iaload, 1) := by decide +kernel
theorem dX11_catches_13 : decode cX11_catches 13 = .ok (.iconst 2, 1) := by decide +kernel
theorem dX11_catches_14 : decode cX11_catches 14 = .ok (.if_icmp .ne 46, 3) := by decide +kernel
theorem dX11_catches_60 : decode cX11_catches 60 = .ok (.iconst 0, 1) := by decide +kernel
theorem dX11_catches_17 : decode cX11_catches 17 = .ok (.aload_n 0, 1) := by decide +kernel
theorem dX11_catches_18 : decode cX11_catches 18 = .ok (.getfield 257, 3) := by decide +kernel
theorem dX11_catches_21 : decode cX11_catches 21 = .ok (.ifCond .eq 39, 3) := by decide +kernel
theorem dX11_catches_24 : decode cX11_catches 24 = .ok (.aload_n 0, 1) := by decide +kernel
theorem dX11_catches_25 : decode cX11_catches 25 = .ok (.getfield 257, 3) := by decide +kernel
theorem dX11_catches_28 : decode cX11_catches 28 = .ok (.bipush 7, 2) := by decide +kernel
theorem dX11_catches_30 : decode cX11_catches 30 = .ok (.if_icmp .eq 30, 3) := by decide +kernel
theorem dX11_catches_33 : decode cX11_catches 33 = .ok (.aload_n 0, 1) := by decide +kernel
theorem dX11_catches_34 : decode cX11_catches 34 = .ok (.getfield 36, 3) := by decide +kernel
theorem dX11_catches_37 : decode cX11_catches 37 = .ok (.iload_n 1, 1) := by decide +kernel
theorem dX11_catches_38 : decode cX11_catches 38 = .ok (.iaload, 1) := by decide +kernel
theorem dX11_catches_39 : decode cX11_catches 39 = .ok (.iconst (-1), 1) := by decide +kernel
theorem dX11_catches_40 : decode cX11_catches 40 = .ok (.if_icmp .eq 16, 3) := by decide +kernel
theorem dX11_catches_56 : decode cX11_catches 56 = .ok (.iconst 1, 1) := by decide +kernel
theorem dX11_catches_57 : decode cX11_catches 57 = .ok (.goto 4, 3) := by decide +kernel
theorem dX11_catches_43 : decode cX11_catches 43 = .ok (.aload_n 0, 1) := by decide +kernel
theorem dX11_catches_44 : decode cX11_catches 44 = .ok (.getfield 36, 3) := by decide +kernel
theorem dX11_catches_47 : decode cX11_catches 47 = .ok (.iload_n 1, 1) := by decide +kernel
theorem dX11_catches_48 : decode cX11_catches 48 = .ok (.iaload, 1) := by decide +kernel
theorem dX11_catches_49 : decode cX11_catches 49 = .ok (.aload_n 0, 1) := by decide +kernel
theorem dX11_catches_50 : decode cX11_catches 50 = .ok (.getfield 257, 3) := by decide +kernel
theorem dX11_catches_53 : decode cX11_catches 53 = .ok (.if_icmp .ne 7, 3) := by decide +kernel
theorem dX11_catches_61 : decode cX11_catches 61 = .ok (.istore_n 3, 1) := by decide +kernel
theorem dX11_catches_62 : decode cX11_catches 62 = .ok (.aload_n 0, 1) := by decide +kernel
theorem dX11_catches_63 : decode cX11_catches 63 = .ok (.getfield 57, 3) := by decide +kernel
theorem dX11_catches_66 : decode cX11_catches 66 = .ok (.iload_n 2, 1) := by decide +kernel
theorem dX11_catches_67 : decode cX11_catches 67 = .ok (.iaload, 1) := by decide +kernel
theorem dX11_catches_68 : decode cX11_catches 68 = .ok (.iconst 1, 1) := by decide +kernel
theorem dX11_catches_69 : decode cX11_catches 69 = .ok (.if_icmp .ne 11, 3) := by decide +kernel
theorem dX11_catches_80 : decode cX11_catches 80 = .ok (.iload_n 3, 1) := by decide +kernel
theorem dX11_catches_81 : decode cX11_catches 81 = .ok (.ifCond .eq 33, 3) := by decide +kernel
theorem dX11_catches_114 : decode cX11_catches 114 = .ok (.aload_n 0, 1) := by decide +kernel
theorem dX11_catches_115 : decode cX11_catches 115 = .ok (.invokevirtual 306, 3) := by decide +kernel
theorem dX11_catches_118 : decode cX11_catches 118 = .ok (.return_, 1) := by decide +kernel
theorem dX11_catches_84 : decode cX11_catches 84 = .ok (.aload_n 0, 1) := by decide +kernel
theorem dX11_catches_85 : decode cX11_catches 85 = .ok (.getfield 75, 3) := by decide +kernel
theorem dX11_catches_88 : decode cX11_catches 88 = .ok (.iconst 0, 1) := by decide +kernel
theorem dX11_catches_89 : decode cX11_catches 89 = .ok (.aload_n 0, 1) := by decide +kernel
theorem dX11_catches_90 : decode cX11_catches 90 = .ok (.getfield 257, 3) := by decide +kernel
theorem dX11_catches_93 : decode cX11_catches 93 = .ok (.i2l, 1) := by decide +kernel
theorem dX11_catches_94 : decode cX11_catches 94 = .ok (.lastore, 1) := by decide +kernel
theorem dX11_catches_95 : decode cX11_catches 95 = .ok (.aload_n 0, 1) := by decide +kernel
theorem dX11_catches_96 : decode cX11_catches 96 = .ok (.iconst 0, 1) := by decide +kernel
theorem dX11_catches_97 : decode cX11_catches 97 = .ok (.iconst 1, 1) := by decide +kernel
theorem dX11_catches_98 : decode cX11_catches 98 = .ok (.invokevirtual 293, 3) := by decide +kernel
theorem dX11_catches_101 : decode cX11_catches 101 = .ok (.aload_n 0, 1) := by decide +kernel
theorem dX11_catches_102 : decode cX11_catches 102 = .ok (.aload_n 0, 1) := by decide +kernel
theorem dX11_catches_103 : decode cX11_catches 103 = .ok (.getfield 39, 3) := by decide +kernel
theorem dX11_catches_106 : decode cX11_catches 106 = .ok (.iload_n 1, 1) := by decide +kernel
theorem dX11_catches_107 : decode cX11_catches 107 = .ok (.iaload, 1) := by decide +kernel
theorem dX11_catches_108 : decode cX11_catches 108 = .ok (.invokevirtual 300, 3) := by decide +kernel
theorem dX11_catches_111 : decode cX11_catches 111 = .ok (.goto 7, 3) := by decide +kernel
theorem dX11_catches_72 : decode cX11_catches 72 = .ok (.aload_n 0, 1) := by decide +kernel
theorem dX11_catches_73 : decode cX11_catches 73 = .ok (.iload_n 1, 1) := by decide +kernel
theorem dX11_catches_74 : decode cX11_catches 74 = .ok (.invokevirtual 303, 3) := by decide +kernel
theorem dX11_catches_77 : decode cX11_catches 77 = .ok (.goto 41, 3) := by decide +kernel
theorem hy_X11_catches : yX11_catches.cls ≠ "java/lang/invoke/MethodHandle" ∧ yX11_catches.cls ≠ "java/lang/invoke/VarHandle" ∧ (parseMethodDescriptor yX11_catches.desc).map (fun d => d.parameters.length) = some 1 := ⟨by decide, by decide, by decide +kernel⟩
def f_X11_catches_b61 (l1 : Int32) (l2 : Int32) (t0 : Int32) (S : mS) : Option ((Unit) × mS) :=
  o_ck (¬ (l2 < 0 ∨ 33 ≤ (l2).toNatClampNeg)) (o_let (m_aI S 12 (l2).toNatClampNeg) fun x1 =>
  if x1 = 1 then (
  o_call (f_X11_begins l1 S) fun _ S5 =>
  some ((), S5)) else (
  if t0 = 0 then (
  o_call (f_X11_giveOn S) fun _ S1 =>
  some ((), S1)) else (
  o_let (m_I S 8) fun x2 =>
  o_ck (¬ ((0 : Int32) < 0 ∨ 4 ≤ ((0 : Int32)).toNatClampNeg)) (o_let (m_wL S 20 ((0 : Int32)).toNatClampNeg ((x2).toInt64)) fun S2 =>
  o_call (f_X11_pass 0 1 S2) fun _ S3 =>
  o_ck (¬ (l1 < 0 ∨ 32 ≤ (l1).toNatClampNeg)) (o_let (m_aI S3 7 (l1).toNatClampNeg) fun x3 =>
  o_call (f_X11_begin x3 S3) fun _ S4 =>
  some ((), S4))))))
set_option maxHeartbeats 4000000 in
set_option maxRecDepth 100000 in
theorem w_X11_catches_b61 {l : Launch} {D : va_G} {Y : Nat → ClassId} {aR : Nat → Nat} {A : Nat → Prop} {ad : Nat → Nat} {p : Program} {e : Env} {s : State} {m : MethodId} {args : Array Value} {below : List Frame} {meth : Method} {c : Code} : ∀ (l1 : Int32) (l2 : Int32) (t0 : Int32) (S S' : mS) (r : Unit) (H : Heap) (locs : List Loc) (ls : Array Slot), jq_X D Y aR A p s m args meth c cX11_catches RX11 "catches" 4 none → mJ D Y A s ad S H locs → f_X11_catches_b61 l1 l2 t0 S = some (r, S') → lv_has ls 4 [(0, .ref (ad 0)), (1, .int l1), (2, .int l2)] → W p l e { frames := 2, cells := 0, slots := 0, locals := 46 } s m args below meth c H locs 0 0 (jq_Z below A (fun v k n H => v = none ∧ k = 0 ∧ n = 0 ∧ mH D Y A ad S' H) s) (F0 m 61 ls [.int t0]) := by
  intro l1 l2 t0 S S' r H locs ls hX hJ hf hl
  unfold f_X11_catches_b61 at hf
  have hx := hX.1
  have hb := hX.2.1
  have hm := hX.2.2.1
  have ho := hX.2.2.2.1
  have ht := hX.2.2.2.2.1
  have hn := hX.2.2.2.2.2.1.2.1
  refine lv_istore_n (lv' := [(3, .int t0), (0, .ref (ad 0)), (1, .int l1), (2, .int l2)]) hx hb dX11_catches_61 rfl hl (by decide) rfl (fun ls hl' => ?_)
  clear hl
  have hl := hl'
  clear hl'
  refine lv_aload_n hx hb dX11_catches_62 rfl (lv_at hl 1 rfl) ?_
  refine mg_phase hX hJ qw712 dX11_catches_63 ?_
  refine lv_iload_n hx hb dX11_catches_66 rfl (lv_at hl 3 rfl) ?_
  replace hf := o_ck_e hf
  obtain ⟨hk1, hf⟩ := hf
  replace hf := o_let_e hf
  obtain ⟨x1, hx1, hf⟩ := hf
  refine ma_I 12 hX hJ (by decide) hk1 hx1 dX11_catches_67 ?_
  refine lv_iconst (v := 1) hx hb dX11_catches_68 (by decide) ?_
  refine lv_icmp_ne (tgt := 80) hx hb dX11_catches_69 (by decide) (fun c1 => ?_) (fun c1 => ?_)
  · replace hf := o_f hf c1
    refine lv_iload_n hx hb dX11_catches_80 rfl (lv_at hl 0 rfl) ?_
    refine lv_if_eq (tgt := 114) hx hb dX11_catches_81 (by decide) (fun c2 => ?_) (fun c2 => ?_)
    · replace hf := o_t hf c2
      refine lv_aload_n hx hb dX11_catches_114 rfl (lv_at hl 1 rfl) ?_
      replace hf := o_call_e hf
      obtain ⟨_, S1, hq1, hf⟩ := hf
      refine jq_doM hX hJ (jq_okV (As := []) (rest := []) hx hb hm ho ht (mJ.recv hX hJ) qw1037 qw1039 qs102 qw1040 qw7 hy_X11_giveOn rfl hl.1 (Nat.le_of_ble_eq_true rfl) dX11_catches_115) (c_X11_giveOn hq1) (Nat.le_of_ble_eq_true rfl) (Nat.le_of_ble_eq_true rfl) (Nat.le_refl _) (Nat.le_refl _) (fun H locs hJ' => ?_)
      clear hJ
      have hJ := hJ'
      clear hJ'
      obtain ⟨rfl, rfl⟩ := Prod.mk.inj (Option.some.inj hf)
      exact jq_vret hX hJ.2 dX11_catches_118 ⟨rfl, rfl, rfl, hJ.1⟩
    · replace hf := o_f hf c2
      refine lv_aload_n hx hb dX11_catches_84 rfl (lv_at hl 1 rfl) ?_
      refine mg_hand hX hJ qw724 dX11_catches_85 ?_
      refine lv_iconst (v := 0) hx hb dX11_catches_88 (by decide) ?_
      refine lv_aload_n hx hb dX11_catches_89 rfl (lv_at hl 1 rfl) ?_
      replace hf := o_let_e hf
      obtain ⟨x2, hx2, hf⟩ := hf
      refine mg_failure hX hJ hx2 qw718 dX11_catches_90 ?_
      refine lv_i2l hx hb dX11_catches_93 rfl ?_
      replace hf := o_ck_e hf
      obtain ⟨hk2, hf⟩ := hf
      replace hf := o_let_e hf
      obtain ⟨S2, hS2, hf⟩ := hf
      refine mw_L 20 hX hJ (by decide) hk2 hS2 dX11_catches_94 (fun H locs hJ' => ?_)
      clear hJ
      have hJ := hJ'
      clear hJ'
      refine lv_aload_n hx hb dX11_catches_95 rfl (lv_at hl 1 rfl) ?_
      refine lv_iconst (v := 0) hx hb dX11_catches_96 (by decide) ?_
      refine lv_iconst (v := 1) hx hb dX11_catches_97 (by decide) ?_
      replace hf := o_call_e hf
      obtain ⟨_, S3, hq2, hf⟩ := hf
      refine jq_doM hX hJ (jq_okV (As := [.int 0, .int 1]) (rest := []) hx hb hm ho ht (mJ.recv hX hJ) qw1033 qw1035 qs101 qw1036 qw7 hy_X11_pass rfl hl.1 (Nat.le_of_ble_eq_true rfl) dX11_catches_98) (c_X11_pass hq2) (Nat.le_of_ble_eq_true rfl) (Nat.le_of_ble_eq_true rfl) (Nat.le_refl _) (Nat.le_refl _) (fun H locs hJ' => ?_)
      clear hJ
      have hJ := hJ'
      clear hJ'
      refine lv_aload_n hx hb dX11_catches_101 rfl (lv_at hl 1 rfl) ?_
      refine lv_aload_n hx hb dX11_catches_102 rfl (lv_at hl 1 rfl) ?_
      refine mg_cOf hX hJ qw701 dX11_catches_103 ?_
      refine lv_iload_n hx hb dX11_catches_106 rfl (lv_at hl 2 rfl) ?_
      replace hf := o_ck_e hf
      obtain ⟨hk3, hf⟩ := hf
      replace hf := o_let_e hf
      obtain ⟨x3, hx3, hf⟩ := hf
      refine ma_I 7 hX hJ (by decide) hk3 hx3 dX11_catches_107 ?_
      replace hf := o_call_e hf
      obtain ⟨_, S4, hq3, hf⟩ := hf
      refine jq_doM hX hJ (jq_okV (As := [.int x3]) (rest := []) hx hb hm ho ht (mJ.recv hX hJ) qw988 qw990 qs92 qw991 qw7 hy_X11_begin rfl hl.1 (Nat.le_of_ble_eq_true rfl) dX11_catches_108) (c_X11_begin hq3) (Nat.le_of_ble_eq_true rfl) (Nat.le_of_ble_eq_true rfl) (Nat.le_refl _) (Nat.le_refl _) (fun H locs hJ' => ?_)
      clear hJ
      have hJ := hJ'
      clear hJ'
      refine lv_goto (tgt := 118) hx hb dX11_catches_111 (by decide) ?_
      obtain ⟨rfl, rfl⟩ := Prod.mk.inj (Option.some.inj hf)
      exact jq_vret hX hJ.2 dX11_catches_118 ⟨rfl, rfl, rfl, hJ.1⟩
  · replace hf := o_t hf c1
    refine lv_aload_n hx hb dX11_catches_72 rfl (lv_at hl 1 rfl) ?_
    refine lv_iload_n hx hb dX11_catches_73 rfl (lv_at hl 2 rfl) ?_
    replace hf := o_call_e hf
    obtain ⟨_, S5, hq4, hf⟩ := hf
    refine jq_doM hX hJ (jq_okV (As := [.int l1]) (rest := []) hx hb hm ho ht (mJ.recv hX hJ) qw1029 qw1031 qs100 qw1032 qw7 hy_X11_begins rfl hl.1 (Nat.le_of_ble_eq_true rfl) dX11_catches_74) (c_X11_begins hq4) (Nat.le_of_ble_eq_true rfl) (Nat.le_of_ble_eq_true rfl) (Nat.le_refl _) (Nat.le_refl _) (fun H locs hJ' => ?_)
    clear hJ
    have hJ := hJ'
    clear hJ'
    refine lv_goto (tgt := 118) hx hb dX11_catches_77 (by decide) ?_
    obtain ⟨rfl, rfl⟩ := Prod.mk.inj (Option.some.inj hf)
    exact jq_vret hX hJ.2 dX11_catches_118 ⟨rfl, rfl, rfl, hJ.1⟩
def f_X11_catches (p1 : Int32) (S : mS) : Option ((Unit) × mS) :=
  o_let (m_I S 7) fun x1 =>
  o_ck (¬ ((x1 - (1 : Int32)) < 0 ∨ 33 ≤ ((x1 - (1 : Int32))).toNatClampNeg)) (o_let (m_aI S 12 ((x1 - (1 : Int32))).toNatClampNeg) fun x2 =>
  if x2 = 2 then (
  o_let (m_I S 8) fun x3 =>
  if x3 = 0 then (
  f_X11_catches_b61 p1 (x1 - (1 : Int32)) 0 S) else (
  o_let (m_I S 8) fun x4 =>
  if x4 = 7 then (
  f_X11_catches_b61 p1 (x1 - (1 : Int32)) 0 S) else (
  o_ck (¬ (p1 < 0 ∨ 32 ≤ (p1).toNatClampNeg)) (o_let (m_aI S 6 (p1).toNatClampNeg) fun x5 =>
  if x5 = (-1) then (
  f_X11_catches_b61 p1 (x1 - (1 : Int32)) 1 S) else (
  o_ck (¬ (p1 < 0 ∨ 32 ≤ (p1).toNatClampNeg)) (o_let (m_aI S 6 (p1).toNatClampNeg) fun x6 =>
  o_let (m_I S 8) fun x7 =>
  if x6 = x7 then (
  f_X11_catches_b61 p1 (x1 - (1 : Int32)) 1 S) else (
  f_X11_catches_b61 p1 (x1 - (1 : Int32)) 0 S))))))) else (
  f_X11_catches_b61 p1 (x1 - (1 : Int32)) 0 S))
set_option maxHeartbeats 4000000 in
set_option maxRecDepth 100000 in
theorem c_X11_catches {l : Launch} {D : va_G} {Y : Nat → ClassId} {aR : Nat → Nat} {A : Nat → Prop} {ad : Nat → Nat} {p1 : Int32} {S S' : mS} {r : Unit} (hf : f_X11_catches p1 S = some (r, S')) : jq_M l D Y aR A ad yX11_catches cX11_catches 4 none 2 46 [.ref (ad 0), .int p1] S none S' := by
  unfold f_X11_catches at hf
  refine jq_enterM (by decide) (Nat.le_of_ble_eq_true rfl) fun p e s m args below meth c ls H locs hX hJ hl => ?_
  have hl : lv_has ls 4 [(0, .ref (ad 0)), (1, .int p1)] := hl
  have hx := hX.1
  have hb := hX.2.1
  have hm := hX.2.2.1
  have ho := hX.2.2.2.1
  have ht := hX.2.2.2.2.1
  have hn := hX.2.2.2.2.2.1.2.1
  refine lv_aload_n hx hb dX11_catches_0 rfl (lv_at hl 0 rfl) ?_
  replace hf := o_let_e hf
  obtain ⟨x1, hx1, hf⟩ := hf
  refine mg_depth hX hJ hx1 qw710 dX11_catches_1 ?_
  refine lv_iconst (v := 1) hx hb dX11_catches_4 (by decide) ?_
  refine lv_isub hx hb dX11_catches_5 ?_
  refine lv_istore_n (lv' := [(2, .int (x1 - (1 : Int32))), (0, .ref (ad 0)), (1, .int p1)]) hx hb dX11_catches_6 rfl hl (by decide) rfl (fun ls hl' => ?_)
  clear hl
  have hl := hl'
  clear hl'
  refine lv_aload_n hx hb dX11_catches_7 rfl (lv_at hl 1 rfl) ?_
  refine mg_phase hX hJ qw712 dX11_catches_8 ?_
  refine lv_iload_n hx hb dX11_catches_11 rfl (lv_at hl 0 rfl) ?_
  replace hf := o_ck_e hf
  obtain ⟨hk1, hf⟩ := hf
  replace hf := o_let_e hf
  obtain ⟨x2, hx2, hf⟩ := hf
  refine ma_I 12 hX hJ (by decide) hk1 hx2 dX11_catches_12 ?_
  refine lv_iconst (v := 2) hx hb dX11_catches_13 (by decide) ?_
  refine lv_icmp_ne (tgt := 60) hx hb dX11_catches_14 (by decide) (fun c1 => ?_) (fun c1 => ?_)
  · replace hf := o_f hf c1
    refine lv_iconst (v := 0) hx hb dX11_catches_60 (by decide) ?_
    replace hl := lv_sub hl (l' := [(0, .ref (ad 0)), (1, .int p1), (2, .int (x1 - (1 : Int32)))]) [1, 2, 0] rfl
    exact w_X11_catches_b61 p1 (x1 - (1 : Int32)) 0 S S' r H locs ls hX hJ hf hl
  · replace hf := o_t hf c1
    refine lv_aload_n hx hb dX11_catches_17 rfl (lv_at hl 1 rfl) ?_
    replace hf := o_let_e hf
    obtain ⟨x3, hx3, hf⟩ := hf
    refine mg_failure hX hJ hx3 qw718 dX11_catches_18 ?_
    refine lv_if_eq (tgt := 60) hx hb dX11_catches_21 (by decide) (fun c2 => ?_) (fun c2 => ?_)
    · replace hf := o_t hf c2
      refine lv_iconst (v := 0) hx hb dX11_catches_60 (by decide) ?_
      replace hl := lv_sub hl (l' := [(0, .ref (ad 0)), (1, .int p1), (2, .int (x1 - (1 : Int32)))]) [1, 2, 0] rfl
      exact w_X11_catches_b61 p1 (x1 - (1 : Int32)) 0 S S' r H locs ls hX hJ hf hl
    · replace hf := o_f hf c2
      refine lv_aload_n hx hb dX11_catches_24 rfl (lv_at hl 1 rfl) ?_
      replace hf := o_let_e hf
      obtain ⟨x4, hx4, hf⟩ := hf
      refine mg_failure hX hJ hx4 qw718 dX11_catches_25 ?_
      refine lv_bipush (v := 7) hx hb dX11_catches_28 (by decide) ?_
      refine lv_icmp_eq (tgt := 60) hx hb dX11_catches_30 (by decide) (fun c3 => ?_) (fun c3 => ?_)
      · replace hf := o_t hf c3
        refine lv_iconst (v := 0) hx hb dX11_catches_60 (by decide) ?_
        replace hl := lv_sub hl (l' := [(0, .ref (ad 0)), (1, .int p1), (2, .int (x1 - (1 : Int32)))]) [1, 2, 0] rfl
        exact w_X11_catches_b61 p1 (x1 - (1 : Int32)) 0 S S' r H locs ls hX hJ hf hl
      · replace hf := o_f hf c3
        refine lv_aload_n hx hb dX11_catches_33 rfl (lv_at hl 1 rfl) ?_
        refine mg_bOf hX hJ qw700 dX11_catches_34 ?_
        refine lv_iload_n hx hb dX11_catches_37 rfl (lv_at hl 2 rfl) ?_
        replace hf := o_ck_e hf
        obtain ⟨hk2, hf⟩ := hf
        replace hf := o_let_e hf
        obtain ⟨x5, hx5, hf⟩ := hf
        refine ma_I 6 hX hJ (by decide) hk2 hx5 dX11_catches_38 ?_
        refine lv_iconst (v := (-1)) hx hb dX11_catches_39 (by decide) ?_
        refine lv_icmp_eq (tgt := 56) hx hb dX11_catches_40 (by decide) (fun c4 => ?_) (fun c4 => ?_)
        · replace hf := o_t hf c4
          refine lv_iconst (v := 1) hx hb dX11_catches_56 (by decide) ?_
          refine lv_goto (tgt := 61) hx hb dX11_catches_57 (by decide) ?_
          replace hl := lv_sub hl (l' := [(0, .ref (ad 0)), (1, .int p1), (2, .int (x1 - (1 : Int32)))]) [1, 2, 0] rfl
          exact w_X11_catches_b61 p1 (x1 - (1 : Int32)) 1 S S' r H locs ls hX hJ hf hl
        · replace hf := o_f hf c4
          refine lv_aload_n hx hb dX11_catches_43 rfl (lv_at hl 1 rfl) ?_
          refine mg_bOf hX hJ qw700 dX11_catches_44 ?_
          refine lv_iload_n hx hb dX11_catches_47 rfl (lv_at hl 2 rfl) ?_
          replace hf := o_ck_e hf
          obtain ⟨hk3, hf⟩ := hf
          replace hf := o_let_e hf
          obtain ⟨x6, hx6, hf⟩ := hf
          refine ma_I 6 hX hJ (by decide) hk3 hx6 dX11_catches_48 ?_
          refine lv_aload_n hx hb dX11_catches_49 rfl (lv_at hl 1 rfl) ?_
          replace hf := o_let_e hf
          obtain ⟨x7, hx7, hf⟩ := hf
          refine mg_failure hX hJ hx7 qw718 dX11_catches_50 ?_
          refine lv_icmp_ne (tgt := 60) hx hb dX11_catches_53 (by decide) (fun c5 => ?_) (fun c5 => ?_)
          · replace hf := o_f hf c5
            refine lv_iconst (v := 0) hx hb dX11_catches_60 (by decide) ?_
            replace hl := lv_sub hl (l' := [(0, .ref (ad 0)), (1, .int p1), (2, .int (x1 - (1 : Int32)))]) [1, 2, 0] rfl
            exact w_X11_catches_b61 p1 (x1 - (1 : Int32)) 0 S S' r H locs ls hX hJ hf hl
          · replace hf := o_t hf c5
            refine lv_iconst (v := 1) hx hb dX11_catches_56 (by decide) ?_
            refine lv_goto (tgt := 61) hx hb dX11_catches_57 (by decide) ?_
            replace hl := lv_sub hl (l' := [(0, .ref (ad 0)), (1, .int p1), (2, .int (x1 - (1 : Int32)))]) [1, 2, 0] rfl
            exact w_X11_catches_b61 p1 (x1 - (1 : Int32)) 1 S S' r H locs ls hX hJ hf hl
theorem dX11_lasts_0 : decode cX11_lasts 0 = .ok (.aload_n 0, 1) := by decide +kernel
theorem dX11_lasts_1 : decode cX11_lasts 1 = .ok (.getfield 263, 3) := by decide +kernel
theorem dX11_lasts_4 : decode cX11_lasts 4 = .ok (.iconst 1, 1) := by decide +kernel
theorem dX11_lasts_5 : decode cX11_lasts 5 = .ok (.isub, 1) := by decide +kernel
theorem dX11_lasts_6 : decode cX11_lasts 6 = .ok (.istore_n 2, 1) := by decide +kernel
theorem dX11_lasts_7 : decode cX11_lasts 7 = .ok (.aload_n 0, 1) := by decide +kernel
theorem dX11_lasts_8 : decode cX11_lasts 8 = .ok (.getfield 57, 3) := by decide +kernel
theorem dX11_lasts_11 : decode cX11_lasts 11 = .ok (.iload_n 2, 1) := by decide +kernel
theorem dX11_lasts_12 : decode cX11_lasts 12 = .ok (.iaload, 1) := by decide +kernel
theorem dX11_lasts_13 : decode cX11_lasts 13 = .ok (.iconst 1, 1) := by decide +kernel
theorem dX11_lasts_14 : decode cX11_lasts 14 = .ok (.if_icmp .ne 11, 3) := by decide +kernel
theorem dX11_lasts_25 : decode cX11_lasts 25 = .ok (.aload_n 0, 1) := by decide +kernel
theorem dX11_lasts_26 : decode cX11_lasts 26 = .ok (.getfield 57, 3) := by decide +kernel
theorem dX11_lasts_29 : decode cX11_lasts 29 = .ok (.iload_n 2, 1) := by decide +kernel
theorem dX11_lasts_30 : decode cX11_lasts 30 = .ok (.iaload, 1) := by decide +kernel
theorem dX11_lasts_31 : decode cX11_lasts 31 = .ok (.iconst 2, 1) := by decide +kernel
theorem dX11_lasts_32 : decode cX11_lasts 32 = .ok (.if_icmp .ne 95, 3) := by decide +kernel
theorem dX11_lasts_35 : decode cX11_lasts 35 = .ok (.aload_n 0, 1) := by decide +kernel
theorem dX11_lasts_36 : decode cX11_lasts 36 = .ok (.getfield 257, 3) := by decide +kernel
theorem dX11_lasts_39 : decode cX11_lasts 39 = .ok (.bipush 7, 2) := by decide +kernel
theorem dX11_lasts_41 : decode cX11_lasts 41 = .ok (.if_icmp .eq 86, 3) := by decide +kernel
theorem dX11_lasts_44 : decode cX11_lasts 44 = .ok (.aload_n 0, 1) := by decide +kernel
theorem dX11_lasts_45 : decode cX11_lasts 45 = .ok (.getfield 69, 3) := by decide +kernel
theorem dX11_lasts_48 : decode cX11_lasts 48 = .ok (.iload_n 2, 1) := by decide +kernel
theorem dX11_lasts_49 : decode cX11_lasts 49 = .ok (.aload_n 0, 1) := by decide +kernel
theorem dX11_lasts_50 : decode cX11_lasts 50 = .ok (.getfield 257, 3) := by decide +kernel
theorem dX11_lasts_53 : decode cX11_lasts 53 = .ok (.iastore, 1) := by decide +kernel
theorem dX11_lasts_54 : decode cX11_lasts 54 = .ok (.aload_n 0, 1) := by decide +kernel
theorem dX11_lasts_55 : decode cX11_lasts 55 = .ok (.getfield 75, 3) := by decide +kernel
theorem dX11_lasts_58 : decode cX11_lasts 58 = .ok (.iconst 0, 1) := by decide +kernel
theorem dX11_lasts_59 : decode cX11_lasts 59 = .ok (.aload_n 0, 1) := by decide +kernel
theorem dX11_lasts_60 : decode cX11_lasts 60 = .ok (.getfield 257, 3) := by decide +kernel
theorem dX11_lasts_63 : decode cX11_lasts 63 = .ok (.i2l, 1) := by decide +kernel
theorem dX11_lasts_64 : decode cX11_lasts 64 = .ok (.lastore, 1) := by decide +kernel
theorem dX11_lasts_65 : decode cX11_lasts 65 = .ok (.aload_n 0, 1) := by decide +kernel
theorem dX11_lasts_66 : decode cX11_lasts 66 = .ok (.getfield 75, 3) := by decide +kernel
theorem dX11_lasts_69 : decode cX11_lasts 69 = .ok (.iconst 1, 1) := by decide +kernel
theorem dX11_lasts_70 : decode cX11_lasts 70 = .ok (.aload_n 0, 1) := by decide +kernel
theorem dX11_lasts_71 : decode cX11_lasts 71 = .ok (.getfield 257, 3) := by decide +kernel
theorem dX11_lasts_74 : decode cX11_lasts 74 = .ok (.ifCond .ne 10, 3) := by decide +kernel
theorem dX11_lasts_84 : decode cX11_lasts 84 = .ok (.aload_n 0, 1) := by decide +kernel
theorem dX11_lasts_85 : decode cX11_lasts 85 = .ok (.getfield 51, 3) := by decide +kernel
theorem dX11_lasts_88 : decode cX11_lasts 88 = .ok (.aload_n 0, 1) := by decide +kernel
theorem dX11_lasts_89 : decode cX11_lasts 89 = .ok (.getfield 33, 3) := by decide +kernel
theorem dX11_lasts_92 : decode cX11_lasts 92 = .ok (.iload_n 1, 1) := by decide +kernel
theorem dX11_lasts_93 : decode cX11_lasts 93 = .ok (.iaload, 1) := by decide +kernel
theorem dX11_lasts_94 : decode cX11_lasts 94 = .ok (.iaload, 1) := by decide +kernel
theorem dX11_lasts_95 : decode cX11_lasts 95 = .ok (.bipush 8, 2) := by decide +kernel
theorem dX11_lasts_97 : decode cX11_lasts 97 = .ok (.if_icmp .ge 7, 3) := by decide +kernel
theorem dX11_lasts_104 : decode cX11_lasts 104 = .ok (.ldc2_w 162, 3) := by decide +kernel
theorem dX11_lasts_107 : decode cX11_lasts 107 = .ok (.lastore, 1) := by decide +kernel
theorem dX11_lasts_108 : decode cX11_lasts 108 = .ok (.aload_n 0, 1) := by decide +kernel
theorem dX11_lasts_109 : decode cX11_lasts 109 = .ok (.iconst 0, 1) := by decide +kernel
theorem dX11_lasts_110 : decode cX11_lasts 110 = .ok (.iconst 2, 1) := by decide +kernel
theorem dX11_lasts_111 : decode cX11_lasts 111 = .ok (.invokevirtual 293, 3) := by decide +kernel
theorem dX11_lasts_114 : decode cX11_lasts 114 = .ok (.aload_n 0, 1) := by decide +kernel
theorem dX11_lasts_115 : decode cX11_lasts 115 = .ok (.aload_n 0, 1) := by decide +kernel
theorem dX11_lasts_116 : decode cX11_lasts 116 = .ok (.getfield 36, 3) := by decide +kernel
theorem dX11_lasts_119 : decode cX11_lasts 119 = .ok (.iload_n 1, 1) := by decide +kernel
theorem dX11_lasts_120 : decode cX11_lasts 120 = .ok (.iaload, 1) := by decide +kernel
theorem dX11_lasts_121 : decode cX11_lasts 121 = .ok (.invokevirtual 300, 3) := by decide +kernel
theorem dX11_lasts_124 : decode cX11_lasts 124 = .ok (.goto 41, 3) := by decide +kernel
theorem dX11_lasts_165 : decode cX11_lasts 165 = .ok (.return_, 1) := by decide +kernel
theorem dX11_lasts_100 : decode cX11_lasts 100 = .ok (.lconst 0, 1) := by decide +kernel
theorem dX11_lasts_101 : decode cX11_lasts 101 = .ok (.goto 6, 3) := by decide +kernel
theorem dX11_lasts_77 : decode cX11_lasts 77 = .ok (.aload_n 0, 1) := by decide +kernel
theorem dX11_lasts_78 : decode cX11_lasts 78 = .ok (.getfield 266, 3) := by decide +kernel
theorem dX11_lasts_81 : decode cX11_lasts 81 = .ok (.goto 26, 3) := by decide +kernel
theorem dX11_lasts_17 : decode cX11_lasts 17 = .ok (.aload_n 0, 1) := by decide +kernel
theorem dX11_lasts_18 : decode cX11_lasts 18 = .ok (.iload_n 1, 1) := by decide +kernel
theorem dX11_lasts_19 : decode cX11_lasts 19 = .ok (.invokevirtual 303, 3) := by decide +kernel
theorem dX11_lasts_22 : decode cX11_lasts 22 = .ok (.goto 143, 3) := by decide +kernel
theorem dX11_lasts_127 : decode cX11_lasts 127 = .ok (.aload_n 0, 1) := by decide +kernel
theorem dX11_lasts_128 : decode cX11_lasts 128 = .ok (.invokevirtual 306, 3) := by decide +kernel
theorem dX11_lasts_131 : decode cX11_lasts 131 = .ok (.aload_n 0, 1) := by decide +kernel
theorem dX11_lasts_132 : decode cX11_lasts 132 = .ok (.aload_n 0, 1) := by decide +kernel
theorem dX11_lasts_133 : decode cX11_lasts 133 = .ok (.getfield 257, 3) := by decide +kernel
theorem dX11_lasts_136 : decode cX11_lasts 136 = .ok (.ifCond .ne 22, 3) := by decide +kernel
theorem dX11_lasts_158 : decode cX11_lasts 158 = .ok (.aload_n 0, 1) := by decide +kernel
theorem dX11_lasts_159 : decode cX11_lasts 159 = .ok (.getfield 257, 3) := by decide +kernel
theorem dX11_lasts_162 : decode cX11_lasts 162 = .ok (.putfield 257, 3) := by decide +kernel
theorem dX11_lasts_139 : decode cX11_lasts 139 = .ok (.aload_n 0, 1) := by decide +kernel
theorem dX11_lasts_140 : decode cX11_lasts 140 = .ok (.getfield 57, 3) := by decide +kernel
theorem dX11_lasts_143 : decode cX11_lasts 143 = .ok (.iload_n 2, 1) := by decide +kernel
theorem dX11_lasts_144 : decode cX11_lasts 144 = .ok (.iaload, 1) := by decide +kernel
theorem dX11_lasts_145 : decode cX11_lasts 145 = .ok (.iconst 3, 1) := by decide +kernel
theorem dX11_lasts_146 : decode cX11_lasts 146 = .ok (.if_icmp .ne 12, 3) := by decide +kernel
theorem dX11_lasts_149 : decode cX11_lasts 149 = .ok (.aload_n 0, 1) := by decide +kernel
theorem dX11_lasts_150 : decode cX11_lasts 150 = .ok (.getfield 69, 3) := by decide +kernel
theorem dX11_lasts_153 : decode cX11_lasts 153 = .ok (.iload_n 2, 1) := by decide +kernel
theorem dX11_lasts_154 : decode cX11_lasts 154 = .ok (.iaload, 1) := by decide +kernel
theorem dX11_lasts_155 : decode cX11_lasts 155 = .ok (.goto 7, 3) := by decide +kernel
theorem hy_X11_lasts : yX11_lasts.cls ≠ "java/lang/invoke/MethodHandle" ∧ yX11_lasts.cls ≠ "java/lang/invoke/VarHandle" ∧ (parseMethodDescriptor yX11_lasts.desc).map (fun d => d.parameters.length) = some 1 := ⟨by decide, by decide, by decide +kernel⟩
def f_X11_lasts_b127 (l2 : Int32) (S : mS) : Option ((Unit) × mS) :=
  o_call (f_X11_giveOn S) fun _ S1 =>
  o_let (m_I S1 8) fun x1 =>
  if x1 = 0 then (
  o_ck (¬ (l2 < 0 ∨ 33 ≤ (l2).toNatClampNeg)) (o_let (m_aI S1 12 (l2).toNatClampNeg) fun x3 =>
  if x3 = 3 then (
  o_ck (¬ (l2 < 0 ∨ 33 ≤ (l2).toNatClampNeg)) (o_let (m_aI S1 14 (l2).toNatClampNeg) fun x5 =>
  o_let (m_pI S1 8 x5) fun S4 =>
  some ((), S4))) else (
  o_let (m_I S1 8) fun x4 =>
  o_let (m_pI S1 8 x4) fun S3 =>
  some ((), S3)))) else (
  o_let (m_I S1 8) fun x2 =>
  o_let (m_pI S1 8 x2) fun S2 =>
  some ((), S2))
set_option maxHeartbeats 4000000 in
set_option maxRecDepth 100000 in
theorem w_X11_lasts_b127 {l : Launch} {D : va_G} {Y : Nat → ClassId} {aR : Nat → Nat} {A : Nat → Prop} {ad : Nat → Nat} {p : Program} {e : Env} {s : State} {m : MethodId} {args : Array Value} {below : List Frame} {meth : Method} {c : Code} : ∀ (l2 : Int32) (S S' : mS) (r : Unit) (H : Heap) (locs : List Loc) (ls : Array Slot), jq_X D Y aR A p s m args meth c cX11_lasts RX11 "lasts" 3 none → mJ D Y A s ad S H locs → f_X11_lasts_b127 l2 S = some (r, S') → lv_has ls 3 [(0, .ref (ad 0)), (2, .int l2)] → W p l e { frames := 2, cells := 0, slots := 0, locals := 46 } s m args below meth c H locs 0 0 (jq_Z below A (fun v k n H => v = none ∧ k = 0 ∧ n = 0 ∧ mH D Y A ad S' H) s) (F0 m 127 ls []) := by
  intro l2 S S' r H locs ls hX hJ hf hl
  unfold f_X11_lasts_b127 at hf
  have hx := hX.1
  have hb := hX.2.1
  have hm := hX.2.2.1
  have ho := hX.2.2.2.1
  have ht := hX.2.2.2.2.1
  have hn := hX.2.2.2.2.2.1.2.1
  refine lv_aload_n hx hb dX11_lasts_127 rfl (lv_at hl 0 rfl) ?_
  replace hf := o_call_e hf
  obtain ⟨_, S1, hq1, hf⟩ := hf
  refine jq_doM hX hJ (jq_okV (As := []) (rest := []) hx hb hm ho ht (mJ.recv hX hJ) qw1037 qw1039 qs102 qw1040 qw7 hy_X11_giveOn rfl hl.1 (Nat.le_of_ble_eq_true rfl) dX11_lasts_128) (c_X11_giveOn hq1) (Nat.le_of_ble_eq_true rfl) (Nat.le_of_ble_eq_true rfl) (Nat.le_refl _) (Nat.le_refl _) (fun H locs hJ' => ?_)
  clear hJ
  have hJ := hJ'
  clear hJ'
  refine lv_aload_n hx hb dX11_lasts_131 rfl (lv_at hl 0 rfl) ?_
  refine lv_aload_n hx hb dX11_lasts_132 rfl (lv_at hl 0 rfl) ?_
  replace hf := o_let_e hf
  obtain ⟨x1, hx1, hf⟩ := hf
  refine mg_failure hX hJ hx1 qw718 dX11_lasts_133 ?_
  refine lv_if_ne (tgt := 158) hx hb dX11_lasts_136 (by decide) (fun c1 => ?_) (fun c1 => ?_)
  · replace hf := o_f hf c1
    refine lv_aload_n hx hb dX11_lasts_158 rfl (lv_at hl 0 rfl) ?_
    replace hf := o_let_e hf
    obtain ⟨x2, hx2, hf⟩ := hf
    refine mg_failure hX hJ hx2 qw718 dX11_lasts_159 ?_
    replace hf := o_let_e hf
    obtain ⟨S2, hS2, hf⟩ := hf
    refine mp_failure hX hJ hS2 qw718 dX11_lasts_162 (fun H locs hJ' => ?_)
    clear hJ
    have hJ := hJ'
    clear hJ'
    obtain ⟨rfl, rfl⟩ := Prod.mk.inj (Option.some.inj hf)
    exact jq_vret hX hJ.2 dX11_lasts_165 ⟨rfl, rfl, rfl, hJ.1⟩
  · replace hf := o_t hf c1
    refine lv_aload_n hx hb dX11_lasts_139 rfl (lv_at hl 0 rfl) ?_
    refine mg_phase hX hJ qw712 dX11_lasts_140 ?_
    refine lv_iload_n hx hb dX11_lasts_143 rfl (lv_at hl 1 rfl) ?_
    replace hf := o_ck_e hf
    obtain ⟨hk1, hf⟩ := hf
    replace hf := o_let_e hf
    obtain ⟨x3, hx3, hf⟩ := hf
    refine ma_I 12 hX hJ (by decide) hk1 hx3 dX11_lasts_144 ?_
    refine lv_iconst (v := 3) hx hb dX11_lasts_145 (by decide) ?_
    refine lv_icmp_ne (tgt := 158) hx hb dX11_lasts_146 (by decide) (fun c2 => ?_) (fun c2 => ?_)
    · replace hf := o_f hf c2
      refine lv_aload_n hx hb dX11_lasts_158 rfl (lv_at hl 0 rfl) ?_
      replace hf := o_let_e hf
      obtain ⟨x4, hx4, hf⟩ := hf
      refine mg_failure hX hJ hx4 qw718 dX11_lasts_159 ?_
      replace hf := o_let_e hf
      obtain ⟨S3, hS3, hf⟩ := hf
      refine mp_failure hX hJ hS3 qw718 dX11_lasts_162 (fun H locs hJ' => ?_)
      clear hJ
      have hJ := hJ'
      clear hJ'
      obtain ⟨rfl, rfl⟩ := Prod.mk.inj (Option.some.inj hf)
      exact jq_vret hX hJ.2 dX11_lasts_165 ⟨rfl, rfl, rfl, hJ.1⟩
    · replace hf := o_t hf c2
      refine lv_aload_n hx hb dX11_lasts_149 rfl (lv_at hl 0 rfl) ?_
      refine mg_saved hX hJ qw716 dX11_lasts_150 ?_
      refine lv_iload_n hx hb dX11_lasts_153 rfl (lv_at hl 1 rfl) ?_
      replace hf := o_ck_e hf
      obtain ⟨hk2, hf⟩ := hf
      replace hf := o_let_e hf
      obtain ⟨x5, hx5, hf⟩ := hf
      refine ma_I 14 hX hJ (by decide) hk2 hx5 dX11_lasts_154 ?_
      refine lv_goto (tgt := 162) hx hb dX11_lasts_155 (by decide) ?_
      replace hf := o_let_e hf
      obtain ⟨S4, hS4, hf⟩ := hf
      refine mp_failure hX hJ hS4 qw718 dX11_lasts_162 (fun H locs hJ' => ?_)
      clear hJ
      have hJ := hJ'
      clear hJ'
      obtain ⟨rfl, rfl⟩ := Prod.mk.inj (Option.some.inj hf)
      exact jq_vret hX hJ.2 dX11_lasts_165 ⟨rfl, rfl, rfl, hJ.1⟩
def f_X11_lasts (p1 : Int32) (S : mS) : Option ((Unit) × mS) :=
  o_let (m_I S 7) fun x1 =>
  o_ck (¬ ((x1 - (1 : Int32)) < 0 ∨ 33 ≤ ((x1 - (1 : Int32))).toNatClampNeg)) (o_let (m_aI S 12 ((x1 - (1 : Int32))).toNatClampNeg) fun x2 =>
  if x2 = 1 then (
  o_call (f_X11_begins p1 S) fun _ S12 =>
  some ((), S12)) else (
  o_ck (¬ ((x1 - (1 : Int32)) < 0 ∨ 33 ≤ ((x1 - (1 : Int32))).toNatClampNeg)) (o_let (m_aI S 12 ((x1 - (1 : Int32))).toNatClampNeg) fun x3 =>
  if x3 = 2 then (
  o_let (m_I S 8) fun x4 =>
  if x4 = 7 then (
  f_X11_lasts_b127 (x1 - (1 : Int32)) S) else (
  o_let (m_I S 8) fun x5 =>
  o_ck (¬ ((x1 - (1 : Int32)) < 0 ∨ 33 ≤ ((x1 - (1 : Int32))).toNatClampNeg)) (o_let (m_wI S 14 ((x1 - (1 : Int32))).toNatClampNeg x5) fun S1 =>
  o_let (m_I S1 8) fun x6 =>
  o_ck (¬ ((0 : Int32) < 0 ∨ 4 ≤ ((0 : Int32)).toNatClampNeg)) (o_let (m_wL S1 20 ((0 : Int32)).toNatClampNeg ((x6).toInt64)) fun S2 =>
  o_let (m_I S2 8) fun x7 =>
  if x7 = 0 then (
  o_let (m_L S2 1) fun x12 =>
  o_ck (¬ ((1 : Int32) < 0 ∨ 4 ≤ ((1 : Int32)).toNatClampNeg)) (o_let (m_wL S2 20 ((1 : Int32)).toNatClampNeg x12) fun S9 =>
  o_call (f_X11_pass 0 2 S9) fun _ S10 =>
  o_ck (¬ (p1 < 0 ∨ 32 ≤ (p1).toNatClampNeg)) (o_let (m_aI S10 6 (p1).toNatClampNeg) fun x13 =>
  o_call (f_X11_begin x13 S10) fun _ S11 =>
  some ((), S11)))) else (
  o_ck (¬ (p1 < 0 ∨ 32 ≤ (p1).toNatClampNeg)) (o_let (m_aI S2 5 (p1).toNatClampNeg) fun x8 =>
  o_ck (¬ (x8 < 0 ∨ 33 ≤ (x8).toNatClampNeg)) (o_let (m_aI S2 10 (x8).toNatClampNeg) fun x9 =>
  if 8 ≤ x9 then (
  o_ck (¬ ((1 : Int32) < 0 ∨ 4 ≤ ((1 : Int32)).toNatClampNeg)) (o_let (m_wL S2 20 ((1 : Int32)).toNatClampNeg (-1)) fun S3 =>
  o_call (f_X11_pass 0 2 S3) fun _ S4 =>
  o_ck (¬ (p1 < 0 ∨ 32 ≤ (p1).toNatClampNeg)) (o_let (m_aI S4 6 (p1).toNatClampNeg) fun x10 =>
  o_call (f_X11_begin x10 S4) fun _ S5 =>
  some ((), S5)))) else (
  o_ck (¬ ((1 : Int32) < 0 ∨ 4 ≤ ((1 : Int32)).toNatClampNeg)) (o_let (m_wL S2 20 ((1 : Int32)).toNatClampNeg 0) fun S6 =>
  o_call (f_X11_pass 0 2 S6) fun _ S7 =>
  o_ck (¬ (p1 < 0 ∨ 32 ≤ (p1).toNatClampNeg)) (o_let (m_aI S7 6 (p1).toNatClampNeg) fun x11 =>
  o_call (f_X11_begin x11 S7) fun _ S8 =>
  some ((), S8))))))))))) else (
  f_X11_lasts_b127 (x1 - (1 : Int32)) S))))
set_option maxHeartbeats 4000000 in
set_option maxRecDepth 100000 in
theorem c_X11_lasts {l : Launch} {D : va_G} {Y : Nat → ClassId} {aR : Nat → Nat} {A : Nat → Prop} {ad : Nat → Nat} {p1 : Int32} {S S' : mS} {r : Unit} (hf : f_X11_lasts p1 S = some (r, S')) : jq_M l D Y aR A ad yX11_lasts cX11_lasts 3 none 2 46 [.ref (ad 0), .int p1] S none S' := by
  unfold f_X11_lasts at hf
  refine jq_enterM (by decide) (Nat.le_of_ble_eq_true rfl) fun p e s m args below meth c ls H locs hX hJ hl => ?_
  have hl : lv_has ls 3 [(0, .ref (ad 0)), (1, .int p1)] := hl
  have hx := hX.1
  have hb := hX.2.1
  have hm := hX.2.2.1
  have ho := hX.2.2.2.1
  have ht := hX.2.2.2.2.1
  have hn := hX.2.2.2.2.2.1.2.1
  refine lv_aload_n hx hb dX11_lasts_0 rfl (lv_at hl 0 rfl) ?_
  replace hf := o_let_e hf
  obtain ⟨x1, hx1, hf⟩ := hf
  refine mg_depth hX hJ hx1 qw710 dX11_lasts_1 ?_
  refine lv_iconst (v := 1) hx hb dX11_lasts_4 (by decide) ?_
  refine lv_isub hx hb dX11_lasts_5 ?_
  refine lv_istore_n (lv' := [(2, .int (x1 - (1 : Int32))), (0, .ref (ad 0)), (1, .int p1)]) hx hb dX11_lasts_6 rfl hl (by decide) rfl (fun ls hl' => ?_)
  clear hl
  have hl := hl'
  clear hl'
  refine lv_aload_n hx hb dX11_lasts_7 rfl (lv_at hl 1 rfl) ?_
  refine mg_phase hX hJ qw712 dX11_lasts_8 ?_
  refine lv_iload_n hx hb dX11_lasts_11 rfl (lv_at hl 0 rfl) ?_
  replace hf := o_ck_e hf
  obtain ⟨hk1, hf⟩ := hf
  replace hf := o_let_e hf
  obtain ⟨x2, hx2, hf⟩ := hf
  refine ma_I 12 hX hJ (by decide) hk1 hx2 dX11_lasts_12 ?_
  refine lv_iconst (v := 1) hx hb dX11_lasts_13 (by decide) ?_
  refine lv_icmp_ne (tgt := 25) hx hb dX11_lasts_14 (by decide) (fun c1 => ?_) (fun c1 => ?_)
  · replace hf := o_f hf c1
    refine lv_aload_n hx hb dX11_lasts_25 rfl (lv_at hl 1 rfl) ?_
    refine mg_phase hX hJ qw712 dX11_lasts_26 ?_
    refine lv_iload_n hx hb dX11_lasts_29 rfl (lv_at hl 0 rfl) ?_
    replace hf := o_ck_e hf
    obtain ⟨hk2, hf⟩ := hf
    replace hf := o_let_e hf
    obtain ⟨x3, hx3, hf⟩ := hf
    refine ma_I 12 hX hJ (by decide) hk2 hx3 dX11_lasts_30 ?_
    refine lv_iconst (v := 2) hx hb dX11_lasts_31 (by decide) ?_
    refine lv_icmp_ne (tgt := 127) hx hb dX11_lasts_32 (by decide) (fun c2 => ?_) (fun c2 => ?_)
    · replace hf := o_f hf c2
      replace hl := lv_sub hl (l' := [(0, .ref (ad 0)), (2, .int (x1 - (1 : Int32)))]) [1, 0] rfl
      exact w_X11_lasts_b127 (x1 - (1 : Int32)) S S' r H locs ls hX hJ hf hl
    · replace hf := o_t hf c2
      refine lv_aload_n hx hb dX11_lasts_35 rfl (lv_at hl 1 rfl) ?_
      replace hf := o_let_e hf
      obtain ⟨x4, hx4, hf⟩ := hf
      refine mg_failure hX hJ hx4 qw718 dX11_lasts_36 ?_
      refine lv_bipush (v := 7) hx hb dX11_lasts_39 (by decide) ?_
      refine lv_icmp_eq (tgt := 127) hx hb dX11_lasts_41 (by decide) (fun c3 => ?_) (fun c3 => ?_)
      · replace hf := o_t hf c3
        replace hl := lv_sub hl (l' := [(0, .ref (ad 0)), (2, .int (x1 - (1 : Int32)))]) [1, 0] rfl
        exact w_X11_lasts_b127 (x1 - (1 : Int32)) S S' r H locs ls hX hJ hf hl
      · replace hf := o_f hf c3
        refine lv_aload_n hx hb dX11_lasts_44 rfl (lv_at hl 1 rfl) ?_
        refine mg_saved hX hJ qw716 dX11_lasts_45 ?_
        refine lv_iload_n hx hb dX11_lasts_48 rfl (lv_at hl 0 rfl) ?_
        refine lv_aload_n hx hb dX11_lasts_49 rfl (lv_at hl 1 rfl) ?_
        replace hf := o_let_e hf
        obtain ⟨x5, hx5, hf⟩ := hf
        refine mg_failure hX hJ hx5 qw718 dX11_lasts_50 ?_
        replace hf := o_ck_e hf
        obtain ⟨hk3, hf⟩ := hf
        replace hf := o_let_e hf
        obtain ⟨S1, hS1, hf⟩ := hf
        refine mw_I 14 hX hJ (by decide) hk3 hS1 dX11_lasts_53 (fun H locs hJ' => ?_)
        clear hJ
        have hJ := hJ'
        clear hJ'
        refine lv_aload_n hx hb dX11_lasts_54 rfl (lv_at hl 1 rfl) ?_
        refine mg_hand hX hJ qw724 dX11_lasts_55 ?_
        refine lv_iconst (v := 0) hx hb dX11_lasts_58 (by decide) ?_
        refine lv_aload_n hx hb dX11_lasts_59 rfl (lv_at hl 1 rfl) ?_
        replace hf := o_let_e hf
        obtain ⟨x6, hx6, hf⟩ := hf
        refine mg_failure hX hJ hx6 qw718 dX11_lasts_60 ?_
        refine lv_i2l hx hb dX11_lasts_63 rfl ?_
        replace hf := o_ck_e hf
        obtain ⟨hk4, hf⟩ := hf
        replace hf := o_let_e hf
        obtain ⟨S2, hS2, hf⟩ := hf
        refine mw_L 20 hX hJ (by decide) hk4 hS2 dX11_lasts_64 (fun H locs hJ' => ?_)
        clear hJ
        have hJ := hJ'
        clear hJ'
        refine lv_aload_n hx hb dX11_lasts_65 rfl (lv_at hl 1 rfl) ?_
        refine mg_hand hX hJ qw724 dX11_lasts_66 ?_
        refine lv_iconst (v := 1) hx hb dX11_lasts_69 (by decide) ?_
        refine lv_aload_n hx hb dX11_lasts_70 rfl (lv_at hl 1 rfl) ?_
        replace hf := o_let_e hf
        obtain ⟨x7, hx7, hf⟩ := hf
        refine mg_failure hX hJ hx7 qw718 dX11_lasts_71 ?_
        refine lv_if_ne (tgt := 84) hx hb dX11_lasts_74 (by decide) (fun c4 => ?_) (fun c4 => ?_)
        · replace hf := o_f hf c4
          refine lv_aload_n hx hb dX11_lasts_84 rfl (lv_at hl 1 rfl) ?_
          refine mg_resultOf hX hJ qw705 dX11_lasts_85 ?_
          refine lv_aload_n hx hb dX11_lasts_88 rfl (lv_at hl 1 rfl) ?_
          refine mg_aOf hX hJ qw699 dX11_lasts_89 ?_
          refine lv_iload_n hx hb dX11_lasts_92 rfl (lv_at hl 2 rfl) ?_
          replace hf := o_ck_e hf
          obtain ⟨hk5, hf⟩ := hf
          replace hf := o_let_e hf
          obtain ⟨x8, hx8, hf⟩ := hf
          refine ma_I 5 hX hJ (by decide) hk5 hx8 dX11_lasts_93 ?_
          replace hf := o_ck_e hf
          obtain ⟨hk6, hf⟩ := hf
          replace hf := o_let_e hf
          obtain ⟨x9, hx9, hf⟩ := hf
          refine ma_I 10 hX hJ (by decide) hk6 hx9 dX11_lasts_94 ?_
          refine lv_bipush (v := 8) hx hb dX11_lasts_95 (by decide) ?_
          refine lv_icmp_ge (tgt := 104) hx hb dX11_lasts_97 (by decide) (fun c5 => ?_) (fun c5 => ?_)
          · replace hf := o_t hf c5
            refine lv_ldc2 (v := (-1)) hx hb ho (ht _ qw866) dX11_lasts_104 ?_
            replace hf := o_ck_e hf
            obtain ⟨hk7, hf⟩ := hf
            replace hf := o_let_e hf
            obtain ⟨S3, hS3, hf⟩ := hf
            refine mw_L 20 hX hJ (by decide) hk7 hS3 dX11_lasts_107 (fun H locs hJ' => ?_)
            clear hJ
            have hJ := hJ'
            clear hJ'
            refine lv_aload_n hx hb dX11_lasts_108 rfl (lv_at hl 1 rfl) ?_
            refine lv_iconst (v := 0) hx hb dX11_lasts_109 (by decide) ?_
            refine lv_iconst (v := 2) hx hb dX11_lasts_110 (by decide) ?_
            replace hf := o_call_e hf
            obtain ⟨_, S4, hq1, hf⟩ := hf
            refine jq_doM hX hJ (jq_okV (As := [.int 0, .int 2]) (rest := []) hx hb hm ho ht (mJ.recv hX hJ) qw1033 qw1035 qs101 qw1036 qw7 hy_X11_pass rfl hl.1 (Nat.le_of_ble_eq_true rfl) dX11_lasts_111) (c_X11_pass hq1) (Nat.le_of_ble_eq_true rfl) (Nat.le_of_ble_eq_true rfl) (Nat.le_refl _) (Nat.le_refl _) (fun H locs hJ' => ?_)
            clear hJ
            have hJ := hJ'
            clear hJ'
            refine lv_aload_n hx hb dX11_lasts_114 rfl (lv_at hl 1 rfl) ?_
            refine lv_aload_n hx hb dX11_lasts_115 rfl (lv_at hl 1 rfl) ?_
            refine mg_bOf hX hJ qw700 dX11_lasts_116 ?_
            refine lv_iload_n hx hb dX11_lasts_119 rfl (lv_at hl 2 rfl) ?_
            replace hf := o_ck_e hf
            obtain ⟨hk8, hf⟩ := hf
            replace hf := o_let_e hf
            obtain ⟨x10, hx10, hf⟩ := hf
            refine ma_I 6 hX hJ (by decide) hk8 hx10 dX11_lasts_120 ?_
            replace hf := o_call_e hf
            obtain ⟨_, S5, hq2, hf⟩ := hf
            refine jq_doM hX hJ (jq_okV (As := [.int x10]) (rest := []) hx hb hm ho ht (mJ.recv hX hJ) qw988 qw990 qs92 qw991 qw7 hy_X11_begin rfl hl.1 (Nat.le_of_ble_eq_true rfl) dX11_lasts_121) (c_X11_begin hq2) (Nat.le_of_ble_eq_true rfl) (Nat.le_of_ble_eq_true rfl) (Nat.le_refl _) (Nat.le_refl _) (fun H locs hJ' => ?_)
            clear hJ
            have hJ := hJ'
            clear hJ'
            refine lv_goto (tgt := 165) hx hb dX11_lasts_124 (by decide) ?_
            obtain ⟨rfl, rfl⟩ := Prod.mk.inj (Option.some.inj hf)
            exact jq_vret hX hJ.2 dX11_lasts_165 ⟨rfl, rfl, rfl, hJ.1⟩
          · replace hf := o_f hf c5
            refine lv_lconst (v := 0) hx hb dX11_lasts_100 (by decide) ?_
            refine lv_goto (tgt := 107) hx hb dX11_lasts_101 (by decide) ?_
            replace hf := o_ck_e hf
            obtain ⟨hk9, hf⟩ := hf
            replace hf := o_let_e hf
            obtain ⟨S6, hS6, hf⟩ := hf
            refine mw_L 20 hX hJ (by decide) hk9 hS6 dX11_lasts_107 (fun H locs hJ' => ?_)
            clear hJ
            have hJ := hJ'
            clear hJ'
            refine lv_aload_n hx hb dX11_lasts_108 rfl (lv_at hl 1 rfl) ?_
            refine lv_iconst (v := 0) hx hb dX11_lasts_109 (by decide) ?_
            refine lv_iconst (v := 2) hx hb dX11_lasts_110 (by decide) ?_
            replace hf := o_call_e hf
            obtain ⟨_, S7, hq3, hf⟩ := hf
            refine jq_doM hX hJ (jq_okV (As := [.int 0, .int 2]) (rest := []) hx hb hm ho ht (mJ.recv hX hJ) qw1033 qw1035 qs101 qw1036 qw7 hy_X11_pass rfl hl.1 (Nat.le_of_ble_eq_true rfl) dX11_lasts_111) (c_X11_pass hq3) (Nat.le_of_ble_eq_true rfl) (Nat.le_of_ble_eq_true rfl) (Nat.le_refl _) (Nat.le_refl _) (fun H locs hJ' => ?_)
            clear hJ
            have hJ := hJ'
            clear hJ'
            refine lv_aload_n hx hb dX11_lasts_114 rfl (lv_at hl 1 rfl) ?_
            refine lv_aload_n hx hb dX11_lasts_115 rfl (lv_at hl 1 rfl) ?_
            refine mg_bOf hX hJ qw700 dX11_lasts_116 ?_
            refine lv_iload_n hx hb dX11_lasts_119 rfl (lv_at hl 2 rfl) ?_
            replace hf := o_ck_e hf
            obtain ⟨hk10, hf⟩ := hf
            replace hf := o_let_e hf
            obtain ⟨x11, hx11, hf⟩ := hf
            refine ma_I 6 hX hJ (by decide) hk10 hx11 dX11_lasts_120 ?_
            replace hf := o_call_e hf
            obtain ⟨_, S8, hq4, hf⟩ := hf
            refine jq_doM hX hJ (jq_okV (As := [.int x11]) (rest := []) hx hb hm ho ht (mJ.recv hX hJ) qw988 qw990 qs92 qw991 qw7 hy_X11_begin rfl hl.1 (Nat.le_of_ble_eq_true rfl) dX11_lasts_121) (c_X11_begin hq4) (Nat.le_of_ble_eq_true rfl) (Nat.le_of_ble_eq_true rfl) (Nat.le_refl _) (Nat.le_refl _) (fun H locs hJ' => ?_)
            clear hJ
            have hJ := hJ'
            clear hJ'
            refine lv_goto (tgt := 165) hx hb dX11_lasts_124 (by decide) ?_
            obtain ⟨rfl, rfl⟩ := Prod.mk.inj (Option.some.inj hf)
            exact jq_vret hX hJ.2 dX11_lasts_165 ⟨rfl, rfl, rfl, hJ.1⟩
        · replace hf := o_t hf c4
          refine lv_aload_n hx hb dX11_lasts_77 rfl (lv_at hl 1 rfl) ?_
          replace hf := o_let_e hf
          obtain ⟨x12, hx12, hf⟩ := hf
          refine mg_back hX hJ hx12 qw717 dX11_lasts_78 ?_
          refine lv_goto (tgt := 107) hx hb dX11_lasts_81 (by decide) ?_
          replace hf := o_ck_e hf
          obtain ⟨hk11, hf⟩ := hf
          replace hf := o_let_e hf
          obtain ⟨S9, hS9, hf⟩ := hf
          refine mw_L 20 hX hJ (by decide) hk11 hS9 dX11_lasts_107 (fun H locs hJ' => ?_)
          clear hJ
          have hJ := hJ'
          clear hJ'
          refine lv_aload_n hx hb dX11_lasts_108 rfl (lv_at hl 1 rfl) ?_
          refine lv_iconst (v := 0) hx hb dX11_lasts_109 (by decide) ?_
          refine lv_iconst (v := 2) hx hb dX11_lasts_110 (by decide) ?_
          replace hf := o_call_e hf
          obtain ⟨_, S10, hq5, hf⟩ := hf
          refine jq_doM hX hJ (jq_okV (As := [.int 0, .int 2]) (rest := []) hx hb hm ho ht (mJ.recv hX hJ) qw1033 qw1035 qs101 qw1036 qw7 hy_X11_pass rfl hl.1 (Nat.le_of_ble_eq_true rfl) dX11_lasts_111) (c_X11_pass hq5) (Nat.le_of_ble_eq_true rfl) (Nat.le_of_ble_eq_true rfl) (Nat.le_refl _) (Nat.le_refl _) (fun H locs hJ' => ?_)
          clear hJ
          have hJ := hJ'
          clear hJ'
          refine lv_aload_n hx hb dX11_lasts_114 rfl (lv_at hl 1 rfl) ?_
          refine lv_aload_n hx hb dX11_lasts_115 rfl (lv_at hl 1 rfl) ?_
          refine mg_bOf hX hJ qw700 dX11_lasts_116 ?_
          refine lv_iload_n hx hb dX11_lasts_119 rfl (lv_at hl 2 rfl) ?_
          replace hf := o_ck_e hf
          obtain ⟨hk12, hf⟩ := hf
          replace hf := o_let_e hf
          obtain ⟨x13, hx13, hf⟩ := hf
          refine ma_I 6 hX hJ (by decide) hk12 hx13 dX11_lasts_120 ?_
          replace hf := o_call_e hf
          obtain ⟨_, S11, hq6, hf⟩ := hf
          refine jq_doM hX hJ (jq_okV (As := [.int x13]) (rest := []) hx hb hm ho ht (mJ.recv hX hJ) qw988 qw990 qs92 qw991 qw7 hy_X11_begin rfl hl.1 (Nat.le_of_ble_eq_true rfl) dX11_lasts_121) (c_X11_begin hq6) (Nat.le_of_ble_eq_true rfl) (Nat.le_of_ble_eq_true rfl) (Nat.le_refl _) (Nat.le_refl _) (fun H locs hJ' => ?_)
          clear hJ
          have hJ := hJ'
          clear hJ'
          refine lv_goto (tgt := 165) hx hb dX11_lasts_124 (by decide) ?_
          obtain ⟨rfl, rfl⟩ := Prod.mk.inj (Option.some.inj hf)
          exact jq_vret hX hJ.2 dX11_lasts_165 ⟨rfl, rfl, rfl, hJ.1⟩
  · replace hf := o_t hf c1
    refine lv_aload_n hx hb dX11_lasts_17 rfl (lv_at hl 1 rfl) ?_
    refine lv_iload_n hx hb dX11_lasts_18 rfl (lv_at hl 2 rfl) ?_
    replace hf := o_call_e hf
    obtain ⟨_, S12, hq7, hf⟩ := hf
    refine jq_doM hX hJ (jq_okV (As := [.int p1]) (rest := []) hx hb hm ho ht (mJ.recv hX hJ) qw1029 qw1031 qs100 qw1032 qw7 hy_X11_begins rfl hl.1 (Nat.le_of_ble_eq_true rfl) dX11_lasts_19) (c_X11_begins hq7) (Nat.le_of_ble_eq_true rfl) (Nat.le_of_ble_eq_true rfl) (Nat.le_refl _) (Nat.le_refl _) (fun H locs hJ' => ?_)
    clear hJ
    have hJ := hJ'
    clear hJ'
    refine lv_goto (tgt := 165) hx hb dX11_lasts_22 (by decide) ?_
    obtain ⟨rfl, rfl⟩ := Prod.mk.inj (Option.some.inj hf)
    exact jq_vret hX hJ.2 dX11_lasts_165 ⟨rfl, rfl, rfl, hJ.1⟩
theorem dX11_loops_0 : decode cX11_loops 0 = .ok (.aload_n 0, 1) := by decide +kernel
theorem dX11_loops_1 : decode cX11_loops 1 = .ok (.getfield 263, 3) := by decide +kernel
theorem dX11_loops_4 : decode cX11_loops 4 = .ok (.iconst 1, 1) := by decide +kernel
theorem dX11_loops_5 : decode cX11_loops 5 = .ok (.isub, 1) := by decide +kernel
theorem dX11_loops_6 : decode cX11_loops 6 = .ok (.istore_n 2, 1) := by decide +kernel
theorem dX11_loops_7 : decode cX11_loops 7 = .ok (.aload_n 0, 1) := by decide +kernel
theorem dX11_loops_8 : decode cX11_loops 8 = .ok (.getfield 257, 3) := by decide +kernel
theorem dX11_loops_11 : decode cX11_loops 11 = .ok (.ifCond .eq 18, 3) := by decide +kernel
theorem dX11_loops_14 : decode cX11_loops 14 = .ok (.aload_n 0, 1) := by decide +kernel
theorem dX11_loops_15 : decode cX11_loops 15 = .ok (.getfield 57, 3) := by decide +kernel
theorem dX11_loops_18 : decode cX11_loops 18 = .ok (.iload_n 2, 1) := by decide +kernel
theorem dX11_loops_19 : decode cX11_loops 19 = .ok (.iaload, 1) := by decide +kernel
theorem dX11_loops_20 : decode cX11_loops 20 = .ok (.iconst 1, 1) := by decide +kernel
theorem dX11_loops_21 : decode cX11_loops 21 = .ok (.if_icmp .le 8, 3) := by decide +kernel
theorem dX11_loops_24 : decode cX11_loops 24 = .ok (.aload_n 0, 1) := by decide +kernel
theorem dX11_loops_25 : decode cX11_loops 25 = .ok (.invokevirtual 306, 3) := by decide +kernel
theorem dX11_loops_28 : decode cX11_loops 28 = .ok (.return_, 1) := by decide +kernel
theorem dX11_loops_29 : decode cX11_loops 29 = .ok (.aload_n 0, 1) := by decide +kernel
theorem dX11_loops_30 : decode cX11_loops 30 = .ok (.getfield 63, 3) := by decide +kernel
theorem dX11_loops_33 : decode cX11_loops 33 = .ok (.iload_n 2, 1) := by decide +kernel
theorem dX11_loops_34 : decode cX11_loops 34 = .ok (.aload_n 0, 1) := by decide +kernel
theorem dX11_loops_35 : decode cX11_loops 35 = .ok (.getfield 57, 3) := by decide +kernel
theorem dX11_loops_38 : decode cX11_loops 38 = .ok (.iload_n 2, 1) := by decide +kernel
theorem dX11_loops_39 : decode cX11_loops 39 = .ok (.iaload, 1) := by decide +kernel
theorem dX11_loops_40 : decode cX11_loops 40 = .ok (.iconst 1, 1) := by decide +kernel
theorem dX11_loops_41 : decode cX11_loops 41 = .ok (.if_icmp .ne 16, 3) := by decide +kernel
theorem dX11_loops_57 : decode cX11_loops 57 = .ok (.aload_n 0, 1) := by decide +kernel
theorem dX11_loops_58 : decode cX11_loops 58 = .ok (.getfield 266, 3) := by decide +kernel
theorem dX11_loops_44 : decode cX11_loops 44 = .ok (.aload_n 0, 1) := by decide +kernel
theorem dX11_loops_45 : decode cX11_loops 45 = .ok (.getfield 60, 3) := by decide +kernel
theorem dX11_loops_48 : decode cX11_loops 48 = .ok (.iconst 4, 1) := by decide +kernel
theorem dX11_loops_49 : decode cX11_loops 49 = .ok (.iload_n 2, 1) := by decide +kernel
theorem dX11_loops_50 : decode cX11_loops 50 = .ok (.imul, 1) := by decide +kernel
theorem dX11_loops_51 : decode cX11_loops 51 = .ok (.iconst 1, 1) := by decide +kernel
theorem dX11_loops_52 : decode cX11_loops 52 = .ok (.iadd, 1) := by decide +kernel
theorem dX11_loops_53 : decode cX11_loops 53 = .ok (.laload, 1) := by decide +kernel
theorem dX11_loops_54 : decode cX11_loops 54 = .ok (.goto 7, 3) := by decide +kernel
theorem dX11_loops_61 : decode cX11_loops 61 = .ok (.lastore, 1) := by decide +kernel
theorem dX11_loops_62 : decode cX11_loops 62 = .ok (.aload_n 0, 1) := by decide +kernel
theorem dX11_loops_63 : decode cX11_loops 63 = .ok (.getfield 66, 3) := by decide +kernel
theorem dX11_loops_66 : decode cX11_loops 66 = .ok (.iload_n 2, 1) := by decide +kernel
theorem dX11_loops_67 : decode cX11_loops 67 = .ok (.dup2, 1) := by decide +kernel
theorem dX11_loops_68 : decode cX11_loops 68 = .ok (.iaload, 1) := by decide +kernel
theorem dX11_loops_69 : decode cX11_loops 69 = .ok (.aload_n 0, 1) := by decide +kernel
theorem dX11_loops_70 : decode cX11_loops 70 = .ok (.getfield 57, 3) := by decide +kernel
theorem dX11_loops_73 : decode cX11_loops 73 = .ok (.iload_n 2, 1) := by decide +kernel
theorem dX11_loops_74 : decode cX11_loops 74 = .ok (.iaload, 1) := by decide +kernel
theorem dX11_loops_75 : decode cX11_loops 75 = .ok (.iconst 1, 1) := by decide +kernel
theorem dX11_loops_76 : decode cX11_loops 76 = .ok (.if_icmp .ne 7, 3) := by decide +kernel
theorem dX11_loops_83 : decode cX11_loops 83 = .ok (.iconst 1, 1) := by decide +kernel
theorem dX11_loops_79 : decode cX11_loops 79 = .ok (.iconst 0, 1) := by decide +kernel
theorem dX11_loops_80 : decode cX11_loops 80 = .ok (.goto 4, 3) := by decide +kernel
theorem dX11_loops_84 : decode cX11_loops 84 = .ok (.iadd, 1) := by decide +kernel
theorem dX11_loops_85 : decode cX11_loops 85 = .ok (.iastore, 1) := by decide +kernel
theorem dX11_loops_86 : decode cX11_loops 86 = .ok (.aload_n 0, 1) := by decide +kernel
theorem dX11_loops_87 : decode cX11_loops 87 = .ok (.getfield 66, 3) := by decide +kernel
theorem dX11_loops_90 : decode cX11_loops 90 = .ok (.iload_n 2, 1) := by decide +kernel
theorem dX11_loops_91 : decode cX11_loops 91 = .ok (.iaload, 1) := by decide +kernel
theorem dX11_loops_92 : decode cX11_loops 92 = .ok (.i2l, 1) := by decide +kernel
theorem dX11_loops_93 : decode cX11_loops 93 = .ok (.aload_n 0, 1) := by decide +kernel
theorem dX11_loops_94 : decode cX11_loops 94 = .ok (.getfield 60, 3) := by decide +kernel
theorem dX11_loops_97 : decode cX11_loops 97 = .ok (.iconst 4, 1) := by decide +kernel
theorem dX11_loops_98 : decode cX11_loops 98 = .ok (.iload_n 2, 1) := by decide +kernel
theorem dX11_loops_99 : decode cX11_loops 99 = .ok (.imul, 1) := by decide +kernel
theorem dX11_loops_100 : decode cX11_loops 100 = .ok (.laload, 1) := by decide +kernel
theorem dX11_loops_101 : decode cX11_loops 101 = .ok (.lcmp, 1) := by decide +kernel
theorem dX11_loops_116 : decode cX11_loops 116 = .ok (.aload_n 0, 1) := by decide +kernel
theorem dX11_loops_117 : decode cX11_loops 117 = .ok (.getfield 75, 3) := by decide +kernel
theorem dX11_loops_120 : decode cX11_loops 120 = .ok (.iconst 0, 1) := by decide +kernel
theorem dX11_loops_121 : decode cX11_loops 121 = .ok (.aload_n 0, 1) := by decide +kernel
theorem dX11_loops_122 : decode cX11_loops 122 = .ok (.getfield 63, 3) := by decide +kernel
theorem dX11_loops_125 : decode cX11_loops 125 = .ok (.iload_n 2, 1) := by decide +kernel
theorem dX11_loops_126 : decode cX11_loops 126 = .ok (.laload, 1) := by decide +kernel
theorem dX11_loops_127 : decode cX11_loops 127 = .ok (.lastore, 1) := by decide +kernel
theorem dX11_loops_128 : decode cX11_loops 128 = .ok (.aload_n 0, 1) := by decide +kernel
theorem dX11_loops_129 : decode cX11_loops 129 = .ok (.getfield 75, 3) := by decide +kernel
theorem dX11_loops_132 : decode cX11_loops 132 = .ok (.iconst 1, 1) := by decide +kernel
theorem dX11_loops_133 : decode cX11_loops 133 = .ok (.aload_n 0, 1) := by decide +kernel
theorem dX11_loops_134 : decode cX11_loops 134 = .ok (.getfield 66, 3) := by decide +kernel
theorem dX11_loops_137 : decode cX11_loops 137 = .ok (.iload_n 2, 1) := by decide +kernel
theorem dX11_loops_138 : decode cX11_loops 138 = .ok (.iaload, 1) := by decide +kernel
theorem dX11_loops_139 : decode cX11_loops 139 = .ok (.i2l, 1) := by decide +kernel
theorem dX11_loops_140 : decode cX11_loops 140 = .ok (.lastore, 1) := by decide +kernel
theorem dX11_loops_141 : decode cX11_loops 141 = .ok (.aload_n 0, 1) := by decide +kernel
theorem dX11_loops_142 : decode cX11_loops 142 = .ok (.iconst 2, 1) := by decide +kernel
theorem dX11_loops_143 : decode cX11_loops 143 = .ok (.iconst 2, 1) := by decide +kernel
theorem dX11_loops_144 : decode cX11_loops 144 = .ok (.invokevirtual 293, 3) := by decide +kernel
theorem dX11_loops_147 : decode cX11_loops 147 = .ok (.aload_n 0, 1) := by decide +kernel
theorem dX11_loops_148 : decode cX11_loops 148 = .ok (.aload_n 0, 1) := by decide +kernel
theorem dX11_loops_149 : decode cX11_loops 149 = .ok (.getfield 33, 3) := by decide +kernel
theorem dX11_loops_152 : decode cX11_loops 152 = .ok (.iload_n 1, 1) := by decide +kernel
theorem dX11_loops_153 : decode cX11_loops 153 = .ok (.iaload, 1) := by decide +kernel
theorem dX11_loops_154 : decode cX11_loops 154 = .ok (.invokevirtual 300, 3) := by decide +kernel
theorem dX11_loops_157 : decode cX11_loops 157 = .ok (.return_, 1) := by decide +kernel
theorem dX11_loops_105 : decode cX11_loops 105 = .ok (.aload_n 0, 1) := by decide +kernel
theorem dX11_loops_106 : decode cX11_loops 106 = .ok (.aload_n 0, 1) := by decide +kernel
theorem dX11_loops_107 : decode cX11_loops 107 = .ok (.getfield 63, 3) := by decide +kernel
theorem dX11_loops_110 : decode cX11_loops 110 = .ok (.iload_n 2, 1) := by decide +kernel
theorem dX11_loops_111 : decode cX11_loops 111 = .ok (.laload, 1) := by decide +kernel
theorem dX11_loops_112 : decode cX11_loops 112 = .ok (.invokevirtual 275, 3) := by decide +kernel
theorem dX11_loops_115 : decode cX11_loops 115 = .ok (.return_, 1) := by decide +kernel
theorem dX11_loops_102 : decode cX11_loops 102 = .ok (.ifCond .lt 14, 3) := by decide +kernel
theorem hy_X11_loops : yX11_loops.cls ≠ "java/lang/invoke/MethodHandle" ∧ yX11_loops.cls ≠ "java/lang/invoke/VarHandle" ∧ (parseMethodDescriptor yX11_loops.desc).map (fun d => d.parameters.length) = some 1 := ⟨by decide, by decide, by decide +kernel⟩
def f_X11_loops_b84 (l1 : Int32) (l2 : Int32) (t0 : Int32) (t1 : Int32) (t2 : Int32) (S : mS) : Option ((Unit) × mS) :=
  o_ck (¬ (t2 < 0 ∨ 33 ≤ (t2).toNatClampNeg)) (o_let (m_wI S 13 (t2).toNatClampNeg (t1 + t0)) fun S1 =>
  o_ck (¬ (l2 < 0 ∨ 33 ≤ (l2).toNatClampNeg)) (o_let (m_aI S1 13 (l2).toNatClampNeg) fun x1 =>
  o_ck (¬ (((4 : Int32) * l2) < 0 ∨ 132 ≤ (((4 : Int32) * l2)).toNatClampNeg)) (o_let (m_aL S1 18 (((4 : Int32) * l2)).toNatClampNeg) fun x2 =>
  if ((x1).toInt64) < x2 then (
  o_ck (¬ (l2 < 0 ∨ 33 ≤ (l2).toNatClampNeg)) (o_let (m_aL S1 19 (l2).toNatClampNeg) fun x3 =>
  o_ck (¬ ((0 : Int32) < 0 ∨ 4 ≤ ((0 : Int32)).toNatClampNeg)) (o_let (m_wL S1 20 ((0 : Int32)).toNatClampNeg x3) fun S2 =>
  o_ck (¬ (l2 < 0 ∨ 33 ≤ (l2).toNatClampNeg)) (o_let (m_aI S2 13 (l2).toNatClampNeg) fun x4 =>
  o_ck (¬ ((1 : Int32) < 0 ∨ 4 ≤ ((1 : Int32)).toNatClampNeg)) (o_let (m_wL S2 20 ((1 : Int32)).toNatClampNeg ((x4).toInt64)) fun S3 =>
  o_call (f_X11_pass 2 2 S3) fun _ S4 =>
  o_ck (¬ (l1 < 0 ∨ 32 ≤ (l1).toNatClampNeg)) (o_let (m_aI S4 5 (l1).toNatClampNeg) fun x5 =>
  o_call (f_X11_begin x5 S4) fun _ S5 =>
  some ((), S5))))))) else (
  o_ck (¬ (l2 < 0 ∨ 33 ≤ (l2).toNatClampNeg)) (o_let (m_aL S1 19 (l2).toNatClampNeg) fun x6 =>
  o_call (f_X11_end x6 S1) fun _ S6 =>
  some ((), S6))))))
set_option maxHeartbeats 4000000 in
set_option maxRecDepth 100000 in
theorem w_X11_loops_b84 {l : Launch} {D : va_G} {Y : Nat → ClassId} {aR : Nat → Nat} {A : Nat → Prop} {ad : Nat → Nat} {p : Program} {e : Env} {s : State} {m : MethodId} {args : Array Value} {below : List Frame} {meth : Method} {c : Code} : ∀ (l1 : Int32) (l2 : Int32) (t0 : Int32) (t1 : Int32) (t2 : Int32) (S S' : mS) (r : Unit) (H : Heap) (locs : List Loc) (ls : Array Slot), jq_X D Y aR A p s m args meth c cX11_loops RX11 "loops" 3 none → mJ D Y A s ad S H locs → f_X11_loops_b84 l1 l2 t0 t1 t2 S = some (r, S') → lv_has ls 3 [(0, .ref (ad 0)), (1, .int l1), (2, .int l2)] → W p l e { frames := 1, cells := 0, slots := 0, locals := 25 } s m args below meth c H locs 0 0 (jq_Z below A (fun v k n H => v = none ∧ k = 0 ∧ n = 0 ∧ mH D Y A ad S' H) s) (F0 m 84 ls [.int t0, .int t1, .int t2, .ref (ad 13)]) := by
  intro l1 l2 t0 t1 t2 S S' r H locs ls hX hJ hf hl
  unfold f_X11_loops_b84 at hf
  have hx := hX.1
  have hb := hX.2.1
  have hm := hX.2.2.1
  have ho := hX.2.2.2.1
  have ht := hX.2.2.2.2.1
  have hn := hX.2.2.2.2.2.1.2.1
  refine lv_iadd hx hb dX11_loops_84 ?_
  replace hf := o_ck_e hf
  obtain ⟨hk1, hf⟩ := hf
  replace hf := o_let_e hf
  obtain ⟨S1, hS1, hf⟩ := hf
  refine mw_I 13 hX hJ (by decide) hk1 hS1 dX11_loops_85 (fun H locs hJ' => ?_)
  clear hJ
  have hJ := hJ'
  clear hJ'
  refine lv_aload_n hx hb dX11_loops_86 rfl (lv_at hl 0 rfl) ?_
  refine mg_turn hX hJ qw715 dX11_loops_87 ?_
  refine lv_iload_n hx hb dX11_loops_90 rfl (lv_at hl 2 rfl) ?_
  replace hf := o_ck_e hf
  obtain ⟨hk2, hf⟩ := hf
  replace hf := o_let_e hf
  obtain ⟨x1, hx1, hf⟩ := hf
  refine ma_I 13 hX hJ (by decide) hk2 hx1 dX11_loops_91 ?_
  refine lv_i2l hx hb dX11_loops_92 rfl ?_
  refine lv_aload_n hx hb dX11_loops_93 rfl (lv_at hl 0 rfl) ?_
  refine mg_par hX hJ qw713 dX11_loops_94 ?_
  refine lv_iconst (v := 4) hx hb dX11_loops_97 (by decide) ?_
  refine lv_iload_n hx hb dX11_loops_98 rfl (lv_at hl 2 rfl) ?_
  refine lv_imul hx hb dX11_loops_99 ?_
  replace hf := o_ck_e hf
  obtain ⟨hk3, hf⟩ := hf
  replace hf := o_let_e hf
  obtain ⟨x2, hx2, hf⟩ := hf
  refine ma_L 18 hX hJ (by decide) hk3 hx2 dX11_loops_100 ?_
  refine W.lcmp hx hb dX11_loops_101 ?_
  refine lv_if_lt (tgt := 116) hx hb dX11_loops_102 (by decide) (fun c1 => ?_) (fun c1 => ?_)
  · replace hf := o_t hf (qc_lt.mp c1)
    refine lv_aload_n hx hb dX11_loops_116 rfl (lv_at hl 0 rfl) ?_
    refine mg_hand hX hJ qw724 dX11_loops_117 ?_
    refine lv_iconst (v := 0) hx hb dX11_loops_120 (by decide) ?_
    refine lv_aload_n hx hb dX11_loops_121 rfl (lv_at hl 0 rfl) ?_
    refine mg_held hX hJ qw714 dX11_loops_122 ?_
    refine lv_iload_n hx hb dX11_loops_125 rfl (lv_at hl 2 rfl) ?_
    replace hf := o_ck_e hf
    obtain ⟨hk4, hf⟩ := hf
    replace hf := o_let_e hf
    obtain ⟨x3, hx3, hf⟩ := hf
    refine ma_L 19 hX hJ (by decide) hk4 hx3 dX11_loops_126 ?_
    replace hf := o_ck_e hf
    obtain ⟨hk5, hf⟩ := hf
    replace hf := o_let_e hf
    obtain ⟨S2, hS2, hf⟩ := hf
    refine mw_L 20 hX hJ (by decide) hk5 hS2 dX11_loops_127 (fun H locs hJ' => ?_)
    clear hJ
    have hJ := hJ'
    clear hJ'
    refine lv_aload_n hx hb dX11_loops_128 rfl (lv_at hl 0 rfl) ?_
    refine mg_hand hX hJ qw724 dX11_loops_129 ?_
    refine lv_iconst (v := 1) hx hb dX11_loops_132 (by decide) ?_
    refine lv_aload_n hx hb dX11_loops_133 rfl (lv_at hl 0 rfl) ?_
    refine mg_turn hX hJ qw715 dX11_loops_134 ?_
    refine lv_iload_n hx hb dX11_loops_137 rfl (lv_at hl 2 rfl) ?_
    replace hf := o_ck_e hf
    obtain ⟨hk6, hf⟩ := hf
    replace hf := o_let_e hf
    obtain ⟨x4, hx4, hf⟩ := hf
    refine ma_I 13 hX hJ (by decide) hk6 hx4 dX11_loops_138 ?_
    refine lv_i2l hx hb dX11_loops_139 rfl ?_
    replace hf := o_ck_e hf
    obtain ⟨hk7, hf⟩ := hf
    replace hf := o_let_e hf
    obtain ⟨S3, hS3, hf⟩ := hf
    refine mw_L 20 hX hJ (by decide) hk7 hS3 dX11_loops_140 (fun H locs hJ' => ?_)
    clear hJ
    have hJ := hJ'
    clear hJ'
    refine lv_aload_n hx hb dX11_loops_141 rfl (lv_at hl 0 rfl) ?_
    refine lv_iconst (v := 2) hx hb dX11_loops_142 (by decide) ?_
    refine lv_iconst (v := 2) hx hb dX11_loops_143 (by decide) ?_
    replace hf := o_call_e hf
    obtain ⟨_, S4, hq1, hf⟩ := hf
    refine jq_doM hX hJ (jq_okV (As := [.int 2, .int 2]) (rest := []) hx hb hm ho ht (mJ.recv hX hJ) qw1033 qw1035 qs101 qw1036 qw7 hy_X11_pass rfl hl.1 (Nat.le_of_ble_eq_true rfl) dX11_loops_144) (c_X11_pass hq1) (Nat.le_of_ble_eq_true rfl) (Nat.le_of_ble_eq_true rfl) (Nat.le_refl _) (Nat.le_refl _) (fun H locs hJ' => ?_)
    clear hJ
    have hJ := hJ'
    clear hJ'
    refine lv_aload_n hx hb dX11_loops_147 rfl (lv_at hl 0 rfl) ?_
    refine lv_aload_n hx hb dX11_loops_148 rfl (lv_at hl 0 rfl) ?_
    refine mg_aOf hX hJ qw699 dX11_loops_149 ?_
    refine lv_iload_n hx hb dX11_loops_152 rfl (lv_at hl 1 rfl) ?_
    replace hf := o_ck_e hf
    obtain ⟨hk8, hf⟩ := hf
    replace hf := o_let_e hf
    obtain ⟨x5, hx5, hf⟩ := hf
    refine ma_I 5 hX hJ (by decide) hk8 hx5 dX11_loops_153 ?_
    replace hf := o_call_e hf
    obtain ⟨_, S5, hq2, hf⟩ := hf
    refine jq_doM hX hJ (jq_okV (As := [.int x5]) (rest := []) hx hb hm ho ht (mJ.recv hX hJ) qw988 qw990 qs92 qw991 qw7 hy_X11_begin rfl hl.1 (Nat.le_of_ble_eq_true rfl) dX11_loops_154) (c_X11_begin hq2) (Nat.le_of_ble_eq_true rfl) (Nat.le_of_ble_eq_true rfl) (Nat.le_refl _) (Nat.le_refl _) (fun H locs hJ' => ?_)
    clear hJ
    have hJ := hJ'
    clear hJ'
    obtain ⟨rfl, rfl⟩ := Prod.mk.inj (Option.some.inj hf)
    exact jq_vret hX hJ.2 dX11_loops_157 ⟨rfl, rfl, rfl, hJ.1⟩
  · replace hf := o_f hf (fun z => c1 (qc_lt.mpr z))
    refine lv_aload_n hx hb dX11_loops_105 rfl (lv_at hl 0 rfl) ?_
    refine lv_aload_n hx hb dX11_loops_106 rfl (lv_at hl 0 rfl) ?_
    refine mg_held hX hJ qw714 dX11_loops_107 ?_
    refine lv_iload_n hx hb dX11_loops_110 rfl (lv_at hl 2 rfl) ?_
    replace hf := o_ck_e hf
    obtain ⟨hk9, hf⟩ := hf
    replace hf := o_let_e hf
    obtain ⟨x6, hx6, hf⟩ := hf
    refine ma_L 19 hX hJ (by decide) hk9 hx6 dX11_loops_111 ?_
    replace hf := o_call_e hf
    obtain ⟨_, S6, hq3, hf⟩ := hf
    refine jq_doM hX hJ (jq_okV (As := [.long x6]) (rest := []) hx hb hm ho ht (mJ.recv hX hJ) qw1000 qw1002 qs95 qw1003 qw7 hy_X11_end rfl hl.1 (Nat.le_of_ble_eq_true rfl) dX11_loops_112) (c_X11_end hq3) (Nat.le_of_ble_eq_true rfl) (Nat.le_of_ble_eq_true rfl) (Nat.le_refl _) (Nat.le_refl _) (fun H locs hJ' => ?_)
    clear hJ
    have hJ := hJ'
    clear hJ'
    obtain ⟨rfl, rfl⟩ := Prod.mk.inj (Option.some.inj hf)
    exact jq_vret hX hJ.2 dX11_loops_115 ⟨rfl, rfl, rfl, hJ.1⟩
def f_X11_loops_b61 (l1 : Int32) (l2 : Int32) (t0 : Int64) (t1 : Int32) (S : mS) : Option ((Unit) × mS) :=
  o_ck (¬ (t1 < 0 ∨ 33 ≤ (t1).toNatClampNeg)) (o_let (m_wL S 19 (t1).toNatClampNeg t0) fun S1 =>
  o_ck (¬ (l2 < 0 ∨ 33 ≤ (l2).toNatClampNeg)) (o_let (m_aI S1 13 (l2).toNatClampNeg) fun x1 =>
  o_ck (¬ (l2 < 0 ∨ 33 ≤ (l2).toNatClampNeg)) (o_let (m_aI S1 12 (l2).toNatClampNeg) fun x2 =>
  if x2 = 1 then (
  f_X11_loops_b84 l1 l2 0 x1 l2 S1) else (
  f_X11_loops_b84 l1 l2 1 x1 l2 S1))))
set_option maxHeartbeats 4000000 in
set_option maxRecDepth 100000 in
theorem w_X11_loops_b61 {l : Launch} {D : va_G} {Y : Nat → ClassId} {aR : Nat → Nat} {A : Nat → Prop} {ad : Nat → Nat} {p : Program} {e : Env} {s : State} {m : MethodId} {args : Array Value} {below : List Frame} {meth : Method} {c : Code} : ∀ (l1 : Int32) (l2 : Int32) (t0 : Int64) (t1 : Int32) (S S' : mS) (r : Unit) (H : Heap) (locs : List Loc) (ls : Array Slot), jq_X D Y aR A p s m args meth c cX11_loops RX11 "loops" 3 none → mJ D Y A s ad S H locs → f_X11_loops_b61 l1 l2 t0 t1 S = some (r, S') → lv_has ls 3 [(0, .ref (ad 0)), (1, .int l1), (2, .int l2)] → W p l e { frames := 1, cells := 0, slots := 0, locals := 25 } s m args below meth c H locs 0 0 (jq_Z below A (fun v k n H => v = none ∧ k = 0 ∧ n = 0 ∧ mH D Y A ad S' H) s) (F0 m 61 ls [.long t0, .int t1, .ref (ad 19)]) := by
  intro l1 l2 t0 t1 S S' r H locs ls hX hJ hf hl
  unfold f_X11_loops_b61 at hf
  have hx := hX.1
  have hb := hX.2.1
  have hm := hX.2.2.1
  have ho := hX.2.2.2.1
  have ht := hX.2.2.2.2.1
  have hn := hX.2.2.2.2.2.1.2.1
  replace hf := o_ck_e hf
  obtain ⟨hk1, hf⟩ := hf
  replace hf := o_let_e hf
  obtain ⟨S1, hS1, hf⟩ := hf
  refine mw_L 19 hX hJ (by decide) hk1 hS1 dX11_loops_61 (fun H locs hJ' => ?_)
  clear hJ
  have hJ := hJ'
  clear hJ'
  refine lv_aload_n hx hb dX11_loops_62 rfl (lv_at hl 0 rfl) ?_
  refine mg_turn hX hJ qw715 dX11_loops_63 ?_
  refine lv_iload_n hx hb dX11_loops_66 rfl (lv_at hl 2 rfl) ?_
  refine lv_dup2_11 hx hb dX11_loops_67 rfl rfl ?_
  replace hf := o_ck_e hf
  obtain ⟨hk2, hf⟩ := hf
  replace hf := o_let_e hf
  obtain ⟨x1, hx1, hf⟩ := hf
  refine ma_I 13 hX hJ (by decide) hk2 hx1 dX11_loops_68 ?_
  refine lv_aload_n hx hb dX11_loops_69 rfl (lv_at hl 0 rfl) ?_
  refine mg_phase hX hJ qw712 dX11_loops_70 ?_
  refine lv_iload_n hx hb dX11_loops_73 rfl (lv_at hl 2 rfl) ?_
  replace hf := o_ck_e hf
  obtain ⟨hk3, hf⟩ := hf
  replace hf := o_let_e hf
  obtain ⟨x2, hx2, hf⟩ := hf
  refine ma_I 12 hX hJ (by decide) hk3 hx2 dX11_loops_74 ?_
  refine lv_iconst (v := 1) hx hb dX11_loops_75 (by decide) ?_
  refine lv_icmp_ne (tgt := 83) hx hb dX11_loops_76 (by decide) (fun c1 => ?_) (fun c1 => ?_)
  · replace hf := o_f hf c1
    refine lv_iconst (v := 1) hx hb dX11_loops_83 (by decide) ?_
    replace hl := lv_sub hl (l' := [(0, .ref (ad 0)), (1, .int l1), (2, .int l2)]) [0, 1, 2] rfl
    exact w_X11_loops_b84 l1 l2 1 x1 l2 S1 S' r H locs ls hX hJ hf hl
  · replace hf := o_t hf c1
    refine lv_iconst (v := 0) hx hb dX11_loops_79 (by decide) ?_
    refine lv_goto (tgt := 84) hx hb dX11_loops_80 (by decide) ?_
    replace hl := lv_sub hl (l' := [(0, .ref (ad 0)), (1, .int l1), (2, .int l2)]) [0, 1, 2] rfl
    exact w_X11_loops_b84 l1 l2 0 x1 l2 S1 S' r H locs ls hX hJ hf hl
def f_X11_loops_b29 (l1 : Int32) (l2 : Int32) (S : mS) : Option ((Unit) × mS) :=
  o_ck (¬ (l2 < 0 ∨ 33 ≤ (l2).toNatClampNeg)) (o_let (m_aI S 12 (l2).toNatClampNeg) fun x1 =>
  if x1 = 1 then (
  o_ck (¬ ((((4 : Int32) * l2) + (1 : Int32)) < 0 ∨ 132 ≤ ((((4 : Int32) * l2) + (1 : Int32))).toNatClampNeg)) (o_let (m_aL S 18 ((((4 : Int32) * l2) + (1 : Int32))).toNatClampNeg) fun x3 =>
  f_X11_loops_b61 l1 l2 x3 l2 S)) else (
  o_let (m_L S 1) fun x2 =>
  f_X11_loops_b61 l1 l2 x2 l2 S))
set_option maxHeartbeats 4000000 in
set_option maxRecDepth 100000 in
theorem w_X11_loops_b29 {l : Launch} {D : va_G} {Y : Nat → ClassId} {aR : Nat → Nat} {A : Nat → Prop} {ad : Nat → Nat} {p : Program} {e : Env} {s : State} {m : MethodId} {args : Array Value} {below : List Frame} {meth : Method} {c : Code} : ∀ (l1 : Int32) (l2 : Int32) (S S' : mS) (r : Unit) (H : Heap) (locs : List Loc) (ls : Array Slot), jq_X D Y aR A p s m args meth c cX11_loops RX11 "loops" 3 none → mJ D Y A s ad S H locs → f_X11_loops_b29 l1 l2 S = some (r, S') → lv_has ls 3 [(0, .ref (ad 0)), (1, .int l1), (2, .int l2)] → W p l e { frames := 1, cells := 0, slots := 0, locals := 25 } s m args below meth c H locs 0 0 (jq_Z below A (fun v k n H => v = none ∧ k = 0 ∧ n = 0 ∧ mH D Y A ad S' H) s) (F0 m 29 ls []) := by
  intro l1 l2 S S' r H locs ls hX hJ hf hl
  unfold f_X11_loops_b29 at hf
  have hx := hX.1
  have hb := hX.2.1
  have hm := hX.2.2.1
  have ho := hX.2.2.2.1
  have ht := hX.2.2.2.2.1
  have hn := hX.2.2.2.2.2.1.2.1
  refine lv_aload_n hx hb dX11_loops_29 rfl (lv_at hl 0 rfl) ?_
  refine mg_held hX hJ qw714 dX11_loops_30 ?_
  refine lv_iload_n hx hb dX11_loops_33 rfl (lv_at hl 2 rfl) ?_
  refine lv_aload_n hx hb dX11_loops_34 rfl (lv_at hl 0 rfl) ?_
  refine mg_phase hX hJ qw712 dX11_loops_35 ?_
  refine lv_iload_n hx hb dX11_loops_38 rfl (lv_at hl 2 rfl) ?_
  replace hf := o_ck_e hf
  obtain ⟨hk1, hf⟩ := hf
  replace hf := o_let_e hf
  obtain ⟨x1, hx1, hf⟩ := hf
  refine ma_I 12 hX hJ (by decide) hk1 hx1 dX11_loops_39 ?_
  refine lv_iconst (v := 1) hx hb dX11_loops_40 (by decide) ?_
  refine lv_icmp_ne (tgt := 57) hx hb dX11_loops_41 (by decide) (fun c1 => ?_) (fun c1 => ?_)
  · replace hf := o_f hf c1
    refine lv_aload_n hx hb dX11_loops_57 rfl (lv_at hl 0 rfl) ?_
    replace hf := o_let_e hf
    obtain ⟨x2, hx2, hf⟩ := hf
    refine mg_back hX hJ hx2 qw717 dX11_loops_58 ?_
    replace hl := lv_sub hl (l' := [(0, .ref (ad 0)), (1, .int l1), (2, .int l2)]) [0, 1, 2] rfl
    exact w_X11_loops_b61 l1 l2 x2 l2 S S' r H locs ls hX hJ hf hl
  · replace hf := o_t hf c1
    refine lv_aload_n hx hb dX11_loops_44 rfl (lv_at hl 0 rfl) ?_
    refine mg_par hX hJ qw713 dX11_loops_45 ?_
    refine lv_iconst (v := 4) hx hb dX11_loops_48 (by decide) ?_
    refine lv_iload_n hx hb dX11_loops_49 rfl (lv_at hl 2 rfl) ?_
    refine lv_imul hx hb dX11_loops_50 ?_
    refine lv_iconst (v := 1) hx hb dX11_loops_51 (by decide) ?_
    refine lv_iadd hx hb dX11_loops_52 ?_
    replace hf := o_ck_e hf
    obtain ⟨hk2, hf⟩ := hf
    replace hf := o_let_e hf
    obtain ⟨x3, hx3, hf⟩ := hf
    refine ma_L 18 hX hJ (by decide) hk2 hx3 dX11_loops_53 ?_
    refine lv_goto (tgt := 61) hx hb dX11_loops_54 (by decide) ?_
    replace hl := lv_sub hl (l' := [(0, .ref (ad 0)), (1, .int l1), (2, .int l2)]) [0, 1, 2] rfl
    exact w_X11_loops_b61 l1 l2 x3 l2 S S' r H locs ls hX hJ hf hl
def f_X11_loops (p1 : Int32) (S : mS) : Option ((Unit) × mS) :=
  o_let (m_I S 7) fun x1 =>
  o_let (m_I S 8) fun x2 =>
  if x2 = 0 then (
  f_X11_loops_b29 p1 (x1 - (1 : Int32)) S) else (
  o_ck (¬ ((x1 - (1 : Int32)) < 0 ∨ 33 ≤ ((x1 - (1 : Int32))).toNatClampNeg)) (o_let (m_aI S 12 ((x1 - (1 : Int32))).toNatClampNeg) fun x3 =>
  if x3 ≤ 1 then (
  f_X11_loops_b29 p1 (x1 - (1 : Int32)) S) else (
  o_call (f_X11_giveOn S) fun _ S1 =>
  some ((), S1))))
set_option maxHeartbeats 4000000 in
set_option maxRecDepth 100000 in
theorem c_X11_loops {l : Launch} {D : va_G} {Y : Nat → ClassId} {aR : Nat → Nat} {A : Nat → Prop} {ad : Nat → Nat} {p1 : Int32} {S S' : mS} {r : Unit} (hf : f_X11_loops p1 S = some (r, S')) : jq_M l D Y aR A ad yX11_loops cX11_loops 3 none 1 25 [.ref (ad 0), .int p1] S none S' := by
  unfold f_X11_loops at hf
  refine jq_enterM (by decide) (Nat.le_of_ble_eq_true rfl) fun p e s m args below meth c ls H locs hX hJ hl => ?_
  have hl : lv_has ls 3 [(0, .ref (ad 0)), (1, .int p1)] := hl
  have hx := hX.1
  have hb := hX.2.1
  have hm := hX.2.2.1
  have ho := hX.2.2.2.1
  have ht := hX.2.2.2.2.1
  have hn := hX.2.2.2.2.2.1.2.1
  refine lv_aload_n hx hb dX11_loops_0 rfl (lv_at hl 0 rfl) ?_
  replace hf := o_let_e hf
  obtain ⟨x1, hx1, hf⟩ := hf
  refine mg_depth hX hJ hx1 qw710 dX11_loops_1 ?_
  refine lv_iconst (v := 1) hx hb dX11_loops_4 (by decide) ?_
  refine lv_isub hx hb dX11_loops_5 ?_
  refine lv_istore_n (lv' := [(2, .int (x1 - (1 : Int32))), (0, .ref (ad 0)), (1, .int p1)]) hx hb dX11_loops_6 rfl hl (by decide) rfl (fun ls hl' => ?_)
  clear hl
  have hl := hl'
  clear hl'
  refine lv_aload_n hx hb dX11_loops_7 rfl (lv_at hl 1 rfl) ?_
  replace hf := o_let_e hf
  obtain ⟨x2, hx2, hf⟩ := hf
  refine mg_failure hX hJ hx2 qw718 dX11_loops_8 ?_
  refine lv_if_eq (tgt := 29) hx hb dX11_loops_11 (by decide) (fun c1 => ?_) (fun c1 => ?_)
  · replace hf := o_t hf c1
    replace hl := lv_sub hl (l' := [(0, .ref (ad 0)), (1, .int p1), (2, .int (x1 - (1 : Int32)))]) [1, 2, 0] rfl
    exact w_X11_loops_b29 p1 (x1 - (1 : Int32)) S S' r H locs ls hX hJ hf hl
  · replace hf := o_f hf c1
    refine lv_aload_n hx hb dX11_loops_14 rfl (lv_at hl 1 rfl) ?_
    refine mg_phase hX hJ qw712 dX11_loops_15 ?_
    refine lv_iload_n hx hb dX11_loops_18 rfl (lv_at hl 0 rfl) ?_
    replace hf := o_ck_e hf
    obtain ⟨hk1, hf⟩ := hf
    replace hf := o_let_e hf
    obtain ⟨x3, hx3, hf⟩ := hf
    refine ma_I 12 hX hJ (by decide) hk1 hx3 dX11_loops_19 ?_
    refine lv_iconst (v := 1) hx hb dX11_loops_20 (by decide) ?_
    refine lv_icmp_le (tgt := 29) hx hb dX11_loops_21 (by decide) (fun c2 => ?_) (fun c2 => ?_)
    · replace hf := o_t hf c2
      replace hl := lv_sub hl (l' := [(0, .ref (ad 0)), (1, .int p1), (2, .int (x1 - (1 : Int32)))]) [1, 2, 0] rfl
      exact w_X11_loops_b29 p1 (x1 - (1 : Int32)) S S' r H locs ls hX hJ hf hl
    · replace hf := o_f hf c2
      refine lv_aload_n hx hb dX11_loops_24 rfl (lv_at hl 1 rfl) ?_
      replace hf := o_call_e hf
      obtain ⟨_, S1, hq1, hf⟩ := hf
      refine jq_doM hX hJ (jq_okV (As := []) (rest := []) hx hb hm ho ht (mJ.recv hX hJ) qw1037 qw1039 qs102 qw1040 qw7 hy_X11_giveOn rfl hl.1 (Nat.le_of_ble_eq_true rfl) dX11_loops_25) (c_X11_giveOn hq1) (Nat.le_of_ble_eq_true rfl) (Nat.le_of_ble_eq_true rfl) (Nat.le_refl _) (Nat.le_refl _) (fun H locs hJ' => ?_)
      clear hJ
      have hJ := hJ'
      clear hJ'
      obtain ⟨rfl, rfl⟩ := Prod.mk.inj (Option.some.inj hf)
      exact jq_vret hX hJ.2 dX11_loops_28 ⟨rfl, rfl, rfl, hJ.1⟩
theorem dX11_handsOn_0 : decode cX11_handsOn 0 = .ok (.iconst 4, 1) := by decide +kernel
theorem dX11_handsOn_1 : decode cX11_handsOn 1 = .ok (.aload_n 0, 1) := by decide +kernel
theorem dX11_handsOn_2 : decode cX11_handsOn 2 = .ok (.getfield 263, 3) := by decide +kernel
theorem dX11_handsOn_5 : decode cX11_handsOn 5 = .ok (.iconst 1, 1) := by decide +kernel
theorem dX11_handsOn_6 : decode cX11_handsOn 6 = .ok (.isub, 1) := by decide +kernel
theorem dX11_handsOn_7 : decode cX11_handsOn 7 = .ok (.imul, 1) := by decide +kernel
theorem dX11_handsOn_8 : decode cX11_handsOn 8 = .ok (.istore_n 2, 1) := by decide +kernel
theorem dX11_handsOn_9 : decode cX11_handsOn 9 = .ok (.aload_n 0, 1) := by decide +kernel
theorem dX11_handsOn_10 : decode cX11_handsOn 10 = .ok (.getfield 36, 3) := by decide +kernel
theorem dX11_handsOn_13 : decode cX11_handsOn 13 = .ok (.iload_n 1, 1) := by decide +kernel
theorem dX11_handsOn_14 : decode cX11_handsOn 14 = .ok (.iaload, 1) := by decide +kernel
theorem dX11_handsOn_15 : decode cX11_handsOn 15 = .ok (.istore_n 3, 1) := by decide +kernel
theorem dX11_handsOn_16 : decode cX11_handsOn 16 = .ok (.aload_n 0, 1) := by decide +kernel
theorem dX11_handsOn_17 : decode cX11_handsOn 17 = .ok (.iconst 0, 1) := by decide +kernel
theorem dX11_handsOn_18 : decode cX11_handsOn 18 = .ok (.iconst 0, 1) := by decide +kernel
theorem dX11_handsOn_19 : decode cX11_handsOn 19 = .ok (.invokevirtual 293, 3) := by decide +kernel
theorem dX11_handsOn_22 : decode cX11_handsOn 22 = .ok (.aload_n 0, 1) := by decide +kernel
theorem dX11_handsOn_23 : decode cX11_handsOn 23 = .ok (.getfield 30, 3) := by decide +kernel
theorem dX11_handsOn_26 : decode cX11_handsOn 26 = .ok (.iload_n 1, 1) := by decide +kernel
theorem dX11_handsOn_27 : decode cX11_handsOn 27 = .ok (.iaload, 1) := by decide +kernel
theorem dX11_handsOn_28 : decode cX11_handsOn 28 = .ok (.tableswitch 133 11 14 #[32, 68, 103, 112], 32) := by decide +kernel
theorem dX11_handsOn_60 : decode cX11_handsOn 60 = .ok (.iload_n 3, 1) := by decide +kernel
theorem dX11_handsOn_61 : decode cX11_handsOn 61 = .ok (.istore 4, 2) := by decide +kernel
theorem dX11_handsOn_96 : decode cX11_handsOn 96 = .ok (.aload_n 0, 1) := by decide +kernel
theorem dX11_handsOn_97 : decode cX11_handsOn 97 = .ok (.getfield 75, 3) := by decide +kernel
theorem dX11_handsOn_100 : decode cX11_handsOn 100 = .ok (.iload_n 3, 1) := by decide +kernel
theorem dX11_handsOn_101 : decode cX11_handsOn 101 = .ok (.aload_n 0, 1) := by decide +kernel
theorem dX11_handsOn_102 : decode cX11_handsOn 102 = .ok (.getfield 60, 3) := by decide +kernel
theorem dX11_handsOn_105 : decode cX11_handsOn 105 = .ok (.iload_n 2, 1) := by decide +kernel
theorem dX11_handsOn_106 : decode cX11_handsOn 106 = .ok (.iload_n 3, 1) := by decide +kernel
theorem dX11_handsOn_107 : decode cX11_handsOn 107 = .ok (.iadd, 1) := by decide +kernel
theorem dX11_handsOn_108 : decode cX11_handsOn 108 = .ok (.iconst 1, 1) := by decide +kernel
theorem dX11_handsOn_109 : decode cX11_handsOn 109 = .ok (.iadd, 1) := by decide +kernel
theorem dX11_handsOn_110 : decode cX11_handsOn 110 = .ok (.laload, 1) := by decide +kernel
theorem dX11_handsOn_111 : decode cX11_handsOn 111 = .ok (.lastore, 1) := by decide +kernel
theorem dX11_handsOn_112 : decode cX11_handsOn 112 = .ok (.aload_n 0, 1) := by decide +kernel
theorem dX11_handsOn_113 : decode cX11_handsOn 113 = .ok (.getfield 75, 3) := by decide +kernel
theorem dX11_handsOn_116 : decode cX11_handsOn 116 = .ok (.iload_n 3, 1) := by decide +kernel
theorem dX11_handsOn_117 : decode cX11_handsOn 117 = .ok (.iconst 1, 1) := by decide +kernel
theorem dX11_handsOn_118 : decode cX11_handsOn 118 = .ok (.iadd, 1) := by decide +kernel
theorem dX11_handsOn_119 : decode cX11_handsOn 119 = .ok (.aload_n 0, 1) := by decide +kernel
theorem dX11_handsOn_120 : decode cX11_handsOn 120 = .ok (.getfield 60, 3) := by decide +kernel
theorem dX11_handsOn_123 : decode cX11_handsOn 123 = .ok (.iload_n 2, 1) := by decide +kernel
theorem dX11_handsOn_124 : decode cX11_handsOn 124 = .ok (.iload_n 3, 1) := by decide +kernel
theorem dX11_handsOn_125 : decode cX11_handsOn 125 = .ok (.iadd, 1) := by decide +kernel
theorem dX11_handsOn_126 : decode cX11_handsOn 126 = .ok (.laload, 1) := by decide +kernel
theorem dX11_handsOn_127 : decode cX11_handsOn 127 = .ok (.lastore, 1) := by decide +kernel
theorem dX11_handsOn_128 : decode cX11_handsOn 128 = .ok (.goto 91, 3) := by decide +kernel
theorem dX11_handsOn_219 : decode cX11_handsOn 219 = .ok (.aload_n 0, 1) := by decide +kernel
theorem dX11_handsOn_220 : decode cX11_handsOn 220 = .ok (.aload_n 0, 1) := by decide +kernel
theorem dX11_handsOn_221 : decode cX11_handsOn 221 = .ok (.getfield 33, 3) := by decide +kernel
theorem dX11_handsOn_224 : decode cX11_handsOn 224 = .ok (.iload_n 1, 1) := by decide +kernel
theorem dX11_handsOn_225 : decode cX11_handsOn 225 = .ok (.iaload, 1) := by decide +kernel
theorem dX11_handsOn_226 : decode cX11_handsOn 226 = .ok (.invokevirtual 300, 3) := by decide +kernel
theorem dX11_handsOn_229 : decode cX11_handsOn 229 = .ok (.return_, 1) := by decide +kernel
theorem dX11_handsOn_131 : decode cX11_handsOn 131 = .ok (.aload_n 0, 1) := by decide +kernel
theorem dX11_handsOn_132 : decode cX11_handsOn 132 = .ok (.iconst 0, 1) := by decide +kernel
theorem dX11_handsOn_133 : decode cX11_handsOn 133 = .ok (.iconst 1, 1) := by decide +kernel
theorem dX11_handsOn_134 : decode cX11_handsOn 134 = .ok (.invokevirtual 293, 3) := by decide +kernel
theorem dX11_handsOn_137 : decode cX11_handsOn 137 = .ok (.goto 82, 3) := by decide +kernel
theorem dX11_handsOn_140 : decode cX11_handsOn 140 = .ok (.aload_n 0, 1) := by decide +kernel
theorem dX11_handsOn_141 : decode cX11_handsOn 141 = .ok (.getfield 75, 3) := by decide +kernel
theorem dX11_handsOn_144 : decode cX11_handsOn 144 = .ok (.iconst 0, 1) := by decide +kernel
theorem dX11_handsOn_145 : decode cX11_handsOn 145 = .ok (.aload_n 0, 1) := by decide +kernel
theorem dX11_handsOn_146 : decode cX11_handsOn 146 = .ok (.getfield 42, 3) := by decide +kernel
theorem dX11_handsOn_149 : decode cX11_handsOn 149 = .ok (.iload_n 1, 1) := by decide +kernel
theorem dX11_handsOn_150 : decode cX11_handsOn 150 = .ok (.laload, 1) := by decide +kernel
theorem dX11_handsOn_151 : decode cX11_handsOn 151 = .ok (.lastore, 1) := by decide +kernel
theorem dX11_handsOn_152 : decode cX11_handsOn 152 = .ok (.aload_n 0, 1) := by decide +kernel
theorem dX11_handsOn_153 : decode cX11_handsOn 153 = .ok (.iconst 0, 1) := by decide +kernel
theorem dX11_handsOn_154 : decode cX11_handsOn 154 = .ok (.iconst 1, 1) := by decide +kernel
theorem dX11_handsOn_155 : decode cX11_handsOn 155 = .ok (.invokevirtual 293, 3) := by decide +kernel
theorem dX11_handsOn_158 : decode cX11_handsOn 158 = .ok (.goto 61, 3) := by decide +kernel
theorem dX11_handsOn_161 : decode cX11_handsOn 161 = .ok (.iconst 0, 1) := by decide +kernel
theorem dX11_handsOn_162 : decode cX11_handsOn 162 = .ok (.istore 4, 2) := by decide +kernel
theorem dX11_handsOn_63 : decode cX11_handsOn 63 = .ok (.iload 4, 2) := by decide +kernel
theorem dX11_handsOn_65 : decode cX11_handsOn 65 = .ok (.iconst 3, 1) := by decide +kernel
theorem dX11_handsOn_66 : decode cX11_handsOn 66 = .ok (.if_icmp .ge 27, 3) := by decide +kernel
theorem dX11_handsOn_93 : decode cX11_handsOn 93 = .ok (.goto 126, 3) := by decide +kernel
theorem dX11_handsOn_69 : decode cX11_handsOn 69 = .ok (.aload_n 0, 1) := by decide +kernel
theorem dX11_handsOn_70 : decode cX11_handsOn 70 = .ok (.getfield 75, 3) := by decide +kernel
theorem dX11_handsOn_73 : decode cX11_handsOn 73 = .ok (.iload 4, 2) := by decide +kernel
theorem dX11_handsOn_75 : decode cX11_handsOn 75 = .ok (.aload_n 0, 1) := by decide +kernel
theorem dX11_handsOn_76 : decode cX11_handsOn 76 = .ok (.getfield 60, 3) := by decide +kernel
theorem dX11_handsOn_79 : decode cX11_handsOn 79 = .ok (.iload_n 2, 1) := by decide +kernel
theorem dX11_handsOn_80 : decode cX11_handsOn 80 = .ok (.iload 4, 2) := by decide +kernel
theorem dX11_handsOn_82 : decode cX11_handsOn 82 = .ok (.iadd, 1) := by decide +kernel
theorem dX11_handsOn_83 : decode cX11_handsOn 83 = .ok (.iconst 1, 1) := by decide +kernel
theorem dX11_handsOn_84 : decode cX11_handsOn 84 = .ok (.iadd, 1) := by decide +kernel
theorem dX11_handsOn_85 : decode cX11_handsOn 85 = .ok (.laload, 1) := by decide +kernel
theorem dX11_handsOn_86 : decode cX11_handsOn 86 = .ok (.lastore, 1) := by decide +kernel
theorem dX11_handsOn_87 : decode cX11_handsOn 87 = .ok (.iinc 4 1, 3) := by decide +kernel
theorem dX11_handsOn_90 : decode cX11_handsOn 90 = .ok (.goto (-27), 3) := by decide +kernel
theorem dX11_handsOn_164 : decode cX11_handsOn 164 = .ok (.iload 4, 2) := by decide +kernel
theorem dX11_handsOn_166 : decode cX11_handsOn 166 = .ok (.aload_n 0, 1) := by decide +kernel
theorem dX11_handsOn_167 : decode cX11_handsOn 167 = .ok (.getfield 45, 3) := by decide +kernel
theorem dX11_handsOn_170 : decode cX11_handsOn 170 = .ok (.iload_n 1, 1) := by decide +kernel
theorem dX11_handsOn_171 : decode cX11_handsOn 171 = .ok (.iaload, 1) := by decide +kernel
theorem dX11_handsOn_172 : decode cX11_handsOn 172 = .ok (.if_icmp .ge 47, 3) := by decide +kernel
theorem dX11_handsOn_175 : decode cX11_handsOn 175 = .ok (.aload_n 0, 1) := by decide +kernel
theorem dX11_handsOn_176 : decode cX11_handsOn 176 = .ok (.getfield 75, 3) := by decide +kernel
theorem dX11_handsOn_179 : decode cX11_handsOn 179 = .ok (.iload 4, 2) := by decide +kernel
theorem dX11_handsOn_181 : decode cX11_handsOn 181 = .ok (.aload_n 0, 1) := by decide +kernel
theorem dX11_handsOn_182 : decode cX11_handsOn 182 = .ok (.getfield 60, 3) := by decide +kernel
theorem dX11_handsOn_185 : decode cX11_handsOn 185 = .ok (.iload_n 2, 1) := by decide +kernel
theorem dX11_handsOn_186 : decode cX11_handsOn 186 = .ok (.iload 4, 2) := by decide +kernel
theorem dX11_handsOn_188 : decode cX11_handsOn 188 = .ok (.iadd, 1) := by decide +kernel
theorem dX11_handsOn_189 : decode cX11_handsOn 189 = .ok (.laload, 1) := by decide +kernel
theorem dX11_handsOn_190 : decode cX11_handsOn 190 = .ok (.aload_n 0, 1) := by decide +kernel
theorem dX11_handsOn_191 : decode cX11_handsOn 191 = .ok (.iload_n 1, 1) := by decide +kernel
theorem dX11_handsOn_192 : decode cX11_handsOn 192 = .ok (.iload 4, 2) := by decide +kernel
theorem dX11_handsOn_194 : decode cX11_handsOn 194 = .ok (.invokevirtual 167, 3) := by decide +kernel
theorem dX11_handsOn_197 : decode cX11_handsOn 197 = .ok (.aload_n 0, 1) := by decide +kernel
theorem dX11_handsOn_198 : decode cX11_handsOn 198 = .ok (.aload_n 0, 1) := by decide +kernel
theorem dX11_handsOn_199 : decode cX11_handsOn 199 = .ok (.getfield 33, 3) := by decide +kernel
theorem dX11_handsOn_202 : decode cX11_handsOn 202 = .ok (.iload_n 1, 1) := by decide +kernel
theorem dX11_handsOn_203 : decode cX11_handsOn 203 = .ok (.iaload, 1) := by decide +kernel
theorem dX11_handsOn_204 : decode cX11_handsOn 204 = .ok (.iload 4, 2) := by decide +kernel
theorem dX11_handsOn_206 : decode cX11_handsOn 206 = .ok (.invokevirtual 167, 3) := by decide +kernel
theorem dX11_handsOn_209 : decode cX11_handsOn 209 = .ok (.invokestatic 296, 3) := by decide +kernel
theorem dX11_handsOn_212 : decode cX11_handsOn 212 = .ok (.lastore, 1) := by decide +kernel
theorem dX11_handsOn_213 : decode cX11_handsOn 213 = .ok (.iinc 4 1, 3) := by decide +kernel
theorem dX11_handsOn_216 : decode cX11_handsOn 216 = .ok (.goto (-52), 3) := by decide +kernel
theorem hy_X11_handsOn : yX11_handsOn.cls ≠ "java/lang/invoke/MethodHandle" ∧ yX11_handsOn.cls ≠ "java/lang/invoke/VarHandle" ∧ (parseMethodDescriptor yX11_handsOn.desc).map (fun d => d.parameters.length) = some 1 := ⟨by decide, by decide, by decide +kernel⟩
def f_X11_handsOn_b63 : Nat → Int32 → Int32 → Int32 → mS → Option ((Unit) × mS)
  | 0, _, _, _, _ => none
  | n + 1, l1, l2, l4, S => 
  if 3 ≤ l4 then (
  o_ck (¬ (l1 < 0 ∨ 32 ≤ (l1).toNatClampNeg)) (o_let (m_aI S 5 (l1).toNatClampNeg) fun x1 =>
  o_call (f_X11_begin x1 S) fun _ S1 =>
  some ((), S1))) else (
  o_ck (¬ (((l2 + l4) + (1 : Int32)) < 0 ∨ 132 ≤ (((l2 + l4) + (1 : Int32))).toNatClampNeg)) (o_let (m_aL S 18 (((l2 + l4) + (1 : Int32))).toNatClampNeg) fun x2 =>
  o_ck (¬ (l4 < 0 ∨ 4 ≤ (l4).toNatClampNeg)) (o_let (m_wL S 20 (l4).toNatClampNeg x2) fun S2 =>
  o_let (l4 + 1) fun x3 =>
  f_X11_handsOn_b63 n l1 l2 x3 S2)))
set_option maxHeartbeats 4000000 in
set_option maxRecDepth 100000 in
theorem w_X11_handsOn_b63 {l : Launch} {D : va_G} {Y : Nat → ClassId} {aR : Nat → Nat} {A : Nat → Prop} {ad : Nat → Nat} {p : Program} {e : Env} {s : State} {m : MethodId} {args : Array Value} {below : List Frame} {meth : Method} {c : Code} : ∀ (n : Nat) (l1 : Int32) (l2 : Int32) (l4 : Int32) (S S' : mS) (r : Unit) (H : Heap) (locs : List Loc) (ls : Array Slot), jq_X D Y aR A p s m args meth c cX11_handsOn RX11 "handsOn" 5 none → mJ D Y A s ad S H locs → f_X11_handsOn_b63 n l1 l2 l4 S = some (r, S') → lv_has ls 5 [(0, .ref (ad 0)), (1, .int l1), (2, .int l2), (4, .int l4)] → W p l e { frames := 3, cells := 0, slots := 0, locals := 65 } s m args below meth c H locs 0 0 (jq_Z below A (fun v k n H => v = none ∧ k = 0 ∧ n = 0 ∧ mH D Y A ad S' H) s) (F0 m 63 ls []) := by
  intro n
  induction n with
  | zero =>
    intro l1 l2 l4 S S' r H locs ls hX hJ hf hl
    cases hf
  | succ n ih =>
    intro l1 l2 l4 S S' r H locs ls hX hJ hf hl
    rw [f_X11_handsOn_b63.eq_2] at hf
    have hx := hX.1
    have hb := hX.2.1
    have hm := hX.2.2.1
    have ho := hX.2.2.2.1
    have ht := hX.2.2.2.2.1
    have hn := hX.2.2.2.2.2.1.2.1
    refine lv_iload hx hb dX11_handsOn_63 (lv_at hl 3 rfl) ?_
    refine lv_iconst (v := 3) hx hb dX11_handsOn_65 (by decide) ?_
    refine lv_icmp_ge (tgt := 93) hx hb dX11_handsOn_66 (by decide) (fun c1 => ?_) (fun c1 => ?_)
    · replace hf := o_t hf c1
      refine lv_goto (tgt := 219) hx hb dX11_handsOn_93 (by decide) ?_
      refine lv_aload_n hx hb dX11_handsOn_219 rfl (lv_at hl 0 rfl) ?_
      refine lv_aload_n hx hb dX11_handsOn_220 rfl (lv_at hl 0 rfl) ?_
      refine mg_aOf hX hJ qw699 dX11_handsOn_221 ?_
      refine lv_iload_n hx hb dX11_handsOn_224 rfl (lv_at hl 1 rfl) ?_
      replace hf := o_ck_e hf
      obtain ⟨hk1, hf⟩ := hf
      replace hf := o_let_e hf
      obtain ⟨x1, hx1, hf⟩ := hf
      refine ma_I 5 hX hJ (by decide) hk1 hx1 dX11_handsOn_225 ?_
      replace hf := o_call_e hf
      obtain ⟨_, S1, hq1, hf⟩ := hf
      refine jq_doM hX hJ (jq_okV (As := [.int x1]) (rest := []) hx hb hm ho ht (mJ.recv hX hJ) qw988 qw990 qs92 qw991 qw7 hy_X11_begin rfl hl.1 (Nat.le_of_ble_eq_true rfl) dX11_handsOn_226) (c_X11_begin hq1) (Nat.le_of_ble_eq_true rfl) (Nat.le_of_ble_eq_true rfl) (Nat.le_refl _) (Nat.le_refl _) (fun H locs hJ' => ?_)
      clear hJ
      have hJ := hJ'
      clear hJ'
      obtain ⟨rfl, rfl⟩ := Prod.mk.inj (Option.some.inj hf)
      exact jq_vret hX hJ.2 dX11_handsOn_229 ⟨rfl, rfl, rfl, hJ.1⟩
    · replace hf := o_f hf c1
      refine lv_aload_n hx hb dX11_handsOn_69 rfl (lv_at hl 0 rfl) ?_
      refine mg_hand hX hJ qw724 dX11_handsOn_70 ?_
      refine lv_iload hx hb dX11_handsOn_73 (lv_at hl 3 rfl) ?_
      refine lv_aload_n hx hb dX11_handsOn_75 rfl (lv_at hl 0 rfl) ?_
      refine mg_par hX hJ qw713 dX11_handsOn_76 ?_
      refine lv_iload_n hx hb dX11_handsOn_79 rfl (lv_at hl 2 rfl) ?_
      refine lv_iload hx hb dX11_handsOn_80 (lv_at hl 3 rfl) ?_
      refine lv_iadd hx hb dX11_handsOn_82 ?_
      refine lv_iconst (v := 1) hx hb dX11_handsOn_83 (by decide) ?_
      refine lv_iadd hx hb dX11_handsOn_84 ?_
      replace hf := o_ck_e hf
      obtain ⟨hk2, hf⟩ := hf
      replace hf := o_let_e hf
      obtain ⟨x2, hx2, hf⟩ := hf
      refine ma_L 18 hX hJ (by decide) hk2 hx2 dX11_handsOn_85 ?_
      replace hf := o_ck_e hf
      obtain ⟨hk3, hf⟩ := hf
      replace hf := o_let_e hf
      obtain ⟨S2, hS2, hf⟩ := hf
      refine mw_L 20 hX hJ (by decide) hk3 hS2 dX11_handsOn_86 (fun H locs hJ' => ?_)
      clear hJ
      have hJ := hJ'
      clear hJ'
      replace hf := o_let_e hf
      obtain ⟨x3, hx3, hf⟩ := hf
      refine lv_iinc (v := x3) (lv' := [(4, .int x3), (0, .ref (ad 0)), (1, .int l1), (2, .int l2)]) hx hb dX11_handsOn_87 hl (k := 3) rfl (by rw [← hx3]; rfl) (by decide) rfl (fun ls hl' => ?_)
      clear hl
      have hl := hl'
      clear hl'
      refine lv_goto (tgt := 63) hx hb dX11_handsOn_90 (by decide) ?_
      replace hl := lv_sub hl (l' := [(0, .ref (ad 0)), (1, .int l1), (2, .int l2), (4, .int x3)]) [1, 2, 3, 0] rfl
      exact ih l1 l2 x3 S2 S' r H locs ls hX hJ hf hl
def f_X11_handsOn_b164 : Nat → Int32 → Int32 → Int32 → mS → Option ((Unit) × mS)
  | 0, _, _, _, _ => none
  | n + 1, l1, l2, l4, S => 
  o_ck (¬ (l1 < 0 ∨ 33 ≤ (l1).toNatClampNeg)) (o_let (m_aI S 8 (l1).toNatClampNeg) fun x1 =>
  if x1 ≤ l4 then (
  o_ck (¬ (l1 < 0 ∨ 32 ≤ (l1).toNatClampNeg)) (o_let (m_aI S 5 (l1).toNatClampNeg) fun x2 =>
  o_call (f_X11_begin x2 S) fun _ S1 =>
  some ((), S1))) else (
  o_ck (¬ ((l2 + l4) < 0 ∨ 132 ≤ ((l2 + l4)).toNatClampNeg)) (o_let (m_aL S 18 ((l2 + l4)).toNatClampNeg) fun x3 =>
  o_call (f_X11_kind l1 l4 S) fun x4 S2 =>
  o_ck (¬ (l1 < 0 ∨ 32 ≤ (l1).toNatClampNeg)) (o_let (m_aI S2 5 (l1).toNatClampNeg) fun x5 =>
  o_call (f_X11_kind x5 l4 S2) fun x6 S3 =>
  o_cP (f_X11_widen x3 x4 x6) fun x7 =>
  o_ck (¬ (l4 < 0 ∨ 4 ≤ (l4).toNatClampNeg)) (o_let (m_wL S3 20 (l4).toNatClampNeg x7) fun S4 =>
  o_let (l4 + 1) fun x8 =>
  f_X11_handsOn_b164 n l1 l2 x8 S4)))))
set_option maxHeartbeats 4000000 in
set_option maxRecDepth 100000 in
theorem w_X11_handsOn_b164 {l : Launch} {D : va_G} {Y : Nat → ClassId} {aR : Nat → Nat} {A : Nat → Prop} {ad : Nat → Nat} {p : Program} {e : Env} {s : State} {m : MethodId} {args : Array Value} {below : List Frame} {meth : Method} {c : Code} : ∀ (n : Nat) (l1 : Int32) (l2 : Int32) (l4 : Int32) (S S' : mS) (r : Unit) (H : Heap) (locs : List Loc) (ls : Array Slot), jq_X D Y aR A p s m args meth c cX11_handsOn RX11 "handsOn" 5 none → mJ D Y A s ad S H locs → f_X11_handsOn_b164 n l1 l2 l4 S = some (r, S') → lv_has ls 5 [(0, .ref (ad 0)), (1, .int l1), (2, .int l2), (4, .int l4)] → W p l e { frames := 3, cells := 0, slots := 0, locals := 65 } s m args below meth c H locs 0 0 (jq_Z below A (fun v k n H => v = none ∧ k = 0 ∧ n = 0 ∧ mH D Y A ad S' H) s) (F0 m 164 ls []) := by
  intro n
  induction n with
  | zero =>
    intro l1 l2 l4 S S' r H locs ls hX hJ hf hl
    cases hf
  | succ n ih =>
    intro l1 l2 l4 S S' r H locs ls hX hJ hf hl
    rw [f_X11_handsOn_b164.eq_2] at hf
    have hx := hX.1
    have hb := hX.2.1
    have hm := hX.2.2.1
    have ho := hX.2.2.2.1
    have ht := hX.2.2.2.2.1
    have hn := hX.2.2.2.2.2.1.2.1
    refine lv_iload hx hb dX11_handsOn_164 (lv_at hl 3 rfl) ?_
    refine lv_aload_n hx hb dX11_handsOn_166 rfl (lv_at hl 0 rfl) ?_
    refine mg_manyOf hX hJ qw703 dX11_handsOn_167 ?_
    refine lv_iload_n hx hb dX11_handsOn_170 rfl (lv_at hl 1 rfl) ?_
    replace hf := o_ck_e hf
    obtain ⟨hk1, hf⟩ := hf
    replace hf := o_let_e hf
    obtain ⟨x1, hx1, hf⟩ := hf
    refine ma_I 8 hX hJ (by decide) hk1 hx1 dX11_handsOn_171 ?_
    refine lv_icmp_ge (tgt := 219) hx hb dX11_handsOn_172 (by decide) (fun c1 => ?_) (fun c1 => ?_)
    · replace hf := o_t hf c1
      refine lv_aload_n hx hb dX11_handsOn_219 rfl (lv_at hl 0 rfl) ?_
      refine lv_aload_n hx hb dX11_handsOn_220 rfl (lv_at hl 0 rfl) ?_
      refine mg_aOf hX hJ qw699 dX11_handsOn_221 ?_
      refine lv_iload_n hx hb dX11_handsOn_224 rfl (lv_at hl 1 rfl) ?_
      replace hf := o_ck_e hf
      obtain ⟨hk2, hf⟩ := hf
      replace hf := o_let_e hf
      obtain ⟨x2, hx2, hf⟩ := hf
      refine ma_I 5 hX hJ (by decide) hk2 hx2 dX11_handsOn_225 ?_
      replace hf := o_call_e hf
      obtain ⟨_, S1, hq1, hf⟩ := hf
      refine jq_doM hX hJ (jq_okV (As := [.int x2]) (rest := []) hx hb hm ho ht (mJ.recv hX hJ) qw988 qw990 qs92 qw991 qw7 hy_X11_begin rfl hl.1 (Nat.le_of_ble_eq_true rfl) dX11_handsOn_226) (c_X11_begin hq1) (Nat.le_of_ble_eq_true rfl) (Nat.le_of_ble_eq_true rfl) (Nat.le_refl _) (Nat.le_refl _) (fun H locs hJ' => ?_)
      clear hJ
      have hJ := hJ'
      clear hJ'
      obtain ⟨rfl, rfl⟩ := Prod.mk.inj (Option.some.inj hf)
      exact jq_vret hX hJ.2 dX11_handsOn_229 ⟨rfl, rfl, rfl, hJ.1⟩
    · replace hf := o_f hf c1
      refine lv_aload_n hx hb dX11_handsOn_175 rfl (lv_at hl 0 rfl) ?_
      refine mg_hand hX hJ qw724 dX11_handsOn_176 ?_
      refine lv_iload hx hb dX11_handsOn_179 (lv_at hl 3 rfl) ?_
      refine lv_aload_n hx hb dX11_handsOn_181 rfl (lv_at hl 0 rfl) ?_
      refine mg_par hX hJ qw713 dX11_handsOn_182 ?_
      refine lv_iload_n hx hb dX11_handsOn_185 rfl (lv_at hl 2 rfl) ?_
      refine lv_iload hx hb dX11_handsOn_186 (lv_at hl 3 rfl) ?_
      refine lv_iadd hx hb dX11_handsOn_188 ?_
      replace hf := o_ck_e hf
      obtain ⟨hk3, hf⟩ := hf
      replace hf := o_let_e hf
      obtain ⟨x3, hx3, hf⟩ := hf
      refine ma_L 18 hX hJ (by decide) hk3 hx3 dX11_handsOn_189 ?_
      refine lv_aload_n hx hb dX11_handsOn_190 rfl (lv_at hl 0 rfl) ?_
      refine lv_iload_n hx hb dX11_handsOn_191 rfl (lv_at hl 1 rfl) ?_
      refine lv_iload hx hb dX11_handsOn_192 (lv_at hl 3 rfl) ?_
      replace hf := o_call_e hf
      obtain ⟨x4, S2, hq2, hf⟩ := hf
      refine jq_doM hX hJ (jq_okV (As := [.int l1, .int l4]) (rest := [.long x3, .int l4, .ref (ad 20)]) hx hb hm ho ht (mJ.recv hX hJ) qw883 qw885 qs81 qw886 qw7 hy_X11_kind rfl hl.1 (Nat.le_of_ble_eq_true rfl) dX11_handsOn_194) (c_X11_kind hq2) (Nat.le_of_ble_eq_true rfl) (Nat.le_of_ble_eq_true rfl) (Nat.le_refl _) (Nat.le_refl _) (fun H locs hJ' => ?_)
      clear hJ
      have hJ := hJ'
      clear hJ'
      refine lv_aload_n hx hb dX11_handsOn_197 rfl (lv_at hl 0 rfl) ?_
      refine lv_aload_n hx hb dX11_handsOn_198 rfl (lv_at hl 0 rfl) ?_
      refine mg_aOf hX hJ qw699 dX11_handsOn_199 ?_
      refine lv_iload_n hx hb dX11_handsOn_202 rfl (lv_at hl 1 rfl) ?_
      replace hf := o_ck_e hf
      obtain ⟨hk4, hf⟩ := hf
      replace hf := o_let_e hf
      obtain ⟨x5, hx5, hf⟩ := hf
      refine ma_I 5 hX hJ (by decide) hk4 hx5 dX11_handsOn_203 ?_
      refine lv_iload hx hb dX11_handsOn_204 (lv_at hl 3 rfl) ?_
      replace hf := o_call_e hf
      obtain ⟨x6, S3, hq3, hf⟩ := hf
      refine jq_doM hX hJ (jq_okV (As := [.int x5, .int l4]) (rest := [.int x4, .long x3, .int l4, .ref (ad 20)]) hx hb hm ho ht (mJ.recv hX hJ) qw883 qw885 qs81 qw886 qw7 hy_X11_kind rfl hl.1 (Nat.le_of_ble_eq_true rfl) dX11_handsOn_206) (c_X11_kind hq3) (Nat.le_of_ble_eq_true rfl) (Nat.le_of_ble_eq_true rfl) (Nat.le_refl _) (Nat.le_refl _) (fun H locs hJ' => ?_)
      clear hJ
      have hJ := hJ'
      clear hJ'
      replace hf := o_cP_e hf
      obtain ⟨x7, hq4, hf⟩ := hf
      refine jq_doP hX hJ.2 (jq_okS (As := [.long x3, .int x4, .int x6]) (rest := [.int l4, .ref (ad 20)]) hx hb hm ho ht qw950 qw951 qw952 qw7 hy_X11_widen rfl hl.1 (Nat.le_of_ble_eq_true rfl) dX11_handsOn_209) (c_X11_widen hq4) (Nat.le_of_ble_eq_true rfl) (Nat.le_of_ble_eq_true rfl) (Nat.le_refl _) (Nat.le_refl _) (fun locs hS9 => ?_)
      replace hJ := mJ.to hJ hS9
      replace hf := o_ck_e hf
      obtain ⟨hk5, hf⟩ := hf
      replace hf := o_let_e hf
      obtain ⟨S4, hS4, hf⟩ := hf
      refine mw_L 20 hX hJ (by decide) hk5 hS4 dX11_handsOn_212 (fun H locs hJ' => ?_)
      clear hJ
      have hJ := hJ'
      clear hJ'
      replace hf := o_let_e hf
      obtain ⟨x8, hx8, hf⟩ := hf
      refine lv_iinc (v := x8) (lv' := [(4, .int x8), (0, .ref (ad 0)), (1, .int l1), (2, .int l2)]) hx hb dX11_handsOn_213 hl (k := 3) rfl (by rw [← hx8]; rfl) (by decide) rfl (fun ls hl' => ?_)
      clear hl
      have hl := hl'
      clear hl'
      refine lv_goto (tgt := 164) hx hb dX11_handsOn_216 (by decide) ?_
      replace hl := lv_sub hl (l' := [(0, .ref (ad 0)), (1, .int l1), (2, .int l2), (4, .int x8)]) [1, 2, 3, 0] rfl
      exact ih l1 l2 x8 S4 S' r H locs ls hX hJ hf hl
def f_X11_handsOn (p1 : Int32) (S : mS) : Option ((Unit) × mS) :=
  o_let (m_I S 7) fun x1 =>
  o_ck (¬ (p1 < 0 ∨ 32 ≤ (p1).toNatClampNeg)) (o_let (m_aI S 6 (p1).toNatClampNeg) fun x2 =>
  o_call (f_X11_pass 0 0 S) fun _ S1 =>
  o_ck (¬ (p1 < 0 ∨ 32 ≤ (p1).toNatClampNeg)) (o_let (m_aI S1 4 (p1).toNatClampNeg) fun x3 =>
  if x3 = 11 then (
  f_X11_handsOn_b63 12 p1 ((4 : Int32) * (x1 - (1 : Int32))) x2 S1) else (
  if x3 = 12 then (
  o_ck (¬ (((((4 : Int32) * (x1 - (1 : Int32))) + x2) + (1 : Int32)) < 0 ∨ 132 ≤ (((((4 : Int32) * (x1 - (1 : Int32))) + x2) + (1 : Int32))).toNatClampNeg)) (o_let (m_aL S1 18 (((((4 : Int32) * (x1 - (1 : Int32))) + x2) + (1 : Int32))).toNatClampNeg) fun x4 =>
  o_ck (¬ (x2 < 0 ∨ 4 ≤ (x2).toNatClampNeg)) (o_let (m_wL S1 20 (x2).toNatClampNeg x4) fun S2 =>
  o_ck (¬ ((((4 : Int32) * (x1 - (1 : Int32))) + x2) < 0 ∨ 132 ≤ ((((4 : Int32) * (x1 - (1 : Int32))) + x2)).toNatClampNeg)) (o_let (m_aL S2 18 ((((4 : Int32) * (x1 - (1 : Int32))) + x2)).toNatClampNeg) fun x5 =>
  o_ck (¬ ((x2 + (1 : Int32)) < 0 ∨ 4 ≤ ((x2 + (1 : Int32))).toNatClampNeg)) (o_let (m_wL S2 20 ((x2 + (1 : Int32))).toNatClampNeg x5) fun S3 =>
  o_ck (¬ (p1 < 0 ∨ 32 ≤ (p1).toNatClampNeg)) (o_let (m_aI S3 5 (p1).toNatClampNeg) fun x6 =>
  o_call (f_X11_begin x6 S3) fun _ S4 =>
  some ((), S4))))))) else (
  if x3 = 13 then (
  o_call (f_X11_pass 0 1 S1) fun _ S5 =>
  o_ck (¬ (p1 < 0 ∨ 32 ≤ (p1).toNatClampNeg)) (o_let (m_aI S5 5 (p1).toNatClampNeg) fun x7 =>
  o_call (f_X11_begin x7 S5) fun _ S6 =>
  some ((), S6))) else (
  if x3 = 14 then (
  o_ck (¬ (p1 < 0 ∨ 32 ≤ (p1).toNatClampNeg)) (o_let (m_aL S1 17 (p1).toNatClampNeg) fun x8 =>
  o_ck (¬ ((0 : Int32) < 0 ∨ 4 ≤ ((0 : Int32)).toNatClampNeg)) (o_let (m_wL S1 20 ((0 : Int32)).toNatClampNeg x8) fun S7 =>
  o_call (f_X11_pass 0 1 S7) fun _ S8 =>
  o_ck (¬ (p1 < 0 ∨ 32 ≤ (p1).toNatClampNeg)) (o_let (m_aI S8 5 (p1).toNatClampNeg) fun x9 =>
  o_call (f_X11_begin x9 S8) fun _ S9 =>
  some ((), S9))))) else (
  f_X11_handsOn_b164 12 p1 ((4 : Int32) * (x1 - (1 : Int32))) 0 S1))))))
set_option maxHeartbeats 4000000 in
set_option maxRecDepth 100000 in
theorem c_X11_handsOn {l : Launch} {D : va_G} {Y : Nat → ClassId} {aR : Nat → Nat} {A : Nat → Prop} {ad : Nat → Nat} {p1 : Int32} {S S' : mS} {r : Unit} (hf : f_X11_handsOn p1 S = some (r, S')) : jq_M l D Y aR A ad yX11_handsOn cX11_handsOn 5 none 3 65 [.ref (ad 0), .int p1] S none S' := by
  unfold f_X11_handsOn at hf
  refine jq_enterM (by decide) (Nat.le_of_ble_eq_true rfl) fun p e s m args below meth c ls H locs hX hJ hl => ?_
  have hl : lv_has ls 5 [(0, .ref (ad 0)), (1, .int p1)] := hl
  have hx := hX.1
  have hb := hX.2.1
  have hm := hX.2.2.1
  have ho := hX.2.2.2.1
  have ht := hX.2.2.2.2.1
  have hn := hX.2.2.2.2.2.1.2.1
  refine lv_iconst (v := 4) hx hb dX11_handsOn_0 (by decide) ?_
  refine lv_aload_n hx hb dX11_handsOn_1 rfl (lv_at hl 0 rfl) ?_
  replace hf := o_let_e hf
  obtain ⟨x1, hx1, hf⟩ := hf
  refine mg_depth hX hJ hx1 qw710 dX11_handsOn_2 ?_
  refine lv_iconst (v := 1) hx hb dX11_handsOn_5 (by decide) ?_
  refine lv_isub hx hb dX11_handsOn_6 ?_
  refine lv_imul hx hb dX11_handsOn_7 ?_
  refine lv_istore_n (lv' := [(2, .int ((4 : Int32) * (x1 - (1 : Int32)))), (0, .ref (ad 0)), (1, .int p1)]) hx hb dX11_handsOn_8 rfl hl (by decide) rfl (fun ls hl' => ?_)
  clear hl
  have hl := hl'
  clear hl'
  refine lv_aload_n hx hb dX11_handsOn_9 rfl (lv_at hl 1 rfl) ?_
  refine mg_bOf hX hJ qw700 dX11_handsOn_10 ?_
  refine lv_iload_n hx hb dX11_handsOn_13 rfl (lv_at hl 2 rfl) ?_
  replace hf := o_ck_e hf
  obtain ⟨hk1, hf⟩ := hf
  replace hf := o_let_e hf
  obtain ⟨x2, hx2, hf⟩ := hf
  refine ma_I 6 hX hJ (by decide) hk1 hx2 dX11_handsOn_14 ?_
  refine lv_istore_n (lv' := [(3, .int x2), (2, .int ((4 : Int32) * (x1 - (1 : Int32)))), (0, .ref (ad 0)), (1, .int p1)]) hx hb dX11_handsOn_15 rfl hl (by decide) rfl (fun ls hl' => ?_)
  clear hl
  have hl := hl'
  clear hl'
  refine lv_aload_n hx hb dX11_handsOn_16 rfl (lv_at hl 2 rfl) ?_
  refine lv_iconst (v := 0) hx hb dX11_handsOn_17 (by decide) ?_
  refine lv_iconst (v := 0) hx hb dX11_handsOn_18 (by decide) ?_
  replace hf := o_call_e hf
  obtain ⟨_, S1, hq1, hf⟩ := hf
  refine jq_doM hX hJ (jq_okV (As := [.int 0, .int 0]) (rest := []) hx hb hm ho ht (mJ.recv hX hJ) qw1033 qw1035 qs101 qw1036 qw7 hy_X11_pass rfl hl.1 (Nat.le_of_ble_eq_true rfl) dX11_handsOn_19) (c_X11_pass hq1) (Nat.le_of_ble_eq_true rfl) (Nat.le_of_ble_eq_true rfl) (Nat.le_refl _) (Nat.le_refl _) (fun H locs hJ' => ?_)
  clear hJ
  have hJ := hJ'
  clear hJ'
  refine lv_aload_n hx hb dX11_handsOn_22 rfl (lv_at hl 2 rfl) ?_
  refine mg_sortOf hX hJ qw698 dX11_handsOn_23 ?_
  refine lv_iload_n hx hb dX11_handsOn_26 rfl (lv_at hl 3 rfl) ?_
  replace hf := o_ck_e hf
  obtain ⟨hk2, hf⟩ := hf
  replace hf := o_let_e hf
  obtain ⟨x3, hx3, hf⟩ := hf
  refine ma_I 4 hX hJ (by decide) hk2 hx3 dX11_handsOn_27 ?_
  by_cases c1 : x3 = 11
  · replace hf := o_t hf c1
    refine lv_tableIn (off := 32) (tgt := 60) hx hb dX11_handsOn_28 (by rcases c1 with rfl <;> decide) (by rcases c1 with rfl <;> decide) (by rcases c1 with rfl <;> rfl) (by decide) ?_
    refine lv_iload_n hx hb dX11_handsOn_60 rfl (lv_at hl 0 rfl) ?_
    refine lv_istore (lv' := [(4, .int x2), (3, .int x2), (2, .int ((4 : Int32) * (x1 - (1 : Int32)))), (0, .ref (ad 0)), (1, .int p1)]) hx hb dX11_handsOn_61 hl (by decide) rfl (fun ls hl' => ?_)
    clear hl
    have hl := hl'
    clear hl'
    replace hl := lv_sub hl (l' := [(0, .ref (ad 0)), (1, .int p1), (2, .int ((4 : Int32) * (x1 - (1 : Int32)))), (4, .int x2)]) [3, 4, 2, 0] rfl
    exact w_X11_handsOn_b63 12 p1 ((4 : Int32) * (x1 - (1 : Int32))) x2 S1 S' r H locs ls hX hJ hf hl
  replace hf := o_f hf c1
  by_cases c2 : x3 = 12
  · replace hf := o_t hf c2
    refine lv_tableIn (off := 68) (tgt := 96) hx hb dX11_handsOn_28 (by rcases c2 with rfl <;> decide) (by rcases c2 with rfl <;> decide) (by rcases c2 with rfl <;> rfl) (by decide) ?_
    refine lv_aload_n hx hb dX11_handsOn_96 rfl (lv_at hl 2 rfl) ?_
    refine mg_hand hX hJ qw724 dX11_handsOn_97 ?_
    refine lv_iload_n hx hb dX11_handsOn_100 rfl (lv_at hl 0 rfl) ?_
    refine lv_aload_n hx hb dX11_handsOn_101 rfl (lv_at hl 2 rfl) ?_
    refine mg_par hX hJ qw713 dX11_handsOn_102 ?_
    refine lv_iload_n hx hb dX11_handsOn_105 rfl (lv_at hl 1 rfl) ?_
    refine lv_iload_n hx hb dX11_handsOn_106 rfl (lv_at hl 0 rfl) ?_
    refine lv_iadd hx hb dX11_handsOn_107 ?_
    refine lv_iconst (v := 1) hx hb dX11_handsOn_108 (by decide) ?_
    refine lv_iadd hx hb dX11_handsOn_109 ?_
    replace hf := o_ck_e hf
    obtain ⟨hk3, hf⟩ := hf
    replace hf := o_let_e hf
    obtain ⟨x4, hx4, hf⟩ := hf
    refine ma_L 18 hX hJ (by decide) hk3 hx4 dX11_handsOn_110 ?_
    replace hf := o_ck_e hf
    obtain ⟨hk4, hf⟩ := hf
    replace hf := o_let_e hf
    obtain ⟨S2, hS2, hf⟩ := hf
    refine mw_L 20 hX hJ (by decide) hk4 hS2 dX11_handsOn_111 (fun H locs hJ' => ?_)
    clear hJ
    have hJ := hJ'
    clear hJ'
    refine lv_aload_n hx hb dX11_handsOn_112 rfl (lv_at hl 2 rfl) ?_
    refine mg_hand hX hJ qw724 dX11_handsOn_113 ?_
    refine lv_iload_n hx hb dX11_handsOn_116 rfl (lv_at hl 0 rfl) ?_
    refine lv_iconst (v := 1) hx hb dX11_handsOn_117 (by decide) ?_
    refine lv_iadd hx hb dX11_handsOn_118 ?_
    refine lv_aload_n hx hb dX11_handsOn_119 rfl (lv_at hl 2 rfl) ?_
    refine mg_par hX hJ qw713 dX11_handsOn_120 ?_
    refine lv_iload_n hx hb dX11_handsOn_123 rfl (lv_at hl 1 rfl) ?_
    refine lv_iload_n hx hb dX11_handsOn_124 rfl (lv_at hl 0 rfl) ?_
    refine lv_iadd hx hb dX11_handsOn_125 ?_
    replace hf := o_ck_e hf
    obtain ⟨hk5, hf⟩ := hf
    replace hf := o_let_e hf
    obtain ⟨x5, hx5, hf⟩ := hf
    refine ma_L 18 hX hJ (by decide) hk5 hx5 dX11_handsOn_126 ?_
    replace hf := o_ck_e hf
    obtain ⟨hk6, hf⟩ := hf
    replace hf := o_let_e hf
    obtain ⟨S3, hS3, hf⟩ := hf
    refine mw_L 20 hX hJ (by decide) hk6 hS3 dX11_handsOn_127 (fun H locs hJ' => ?_)
    clear hJ
    have hJ := hJ'
    clear hJ'
    refine lv_goto (tgt := 219) hx hb dX11_handsOn_128 (by decide) ?_
    refine lv_aload_n hx hb dX11_handsOn_219 rfl (lv_at hl 2 rfl) ?_
    refine lv_aload_n hx hb dX11_handsOn_220 rfl (lv_at hl 2 rfl) ?_
    refine mg_aOf hX hJ qw699 dX11_handsOn_221 ?_
    refine lv_iload_n hx hb dX11_handsOn_224 rfl (lv_at hl 3 rfl) ?_
    replace hf := o_ck_e hf
    obtain ⟨hk7, hf⟩ := hf
    replace hf := o_let_e hf
    obtain ⟨x6, hx6, hf⟩ := hf
    refine ma_I 5 hX hJ (by decide) hk7 hx6 dX11_handsOn_225 ?_
    replace hf := o_call_e hf
    obtain ⟨_, S4, hq2, hf⟩ := hf
    refine jq_doM hX hJ (jq_okV (As := [.int x6]) (rest := []) hx hb hm ho ht (mJ.recv hX hJ) qw988 qw990 qs92 qw991 qw7 hy_X11_begin rfl hl.1 (Nat.le_of_ble_eq_true rfl) dX11_handsOn_226) (c_X11_begin hq2) (Nat.le_of_ble_eq_true rfl) (Nat.le_of_ble_eq_true rfl) (Nat.le_refl _) (Nat.le_refl _) (fun H locs hJ' => ?_)
    clear hJ
    have hJ := hJ'
    clear hJ'
    obtain ⟨rfl, rfl⟩ := Prod.mk.inj (Option.some.inj hf)
    exact jq_vret hX hJ.2 dX11_handsOn_229 ⟨rfl, rfl, rfl, hJ.1⟩
  replace hf := o_f hf c2
  by_cases c3 : x3 = 13
  · replace hf := o_t hf c3
    refine lv_tableIn (off := 103) (tgt := 131) hx hb dX11_handsOn_28 (by rcases c3 with rfl <;> decide) (by rcases c3 with rfl <;> decide) (by rcases c3 with rfl <;> rfl) (by decide) ?_
    refine lv_aload_n hx hb dX11_handsOn_131 rfl (lv_at hl 2 rfl) ?_
    refine lv_iconst (v := 0) hx hb dX11_handsOn_132 (by decide) ?_
    refine lv_iconst (v := 1) hx hb dX11_handsOn_133 (by decide) ?_
    replace hf := o_call_e hf
    obtain ⟨_, S5, hq3, hf⟩ := hf
    refine jq_doM hX hJ (jq_okV (As := [.int 0, .int 1]) (rest := []) hx hb hm ho ht (mJ.recv hX hJ) qw1033 qw1035 qs101 qw1036 qw7 hy_X11_pass rfl hl.1 (Nat.le_of_ble_eq_true rfl) dX11_handsOn_134) (c_X11_pass hq3) (Nat.le_of_ble_eq_true rfl) (Nat.le_of_ble_eq_true rfl) (Nat.le_refl _) (Nat.le_refl _) (fun H locs hJ' => ?_)
    clear hJ
    have hJ := hJ'
    clear hJ'
    refine lv_goto (tgt := 219) hx hb dX11_handsOn_137 (by decide) ?_
    refine lv_aload_n hx hb dX11_handsOn_219 rfl (lv_at hl 2 rfl) ?_
    refine lv_aload_n hx hb dX11_handsOn_220 rfl (lv_at hl 2 rfl) ?_
    refine mg_aOf hX hJ qw699 dX11_handsOn_221 ?_
    refine lv_iload_n hx hb dX11_handsOn_224 rfl (lv_at hl 3 rfl) ?_
    replace hf := o_ck_e hf
    obtain ⟨hk8, hf⟩ := hf
    replace hf := o_let_e hf
    obtain ⟨x7, hx7, hf⟩ := hf
    refine ma_I 5 hX hJ (by decide) hk8 hx7 dX11_handsOn_225 ?_
    replace hf := o_call_e hf
    obtain ⟨_, S6, hq4, hf⟩ := hf
    refine jq_doM hX hJ (jq_okV (As := [.int x7]) (rest := []) hx hb hm ho ht (mJ.recv hX hJ) qw988 qw990 qs92 qw991 qw7 hy_X11_begin rfl hl.1 (Nat.le_of_ble_eq_true rfl) dX11_handsOn_226) (c_X11_begin hq4) (Nat.le_of_ble_eq_true rfl) (Nat.le_of_ble_eq_true rfl) (Nat.le_refl _) (Nat.le_refl _) (fun H locs hJ' => ?_)
    clear hJ
    have hJ := hJ'
    clear hJ'
    obtain ⟨rfl, rfl⟩ := Prod.mk.inj (Option.some.inj hf)
    exact jq_vret hX hJ.2 dX11_handsOn_229 ⟨rfl, rfl, rfl, hJ.1⟩
  replace hf := o_f hf c3
  by_cases c4 : x3 = 14
  · replace hf := o_t hf c4
    refine lv_tableIn (off := 112) (tgt := 140) hx hb dX11_handsOn_28 (by rcases c4 with rfl <;> decide) (by rcases c4 with rfl <;> decide) (by rcases c4 with rfl <;> rfl) (by decide) ?_
    refine lv_aload_n hx hb dX11_handsOn_140 rfl (lv_at hl 2 rfl) ?_
    refine mg_hand hX hJ qw724 dX11_handsOn_141 ?_
    refine lv_iconst (v := 0) hx hb dX11_handsOn_144 (by decide) ?_
    refine lv_aload_n hx hb dX11_handsOn_145 rfl (lv_at hl 2 rfl) ?_
    refine mg_vOf hX hJ qw702 dX11_handsOn_146 ?_
    refine lv_iload_n hx hb dX11_handsOn_149 rfl (lv_at hl 3 rfl) ?_
    replace hf := o_ck_e hf
    obtain ⟨hk9, hf⟩ := hf
    replace hf := o_let_e hf
    obtain ⟨x8, hx8, hf⟩ := hf
    refine ma_L 17 hX hJ (by decide) hk9 hx8 dX11_handsOn_150 ?_
    replace hf := o_ck_e hf
    obtain ⟨hk10, hf⟩ := hf
    replace hf := o_let_e hf
    obtain ⟨S7, hS7, hf⟩ := hf
    refine mw_L 20 hX hJ (by decide) hk10 hS7 dX11_handsOn_151 (fun H locs hJ' => ?_)
    clear hJ
    have hJ := hJ'
    clear hJ'
    refine lv_aload_n hx hb dX11_handsOn_152 rfl (lv_at hl 2 rfl) ?_
    refine lv_iconst (v := 0) hx hb dX11_handsOn_153 (by decide) ?_
    refine lv_iconst (v := 1) hx hb dX11_handsOn_154 (by decide) ?_
    replace hf := o_call_e hf
    obtain ⟨_, S8, hq5, hf⟩ := hf
    refine jq_doM hX hJ (jq_okV (As := [.int 0, .int 1]) (rest := []) hx hb hm ho ht (mJ.recv hX hJ) qw1033 qw1035 qs101 qw1036 qw7 hy_X11_pass rfl hl.1 (Nat.le_of_ble_eq_true rfl) dX11_handsOn_155) (c_X11_pass hq5) (Nat.le_of_ble_eq_true rfl) (Nat.le_of_ble_eq_true rfl) (Nat.le_refl _) (Nat.le_refl _) (fun H locs hJ' => ?_)
    clear hJ
    have hJ := hJ'
    clear hJ'
    refine lv_goto (tgt := 219) hx hb dX11_handsOn_158 (by decide) ?_
    refine lv_aload_n hx hb dX11_handsOn_219 rfl (lv_at hl 2 rfl) ?_
    refine lv_aload_n hx hb dX11_handsOn_220 rfl (lv_at hl 2 rfl) ?_
    refine mg_aOf hX hJ qw699 dX11_handsOn_221 ?_
    refine lv_iload_n hx hb dX11_handsOn_224 rfl (lv_at hl 3 rfl) ?_
    replace hf := o_ck_e hf
    obtain ⟨hk11, hf⟩ := hf
    replace hf := o_let_e hf
    obtain ⟨x9, hx9, hf⟩ := hf
    refine ma_I 5 hX hJ (by decide) hk11 hx9 dX11_handsOn_225 ?_
    replace hf := o_call_e hf
    obtain ⟨_, S9, hq6, hf⟩ := hf
    refine jq_doM hX hJ (jq_okV (As := [.int x9]) (rest := []) hx hb hm ho ht (mJ.recv hX hJ) qw988 qw990 qs92 qw991 qw7 hy_X11_begin rfl hl.1 (Nat.le_of_ble_eq_true rfl) dX11_handsOn_226) (c_X11_begin hq6) (Nat.le_of_ble_eq_true rfl) (Nat.le_of_ble_eq_true rfl) (Nat.le_refl _) (Nat.le_refl _) (fun H locs hJ' => ?_)
    clear hJ
    have hJ := hJ'
    clear hJ'
    obtain ⟨rfl, rfl⟩ := Prod.mk.inj (Option.some.inj hf)
    exact jq_vret hX hJ.2 dX11_handsOn_229 ⟨rfl, rfl, rfl, hJ.1⟩
  replace hf := o_f hf c4
  refine lv_tableOut (tgt := 161) hx hb dX11_handsOn_28 (by have e0 := sw_ne c1 (n := 11) (by decide); have e1 := sw_ne c2 (n := 12) (by decide); have e2 := sw_ne c3 (n := 13) (by decide); have e3 := sw_ne c4 (n := 14) (by decide); omega) (by decide) ?_
  refine lv_iconst (v := 0) hx hb dX11_handsOn_161 (by decide) ?_
  refine lv_istore (lv' := [(4, .int 0), (3, .int x2), (2, .int ((4 : Int32) * (x1 - (1 : Int32)))), (0, .ref (ad 0)), (1, .int p1)]) hx hb dX11_handsOn_162 hl (by decide) rfl (fun ls hl' => ?_)
  clear hl
  have hl := hl'
  clear hl'
  replace hl := lv_sub hl (l' := [(0, .ref (ad 0)), (1, .int p1), (2, .int ((4 : Int32) * (x1 - (1 : Int32)))), (4, .int 0)]) [3, 4, 2, 0] rfl
  exact w_X11_handsOn_b164 12 p1 ((4 : Int32) * (x1 - (1 : Int32))) 0 S1 S' r H locs ls hX hJ hf hl
theorem dX11_goesOn_0 : decode cX11_goesOn 0 = .ok (.aload_n 0, 1) := by decide +kernel
theorem dX11_goesOn_1 : decode cX11_goesOn 1 = .ok (.getfield 30, 3) := by decide +kernel
theorem dX11_goesOn_4 : decode cX11_goesOn 4 = .ok (.iload_n 1, 1) := by decide +kernel
theorem dX11_goesOn_5 : decode cX11_goesOn 5 = .ok (.iaload, 1) := by decide +kernel
theorem dX11_goesOn_6 : decode cX11_goesOn 6 = .ok (.tableswitch 112 15 17 #[26, 60, 89], 26) := by decide +kernel
theorem dX11_goesOn_32 : decode cX11_goesOn 32 = .ok (.aload_n 0, 1) := by decide +kernel
theorem dX11_goesOn_33 : decode cX11_goesOn 33 = .ok (.iconst 0, 1) := by decide +kernel
theorem dX11_goesOn_34 : decode cX11_goesOn 34 = .ok (.iconst 0, 1) := by decide +kernel
theorem dX11_goesOn_35 : decode cX11_goesOn 35 = .ok (.invokevirtual 293, 3) := by decide +kernel
theorem dX11_goesOn_38 : decode cX11_goesOn 38 = .ok (.aload_n 0, 1) := by decide +kernel
theorem dX11_goesOn_39 : decode cX11_goesOn 39 = .ok (.getfield 75, 3) := by decide +kernel
theorem dX11_goesOn_42 : decode cX11_goesOn 42 = .ok (.aload_n 0, 1) := by decide +kernel
theorem dX11_goesOn_43 : decode cX11_goesOn 43 = .ok (.getfield 36, 3) := by decide +kernel
theorem dX11_goesOn_46 : decode cX11_goesOn 46 = .ok (.iload_n 1, 1) := by decide +kernel
theorem dX11_goesOn_47 : decode cX11_goesOn 47 = .ok (.iaload, 1) := by decide +kernel
theorem dX11_goesOn_48 : decode cX11_goesOn 48 = .ok (.aload_n 0, 1) := by decide +kernel
theorem dX11_goesOn_49 : decode cX11_goesOn 49 = .ok (.getfield 266, 3) := by decide +kernel
theorem dX11_goesOn_52 : decode cX11_goesOn 52 = .ok (.lastore, 1) := by decide +kernel
theorem dX11_goesOn_53 : decode cX11_goesOn 53 = .ok (.aload_n 0, 1) := by decide +kernel
theorem dX11_goesOn_54 : decode cX11_goesOn 54 = .ok (.aload_n 0, 1) := by decide +kernel
theorem dX11_goesOn_55 : decode cX11_goesOn 55 = .ok (.getfield 33, 3) := by decide +kernel
theorem dX11_goesOn_58 : decode cX11_goesOn 58 = .ok (.iload_n 1, 1) := by decide +kernel
theorem dX11_goesOn_59 : decode cX11_goesOn 59 = .ok (.iaload, 1) := by decide +kernel
theorem dX11_goesOn_60 : decode cX11_goesOn 60 = .ok (.invokevirtual 300, 3) := by decide +kernel
theorem dX11_goesOn_63 : decode cX11_goesOn 63 = .ok (.goto 89, 3) := by decide +kernel
theorem dX11_goesOn_152 : decode cX11_goesOn 152 = .ok (.return_, 1) := by decide +kernel
theorem dX11_goesOn_66 : decode cX11_goesOn 66 = .ok (.aload_n 0, 1) := by decide +kernel
theorem dX11_goesOn_67 : decode cX11_goesOn 67 = .ok (.iconst 0, 1) := by decide +kernel
theorem dX11_goesOn_68 : decode cX11_goesOn 68 = .ok (.iconst 1, 1) := by decide +kernel
theorem dX11_goesOn_69 : decode cX11_goesOn 69 = .ok (.invokevirtual 293, 3) := by decide +kernel
theorem dX11_goesOn_72 : decode cX11_goesOn 72 = .ok (.aload_n 0, 1) := by decide +kernel
theorem dX11_goesOn_73 : decode cX11_goesOn 73 = .ok (.getfield 75, 3) := by decide +kernel
theorem dX11_goesOn_76 : decode cX11_goesOn 76 = .ok (.iconst 0, 1) := by decide +kernel
theorem dX11_goesOn_77 : decode cX11_goesOn 77 = .ok (.aload_n 0, 1) := by decide +kernel
theorem dX11_goesOn_78 : decode cX11_goesOn 78 = .ok (.getfield 266, 3) := by decide +kernel
theorem dX11_goesOn_81 : decode cX11_goesOn 81 = .ok (.lastore, 1) := by decide +kernel
theorem dX11_goesOn_82 : decode cX11_goesOn 82 = .ok (.aload_n 0, 1) := by decide +kernel
theorem dX11_goesOn_83 : decode cX11_goesOn 83 = .ok (.aload_n 0, 1) := by decide +kernel
theorem dX11_goesOn_84 : decode cX11_goesOn 84 = .ok (.getfield 33, 3) := by decide +kernel
theorem dX11_goesOn_87 : decode cX11_goesOn 87 = .ok (.iload_n 1, 1) := by decide +kernel
theorem dX11_goesOn_88 : decode cX11_goesOn 88 = .ok (.iaload, 1) := by decide +kernel
theorem dX11_goesOn_89 : decode cX11_goesOn 89 = .ok (.invokevirtual 300, 3) := by decide +kernel
theorem dX11_goesOn_92 : decode cX11_goesOn 92 = .ok (.goto 60, 3) := by decide +kernel
theorem dX11_goesOn_95 : decode cX11_goesOn 95 = .ok (.aload_n 0, 1) := by decide +kernel
theorem dX11_goesOn_96 : decode cX11_goesOn 96 = .ok (.getfield 75, 3) := by decide +kernel
theorem dX11_goesOn_99 : decode cX11_goesOn 99 = .ok (.iconst 0, 1) := by decide +kernel
theorem dX11_goesOn_100 : decode cX11_goesOn 100 = .ok (.aload_n 0, 1) := by decide +kernel
theorem dX11_goesOn_101 : decode cX11_goesOn 101 = .ok (.getfield 266, 3) := by decide +kernel
theorem dX11_goesOn_104 : decode cX11_goesOn 104 = .ok (.lastore, 1) := by decide +kernel
theorem dX11_goesOn_105 : decode cX11_goesOn 105 = .ok (.aload_n 0, 1) := by decide +kernel
theorem dX11_goesOn_106 : decode cX11_goesOn 106 = .ok (.aload_n 0, 1) := by decide +kernel
theorem dX11_goesOn_107 : decode cX11_goesOn 107 = .ok (.getfield 36, 3) := by decide +kernel
theorem dX11_goesOn_110 : decode cX11_goesOn 110 = .ok (.iload_n 1, 1) := by decide +kernel
theorem dX11_goesOn_111 : decode cX11_goesOn 111 = .ok (.iaload, 1) := by decide +kernel
theorem dX11_goesOn_112 : decode cX11_goesOn 112 = .ok (.invokevirtual 300, 3) := by decide +kernel
theorem dX11_goesOn_115 : decode cX11_goesOn 115 = .ok (.goto 37, 3) := by decide +kernel
theorem dX11_goesOn_118 : decode cX11_goesOn 118 = .ok (.aload_n 0, 1) := by decide +kernel
theorem dX11_goesOn_119 : decode cX11_goesOn 119 = .ok (.iconst 0, 1) := by decide +kernel
theorem dX11_goesOn_120 : decode cX11_goesOn 120 = .ok (.iconst 0, 1) := by decide +kernel
theorem dX11_goesOn_121 : decode cX11_goesOn 121 = .ok (.invokevirtual 293, 3) := by decide +kernel
theorem dX11_goesOn_124 : decode cX11_goesOn 124 = .ok (.aload_n 0, 1) := by decide +kernel
theorem dX11_goesOn_125 : decode cX11_goesOn 125 = .ok (.aload_n 0, 1) := by decide +kernel
theorem dX11_goesOn_126 : decode cX11_goesOn 126 = .ok (.getfield 266, 3) := by decide +kernel
theorem dX11_goesOn_129 : decode cX11_goesOn 129 = .ok (.lconst 1, 1) := by decide +kernel
theorem dX11_goesOn_130 : decode cX11_goesOn 130 = .ok (.lcmp, 1) := by decide +kernel
theorem dX11_goesOn_143 : decode cX11_goesOn 143 = .ok (.aload_n 0, 1) := by decide +kernel
theorem dX11_goesOn_144 : decode cX11_goesOn 144 = .ok (.getfield 39, 3) := by decide +kernel
theorem dX11_goesOn_147 : decode cX11_goesOn 147 = .ok (.iload_n 1, 1) := by decide +kernel
theorem dX11_goesOn_148 : decode cX11_goesOn 148 = .ok (.iaload, 1) := by decide +kernel
theorem dX11_goesOn_149 : decode cX11_goesOn 149 = .ok (.invokevirtual 300, 3) := by decide +kernel
theorem dX11_goesOn_134 : decode cX11_goesOn 134 = .ok (.aload_n 0, 1) := by decide +kernel
theorem dX11_goesOn_135 : decode cX11_goesOn 135 = .ok (.getfield 36, 3) := by decide +kernel
theorem dX11_goesOn_138 : decode cX11_goesOn 138 = .ok (.iload_n 1, 1) := by decide +kernel
theorem dX11_goesOn_139 : decode cX11_goesOn 139 = .ok (.iaload, 1) := by decide +kernel
theorem dX11_goesOn_140 : decode cX11_goesOn 140 = .ok (.goto 9, 3) := by decide +kernel
theorem dX11_goesOn_131 : decode cX11_goesOn 131 = .ok (.ifCond .ne 12, 3) := by decide +kernel
theorem hy_X11_goesOn : yX11_goesOn.cls ≠ "java/lang/invoke/MethodHandle" ∧ yX11_goesOn.cls ≠ "java/lang/invoke/VarHandle" ∧ (parseMethodDescriptor yX11_goesOn.desc).map (fun d => d.parameters.length) = some 1 := ⟨by decide, by decide, by decide +kernel⟩
def f_X11_goesOn (p1 : Int32) (S : mS) : Option ((Unit) × mS) :=
  o_ck (¬ (p1 < 0 ∨ 32 ≤ (p1).toNatClampNeg)) (o_let (m_aI S 4 (p1).toNatClampNeg) fun x1 =>
  if x1 = 15 then (
  o_call (f_X11_pass 0 0 S) fun _ S1 =>
  o_ck (¬ (p1 < 0 ∨ 32 ≤ (p1).toNatClampNeg)) (o_let (m_aI S1 6 (p1).toNatClampNeg) fun x2 =>
  o_let (m_L S1 1) fun x3 =>
  o_ck (¬ (x2 < 0 ∨ 4 ≤ (x2).toNatClampNeg)) (o_let (m_wL S1 20 (x2).toNatClampNeg x3) fun S2 =>
  o_ck (¬ (p1 < 0 ∨ 32 ≤ (p1).toNatClampNeg)) (o_let (m_aI S2 5 (p1).toNatClampNeg) fun x4 =>
  o_call (f_X11_begin x4 S2) fun _ S3 =>
  some ((), S3))))) else (
  if x1 = 16 then (
  o_call (f_X11_pass 0 1 S) fun _ S4 =>
  o_let (m_L S4 1) fun x5 =>
  o_ck (¬ ((0 : Int32) < 0 ∨ 4 ≤ ((0 : Int32)).toNatClampNeg)) (o_let (m_wL S4 20 ((0 : Int32)).toNatClampNeg x5) fun S5 =>
  o_ck (¬ (p1 < 0 ∨ 32 ≤ (p1).toNatClampNeg)) (o_let (m_aI S5 5 (p1).toNatClampNeg) fun x6 =>
  o_call (f_X11_begin x6 S5) fun _ S6 =>
  some ((), S6)))) else (
  if x1 = 17 then (
  o_let (m_L S 1) fun x7 =>
  o_ck (¬ ((0 : Int32) < 0 ∨ 4 ≤ ((0 : Int32)).toNatClampNeg)) (o_let (m_wL S 20 ((0 : Int32)).toNatClampNeg x7) fun S7 =>
  o_ck (¬ (p1 < 0 ∨ 32 ≤ (p1).toNatClampNeg)) (o_let (m_aI S7 6 (p1).toNatClampNeg) fun x8 =>
  o_call (f_X11_begin x8 S7) fun _ S8 =>
  some ((), S8)))) else (
  o_call (f_X11_pass 0 0 S) fun _ S9 =>
  o_let (m_L S9 1) fun x9 =>
  if x9 = 1 then (
  o_ck (¬ (p1 < 0 ∨ 32 ≤ (p1).toNatClampNeg)) (o_let (m_aI S9 6 (p1).toNatClampNeg) fun x11 =>
  o_call (f_X11_begin x11 S9) fun _ S11 =>
  some ((), S11))) else (
  o_ck (¬ (p1 < 0 ∨ 32 ≤ (p1).toNatClampNeg)) (o_let (m_aI S9 7 (p1).toNatClampNeg) fun x10 =>
  o_call (f_X11_begin x10 S9) fun _ S10 =>
  some ((), S10)))))))
set_option maxHeartbeats 4000000 in
set_option maxRecDepth 100000 in
theorem c_X11_goesOn {l : Launch} {D : va_G} {Y : Nat → ClassId} {aR : Nat → Nat} {A : Nat → Prop} {ad : Nat → Nat} {p1 : Int32} {S S' : mS} {r : Unit} (hf : f_X11_goesOn p1 S = some (r, S')) : jq_M l D Y aR A ad yX11_goesOn cX11_goesOn 2 none 1 25 [.ref (ad 0), .int p1] S none S' := by
  unfold f_X11_goesOn at hf
  refine jq_enterM (by decide) (Nat.le_of_ble_eq_true rfl) fun p e s m args below meth c ls H locs hX hJ hl => ?_
  have hl : lv_has ls 2 [(0, .ref (ad 0)), (1, .int p1)] := hl
  have hx := hX.1
  have hb := hX.2.1
  have hm := hX.2.2.1
  have ho := hX.2.2.2.1
  have ht := hX.2.2.2.2.1
  have hn := hX.2.2.2.2.2.1.2.1
  refine lv_aload_n hx hb dX11_goesOn_0 rfl (lv_at hl 0 rfl) ?_
  refine mg_sortOf hX hJ qw698 dX11_goesOn_1 ?_
  refine lv_iload_n hx hb dX11_goesOn_4 rfl (lv_at hl 1 rfl) ?_
  replace hf := o_ck_e hf
  obtain ⟨hk1, hf⟩ := hf
  replace hf := o_let_e hf
  obtain ⟨x1, hx1, hf⟩ := hf
  refine ma_I 4 hX hJ (by decide) hk1 hx1 dX11_goesOn_5 ?_
  by_cases c1 : x1 = 15
  · replace hf := o_t hf c1
    refine lv_tableIn (off := 26) (tgt := 32) hx hb dX11_goesOn_6 (by rcases c1 with rfl <;> decide) (by rcases c1 with rfl <;> decide) (by rcases c1 with rfl <;> rfl) (by decide) ?_
    refine lv_aload_n hx hb dX11_goesOn_32 rfl (lv_at hl 0 rfl) ?_
    refine lv_iconst (v := 0) hx hb dX11_goesOn_33 (by decide) ?_
    refine lv_iconst (v := 0) hx hb dX11_goesOn_34 (by decide) ?_
    replace hf := o_call_e hf
    obtain ⟨_, S1, hq1, hf⟩ := hf
    refine jq_doM hX hJ (jq_okV (As := [.int 0, .int 0]) (rest := []) hx hb hm ho ht (mJ.recv hX hJ) qw1033 qw1035 qs101 qw1036 qw7 hy_X11_pass rfl hl.1 (Nat.le_of_ble_eq_true rfl) dX11_goesOn_35) (c_X11_pass hq1) (Nat.le_of_ble_eq_true rfl) (Nat.le_of_ble_eq_true rfl) (Nat.le_refl _) (Nat.le_refl _) (fun H locs hJ' => ?_)
    clear hJ
    have hJ := hJ'
    clear hJ'
    refine lv_aload_n hx hb dX11_goesOn_38 rfl (lv_at hl 0 rfl) ?_
    refine mg_hand hX hJ qw724 dX11_goesOn_39 ?_
    refine lv_aload_n hx hb dX11_goesOn_42 rfl (lv_at hl 0 rfl) ?_
    refine mg_bOf hX hJ qw700 dX11_goesOn_43 ?_
    refine lv_iload_n hx hb dX11_goesOn_46 rfl (lv_at hl 1 rfl) ?_
    replace hf := o_ck_e hf
    obtain ⟨hk2, hf⟩ := hf
    replace hf := o_let_e hf
    obtain ⟨x2, hx2, hf⟩ := hf
    refine ma_I 6 hX hJ (by decide) hk2 hx2 dX11_goesOn_47 ?_
    refine lv_aload_n hx hb dX11_goesOn_48 rfl (lv_at hl 0 rfl) ?_
    replace hf := o_let_e hf
    obtain ⟨x3, hx3, hf⟩ := hf
    refine mg_back hX hJ hx3 qw717 dX11_goesOn_49 ?_
    replace hf := o_ck_e hf
    obtain ⟨hk3, hf⟩ := hf
    replace hf := o_let_e hf
    obtain ⟨S2, hS2, hf⟩ := hf
    refine mw_L 20 hX hJ (by decide) hk3 hS2 dX11_goesOn_52 (fun H locs hJ' => ?_)
    clear hJ
    have hJ := hJ'
    clear hJ'
    refine lv_aload_n hx hb dX11_goesOn_53 rfl (lv_at hl 0 rfl) ?_
    refine lv_aload_n hx hb dX11_goesOn_54 rfl (lv_at hl 0 rfl) ?_
    refine mg_aOf hX hJ qw699 dX11_goesOn_55 ?_
    refine lv_iload_n hx hb dX11_goesOn_58 rfl (lv_at hl 1 rfl) ?_
    replace hf := o_ck_e hf
    obtain ⟨hk4, hf⟩ := hf
    replace hf := o_let_e hf
    obtain ⟨x4, hx4, hf⟩ := hf
    refine ma_I 5 hX hJ (by decide) hk4 hx4 dX11_goesOn_59 ?_
    replace hf := o_call_e hf
    obtain ⟨_, S3, hq2, hf⟩ := hf
    refine jq_doM hX hJ (jq_okV (As := [.int x4]) (rest := []) hx hb hm ho ht (mJ.recv hX hJ) qw988 qw990 qs92 qw991 qw7 hy_X11_begin rfl hl.1 (Nat.le_of_ble_eq_true rfl) dX11_goesOn_60) (c_X11_begin hq2) (Nat.le_of_ble_eq_true rfl) (Nat.le_of_ble_eq_true rfl) (Nat.le_refl _) (Nat.le_refl _) (fun H locs hJ' => ?_)
    clear hJ
    have hJ := hJ'
    clear hJ'
    refine lv_goto (tgt := 152) hx hb dX11_goesOn_63 (by decide) ?_
    obtain ⟨rfl, rfl⟩ := Prod.mk.inj (Option.some.inj hf)
    exact jq_vret hX hJ.2 dX11_goesOn_152 ⟨rfl, rfl, rfl, hJ.1⟩
  replace hf := o_f hf c1
  by_cases c2 : x1 = 16
  · replace hf := o_t hf c2
    refine lv_tableIn (off := 60) (tgt := 66) hx hb dX11_goesOn_6 (by rcases c2 with rfl <;> decide) (by rcases c2 with rfl <;> decide) (by rcases c2 with rfl <;> rfl) (by decide) ?_
    refine lv_aload_n hx hb dX11_goesOn_66 rfl (lv_at hl 0 rfl) ?_
    refine lv_iconst (v := 0) hx hb dX11_goesOn_67 (by decide) ?_
    refine lv_iconst (v := 1) hx hb dX11_goesOn_68 (by decide) ?_
    replace hf := o_call_e hf
    obtain ⟨_, S4, hq3, hf⟩ := hf
    refine jq_doM hX hJ (jq_okV (As := [.int 0, .int 1]) (rest := []) hx hb hm ho ht (mJ.recv hX hJ) qw1033 qw1035 qs101 qw1036 qw7 hy_X11_pass rfl hl.1 (Nat.le_of_ble_eq_true rfl) dX11_goesOn_69) (c_X11_pass hq3) (Nat.le_of_ble_eq_true rfl) (Nat.le_of_ble_eq_true rfl) (Nat.le_refl _) (Nat.le_refl _) (fun H locs hJ' => ?_)
    clear hJ
    have hJ := hJ'
    clear hJ'
    refine lv_aload_n hx hb dX11_goesOn_72 rfl (lv_at hl 0 rfl) ?_
    refine mg_hand hX hJ qw724 dX11_goesOn_73 ?_
    refine lv_iconst (v := 0) hx hb dX11_goesOn_76 (by decide) ?_
    refine lv_aload_n hx hb dX11_goesOn_77 rfl (lv_at hl 0 rfl) ?_
    replace hf := o_let_e hf
    obtain ⟨x5, hx5, hf⟩ := hf
    refine mg_back hX hJ hx5 qw717 dX11_goesOn_78 ?_
    replace hf := o_ck_e hf
    obtain ⟨hk5, hf⟩ := hf
    replace hf := o_let_e hf
    obtain ⟨S5, hS5, hf⟩ := hf
    refine mw_L 20 hX hJ (by decide) hk5 hS5 dX11_goesOn_81 (fun H locs hJ' => ?_)
    clear hJ
    have hJ := hJ'
    clear hJ'
    refine lv_aload_n hx hb dX11_goesOn_82 rfl (lv_at hl 0 rfl) ?_
    refine lv_aload_n hx hb dX11_goesOn_83 rfl (lv_at hl 0 rfl) ?_
    refine mg_aOf hX hJ qw699 dX11_goesOn_84 ?_
    refine lv_iload_n hx hb dX11_goesOn_87 rfl (lv_at hl 1 rfl) ?_
    replace hf := o_ck_e hf
    obtain ⟨hk6, hf⟩ := hf
    replace hf := o_let_e hf
    obtain ⟨x6, hx6, hf⟩ := hf
    refine ma_I 5 hX hJ (by decide) hk6 hx6 dX11_goesOn_88 ?_
    replace hf := o_call_e hf
    obtain ⟨_, S6, hq4, hf⟩ := hf
    refine jq_doM hX hJ (jq_okV (As := [.int x6]) (rest := []) hx hb hm ho ht (mJ.recv hX hJ) qw988 qw990 qs92 qw991 qw7 hy_X11_begin rfl hl.1 (Nat.le_of_ble_eq_true rfl) dX11_goesOn_89) (c_X11_begin hq4) (Nat.le_of_ble_eq_true rfl) (Nat.le_of_ble_eq_true rfl) (Nat.le_refl _) (Nat.le_refl _) (fun H locs hJ' => ?_)
    clear hJ
    have hJ := hJ'
    clear hJ'
    refine lv_goto (tgt := 152) hx hb dX11_goesOn_92 (by decide) ?_
    obtain ⟨rfl, rfl⟩ := Prod.mk.inj (Option.some.inj hf)
    exact jq_vret hX hJ.2 dX11_goesOn_152 ⟨rfl, rfl, rfl, hJ.1⟩
  replace hf := o_f hf c2
  by_cases c3 : x1 = 17
  · replace hf := o_t hf c3
    refine lv_tableIn (off := 89) (tgt := 95) hx hb dX11_goesOn_6 (by rcases c3 with rfl <;> decide) (by rcases c3 with rfl <;> decide) (by rcases c3 with rfl <;> rfl) (by decide) ?_
    refine lv_aload_n hx hb dX11_goesOn_95 rfl (lv_at hl 0 rfl) ?_
    refine mg_hand hX hJ qw724 dX11_goesOn_96 ?_
    refine lv_iconst (v := 0) hx hb dX11_goesOn_99 (by decide) ?_
    refine lv_aload_n hx hb dX11_goesOn_100 rfl (lv_at hl 0 rfl) ?_
    replace hf := o_let_e hf
    obtain ⟨x7, hx7, hf⟩ := hf
    refine mg_back hX hJ hx7 qw717 dX11_goesOn_101 ?_
    replace hf := o_ck_e hf
    obtain ⟨hk7, hf⟩ := hf
    replace hf := o_let_e hf
    obtain ⟨S7, hS7, hf⟩ := hf
    refine mw_L 20 hX hJ (by decide) hk7 hS7 dX11_goesOn_104 (fun H locs hJ' => ?_)
    clear hJ
    have hJ := hJ'
    clear hJ'
    refine lv_aload_n hx hb dX11_goesOn_105 rfl (lv_at hl 0 rfl) ?_
    refine lv_aload_n hx hb dX11_goesOn_106 rfl (lv_at hl 0 rfl) ?_
    refine mg_bOf hX hJ qw700 dX11_goesOn_107 ?_
    refine lv_iload_n hx hb dX11_goesOn_110 rfl (lv_at hl 1 rfl) ?_
    replace hf := o_ck_e hf
    obtain ⟨hk8, hf⟩ := hf
    replace hf := o_let_e hf
    obtain ⟨x8, hx8, hf⟩ := hf
    refine ma_I 6 hX hJ (by decide) hk8 hx8 dX11_goesOn_111 ?_
    replace hf := o_call_e hf
    obtain ⟨_, S8, hq5, hf⟩ := hf
    refine jq_doM hX hJ (jq_okV (As := [.int x8]) (rest := []) hx hb hm ho ht (mJ.recv hX hJ) qw988 qw990 qs92 qw991 qw7 hy_X11_begin rfl hl.1 (Nat.le_of_ble_eq_true rfl) dX11_goesOn_112) (c_X11_begin hq5) (Nat.le_of_ble_eq_true rfl) (Nat.le_of_ble_eq_true rfl) (Nat.le_refl _) (Nat.le_refl _) (fun H locs hJ' => ?_)
    clear hJ
    have hJ := hJ'
    clear hJ'
    refine lv_goto (tgt := 152) hx hb dX11_goesOn_115 (by decide) ?_
    obtain ⟨rfl, rfl⟩ := Prod.mk.inj (Option.some.inj hf)
    exact jq_vret hX hJ.2 dX11_goesOn_152 ⟨rfl, rfl, rfl, hJ.1⟩
  replace hf := o_f hf c3
  refine lv_tableOut (tgt := 118) hx hb dX11_goesOn_6 (by have e0 := sw_ne c1 (n := 15) (by decide); have e1 := sw_ne c2 (n := 16) (by decide); have e2 := sw_ne c3 (n := 17) (by decide); omega) (by decide) ?_
  refine lv_aload_n hx hb dX11_goesOn_118 rfl (lv_at hl 0 rfl) ?_
  refine lv_iconst (v := 0) hx hb dX11_goesOn_119 (by decide) ?_
  refine lv_iconst (v := 0) hx hb dX11_goesOn_120 (by decide) ?_
  replace hf := o_call_e hf
  obtain ⟨_, S9, hq6, hf⟩ := hf
  refine jq_doM hX hJ (jq_okV (As := [.int 0, .int 0]) (rest := []) hx hb hm ho ht (mJ.recv hX hJ) qw1033 qw1035 qs101 qw1036 qw7 hy_X11_pass rfl hl.1 (Nat.le_of_ble_eq_true rfl) dX11_goesOn_121) (c_X11_pass hq6) (Nat.le_of_ble_eq_true rfl) (Nat.le_of_ble_eq_true rfl) (Nat.le_refl _) (Nat.le_refl _) (fun H locs hJ' => ?_)
  clear hJ
  have hJ := hJ'
  clear hJ'
  refine lv_aload_n hx hb dX11_goesOn_124 rfl (lv_at hl 0 rfl) ?_
  refine lv_aload_n hx hb dX11_goesOn_125 rfl (lv_at hl 0 rfl) ?_
  replace hf := o_let_e hf
  obtain ⟨x9, hx9, hf⟩ := hf
  refine mg_back hX hJ hx9 qw717 dX11_goesOn_126 ?_
  refine lv_lconst (v := 1) hx hb dX11_goesOn_129 (by decide) ?_
  refine W.lcmp hx hb dX11_goesOn_130 ?_
  refine lv_if_ne (tgt := 143) hx hb dX11_goesOn_131 (by decide) (fun c4 => ?_) (fun c4 => ?_)
  · replace hf := o_f hf (fun z => c4 (qc_eq.mpr z))
    refine lv_aload_n hx hb dX11_goesOn_143 rfl (lv_at hl 0 rfl) ?_
    refine mg_cOf hX hJ qw701 dX11_goesOn_144 ?_
    refine lv_iload_n hx hb dX11_goesOn_147 rfl (lv_at hl 1 rfl) ?_
    replace hf := o_ck_e hf
    obtain ⟨hk9, hf⟩ := hf
    replace hf := o_let_e hf
    obtain ⟨x10, hx10, hf⟩ := hf
    refine ma_I 7 hX hJ (by decide) hk9 hx10 dX11_goesOn_148 ?_
    replace hf := o_call_e hf
    obtain ⟨_, S10, hq7, hf⟩ := hf
    refine jq_doM hX hJ (jq_okV (As := [.int x10]) (rest := []) hx hb hm ho ht (mJ.recv hX hJ) qw988 qw990 qs92 qw991 qw7 hy_X11_begin rfl hl.1 (Nat.le_of_ble_eq_true rfl) dX11_goesOn_149) (c_X11_begin hq7) (Nat.le_of_ble_eq_true rfl) (Nat.le_of_ble_eq_true rfl) (Nat.le_refl _) (Nat.le_refl _) (fun H locs hJ' => ?_)
    clear hJ
    have hJ := hJ'
    clear hJ'
    obtain ⟨rfl, rfl⟩ := Prod.mk.inj (Option.some.inj hf)
    exact jq_vret hX hJ.2 dX11_goesOn_152 ⟨rfl, rfl, rfl, hJ.1⟩
  · replace hf := o_t hf (qc_eq.mp c4)
    refine lv_aload_n hx hb dX11_goesOn_134 rfl (lv_at hl 0 rfl) ?_
    refine mg_bOf hX hJ qw700 dX11_goesOn_135 ?_
    refine lv_iload_n hx hb dX11_goesOn_138 rfl (lv_at hl 1 rfl) ?_
    replace hf := o_ck_e hf
    obtain ⟨hk10, hf⟩ := hf
    replace hf := o_let_e hf
    obtain ⟨x11, hx11, hf⟩ := hf
    refine ma_I 6 hX hJ (by decide) hk10 hx11 dX11_goesOn_139 ?_
    refine lv_goto (tgt := 149) hx hb dX11_goesOn_140 (by decide) ?_
    replace hf := o_call_e hf
    obtain ⟨_, S11, hq8, hf⟩ := hf
    refine jq_doM hX hJ (jq_okV (As := [.int x11]) (rest := []) hx hb hm ho ht (mJ.recv hX hJ) qw988 qw990 qs92 qw991 qw7 hy_X11_begin rfl hl.1 (Nat.le_of_ble_eq_true rfl) dX11_goesOn_149) (c_X11_begin hq8) (Nat.le_of_ble_eq_true rfl) (Nat.le_of_ble_eq_true rfl) (Nat.le_refl _) (Nat.le_refl _) (fun H locs hJ' => ?_)
    clear hJ
    have hJ := hJ'
    clear hJ'
    obtain ⟨rfl, rfl⟩ := Prod.mk.inj (Option.some.inj hf)
    exact jq_vret hX hJ.2 dX11_goesOn_152 ⟨rfl, rfl, rfl, hJ.1⟩
theorem dX11_one_0 : decode cX11_one 0 = .ok (.aload_n 0, 1) := by decide +kernel
theorem dX11_one_1 : decode cX11_one 1 = .ok (.getfield 263, 3) := by decide +kernel
theorem dX11_one_4 : decode cX11_one 4 = .ok (.iconst 1, 1) := by decide +kernel
theorem dX11_one_5 : decode cX11_one 5 = .ok (.isub, 1) := by decide +kernel
theorem dX11_one_6 : decode cX11_one 6 = .ok (.istore_n 1, 1) := by decide +kernel
theorem dX11_one_7 : decode cX11_one 7 = .ok (.aload_n 0, 1) := by decide +kernel
theorem dX11_one_8 : decode cX11_one 8 = .ok (.getfield 54, 3) := by decide +kernel
theorem dX11_one_11 : decode cX11_one 11 = .ok (.iload_n 1, 1) := by decide +kernel
theorem dX11_one_12 : decode cX11_one 12 = .ok (.iaload, 1) := by decide +kernel
theorem dX11_one_13 : decode cX11_one 13 = .ok (.istore_n 2, 1) := by decide +kernel
theorem dX11_one_14 : decode cX11_one 14 = .ok (.aload_n 0, 1) := by decide +kernel
theorem dX11_one_15 : decode cX11_one 15 = .ok (.getfield 30, 3) := by decide +kernel
theorem dX11_one_18 : decode cX11_one 18 = .ok (.iload_n 2, 1) := by decide +kernel
theorem dX11_one_19 : decode cX11_one 19 = .ok (.iaload, 1) := by decide +kernel
theorem dX11_one_20 : decode cX11_one 20 = .ok (.istore_n 3, 1) := by decide +kernel
theorem dX11_one_21 : decode cX11_one 21 = .ok (.aload_n 0, 1) := by decide +kernel
theorem dX11_one_22 : decode cX11_one 22 = .ok (.getfield 57, 3) := by decide +kernel
theorem dX11_one_25 : decode cX11_one 25 = .ok (.iload_n 1, 1) := by decide +kernel
theorem dX11_one_26 : decode cX11_one 26 = .ok (.dup2, 1) := by decide +kernel
theorem dX11_one_27 : decode cX11_one 27 = .ok (.iaload, 1) := by decide +kernel
theorem dX11_one_28 : decode cX11_one 28 = .ok (.iconst 1, 1) := by decide +kernel
theorem dX11_one_29 : decode cX11_one 29 = .ok (.iadd, 1) := by decide +kernel
theorem dX11_one_30 : decode cX11_one 30 = .ok (.iastore, 1) := by decide +kernel
theorem dX11_one_31 : decode cX11_one 31 = .ok (.iload_n 3, 1) := by decide +kernel
theorem dX11_one_32 : decode cX11_one 32 = .ok (.bipush 10, 2) := by decide +kernel
theorem dX11_one_34 : decode cX11_one 34 = .ok (.if_icmp .gt 11, 3) := by decide +kernel
theorem dX11_one_45 : decode cX11_one 45 = .ok (.iload_n 3, 1) := by decide +kernel
theorem dX11_one_46 : decode cX11_one 46 = .ok (.bipush 19, 2) := by decide +kernel
theorem dX11_one_48 : decode cX11_one 48 = .ok (.if_icmp .ne 11, 3) := by decide +kernel
theorem dX11_one_59 : decode cX11_one 59 = .ok (.iload_n 3, 1) := by decide +kernel
theorem dX11_one_60 : decode cX11_one 60 = .ok (.bipush 20, 2) := by decide +kernel
theorem dX11_one_62 : decode cX11_one 62 = .ok (.if_icmp .ne 11, 3) := by decide +kernel
theorem dX11_one_73 : decode cX11_one 73 = .ok (.iload_n 3, 1) := by decide +kernel
theorem dX11_one_74 : decode cX11_one 74 = .ok (.bipush 21, 2) := by decide +kernel
theorem dX11_one_76 : decode cX11_one 76 = .ok (.if_icmp .ne 11, 3) := by decide +kernel
theorem dX11_one_87 : decode cX11_one 87 = .ok (.iload_n 3, 1) := by decide +kernel
theorem dX11_one_88 : decode cX11_one 88 = .ok (.bipush 14, 2) := by decide +kernel
theorem dX11_one_90 : decode cX11_one 90 = .ok (.if_icmp .le 9, 3) := by decide +kernel
theorem dX11_one_93 : decode cX11_one 93 = .ok (.iload_n 3, 1) := by decide +kernel
theorem dX11_one_94 : decode cX11_one 94 = .ok (.bipush 22, 2) := by decide +kernel
theorem dX11_one_96 : decode cX11_one 96 = .ok (.if_icmp .ne 76, 3) := by decide +kernel
theorem dX11_one_172 : decode cX11_one 172 = .ok (.aload_n 0, 1) := by decide +kernel
theorem dX11_one_173 : decode cX11_one 173 = .ok (.getfield 57, 3) := by decide +kernel
theorem dX11_one_176 : decode cX11_one 176 = .ok (.iload_n 1, 1) := by decide +kernel
theorem dX11_one_177 : decode cX11_one 177 = .ok (.iaload, 1) := by decide +kernel
theorem dX11_one_178 : decode cX11_one 178 = .ok (.iconst 1, 1) := by decide +kernel
theorem dX11_one_179 : decode cX11_one 179 = .ok (.if_icmp .ne 11, 3) := by decide +kernel
theorem dX11_one_190 : decode cX11_one 190 = .ok (.aload_n 0, 1) := by decide +kernel
theorem dX11_one_191 : decode cX11_one 191 = .ok (.getfield 57, 3) := by decide +kernel
theorem dX11_one_194 : decode cX11_one 194 = .ok (.iload_n 1, 1) := by decide +kernel
theorem dX11_one_195 : decode cX11_one 195 = .ok (.iaload, 1) := by decide +kernel
theorem dX11_one_196 : decode cX11_one 196 = .ok (.iconst 2, 1) := by decide +kernel
theorem dX11_one_197 : decode cX11_one 197 = .ok (.if_icmp .ne 18, 3) := by decide +kernel
theorem dX11_one_215 : decode cX11_one 215 = .ok (.aload_n 0, 1) := by decide +kernel
theorem dX11_one_216 : decode cX11_one 216 = .ok (.invokevirtual 306, 3) := by decide +kernel
theorem dX11_one_219 : decode cX11_one 219 = .ok (.return_, 1) := by decide +kernel
theorem dX11_one_200 : decode cX11_one 200 = .ok (.aload_n 0, 1) := by decide +kernel
theorem dX11_one_201 : decode cX11_one 201 = .ok (.getfield 257, 3) := by decide +kernel
theorem dX11_one_204 : decode cX11_one 204 = .ok (.ifCond .ne 11, 3) := by decide +kernel
theorem dX11_one_207 : decode cX11_one 207 = .ok (.aload_n 0, 1) := by decide +kernel
theorem dX11_one_208 : decode cX11_one 208 = .ok (.iload_n 2, 1) := by decide +kernel
theorem dX11_one_209 : decode cX11_one 209 = .ok (.invokevirtual 324, 3) := by decide +kernel
theorem dX11_one_212 : decode cX11_one 212 = .ok (.goto 7, 3) := by decide +kernel
theorem dX11_one_182 : decode cX11_one 182 = .ok (.aload_n 0, 1) := by decide +kernel
theorem dX11_one_183 : decode cX11_one 183 = .ok (.iload_n 2, 1) := by decide +kernel
theorem dX11_one_184 : decode cX11_one 184 = .ok (.invokevirtual 303, 3) := by decide +kernel
theorem dX11_one_187 : decode cX11_one 187 = .ok (.goto 32, 3) := by decide +kernel
theorem dX11_one_79 : decode cX11_one 79 = .ok (.aload_n 0, 1) := by decide +kernel
theorem dX11_one_80 : decode cX11_one 80 = .ok (.iload_n 2, 1) := by decide +kernel
theorem dX11_one_81 : decode cX11_one 81 = .ok (.invokevirtual 318, 3) := by decide +kernel
theorem dX11_one_84 : decode cX11_one 84 = .ok (.goto 135, 3) := by decide +kernel
theorem dX11_one_65 : decode cX11_one 65 = .ok (.aload_n 0, 1) := by decide +kernel
theorem dX11_one_66 : decode cX11_one 66 = .ok (.iload_n 2, 1) := by decide +kernel
theorem dX11_one_67 : decode cX11_one 67 = .ok (.invokevirtual 315, 3) := by decide +kernel
theorem dX11_one_70 : decode cX11_one 70 = .ok (.goto 149, 3) := by decide +kernel
theorem dX11_one_51 : decode cX11_one 51 = .ok (.aload_n 0, 1) := by decide +kernel
theorem dX11_one_52 : decode cX11_one 52 = .ok (.iload_n 2, 1) := by decide +kernel
theorem dX11_one_53 : decode cX11_one 53 = .ok (.invokevirtual 312, 3) := by decide +kernel
theorem dX11_one_56 : decode cX11_one 56 = .ok (.goto 163, 3) := by decide +kernel
theorem dX11_one_37 : decode cX11_one 37 = .ok (.aload_n 0, 1) := by decide +kernel
theorem dX11_one_38 : decode cX11_one 38 = .ok (.iload_n 2, 1) := by decide +kernel
theorem dX11_one_39 : decode cX11_one 39 = .ok (.invokevirtual 309, 3) := by decide +kernel
theorem dX11_one_42 : decode cX11_one 42 = .ok (.goto 177, 3) := by decide +kernel
theorem dX11_one_99 : decode cX11_one 99 = .ok (.aload_n 0, 1) := by decide +kernel
theorem dX11_one_100 : decode cX11_one 100 = .ok (.getfield 57, 3) := by decide +kernel
theorem dX11_one_103 : decode cX11_one 103 = .ok (.iload_n 1, 1) := by decide +kernel
theorem dX11_one_104 : decode cX11_one 104 = .ok (.iaload, 1) := by decide +kernel
theorem dX11_one_105 : decode cX11_one 105 = .ok (.iconst 1, 1) := by decide +kernel
theorem dX11_one_106 : decode cX11_one 106 = .ok (.if_icmp .ne 11, 3) := by decide +kernel
theorem dX11_one_117 : decode cX11_one 117 = .ok (.aload_n 0, 1) := by decide +kernel
theorem dX11_one_118 : decode cX11_one 118 = .ok (.invokevirtual 306, 3) := by decide +kernel
theorem dX11_one_121 : decode cX11_one 121 = .ok (.aload_n 0, 1) := by decide +kernel
theorem dX11_one_122 : decode cX11_one 122 = .ok (.iload_n 3, 1) := by decide +kernel
theorem dX11_one_123 : decode cX11_one 123 = .ok (.bipush 22, 2) := by decide +kernel
theorem dX11_one_125 : decode cX11_one 125 = .ok (.if_icmp .ne 37, 3) := by decide +kernel
theorem dX11_one_162 : decode cX11_one 162 = .ok (.aload_n 0, 1) := by decide +kernel
theorem dX11_one_163 : decode cX11_one 163 = .ok (.getfield 266, 3) := by decide +kernel
theorem dX11_one_166 : decode cX11_one 166 = .ok (.putfield 266, 3) := by decide +kernel
theorem dX11_one_169 : decode cX11_one 169 = .ok (.goto 50, 3) := by decide +kernel
theorem dX11_one_128 : decode cX11_one 128 = .ok (.aload_n 0, 1) := by decide +kernel
theorem dX11_one_129 : decode cX11_one 129 = .ok (.getfield 257, 3) := by decide +kernel
theorem dX11_one_132 : decode cX11_one 132 = .ok (.ifCond .ne 30, 3) := by decide +kernel
theorem dX11_one_135 : decode cX11_one 135 = .ok (.aload_n 0, 1) := by decide +kernel
theorem dX11_one_136 : decode cX11_one 136 = .ok (.getfield 266, 3) := by decide +kernel
theorem dX11_one_139 : decode cX11_one 139 = .ok (.aload_n 0, 1) := by decide +kernel
theorem dX11_one_140 : decode cX11_one 140 = .ok (.getfield 51, 3) := by decide +kernel
theorem dX11_one_143 : decode cX11_one 143 = .ok (.aload_n 0, 1) := by decide +kernel
theorem dX11_one_144 : decode cX11_one 144 = .ok (.getfield 33, 3) := by decide +kernel
theorem dX11_one_147 : decode cX11_one 147 = .ok (.iload_n 2, 1) := by decide +kernel
theorem dX11_one_148 : decode cX11_one 148 = .ok (.iaload, 1) := by decide +kernel
theorem dX11_one_149 : decode cX11_one 149 = .ok (.iaload, 1) := by decide +kernel
theorem dX11_one_150 : decode cX11_one 150 = .ok (.aload_n 0, 1) := by decide +kernel
theorem dX11_one_151 : decode cX11_one 151 = .ok (.getfield 51, 3) := by decide +kernel
theorem dX11_one_154 : decode cX11_one 154 = .ok (.iload_n 2, 1) := by decide +kernel
theorem dX11_one_155 : decode cX11_one 155 = .ok (.iaload, 1) := by decide +kernel
theorem dX11_one_156 : decode cX11_one 156 = .ok (.invokestatic 296, 3) := by decide +kernel
theorem dX11_one_159 : decode cX11_one 159 = .ok (.goto 7, 3) := by decide +kernel
theorem dX11_one_109 : decode cX11_one 109 = .ok (.aload_n 0, 1) := by decide +kernel
theorem dX11_one_110 : decode cX11_one 110 = .ok (.iload_n 2, 1) := by decide +kernel
theorem dX11_one_111 : decode cX11_one 111 = .ok (.invokevirtual 321, 3) := by decide +kernel
theorem dX11_one_114 : decode cX11_one 114 = .ok (.goto 105, 3) := by decide +kernel
theorem hy_X11_one : yX11_one.cls ≠ "java/lang/invoke/MethodHandle" ∧ yX11_one.cls ≠ "java/lang/invoke/VarHandle" ∧ (parseMethodDescriptor yX11_one.desc).map (fun d => d.parameters.length) = some 0 := ⟨by decide, by decide, by decide +kernel⟩
def f_X11_one_b99 (l1 : Int32) (l2 : Int32) (l3 : Int32) (S : mS) : Option ((Unit) × mS) :=
  o_ck (¬ (l1 < 0 ∨ 33 ≤ (l1).toNatClampNeg)) (o_let (m_aI S 12 (l1).toNatClampNeg) fun x1 =>
  if x1 = 1 then (
  o_call (f_X11_handsOn l2 S) fun _ S5 =>
  some ((), S5)) else (
  o_call (f_X11_giveOn S) fun _ S1 =>
  if l3 = 22 then (
  o_let (m_I S1 8) fun x3 =>
  if x3 = 0 then (
  o_let (m_L S1 1) fun x5 =>
  o_ck (¬ (l2 < 0 ∨ 32 ≤ (l2).toNatClampNeg)) (o_let (m_aI S1 5 (l2).toNatClampNeg) fun x6 =>
  o_ck (¬ (x6 < 0 ∨ 33 ≤ (x6).toNatClampNeg)) (o_let (m_aI S1 10 (x6).toNatClampNeg) fun x7 =>
  o_ck (¬ (l2 < 0 ∨ 33 ≤ (l2).toNatClampNeg)) (o_let (m_aI S1 10 (l2).toNatClampNeg) fun x8 =>
  o_cP (f_X11_widen x5 x7 x8) fun x9 =>
  o_let (m_pL S1 1 x9) fun S4 =>
  some ((), S4))))) else (
  o_let (m_L S1 1) fun x4 =>
  o_let (m_pL S1 1 x4) fun S3 =>
  some ((), S3))) else (
  o_let (m_L S1 1) fun x2 =>
  o_let (m_pL S1 1 x2) fun S2 =>
  some ((), S2))))
set_option maxHeartbeats 4000000 in
set_option maxRecDepth 100000 in
theorem w_X11_one_b99 {l : Launch} {D : va_G} {Y : Nat → ClassId} {aR : Nat → Nat} {A : Nat → Prop} {ad : Nat → Nat} {p : Program} {e : Env} {s : State} {m : MethodId} {args : Array Value} {below : List Frame} {meth : Method} {c : Code} : ∀ (l1 : Int32) (l2 : Int32) (l3 : Int32) (S S' : mS) (r : Unit) (H : Heap) (locs : List Loc) (ls : Array Slot), jq_X D Y aR A p s m args meth c cX11_one RX11 "one" 4 none → mJ D Y A s ad S H locs → f_X11_one_b99 l1 l2 l3 S = some (r, S') → lv_has ls 4 [(0, .ref (ad 0)), (1, .int l1), (2, .int l2), (3, .int l3)] → W p l e { frames := 4, cells := 0, slots := 0, locals := 102 } s m args below meth c H locs 0 0 (jq_Z below A (fun v k n H => v = none ∧ k = 0 ∧ n = 0 ∧ mH D Y A ad S' H) s) (F0 m 99 ls []) := by
  intro l1 l2 l3 S S' r H locs ls hX hJ hf hl
  unfold f_X11_one_b99 at hf
  have hx := hX.1
  have hb := hX.2.1
  have hm := hX.2.2.1
  have ho := hX.2.2.2.1
  have ht := hX.2.2.2.2.1
  have hn := hX.2.2.2.2.2.1.2.1
  refine lv_aload_n hx hb dX11_one_99 rfl (lv_at hl 0 rfl) ?_
  refine mg_phase hX hJ qw712 dX11_one_100 ?_
  refine lv_iload_n hx hb dX11_one_103 rfl (lv_at hl 1 rfl) ?_
  replace hf := o_ck_e hf
  obtain ⟨hk1, hf⟩ := hf
  replace hf := o_let_e hf
  obtain ⟨x1, hx1, hf⟩ := hf
  refine ma_I 12 hX hJ (by decide) hk1 hx1 dX11_one_104 ?_
  refine lv_iconst (v := 1) hx hb dX11_one_105 (by decide) ?_
  refine lv_icmp_ne (tgt := 117) hx hb dX11_one_106 (by decide) (fun c1 => ?_) (fun c1 => ?_)
  · replace hf := o_f hf c1
    refine lv_aload_n hx hb dX11_one_117 rfl (lv_at hl 0 rfl) ?_
    replace hf := o_call_e hf
    obtain ⟨_, S1, hq1, hf⟩ := hf
    refine jq_doM hX hJ (jq_okV (As := []) (rest := []) hx hb hm ho ht (mJ.recv hX hJ) qw1037 qw1039 qs102 qw1040 qw7 hy_X11_giveOn rfl hl.1 (Nat.le_of_ble_eq_true rfl) dX11_one_118) (c_X11_giveOn hq1) (Nat.le_of_ble_eq_true rfl) (Nat.le_of_ble_eq_true rfl) (Nat.le_refl _) (Nat.le_refl _) (fun H locs hJ' => ?_)
    clear hJ
    have hJ := hJ'
    clear hJ'
    refine lv_aload_n hx hb dX11_one_121 rfl (lv_at hl 0 rfl) ?_
    refine lv_iload_n hx hb dX11_one_122 rfl (lv_at hl 3 rfl) ?_
    refine lv_bipush (v := 22) hx hb dX11_one_123 (by decide) ?_
    refine lv_icmp_ne (tgt := 162) hx hb dX11_one_125 (by decide) (fun c2 => ?_) (fun c2 => ?_)
    · replace hf := o_f hf c2
      refine lv_aload_n hx hb dX11_one_162 rfl (lv_at hl 0 rfl) ?_
      replace hf := o_let_e hf
      obtain ⟨x2, hx2, hf⟩ := hf
      refine mg_back hX hJ hx2 qw717 dX11_one_163 ?_
      replace hf := o_let_e hf
      obtain ⟨S2, hS2, hf⟩ := hf
      refine mp_back hX hJ hS2 qw717 dX11_one_166 (fun H locs hJ' => ?_)
      clear hJ
      have hJ := hJ'
      clear hJ'
      refine lv_goto (tgt := 219) hx hb dX11_one_169 (by decide) ?_
      obtain ⟨rfl, rfl⟩ := Prod.mk.inj (Option.some.inj hf)
      exact jq_vret hX hJ.2 dX11_one_219 ⟨rfl, rfl, rfl, hJ.1⟩
    · replace hf := o_t hf c2
      refine lv_aload_n hx hb dX11_one_128 rfl (lv_at hl 0 rfl) ?_
      replace hf := o_let_e hf
      obtain ⟨x3, hx3, hf⟩ := hf
      refine mg_failure hX hJ hx3 qw718 dX11_one_129 ?_
      refine lv_if_ne (tgt := 162) hx hb dX11_one_132 (by decide) (fun c3 => ?_) (fun c3 => ?_)
      · replace hf := o_f hf c3
        refine lv_aload_n hx hb dX11_one_162 rfl (lv_at hl 0 rfl) ?_
        replace hf := o_let_e hf
        obtain ⟨x4, hx4, hf⟩ := hf
        refine mg_back hX hJ hx4 qw717 dX11_one_163 ?_
        replace hf := o_let_e hf
        obtain ⟨S3, hS3, hf⟩ := hf
        refine mp_back hX hJ hS3 qw717 dX11_one_166 (fun H locs hJ' => ?_)
        clear hJ
        have hJ := hJ'
        clear hJ'
        refine lv_goto (tgt := 219) hx hb dX11_one_169 (by decide) ?_
        obtain ⟨rfl, rfl⟩ := Prod.mk.inj (Option.some.inj hf)
        exact jq_vret hX hJ.2 dX11_one_219 ⟨rfl, rfl, rfl, hJ.1⟩
      · replace hf := o_t hf c3
        refine lv_aload_n hx hb dX11_one_135 rfl (lv_at hl 0 rfl) ?_
        replace hf := o_let_e hf
        obtain ⟨x5, hx5, hf⟩ := hf
        refine mg_back hX hJ hx5 qw717 dX11_one_136 ?_
        refine lv_aload_n hx hb dX11_one_139 rfl (lv_at hl 0 rfl) ?_
        refine mg_resultOf hX hJ qw705 dX11_one_140 ?_
        refine lv_aload_n hx hb dX11_one_143 rfl (lv_at hl 0 rfl) ?_
        refine mg_aOf hX hJ qw699 dX11_one_144 ?_
        refine lv_iload_n hx hb dX11_one_147 rfl (lv_at hl 2 rfl) ?_
        replace hf := o_ck_e hf
        obtain ⟨hk2, hf⟩ := hf
        replace hf := o_let_e hf
        obtain ⟨x6, hx6, hf⟩ := hf
        refine ma_I 5 hX hJ (by decide) hk2 hx6 dX11_one_148 ?_
        replace hf := o_ck_e hf
        obtain ⟨hk3, hf⟩ := hf
        replace hf := o_let_e hf
        obtain ⟨x7, hx7, hf⟩ := hf
        refine ma_I 10 hX hJ (by decide) hk3 hx7 dX11_one_149 ?_
        refine lv_aload_n hx hb dX11_one_150 rfl (lv_at hl 0 rfl) ?_
        refine mg_resultOf hX hJ qw705 dX11_one_151 ?_
        refine lv_iload_n hx hb dX11_one_154 rfl (lv_at hl 2 rfl) ?_
        replace hf := o_ck_e hf
        obtain ⟨hk4, hf⟩ := hf
        replace hf := o_let_e hf
        obtain ⟨x8, hx8, hf⟩ := hf
        refine ma_I 10 hX hJ (by decide) hk4 hx8 dX11_one_155 ?_
        replace hf := o_cP_e hf
        obtain ⟨x9, hq2, hf⟩ := hf
        refine jq_doP hX hJ.2 (jq_okS (As := [.long x5, .int x7, .int x8]) (rest := [.ref (ad 0)]) hx hb hm ho ht qw950 qw951 qw952 qw7 hy_X11_widen rfl hl.1 (Nat.le_of_ble_eq_true rfl) dX11_one_156) (c_X11_widen hq2) (Nat.le_of_ble_eq_true rfl) (Nat.le_of_ble_eq_true rfl) (Nat.le_refl _) (Nat.le_refl _) (fun locs hS9 => ?_)
        replace hJ := mJ.to hJ hS9
        refine lv_goto (tgt := 166) hx hb dX11_one_159 (by decide) ?_
        replace hf := o_let_e hf
        obtain ⟨S4, hS4, hf⟩ := hf
        refine mp_back hX hJ hS4 qw717 dX11_one_166 (fun H locs hJ' => ?_)
        clear hJ
        have hJ := hJ'
        clear hJ'
        refine lv_goto (tgt := 219) hx hb dX11_one_169 (by decide) ?_
        obtain ⟨rfl, rfl⟩ := Prod.mk.inj (Option.some.inj hf)
        exact jq_vret hX hJ.2 dX11_one_219 ⟨rfl, rfl, rfl, hJ.1⟩
  · replace hf := o_t hf c1
    refine lv_aload_n hx hb dX11_one_109 rfl (lv_at hl 0 rfl) ?_
    refine lv_iload_n hx hb dX11_one_110 rfl (lv_at hl 2 rfl) ?_
    replace hf := o_call_e hf
    obtain ⟨_, S5, hq3, hf⟩ := hf
    refine jq_doM hX hJ (jq_okV (As := [.int l2]) (rest := []) hx hb hm ho ht (mJ.recv hX hJ) qw1049 qw1051 qs105 qw1052 qw7 hy_X11_handsOn rfl hl.1 (Nat.le_of_ble_eq_true rfl) dX11_one_111) (c_X11_handsOn hq3) (Nat.le_of_ble_eq_true rfl) (Nat.le_of_ble_eq_true rfl) (Nat.le_refl _) (Nat.le_refl _) (fun H locs hJ' => ?_)
    clear hJ
    have hJ := hJ'
    clear hJ'
    refine lv_goto (tgt := 219) hx hb dX11_one_114 (by decide) ?_
    obtain ⟨rfl, rfl⟩ := Prod.mk.inj (Option.some.inj hf)
    exact jq_vret hX hJ.2 dX11_one_219 ⟨rfl, rfl, rfl, hJ.1⟩
def f_X11_one  (S : mS) : Option ((Unit) × mS) :=
  o_let (m_I S 7) fun x1 =>
  o_ck (¬ ((x1 - (1 : Int32)) < 0 ∨ 33 ≤ ((x1 - (1 : Int32))).toNatClampNeg)) (o_let (m_aI S 11 ((x1 - (1 : Int32))).toNatClampNeg) fun x2 =>
  o_ck (¬ (x2 < 0 ∨ 32 ≤ (x2).toNatClampNeg)) (o_let (m_aI S 4 (x2).toNatClampNeg) fun x3 =>
  o_ck (¬ ((x1 - (1 : Int32)) < 0 ∨ 33 ≤ ((x1 - (1 : Int32))).toNatClampNeg)) (o_let (m_aI S 12 ((x1 - (1 : Int32))).toNatClampNeg) fun x4 =>
  o_ck (¬ ((x1 - (1 : Int32)) < 0 ∨ 33 ≤ ((x1 - (1 : Int32))).toNatClampNeg)) (o_let (m_wI S 12 ((x1 - (1 : Int32))).toNatClampNeg (x4 + (1 : Int32))) fun S1 =>
  if 10 < x3 then (
  if x3 = 19 then (
  o_call (f_X11_catches x2 S1) fun _ S8 =>
  some ((), S8)) else (
  if x3 = 20 then (
  o_call (f_X11_lasts x2 S1) fun _ S7 =>
  some ((), S7)) else (
  if x3 = 21 then (
  o_call (f_X11_loops x2 S1) fun _ S6 =>
  some ((), S6)) else (
  if x3 ≤ 14 then (
  f_X11_one_b99 (x1 - (1 : Int32)) x2 x3 S1) else (
  if x3 = 22 then (
  f_X11_one_b99 (x1 - (1 : Int32)) x2 x3 S1) else (
  o_ck (¬ ((x1 - (1 : Int32)) < 0 ∨ 33 ≤ ((x1 - (1 : Int32))).toNatClampNeg)) (o_let (m_aI S1 12 ((x1 - (1 : Int32))).toNatClampNeg) fun x5 =>
  if x5 = 1 then (
  o_call (f_X11_begins x2 S1) fun _ S5 =>
  some ((), S5)) else (
  o_ck (¬ ((x1 - (1 : Int32)) < 0 ∨ 33 ≤ ((x1 - (1 : Int32))).toNatClampNeg)) (o_let (m_aI S1 12 ((x1 - (1 : Int32))).toNatClampNeg) fun x6 =>
  if x6 = 2 then (
  o_let (m_I S1 8) fun x7 =>
  if x7 = 0 then (
  o_call (f_X11_goesOn x2 S1) fun _ S4 =>
  some ((), S4)) else (
  o_call (f_X11_giveOn S1) fun _ S3 =>
  some ((), S3))) else (
  o_call (f_X11_giveOn S1) fun _ S2 =>
  some ((), S2))))))))))) else (
  o_call (f_X11_acts x2 S1) fun _ S9 =>
  some ((), S9))))))
set_option maxHeartbeats 4000000 in
set_option maxRecDepth 100000 in
theorem c_X11_one {l : Launch} {D : va_G} {Y : Nat → ClassId} {aR : Nat → Nat} {A : Nat → Prop} {ad : Nat → Nat}  {S S' : mS} {r : Unit} (hf : f_X11_one S = some (r, S')) : jq_M l D Y aR A ad yX11_one cX11_one 4 none 4 102 [.ref (ad 0)] S none S' := by
  unfold f_X11_one at hf
  refine jq_enterM (by decide) (Nat.le_of_ble_eq_true rfl) fun p e s m args below meth c ls H locs hX hJ hl => ?_
  have hl : lv_has ls 4 [(0, .ref (ad 0))] := hl
  have hx := hX.1
  have hb := hX.2.1
  have hm := hX.2.2.1
  have ho := hX.2.2.2.1
  have ht := hX.2.2.2.2.1
  have hn := hX.2.2.2.2.2.1.2.1
  refine lv_aload_n hx hb dX11_one_0 rfl (lv_at hl 0 rfl) ?_
  replace hf := o_let_e hf
  obtain ⟨x1, hx1, hf⟩ := hf
  refine mg_depth hX hJ hx1 qw710 dX11_one_1 ?_
  refine lv_iconst (v := 1) hx hb dX11_one_4 (by decide) ?_
  refine lv_isub hx hb dX11_one_5 ?_
  refine lv_istore_n (lv' := [(1, .int (x1 - (1 : Int32))), (0, .ref (ad 0))]) hx hb dX11_one_6 rfl hl (by decide) rfl (fun ls hl' => ?_)
  clear hl
  have hl := hl'
  clear hl'
  refine lv_aload_n hx hb dX11_one_7 rfl (lv_at hl 1 rfl) ?_
  refine mg_frame hX hJ qw711 dX11_one_8 ?_
  refine lv_iload_n hx hb dX11_one_11 rfl (lv_at hl 0 rfl) ?_
  replace hf := o_ck_e hf
  obtain ⟨hk1, hf⟩ := hf
  replace hf := o_let_e hf
  obtain ⟨x2, hx2, hf⟩ := hf
  refine ma_I 11 hX hJ (by decide) hk1 hx2 dX11_one_12 ?_
  refine lv_istore_n (lv' := [(2, .int x2), (1, .int (x1 - (1 : Int32))), (0, .ref (ad 0))]) hx hb dX11_one_13 rfl hl (by decide) rfl (fun ls hl' => ?_)
  clear hl
  have hl := hl'
  clear hl'
  refine lv_aload_n hx hb dX11_one_14 rfl (lv_at hl 2 rfl) ?_
  refine mg_sortOf hX hJ qw698 dX11_one_15 ?_
  refine lv_iload_n hx hb dX11_one_18 rfl (lv_at hl 0 rfl) ?_
  replace hf := o_ck_e hf
  obtain ⟨hk2, hf⟩ := hf
  replace hf := o_let_e hf
  obtain ⟨x3, hx3, hf⟩ := hf
  refine ma_I 4 hX hJ (by decide) hk2 hx3 dX11_one_19 ?_
  refine lv_istore_n (lv' := [(3, .int x3), (2, .int x2), (1, .int (x1 - (1 : Int32))), (0, .ref (ad 0))]) hx hb dX11_one_20 rfl hl (by decide) rfl (fun ls hl' => ?_)
  clear hl
  have hl := hl'
  clear hl'
  refine lv_aload_n hx hb dX11_one_21 rfl (lv_at hl 3 rfl) ?_
  refine mg_phase hX hJ qw712 dX11_one_22 ?_
  refine lv_iload_n hx hb dX11_one_25 rfl (lv_at hl 2 rfl) ?_
  refine lv_dup2_11 hx hb dX11_one_26 rfl rfl ?_
  replace hf := o_ck_e hf
  obtain ⟨hk3, hf⟩ := hf
  replace hf := o_let_e hf
  obtain ⟨x4, hx4, hf⟩ := hf
  refine ma_I 12 hX hJ (by decide) hk3 hx4 dX11_one_27 ?_
  refine lv_iconst (v := 1) hx hb dX11_one_28 (by decide) ?_
  refine lv_iadd hx hb dX11_one_29 ?_
  replace hf := o_ck_e hf
  obtain ⟨hk4, hf⟩ := hf
  replace hf := o_let_e hf
  obtain ⟨S1, hS1, hf⟩ := hf
  refine mw_I 12 hX hJ (by decide) hk4 hS1 dX11_one_30 (fun H locs hJ' => ?_)
  clear hJ
  have hJ := hJ'
  clear hJ'
  refine lv_iload_n hx hb dX11_one_31 rfl (lv_at hl 0 rfl) ?_
  refine lv_bipush (v := 10) hx hb dX11_one_32 (by decide) ?_
  refine lv_icmp_gt (tgt := 45) hx hb dX11_one_34 (by decide) (fun c1 => ?_) (fun c1 => ?_)
  · replace hf := o_t hf c1
    refine lv_iload_n hx hb dX11_one_45 rfl (lv_at hl 0 rfl) ?_
    refine lv_bipush (v := 19) hx hb dX11_one_46 (by decide) ?_
    refine lv_icmp_ne (tgt := 59) hx hb dX11_one_48 (by decide) (fun c2 => ?_) (fun c2 => ?_)
    · replace hf := o_f hf c2
      refine lv_iload_n hx hb dX11_one_59 rfl (lv_at hl 0 rfl) ?_
      refine lv_bipush (v := 20) hx hb dX11_one_60 (by decide) ?_
      refine lv_icmp_ne (tgt := 73) hx hb dX11_one_62 (by decide) (fun c3 => ?_) (fun c3 => ?_)
      · replace hf := o_f hf c3
        refine lv_iload_n hx hb dX11_one_73 rfl (lv_at hl 0 rfl) ?_
        refine lv_bipush (v := 21) hx hb dX11_one_74 (by decide) ?_
        refine lv_icmp_ne (tgt := 87) hx hb dX11_one_76 (by decide) (fun c4 => ?_) (fun c4 => ?_)
        · replace hf := o_f hf c4
          refine lv_iload_n hx hb dX11_one_87 rfl (lv_at hl 0 rfl) ?_
          refine lv_bipush (v := 14) hx hb dX11_one_88 (by decide) ?_
          refine lv_icmp_le (tgt := 99) hx hb dX11_one_90 (by decide) (fun c5 => ?_) (fun c5 => ?_)
          · replace hf := o_t hf c5
            replace hl := lv_sub hl (l' := [(0, .ref (ad 0)), (1, .int (x1 - (1 : Int32))), (2, .int x2), (3, .int x3)]) [3, 2, 1, 0] rfl
            exact w_X11_one_b99 (x1 - (1 : Int32)) x2 x3 S1 S' r H locs ls hX hJ hf hl
          · replace hf := o_f hf c5
            refine lv_iload_n hx hb dX11_one_93 rfl (lv_at hl 0 rfl) ?_
            refine lv_bipush (v := 22) hx hb dX11_one_94 (by decide) ?_
            refine lv_icmp_ne (tgt := 172) hx hb dX11_one_96 (by decide) (fun c6 => ?_) (fun c6 => ?_)
            · replace hf := o_f hf c6
              refine lv_aload_n hx hb dX11_one_172 rfl (lv_at hl 3 rfl) ?_
              refine mg_phase hX hJ qw712 dX11_one_173 ?_
              refine lv_iload_n hx hb dX11_one_176 rfl (lv_at hl 2 rfl) ?_
              replace hf := o_ck_e hf
              obtain ⟨hk5, hf⟩ := hf
              replace hf := o_let_e hf
              obtain ⟨x5, hx5, hf⟩ := hf
              refine ma_I 12 hX hJ (by decide) hk5 hx5 dX11_one_177 ?_
              refine lv_iconst (v := 1) hx hb dX11_one_178 (by decide) ?_
              refine lv_icmp_ne (tgt := 190) hx hb dX11_one_179 (by decide) (fun c7 => ?_) (fun c7 => ?_)
              · replace hf := o_f hf c7
                refine lv_aload_n hx hb dX11_one_190 rfl (lv_at hl 3 rfl) ?_
                refine mg_phase hX hJ qw712 dX11_one_191 ?_
                refine lv_iload_n hx hb dX11_one_194 rfl (lv_at hl 2 rfl) ?_
                replace hf := o_ck_e hf
                obtain ⟨hk6, hf⟩ := hf
                replace hf := o_let_e hf
                obtain ⟨x6, hx6, hf⟩ := hf
                refine ma_I 12 hX hJ (by decide) hk6 hx6 dX11_one_195 ?_
                refine lv_iconst (v := 2) hx hb dX11_one_196 (by decide) ?_
                refine lv_icmp_ne (tgt := 215) hx hb dX11_one_197 (by decide) (fun c8 => ?_) (fun c8 => ?_)
                · replace hf := o_f hf c8
                  refine lv_aload_n hx hb dX11_one_215 rfl (lv_at hl 3 rfl) ?_
                  replace hf := o_call_e hf
                  obtain ⟨_, S2, hq1, hf⟩ := hf
                  refine jq_doM hX hJ (jq_okV (As := []) (rest := []) hx hb hm ho ht (mJ.recv hX hJ) qw1037 qw1039 qs102 qw1040 qw7 hy_X11_giveOn rfl hl.1 (Nat.le_of_ble_eq_true rfl) dX11_one_216) (c_X11_giveOn hq1) (Nat.le_of_ble_eq_true rfl) (Nat.le_of_ble_eq_true rfl) (Nat.le_refl _) (Nat.le_refl _) (fun H locs hJ' => ?_)
                  clear hJ
                  have hJ := hJ'
                  clear hJ'
                  obtain ⟨rfl, rfl⟩ := Prod.mk.inj (Option.some.inj hf)
                  exact jq_vret hX hJ.2 dX11_one_219 ⟨rfl, rfl, rfl, hJ.1⟩
                · replace hf := o_t hf c8
                  refine lv_aload_n hx hb dX11_one_200 rfl (lv_at hl 3 rfl) ?_
                  replace hf := o_let_e hf
                  obtain ⟨x7, hx7, hf⟩ := hf
                  refine mg_failure hX hJ hx7 qw718 dX11_one_201 ?_
                  refine lv_if_ne (tgt := 215) hx hb dX11_one_204 (by decide) (fun c9 => ?_) (fun c9 => ?_)
                  · replace hf := o_f hf c9
                    refine lv_aload_n hx hb dX11_one_215 rfl (lv_at hl 3 rfl) ?_
                    replace hf := o_call_e hf
                    obtain ⟨_, S3, hq2, hf⟩ := hf
                    refine jq_doM hX hJ (jq_okV (As := []) (rest := []) hx hb hm ho ht (mJ.recv hX hJ) qw1037 qw1039 qs102 qw1040 qw7 hy_X11_giveOn rfl hl.1 (Nat.le_of_ble_eq_true rfl) dX11_one_216) (c_X11_giveOn hq2) (Nat.le_of_ble_eq_true rfl) (Nat.le_of_ble_eq_true rfl) (Nat.le_refl _) (Nat.le_refl _) (fun H locs hJ' => ?_)
                    clear hJ
                    have hJ := hJ'
                    clear hJ'
                    obtain ⟨rfl, rfl⟩ := Prod.mk.inj (Option.some.inj hf)
                    exact jq_vret hX hJ.2 dX11_one_219 ⟨rfl, rfl, rfl, hJ.1⟩
                  · replace hf := o_t hf c9
                    refine lv_aload_n hx hb dX11_one_207 rfl (lv_at hl 3 rfl) ?_
                    refine lv_iload_n hx hb dX11_one_208 rfl (lv_at hl 1 rfl) ?_
                    replace hf := o_call_e hf
                    obtain ⟨_, S4, hq3, hf⟩ := hf
                    refine jq_doM hX hJ (jq_okV (As := [.int x2]) (rest := []) hx hb hm ho ht (mJ.recv hX hJ) qw1053 qw1055 qs106 qw1056 qw7 hy_X11_goesOn rfl hl.1 (Nat.le_of_ble_eq_true rfl) dX11_one_209) (c_X11_goesOn hq3) (Nat.le_of_ble_eq_true rfl) (Nat.le_of_ble_eq_true rfl) (Nat.le_refl _) (Nat.le_refl _) (fun H locs hJ' => ?_)
                    clear hJ
                    have hJ := hJ'
                    clear hJ'
                    refine lv_goto (tgt := 219) hx hb dX11_one_212 (by decide) ?_
                    obtain ⟨rfl, rfl⟩ := Prod.mk.inj (Option.some.inj hf)
                    exact jq_vret hX hJ.2 dX11_one_219 ⟨rfl, rfl, rfl, hJ.1⟩
              · replace hf := o_t hf c7
                refine lv_aload_n hx hb dX11_one_182 rfl (lv_at hl 3 rfl) ?_
                refine lv_iload_n hx hb dX11_one_183 rfl (lv_at hl 1 rfl) ?_
                replace hf := o_call_e hf
                obtain ⟨_, S5, hq4, hf⟩ := hf
                refine jq_doM hX hJ (jq_okV (As := [.int x2]) (rest := []) hx hb hm ho ht (mJ.recv hX hJ) qw1029 qw1031 qs100 qw1032 qw7 hy_X11_begins rfl hl.1 (Nat.le_of_ble_eq_true rfl) dX11_one_184) (c_X11_begins hq4) (Nat.le_of_ble_eq_true rfl) (Nat.le_of_ble_eq_true rfl) (Nat.le_refl _) (Nat.le_refl _) (fun H locs hJ' => ?_)
                clear hJ
                have hJ := hJ'
                clear hJ'
                refine lv_goto (tgt := 219) hx hb dX11_one_187 (by decide) ?_
                obtain ⟨rfl, rfl⟩ := Prod.mk.inj (Option.some.inj hf)
                exact jq_vret hX hJ.2 dX11_one_219 ⟨rfl, rfl, rfl, hJ.1⟩
            · replace hf := o_t hf c6
              replace hl := lv_sub hl (l' := [(0, .ref (ad 0)), (1, .int (x1 - (1 : Int32))), (2, .int x2), (3, .int x3)]) [3, 2, 1, 0] rfl
              exact w_X11_one_b99 (x1 - (1 : Int32)) x2 x3 S1 S' r H locs ls hX hJ hf hl
        · replace hf := o_t hf c4
          refine lv_aload_n hx hb dX11_one_79 rfl (lv_at hl 3 rfl) ?_
          refine lv_iload_n hx hb dX11_one_80 rfl (lv_at hl 1 rfl) ?_
          replace hf := o_call_e hf
          obtain ⟨_, S6, hq5, hf⟩ := hf
          refine jq_doM hX hJ (jq_okV (As := [.int x2]) (rest := []) hx hb hm ho ht (mJ.recv hX hJ) qw1045 qw1047 qs104 qw1048 qw7 hy_X11_loops rfl hl.1 (Nat.le_of_ble_eq_true rfl) dX11_one_81) (c_X11_loops hq5) (Nat.le_of_ble_eq_true rfl) (Nat.le_of_ble_eq_true rfl) (Nat.le_refl _) (Nat.le_refl _) (fun H locs hJ' => ?_)
          clear hJ
          have hJ := hJ'
          clear hJ'
          refine lv_goto (tgt := 219) hx hb dX11_one_84 (by decide) ?_
          obtain ⟨rfl, rfl⟩ := Prod.mk.inj (Option.some.inj hf)
          exact jq_vret hX hJ.2 dX11_one_219 ⟨rfl, rfl, rfl, hJ.1⟩
      · replace hf := o_t hf c3
        refine lv_aload_n hx hb dX11_one_65 rfl (lv_at hl 3 rfl) ?_
        refine lv_iload_n hx hb dX11_one_66 rfl (lv_at hl 1 rfl) ?_
        replace hf := o_call_e hf
        obtain ⟨_, S7, hq6, hf⟩ := hf
        refine jq_doM hX hJ (jq_okV (As := [.int x2]) (rest := []) hx hb hm ho ht (mJ.recv hX hJ) qw1041 qw1043 qs103 qw1044 qw7 hy_X11_lasts rfl hl.1 (Nat.le_of_ble_eq_true rfl) dX11_one_67) (c_X11_lasts hq6) (Nat.le_of_ble_eq_true rfl) (Nat.le_of_ble_eq_true rfl) (Nat.le_refl _) (Nat.le_refl _) (fun H locs hJ' => ?_)
        clear hJ
        have hJ := hJ'
        clear hJ'
        refine lv_goto (tgt := 219) hx hb dX11_one_70 (by decide) ?_
        obtain ⟨rfl, rfl⟩ := Prod.mk.inj (Option.some.inj hf)
        exact jq_vret hX hJ.2 dX11_one_219 ⟨rfl, rfl, rfl, hJ.1⟩
    · replace hf := o_t hf c2
      refine lv_aload_n hx hb dX11_one_51 rfl (lv_at hl 3 rfl) ?_
      refine lv_iload_n hx hb dX11_one_52 rfl (lv_at hl 1 rfl) ?_
      replace hf := o_call_e hf
      obtain ⟨_, S8, hq7, hf⟩ := hf
      refine jq_doM hX hJ (jq_okV (As := [.int x2]) (rest := []) hx hb hm ho ht (mJ.recv hX hJ) qw1025 qw1027 qs99 qw1028 qw7 hy_X11_catches rfl hl.1 (Nat.le_of_ble_eq_true rfl) dX11_one_53) (c_X11_catches hq7) (Nat.le_of_ble_eq_true rfl) (Nat.le_of_ble_eq_true rfl) (Nat.le_refl _) (Nat.le_refl _) (fun H locs hJ' => ?_)
      clear hJ
      have hJ := hJ'
      clear hJ'
      refine lv_goto (tgt := 219) hx hb dX11_one_56 (by decide) ?_
      obtain ⟨rfl, rfl⟩ := Prod.mk.inj (Option.some.inj hf)
      exact jq_vret hX hJ.2 dX11_one_219 ⟨rfl, rfl, rfl, hJ.1⟩
  · replace hf := o_f hf c1
    refine lv_aload_n hx hb dX11_one_37 rfl (lv_at hl 3 rfl) ?_
    refine lv_iload_n hx hb dX11_one_38 rfl (lv_at hl 1 rfl) ?_
    replace hf := o_call_e hf
    obtain ⟨_, S9, hq8, hf⟩ := hf
    refine jq_doM hX hJ (jq_okV (As := [.int x2]) (rest := []) hx hb hm ho ht (mJ.recv hX hJ) qw996 qw998 qs94 qw999 qw7 hy_X11_acts rfl hl.1 (Nat.le_of_ble_eq_true rfl) dX11_one_39) (c_X11_acts hq8) (Nat.le_of_ble_eq_true rfl) (Nat.le_of_ble_eq_true rfl) (Nat.le_refl _) (Nat.le_refl _) (fun H locs hJ' => ?_)
    clear hJ
    have hJ := hJ'
    clear hJ'
    refine lv_goto (tgt := 219) hx hb dX11_one_42 (by decide) ?_
    obtain ⟨rfl, rfl⟩ := Prod.mk.inj (Option.some.inj hf)
    exact jq_vret hX hJ.2 dX11_one_219 ⟨rfl, rfl, rfl, hJ.1⟩
theorem dX11_run_0 : decode cX11_run 0 = .ok (.aload_n 0, 1) := by decide +kernel
theorem dX11_run_1 : decode cX11_run 1 = .ok (.iload_n 1, 1) := by decide +kernel
theorem dX11_run_2 : decode cX11_run 2 = .ok (.invokevirtual 200, 3) := by decide +kernel
theorem dX11_run_5 : decode cX11_run 5 = .ok (.ifCond .ne 5, 3) := by decide +kernel
theorem dX11_run_10 : decode cX11_run 10 = .ok (.iload_n 2, 1) := by decide +kernel
theorem dX11_run_11 : decode cX11_run 11 = .ok (.ifCond .eq 14, 3) := by decide +kernel
theorem dX11_run_25 : decode cX11_run 25 = .ok (.aload_n 0, 1) := by decide +kernel
theorem dX11_run_26 : decode cX11_run 26 = .ok (.iload_n 1, 1) := by decide +kernel
theorem dX11_run_27 : decode cX11_run 27 = .ok (.invokevirtual 210, 3) := by decide +kernel
theorem dX11_run_30 : decode cX11_run 30 = .ok (.ifCond .ne 6, 3) := by decide +kernel
theorem dX11_run_36 : decode cX11_run 36 = .ok (.iconst 0, 1) := by decide +kernel
theorem dX11_run_37 : decode cX11_run 37 = .ok (.istore_n 3, 1) := by decide +kernel
theorem dX11_run_33 : decode cX11_run 33 = .ok (.bipush (-4), 2) := by decide +kernel
theorem dX11_run_35 : decode cX11_run 35 = .ok (.ireturn, 1) := by decide +kernel
theorem dX11_run_14 : decode cX11_run 14 = .ok (.aload_n 0, 1) := by decide +kernel
theorem dX11_run_15 : decode cX11_run 15 = .ok (.iload_n 1, 1) := by decide +kernel
theorem dX11_run_16 : decode cX11_run 16 = .ok (.invokevirtual 252, 3) := by decide +kernel
theorem dX11_run_19 : decode cX11_run 19 = .ok (.ifCond .ne 17, 3) := by decide +kernel
theorem dX11_run_22 : decode cX11_run 22 = .ok (.goto 11, 3) := by decide +kernel
theorem dX11_run_8 : decode cX11_run 8 = .ok (.iconst (-1), 1) := by decide +kernel
theorem dX11_run_9 : decode cX11_run 9 = .ok (.ireturn, 1) := by decide +kernel
theorem dX11_run_38 : decode cX11_run 38 = .ok (.iload_n 3, 1) := by decide +kernel
theorem dX11_run_39 : decode cX11_run 39 = .ok (.aload_n 0, 1) := by decide +kernel
theorem dX11_run_40 : decode cX11_run 40 = .ok (.getfield 159, 3) := by decide +kernel
theorem dX11_run_43 : decode cX11_run 43 = .ok (.if_icmp .ge 30, 3) := by decide +kernel
theorem dX11_run_73 : decode cX11_run 73 = .ok (.iconst 0, 1) := by decide +kernel
theorem dX11_run_74 : decode cX11_run 74 = .ok (.istore_n 3, 1) := by decide +kernel
theorem dX11_run_46 : decode cX11_run 46 = .ok (.aload_n 0, 1) := by decide +kernel
theorem dX11_run_47 : decode cX11_run 47 = .ok (.aload_n 0, 1) := by decide +kernel
theorem dX11_run_48 : decode cX11_run 48 = .ok (.getfield 24, 3) := by decide +kernel
theorem dX11_run_51 : decode cX11_run 51 = .ok (.iload_n 3, 1) := by decide +kernel
theorem dX11_run_52 : decode cX11_run 52 = .ok (.iaload, 1) := by decide +kernel
theorem dX11_run_53 : decode cX11_run 53 = .ok (.aload_n 0, 1) := by decide +kernel
theorem dX11_run_54 : decode cX11_run 54 = .ok (.getfield 27, 3) := by decide +kernel
theorem dX11_run_57 : decode cX11_run 57 = .ok (.iload_n 3, 1) := by decide +kernel
theorem dX11_run_58 : decode cX11_run 58 = .ok (.laload, 1) := by decide +kernel
theorem dX11_run_59 : decode cX11_run 59 = .ok (.invokevirtual 183, 3) := by decide +kernel
theorem dX11_run_62 : decode cX11_run 62 = .ok (.ifCond .ne 5, 3) := by decide +kernel
theorem dX11_run_67 : decode cX11_run 67 = .ok (.iinc 3 1, 3) := by decide +kernel
theorem dX11_run_70 : decode cX11_run 70 = .ok (.goto (-32), 3) := by decide +kernel
theorem dX11_run_65 : decode cX11_run 65 = .ok (.iconst (-1), 1) := by decide +kernel
theorem dX11_run_66 : decode cX11_run 66 = .ok (.ireturn, 1) := by decide +kernel
theorem dX11_run_75 : decode cX11_run 75 = .ok (.iload_n 3, 1) := by decide +kernel
theorem dX11_run_76 : decode cX11_run 76 = .ok (.iconst 4, 1) := by decide +kernel
theorem dX11_run_77 : decode cX11_run 77 = .ok (.if_icmp .ge 57, 3) := by decide +kernel
theorem dX11_run_134 : decode cX11_run 134 = .ok (.aload_n 0, 1) := by decide +kernel
theorem dX11_run_135 : decode cX11_run 135 = .ok (.iconst 0, 1) := by decide +kernel
theorem dX11_run_136 : decode cX11_run 136 = .ok (.putfield 263, 3) := by decide +kernel
theorem dX11_run_139 : decode cX11_run 139 = .ok (.aload_n 0, 1) := by decide +kernel
theorem dX11_run_140 : decode cX11_run 140 = .ok (.iconst 0, 1) := by decide +kernel
theorem dX11_run_141 : decode cX11_run 141 = .ok (.putfield 260, 3) := by decide +kernel
theorem dX11_run_144 : decode cX11_run 144 = .ok (.aload_n 0, 1) := by decide +kernel
theorem dX11_run_145 : decode cX11_run 145 = .ok (.iconst 0, 1) := by decide +kernel
theorem dX11_run_146 : decode cX11_run 146 = .ok (.putfield 269, 3) := by decide +kernel
theorem dX11_run_149 : decode cX11_run 149 = .ok (.aload_n 0, 1) := by decide +kernel
theorem dX11_run_150 : decode cX11_run 150 = .ok (.iconst (-1), 1) := by decide +kernel
theorem dX11_run_151 : decode cX11_run 151 = .ok (.putfield 72, 3) := by decide +kernel
theorem dX11_run_154 : decode cX11_run 154 = .ok (.aload_n 0, 1) := by decide +kernel
theorem dX11_run_155 : decode cX11_run 155 = .ok (.dup, 1) := by decide +kernel
theorem dX11_run_156 : decode cX11_run 156 = .ok (.getfield 327, 3) := by decide +kernel
theorem dX11_run_159 : decode cX11_run 159 = .ok (.iconst 1, 1) := by decide +kernel
theorem dX11_run_160 : decode cX11_run 160 = .ok (.iadd, 1) := by decide +kernel
theorem dX11_run_161 : decode cX11_run 161 = .ok (.putfield 327, 3) := by decide +kernel
theorem dX11_run_164 : decode cX11_run 164 = .ok (.aload_n 0, 1) := by decide +kernel
theorem dX11_run_165 : decode cX11_run 165 = .ok (.iload_n 1, 1) := by decide +kernel
theorem dX11_run_166 : decode cX11_run 166 = .ok (.invokevirtual 300, 3) := by decide +kernel
theorem dX11_run_80 : decode cX11_run 80 = .ok (.aload_n 0, 1) := by decide +kernel
theorem dX11_run_81 : decode cX11_run 81 = .ok (.getfield 75, 3) := by decide +kernel
theorem dX11_run_84 : decode cX11_run 84 = .ok (.iload_n 3, 1) := by decide +kernel
theorem dX11_run_85 : decode cX11_run 85 = .ok (.iload_n 3, 1) := by decide +kernel
theorem dX11_run_86 : decode cX11_run 86 = .ok (.aload_n 0, 1) := by decide +kernel
theorem dX11_run_87 : decode cX11_run 87 = .ok (.getfield 159, 3) := by decide +kernel
theorem dX11_run_90 : decode cX11_run 90 = .ok (.if_icmp .ge 36, 3) := by decide +kernel
theorem dX11_run_126 : decode cX11_run 126 = .ok (.lconst 0, 1) := by decide +kernel
theorem dX11_run_127 : decode cX11_run 127 = .ok (.lastore, 1) := by decide +kernel
theorem dX11_run_128 : decode cX11_run 128 = .ok (.iinc 3 1, 3) := by decide +kernel
theorem dX11_run_131 : decode cX11_run 131 = .ok (.goto (-56), 3) := by decide +kernel
theorem dX11_run_93 : decode cX11_run 93 = .ok (.aload_n 0, 1) := by decide +kernel
theorem dX11_run_94 : decode cX11_run 94 = .ok (.getfield 27, 3) := by decide +kernel
theorem dX11_run_97 : decode cX11_run 97 = .ok (.iload_n 3, 1) := by decide +kernel
theorem dX11_run_98 : decode cX11_run 98 = .ok (.laload, 1) := by decide +kernel
theorem dX11_run_99 : decode cX11_run 99 = .ok (.aload_n 0, 1) := by decide +kernel
theorem dX11_run_100 : decode cX11_run 100 = .ok (.getfield 24, 3) := by decide +kernel
theorem dX11_run_103 : decode cX11_run 103 = .ok (.iload_n 3, 1) := by decide +kernel
theorem dX11_run_104 : decode cX11_run 104 = .ok (.iaload, 1) := by decide +kernel
theorem dX11_run_105 : decode cX11_run 105 = .ok (.invokestatic 101, 3) := by decide +kernel
theorem dX11_run_108 : decode cX11_run 108 = .ok (.aload_n 0, 1) := by decide +kernel
theorem dX11_run_109 : decode cX11_run 109 = .ok (.getfield 24, 3) := by decide +kernel
theorem dX11_run_112 : decode cX11_run 112 = .ok (.iload_n 3, 1) := by decide +kernel
theorem dX11_run_113 : decode cX11_run 113 = .ok (.iaload, 1) := by decide +kernel
theorem dX11_run_114 : decode cX11_run 114 = .ok (.aload_n 0, 1) := by decide +kernel
theorem dX11_run_115 : decode cX11_run 115 = .ok (.iload_n 1, 1) := by decide +kernel
theorem dX11_run_116 : decode cX11_run 116 = .ok (.iload_n 3, 1) := by decide +kernel
theorem dX11_run_117 : decode cX11_run 117 = .ok (.invokevirtual 167, 3) := by decide +kernel
theorem dX11_run_120 : decode cX11_run 120 = .ok (.invokestatic 296, 3) := by decide +kernel
theorem dX11_run_123 : decode cX11_run 123 = .ok (.goto 4, 3) := by decide +kernel
theorem dX11_run_169 : decode cX11_run 169 = .ok (.aload_n 0, 1) := by decide +kernel
theorem dX11_run_170 : decode cX11_run 170 = .ok (.getfield 263, 3) := by decide +kernel
theorem dX11_run_173 : decode cX11_run 173 = .ok (.ifCond .le 10, 3) := by decide +kernel
theorem dX11_run_183 : decode cX11_run 183 = .ok (.aload_n 0, 1) := by decide +kernel
theorem dX11_run_184 : decode cX11_run 184 = .ok (.getfield 257, 3) := by decide +kernel
theorem dX11_run_187 : decode cX11_run 187 = .ok (.ifCond .eq 11, 3) := by decide +kernel
theorem dX11_run_198 : decode cX11_run 198 = .ok (.aload_n 0, 1) := by decide +kernel
theorem dX11_run_199 : decode cX11_run 199 = .ok (.aload_n 0, 1) := by decide +kernel
theorem dX11_run_200 : decode cX11_run 200 = .ok (.getfield 266, 3) := by decide +kernel
theorem dX11_run_203 : decode cX11_run 203 = .ok (.aload_n 0, 1) := by decide +kernel
theorem dX11_run_204 : decode cX11_run 204 = .ok (.getfield 51, 3) := by decide +kernel
theorem dX11_run_207 : decode cX11_run 207 = .ok (.iload_n 1, 1) := by decide +kernel
theorem dX11_run_208 : decode cX11_run 208 = .ok (.iaload, 1) := by decide +kernel
theorem dX11_run_209 : decode cX11_run 209 = .ok (.aload_n 0, 1) := by decide +kernel
theorem dX11_run_210 : decode cX11_run 210 = .ok (.getfield 20, 3) := by decide +kernel
theorem dX11_run_213 : decode cX11_run 213 = .ok (.invokestatic 296, 3) := by decide +kernel
theorem dX11_run_216 : decode cX11_run 216 = .ok (.putfield 333, 3) := by decide +kernel
theorem dX11_run_219 : decode cX11_run 219 = .ok (.iconst 1, 1) := by decide +kernel
theorem dX11_run_220 : decode cX11_run 220 = .ok (.ireturn, 1) := by decide +kernel
theorem dX11_run_190 : decode cX11_run 190 = .ok (.bipush (-10), 2) := by decide +kernel
theorem dX11_run_192 : decode cX11_run 192 = .ok (.aload_n 0, 1) := by decide +kernel
theorem dX11_run_193 : decode cX11_run 193 = .ok (.getfield 257, 3) := by decide +kernel
theorem dX11_run_196 : decode cX11_run 196 = .ok (.isub, 1) := by decide +kernel
theorem dX11_run_197 : decode cX11_run 197 = .ok (.ireturn, 1) := by decide +kernel
theorem dX11_run_176 : decode cX11_run 176 = .ok (.aload_n 0, 1) := by decide +kernel
theorem dX11_run_177 : decode cX11_run 177 = .ok (.invokevirtual 330, 3) := by decide +kernel
theorem dX11_run_180 : decode cX11_run 180 = .ok (.goto (-11), 3) := by decide +kernel
theorem hy_X11_run : yX11_run.cls ≠ "java/lang/invoke/MethodHandle" ∧ yX11_run.cls ≠ "java/lang/invoke/VarHandle" ∧ (parseMethodDescriptor yX11_run.desc).map (fun d => d.parameters.length) = some 2 := ⟨by decide, by decide, by decide +kernel⟩
def f_X11_run_b169 : Nat → Int32 → mS → Option ((Int32) × mS)
  | 0, _, _ => none
  | n + 1, l1, S => 
  o_let (m_I S 7) fun x1 =>
  if x1 ≤ 0 then (
  o_let (m_I S 8) fun x2 =>
  if x2 = 0 then (
  o_let (m_L S 1) fun x3 =>
  o_ck (¬ (l1 < 0 ∨ 33 ≤ (l1).toNatClampNeg)) (o_let (m_aI S 10 (l1).toNatClampNeg) fun x4 =>
  o_let (m_I S 1) fun x5 =>
  o_cP (f_X11_widen x3 x4 x5) fun x6 =>
  o_let (m_pL S 2 x6) fun S1 =>
  some (1, S1))) else (
  o_let (m_I S 8) fun x7 =>
  some ((-10 : Int32) - x7, S))) else (
  o_call (f_X11_one S) fun _ S2 =>
  f_X11_run_b169 n l1 S2)
set_option maxHeartbeats 4000000 in
set_option maxRecDepth 100000 in
theorem w_X11_run_b169 {l : Launch} {D : va_G} {Y : Nat → ClassId} {aR : Nat → Nat} {A : Nat → Prop} {ad : Nat → Nat} {p : Program} {e : Env} {s : State} {m : MethodId} {args : Array Value} {below : List Frame} {meth : Method} {c : Code} : ∀ (n : Nat) (l1 : Int32) (S S' : mS) (r : Int32) (H : Heap) (locs : List Loc) (ls : Array Slot), jq_X D Y aR A p s m args meth c cX11_run RX11 "run" 4 (some .int) → mJ D Y A s ad S H locs → f_X11_run_b169 n l1 S = some (r, S') → lv_has ls 4 [(0, .ref (ad 0)), (1, .int l1)] → W p l e { frames := 5, cells := 0, slots := 0, locals := 125 } s m args below meth c H locs 0 0 (jq_Z below A (fun v k n H => v = (some (.int r)) ∧ k = 0 ∧ n = 0 ∧ mH D Y A ad S' H) s) (F0 m 169 ls []) := by
  intro n
  induction n with
  | zero =>
    intro l1 S S' r H locs ls hX hJ hf hl
    cases hf
  | succ n ih =>
    intro l1 S S' r H locs ls hX hJ hf hl
    rw [f_X11_run_b169.eq_2] at hf
    have hx := hX.1
    have hb := hX.2.1
    have hm := hX.2.2.1
    have ho := hX.2.2.2.1
    have ht := hX.2.2.2.2.1
    have hn := hX.2.2.2.2.2.1.2.1
    refine lv_aload_n hx hb dX11_run_169 rfl (lv_at hl 0 rfl) ?_
    replace hf := o_let_e hf
    obtain ⟨x1, hx1, hf⟩ := hf
    refine mg_depth hX hJ hx1 qw710 dX11_run_170 ?_
    refine lv_if_le (tgt := 183) hx hb dX11_run_173 (by decide) (fun c1 => ?_) (fun c1 => ?_)
    · replace hf := o_t hf c1
      refine lv_aload_n hx hb dX11_run_183 rfl (lv_at hl 0 rfl) ?_
      replace hf := o_let_e hf
      obtain ⟨x2, hx2, hf⟩ := hf
      refine mg_failure hX hJ hx2 qw718 dX11_run_184 ?_
      refine lv_if_eq (tgt := 198) hx hb dX11_run_187 (by decide) (fun c2 => ?_) (fun c2 => ?_)
      · replace hf := o_t hf c2
        refine lv_aload_n hx hb dX11_run_198 rfl (lv_at hl 0 rfl) ?_
        refine lv_aload_n hx hb dX11_run_199 rfl (lv_at hl 0 rfl) ?_
        replace hf := o_let_e hf
        obtain ⟨x3, hx3, hf⟩ := hf
        refine mg_back hX hJ hx3 qw717 dX11_run_200 ?_
        refine lv_aload_n hx hb dX11_run_203 rfl (lv_at hl 0 rfl) ?_
        refine mg_resultOf hX hJ qw705 dX11_run_204 ?_
        refine lv_iload_n hx hb dX11_run_207 rfl (lv_at hl 1 rfl) ?_
        replace hf := o_ck_e hf
        obtain ⟨hk1, hf⟩ := hf
        replace hf := o_let_e hf
        obtain ⟨x4, hx4, hf⟩ := hf
        refine ma_I 10 hX hJ (by decide) hk1 hx4 dX11_run_208 ?_
        refine lv_aload_n hx hb dX11_run_209 rfl (lv_at hl 0 rfl) ?_
        replace hf := o_let_e hf
        obtain ⟨x5, hx5, hf⟩ := hf
        refine mg_handResult hX hJ hx5 qw693 dX11_run_210 ?_
        replace hf := o_cP_e hf
        obtain ⟨x6, hq1, hf⟩ := hf
        refine jq_doP hX hJ.2 (jq_okS (As := [.long x3, .int x4, .int x5]) (rest := [.ref (ad 0)]) hx hb hm ho ht qw950 qw951 qw952 qw7 hy_X11_widen rfl hl.1 (Nat.le_of_ble_eq_true rfl) dX11_run_213) (c_X11_widen hq1) (Nat.le_of_ble_eq_true rfl) (Nat.le_of_ble_eq_true rfl) (Nat.le_refl _) (Nat.le_refl _) (fun locs hS9 => ?_)
        replace hJ := mJ.to hJ hS9
        replace hf := o_let_e hf
        obtain ⟨S1, hS1, hf⟩ := hf
        refine mp_value hX hJ hS1 qw723 dX11_run_216 (fun H locs hJ' => ?_)
        clear hJ
        have hJ := hJ'
        clear hJ'
        refine lv_iconst (v := 1) hx hb dX11_run_219 (by decide) ?_
        obtain ⟨rfl, rfl⟩ := Prod.mk.inj (Option.some.inj hf)
        exact jq_iret hX hJ.2 dX11_run_220 ⟨rfl, rfl, rfl, hJ.1⟩
      · replace hf := o_f hf c2
        refine lv_bipush (v := (-10)) hx hb dX11_run_190 (by decide) ?_
        refine lv_aload_n hx hb dX11_run_192 rfl (lv_at hl 0 rfl) ?_
        replace hf := o_let_e hf
        obtain ⟨x7, hx7, hf⟩ := hf
        refine mg_failure hX hJ hx7 qw718 dX11_run_193 ?_
        refine lv_isub hx hb dX11_run_196 ?_
        obtain ⟨rfl, rfl⟩ := Prod.mk.inj (Option.some.inj hf)
        exact jq_iret hX hJ.2 dX11_run_197 ⟨rfl, rfl, rfl, hJ.1⟩
    · replace hf := o_f hf c1
      refine lv_aload_n hx hb dX11_run_176 rfl (lv_at hl 0 rfl) ?_
      replace hf := o_call_e hf
      obtain ⟨_, S2, hq2, hf⟩ := hf
      refine jq_doM hX hJ (jq_okV (As := []) (rest := []) hx hb hm ho ht (mJ.recv hX hJ) qw992 qw994 qs93 qw995 qw7 hy_X11_one rfl hl.1 (Nat.le_of_ble_eq_true rfl) dX11_run_177) (c_X11_one hq2) (Nat.le_of_ble_eq_true rfl) (Nat.le_of_ble_eq_true rfl) (Nat.le_refl _) (Nat.le_refl _) (fun H locs hJ' => ?_)
      clear hJ
      have hJ := hJ'
      clear hJ'
      refine lv_goto (tgt := 169) hx hb dX11_run_180 (by decide) ?_
      replace hl := lv_sub hl (l' := [(0, .ref (ad 0)), (1, .int l1)]) [0, 1] rfl
      exact ih l1 S2 S' r H locs ls hX hJ hf hl
def f_X11_run_b75 : Nat → Int32 → Int32 → mS → Option ((Int32) × mS)
  | 0, _, _, _ => none
  | n + 1, l1, l3, S => 
  if 4 ≤ l3 then (
  o_let (m_pI S 7 0) fun S1 =>
  o_let (m_pI S1 9 0) fun S2 =>
  o_let (m_pI S2 10 0) fun S3 =>
  o_let (m_pI S3 11 (-1)) fun S4 =>
  o_let (m_I S4 12) fun x1 =>
  o_let (m_pI S4 12 (x1 + (1 : Int32))) fun S5 =>
  o_call (f_X11_begin l1 S5) fun _ S6 =>
  f_X11_run_b169 20000 l1 S6) else (
  o_let (m_I S 2) fun x2 =>
  if x2 ≤ l3 then (
  o_ck (¬ (l3 < 0 ∨ 4 ≤ (l3).toNatClampNeg)) (o_let (m_wL S 20 (l3).toNatClampNeg 0) fun S7 =>
  o_let (l3 + 1) fun x3 =>
  f_X11_run_b75 n l1 x3 S7)) else (
  o_ck (¬ (l3 < 0 ∨ 4 ≤ (l3).toNatClampNeg)) (o_let (m_aL S 16 (l3).toNatClampNeg) fun x4 =>
  o_ck (¬ (l3 < 0 ∨ 4 ≤ (l3).toNatClampNeg)) (o_let (m_aI S 3 (l3).toNatClampNeg) fun x5 =>
  o_cP (f_X11_cast x4 x5) fun x6 =>
  o_ck (¬ (l3 < 0 ∨ 4 ≤ (l3).toNatClampNeg)) (o_let (m_aI S 3 (l3).toNatClampNeg) fun x7 =>
  o_call (f_X11_kind l1 l3 S) fun x8 S8 =>
  o_cP (f_X11_widen x6 x7 x8) fun x9 =>
  o_ck (¬ (l3 < 0 ∨ 4 ≤ (l3).toNatClampNeg)) (o_let (m_wL S8 20 (l3).toNatClampNeg x9) fun S9 =>
  o_let (l3 + 1) fun x10 =>
  f_X11_run_b75 n l1 x10 S9))))))
set_option maxHeartbeats 4000000 in
set_option maxRecDepth 100000 in
theorem w_X11_run_b75 {l : Launch} {D : va_G} {Y : Nat → ClassId} {aR : Nat → Nat} {A : Nat → Prop} {ad : Nat → Nat} {p : Program} {e : Env} {s : State} {m : MethodId} {args : Array Value} {below : List Frame} {meth : Method} {c : Code} : ∀ (n : Nat) (l1 : Int32) (l3 : Int32) (S S' : mS) (r : Int32) (H : Heap) (locs : List Loc) (ls : Array Slot), jq_X D Y aR A p s m args meth c cX11_run RX11 "run" 4 (some .int) → mJ D Y A s ad S H locs → f_X11_run_b75 n l1 l3 S = some (r, S') → lv_has ls 4 [(0, .ref (ad 0)), (1, .int l1), (3, .int l3)] → W p l e { frames := 5, cells := 0, slots := 0, locals := 125 } s m args below meth c H locs 0 0 (jq_Z below A (fun v k n H => v = (some (.int r)) ∧ k = 0 ∧ n = 0 ∧ mH D Y A ad S' H) s) (F0 m 75 ls []) := by
  intro n
  induction n with
  | zero =>
    intro l1 l3 S S' r H locs ls hX hJ hf hl
    cases hf
  | succ n ih =>
    intro l1 l3 S S' r H locs ls hX hJ hf hl
    rw [f_X11_run_b75.eq_2] at hf
    have hx := hX.1
    have hb := hX.2.1
    have hm := hX.2.2.1
    have ho := hX.2.2.2.1
    have ht := hX.2.2.2.2.1
    have hn := hX.2.2.2.2.2.1.2.1
    refine lv_iload_n hx hb dX11_run_75 rfl (lv_at hl 2 rfl) ?_
    refine lv_iconst (v := 4) hx hb dX11_run_76 (by decide) ?_
    refine lv_icmp_ge (tgt := 134) hx hb dX11_run_77 (by decide) (fun c1 => ?_) (fun c1 => ?_)
    · replace hf := o_t hf c1
      refine lv_aload_n hx hb dX11_run_134 rfl (lv_at hl 0 rfl) ?_
      refine lv_iconst (v := 0) hx hb dX11_run_135 (by decide) ?_
      replace hf := o_let_e hf
      obtain ⟨S1, hS1, hf⟩ := hf
      refine mp_depth hX hJ hS1 qw710 dX11_run_136 (fun H locs hJ' => ?_)
      clear hJ
      have hJ := hJ'
      clear hJ'
      refine lv_aload_n hx hb dX11_run_139 rfl (lv_at hl 0 rfl) ?_
      refine lv_iconst (v := 0) hx hb dX11_run_140 (by decide) ?_
      replace hf := o_let_e hf
      obtain ⟨S2, hS2, hf⟩ := hf
      refine mp_steps hX hJ hS2 qw719 dX11_run_141 (fun H locs hJ' => ?_)
      clear hJ
      have hJ := hJ'
      clear hJ'
      refine lv_aload_n hx hb dX11_run_144 rfl (lv_at hl 0 rfl) ?_
      refine lv_iconst (v := 0) hx hb dX11_run_145 (by decide) ?_
      replace hf := o_let_e hf
      obtain ⟨S3, hS3, hf⟩ := hf
      refine mp_failures hX hJ hS3 qw720 dX11_run_146 (fun H locs hJ' => ?_)
      clear hJ
      have hJ := hJ'
      clear hJ'
      refine lv_aload_n hx hb dX11_run_149 rfl (lv_at hl 0 rfl) ?_
      refine lv_iconst (v := (-1)) hx hb dX11_run_150 (by decide) ?_
      replace hf := o_let_e hf
      obtain ⟨S4, hS4, hf⟩ := hf
      refine mp_blamed hX hJ hS4 qw721 dX11_run_151 (fun H locs hJ' => ?_)
      clear hJ
      have hJ := hJ'
      clear hJ'
      refine lv_aload_n hx hb dX11_run_154 rfl (lv_at hl 0 rfl) ?_
      refine lv_dup hx hb dX11_run_155 rfl ?_
      replace hf := o_let_e hf
      obtain ⟨x1, hx1, hf⟩ := hf
      refine mg_runs hX hJ hx1 qw722 dX11_run_156 ?_
      refine lv_iconst (v := 1) hx hb dX11_run_159 (by decide) ?_
      refine lv_iadd hx hb dX11_run_160 ?_
      replace hf := o_let_e hf
      obtain ⟨S5, hS5, hf⟩ := hf
      refine mp_runs hX hJ hS5 qw722 dX11_run_161 (fun H locs hJ' => ?_)
      clear hJ
      have hJ := hJ'
      clear hJ'
      refine lv_aload_n hx hb dX11_run_164 rfl (lv_at hl 0 rfl) ?_
      refine lv_iload_n hx hb dX11_run_165 rfl (lv_at hl 1 rfl) ?_
      replace hf := o_call_e hf
      obtain ⟨_, S6, hq1, hf⟩ := hf
      refine jq_doM hX hJ (jq_okV (As := [.int l1]) (rest := []) hx hb hm ho ht (mJ.recv hX hJ) qw988 qw990 qs92 qw991 qw7 hy_X11_begin rfl hl.1 (Nat.le_of_ble_eq_true rfl) dX11_run_166) (c_X11_begin hq1) (Nat.le_of_ble_eq_true rfl) (Nat.le_of_ble_eq_true rfl) (Nat.le_refl _) (Nat.le_refl _) (fun H locs hJ' => ?_)
      clear hJ
      have hJ := hJ'
      clear hJ'
      replace hl := lv_sub hl (l' := [(0, .ref (ad 0)), (1, .int l1)]) [0, 1] rfl
      exact w_X11_run_b169 20000 l1 S6 S' r H locs ls hX hJ hf hl
    · replace hf := o_f hf c1
      refine lv_aload_n hx hb dX11_run_80 rfl (lv_at hl 0 rfl) ?_
      refine mg_hand hX hJ qw724 dX11_run_81 ?_
      refine lv_iload_n hx hb dX11_run_84 rfl (lv_at hl 2 rfl) ?_
      refine lv_iload_n hx hb dX11_run_85 rfl (lv_at hl 2 rfl) ?_
      refine lv_aload_n hx hb dX11_run_86 rfl (lv_at hl 0 rfl) ?_
      replace hf := o_let_e hf
      obtain ⟨x2, hx2, hf⟩ := hf
      refine mg_handMany hX hJ hx2 qw694 dX11_run_87 ?_
      refine lv_icmp_ge (tgt := 126) hx hb dX11_run_90 (by decide) (fun c2 => ?_) (fun c2 => ?_)
      · replace hf := o_t hf c2
        refine lv_lconst (v := 0) hx hb dX11_run_126 (by decide) ?_
        replace hf := o_ck_e hf
        obtain ⟨hk1, hf⟩ := hf
        replace hf := o_let_e hf
        obtain ⟨S7, hS7, hf⟩ := hf
        refine mw_L 20 hX hJ (by decide) hk1 hS7 dX11_run_127 (fun H locs hJ' => ?_)
        clear hJ
        have hJ := hJ'
        clear hJ'
        replace hf := o_let_e hf
        obtain ⟨x3, hx3, hf⟩ := hf
        refine lv_iinc (v := x3) (lv' := [(3, .int x3), (0, .ref (ad 0)), (1, .int l1)]) hx hb dX11_run_128 hl (k := 2) rfl (by rw [← hx3]; rfl) (by decide) rfl (fun ls hl' => ?_)
        clear hl
        have hl := hl'
        clear hl'
        refine lv_goto (tgt := 75) hx hb dX11_run_131 (by decide) ?_
        replace hl := lv_sub hl (l' := [(0, .ref (ad 0)), (1, .int l1), (3, .int x3)]) [1, 2, 0] rfl
        exact ih l1 x3 S7 S' r H locs ls hX hJ hf hl
      · replace hf := o_f hf c2
        refine lv_aload_n hx hb dX11_run_93 rfl (lv_at hl 0 rfl) ?_
        refine mg_given hX hJ qw696 dX11_run_94 ?_
        refine lv_iload_n hx hb dX11_run_97 rfl (lv_at hl 2 rfl) ?_
        replace hf := o_ck_e hf
        obtain ⟨hk2, hf⟩ := hf
        replace hf := o_let_e hf
        obtain ⟨x4, hx4, hf⟩ := hf
        refine ma_L 16 hX hJ (by decide) hk2 hx4 dX11_run_98 ?_
        refine lv_aload_n hx hb dX11_run_99 rfl (lv_at hl 0 rfl) ?_
        refine mg_handKind hX hJ qw695 dX11_run_100 ?_
        refine lv_iload_n hx hb dX11_run_103 rfl (lv_at hl 2 rfl) ?_
        replace hf := o_ck_e hf
        obtain ⟨hk3, hf⟩ := hf
        replace hf := o_let_e hf
        obtain ⟨x5, hx5, hf⟩ := hf
        refine ma_I 3 hX hJ (by decide) hk3 hx5 dX11_run_104 ?_
        replace hf := o_cP_e hf
        obtain ⟨x6, hq2, hf⟩ := hf
        refine jq_doP hX hJ.2 (jq_okS (As := [.long x4, .int x5]) (rest := [.int l3, .ref (ad 20)]) hx hb hm ho ht qw823 qw824 qw825 qw7 hy_X11_cast rfl hl.1 (Nat.le_of_ble_eq_true rfl) dX11_run_105) (c_X11_cast hq2) (Nat.le_of_ble_eq_true rfl) (Nat.le_of_ble_eq_true rfl) (Nat.le_refl _) (Nat.le_refl _) (fun locs hS9 => ?_)
        replace hJ := mJ.to hJ hS9
        refine lv_aload_n hx hb dX11_run_108 rfl (lv_at hl 0 rfl) ?_
        refine mg_handKind hX hJ qw695 dX11_run_109 ?_
        refine lv_iload_n hx hb dX11_run_112 rfl (lv_at hl 2 rfl) ?_
        replace hf := o_ck_e hf
        obtain ⟨hk4, hf⟩ := hf
        replace hf := o_let_e hf
        obtain ⟨x7, hx7, hf⟩ := hf
        refine ma_I 3 hX hJ (by decide) hk4 hx7 dX11_run_113 ?_
        refine lv_aload_n hx hb dX11_run_114 rfl (lv_at hl 0 rfl) ?_
        refine lv_iload_n hx hb dX11_run_115 rfl (lv_at hl 1 rfl) ?_
        refine lv_iload_n hx hb dX11_run_116 rfl (lv_at hl 2 rfl) ?_
        replace hf := o_call_e hf
        obtain ⟨x8, S8, hq3, hf⟩ := hf
        refine jq_doM hX hJ (jq_okV (As := [.int l1, .int l3]) (rest := [.int x7, .long x6, .int l3, .ref (ad 20)]) hx hb hm ho ht (mJ.recv hX hJ) qw883 qw885 qs81 qw886 qw7 hy_X11_kind rfl hl.1 (Nat.le_of_ble_eq_true rfl) dX11_run_117) (c_X11_kind hq3) (Nat.le_of_ble_eq_true rfl) (Nat.le_of_ble_eq_true rfl) (Nat.le_refl _) (Nat.le_refl _) (fun H locs hJ' => ?_)
        clear hJ
        have hJ := hJ'
        clear hJ'
        replace hf := o_cP_e hf
        obtain ⟨x9, hq4, hf⟩ := hf
        refine jq_doP hX hJ.2 (jq_okS (As := [.long x6, .int x7, .int x8]) (rest := [.int l3, .ref (ad 20)]) hx hb hm ho ht qw950 qw951 qw952 qw7 hy_X11_widen rfl hl.1 (Nat.le_of_ble_eq_true rfl) dX11_run_120) (c_X11_widen hq4) (Nat.le_of_ble_eq_true rfl) (Nat.le_of_ble_eq_true rfl) (Nat.le_refl _) (Nat.le_refl _) (fun locs hS9 => ?_)
        replace hJ := mJ.to hJ hS9
        refine lv_goto (tgt := 127) hx hb dX11_run_123 (by decide) ?_
        replace hf := o_ck_e hf
        obtain ⟨hk5, hf⟩ := hf
        replace hf := o_let_e hf
        obtain ⟨S9, hS9, hf⟩ := hf
        refine mw_L 20 hX hJ (by decide) hk5 hS9 dX11_run_127 (fun H locs hJ' => ?_)
        clear hJ
        have hJ := hJ'
        clear hJ'
        replace hf := o_let_e hf
        obtain ⟨x10, hx10, hf⟩ := hf
        refine lv_iinc (v := x10) (lv' := [(3, .int x10), (0, .ref (ad 0)), (1, .int l1)]) hx hb dX11_run_128 hl (k := 2) rfl (by rw [← hx10]; rfl) (by decide) rfl (fun ls hl' => ?_)
        clear hl
        have hl := hl'
        clear hl'
        refine lv_goto (tgt := 75) hx hb dX11_run_131 (by decide) ?_
        replace hl := lv_sub hl (l' := [(0, .ref (ad 0)), (1, .int l1), (3, .int x10)]) [1, 2, 0] rfl
        exact ih l1 x10 S9 S' r H locs ls hX hJ hf hl
def f_X11_run_b38 : Nat → Int32 → Int32 → mS → Option ((Int32) × mS)
  | 0, _, _, _ => none
  | n + 1, l1, l3, S => 
  o_let (m_I S 2) fun x1 =>
  if x1 ≤ l3 then (
  f_X11_run_b75 12 l1 0 S) else (
  o_ck (¬ (l3 < 0 ∨ 4 ≤ (l3).toNatClampNeg)) (o_let (m_aI S 3 (l3).toNatClampNeg) fun x2 =>
  o_ck (¬ (l3 < 0 ∨ 4 ≤ (l3).toNatClampNeg)) (o_let (m_aL S 16 (l3).toNatClampNeg) fun x3 =>
  o_call (f_X11_isValue x2 x3 S) fun x4 S1 =>
  if x4 = 0 then (
  some ((-1), S1)) else (
  o_let (l3 + 1) fun x5 =>
  f_X11_run_b38 n l1 x5 S1))))
set_option maxHeartbeats 4000000 in
set_option maxRecDepth 100000 in
theorem w_X11_run_b38 {l : Launch} {D : va_G} {Y : Nat → ClassId} {aR : Nat → Nat} {A : Nat → Prop} {ad : Nat → Nat} {p : Program} {e : Env} {s : State} {m : MethodId} {args : Array Value} {below : List Frame} {meth : Method} {c : Code} : ∀ (n : Nat) (l1 : Int32) (l3 : Int32) (S S' : mS) (r : Int32) (H : Heap) (locs : List Loc) (ls : Array Slot), jq_X D Y aR A p s m args meth c cX11_run RX11 "run" 4 (some .int) → mJ D Y A s ad S H locs → f_X11_run_b38 n l1 l3 S = some (r, S') → lv_has ls 4 [(0, .ref (ad 0)), (1, .int l1), (3, .int l3)] → W p l e { frames := 5, cells := 0, slots := 0, locals := 125 } s m args below meth c H locs 0 0 (jq_Z below A (fun v k n H => v = (some (.int r)) ∧ k = 0 ∧ n = 0 ∧ mH D Y A ad S' H) s) (F0 m 38 ls []) := by
  intro n
  induction n with
  | zero =>
    intro l1 l3 S S' r H locs ls hX hJ hf hl
    cases hf
  | succ n ih =>
    intro l1 l3 S S' r H locs ls hX hJ hf hl
    rw [f_X11_run_b38.eq_2] at hf
    have hx := hX.1
    have hb := hX.2.1
    have hm := hX.2.2.1
    have ho := hX.2.2.2.1
    have ht := hX.2.2.2.2.1
    have hn := hX.2.2.2.2.2.1.2.1
    refine lv_iload_n hx hb dX11_run_38 rfl (lv_at hl 2 rfl) ?_
    refine lv_aload_n hx hb dX11_run_39 rfl (lv_at hl 0 rfl) ?_
    replace hf := o_let_e hf
    obtain ⟨x1, hx1, hf⟩ := hf
    refine mg_handMany hX hJ hx1 qw694 dX11_run_40 ?_
    refine lv_icmp_ge (tgt := 73) hx hb dX11_run_43 (by decide) (fun c1 => ?_) (fun c1 => ?_)
    · replace hf := o_t hf c1
      refine lv_iconst (v := 0) hx hb dX11_run_73 (by decide) ?_
      refine lv_istore_n (lv' := [(3, .int 0), (0, .ref (ad 0)), (1, .int l1)]) hx hb dX11_run_74 rfl hl (by decide) rfl (fun ls hl' => ?_)
      clear hl
      have hl := hl'
      clear hl'
      replace hl := lv_sub hl (l' := [(0, .ref (ad 0)), (1, .int l1), (3, .int 0)]) [1, 2, 0] rfl
      exact w_X11_run_b75 12 l1 0 S S' r H locs ls hX hJ hf hl
    · replace hf := o_f hf c1
      refine lv_aload_n hx hb dX11_run_46 rfl (lv_at hl 0 rfl) ?_
      refine lv_aload_n hx hb dX11_run_47 rfl (lv_at hl 0 rfl) ?_
      refine mg_handKind hX hJ qw695 dX11_run_48 ?_
      refine lv_iload_n hx hb dX11_run_51 rfl (lv_at hl 2 rfl) ?_
      replace hf := o_ck_e hf
      obtain ⟨hk1, hf⟩ := hf
      replace hf := o_let_e hf
      obtain ⟨x2, hx2, hf⟩ := hf
      refine ma_I 3 hX hJ (by decide) hk1 hx2 dX11_run_52 ?_
      refine lv_aload_n hx hb dX11_run_53 rfl (lv_at hl 0 rfl) ?_
      refine mg_given hX hJ qw696 dX11_run_54 ?_
      refine lv_iload_n hx hb dX11_run_57 rfl (lv_at hl 2 rfl) ?_
      replace hf := o_ck_e hf
      obtain ⟨hk2, hf⟩ := hf
      replace hf := o_let_e hf
      obtain ⟨x3, hx3, hf⟩ := hf
      refine ma_L 16 hX hJ (by decide) hk2 hx3 dX11_run_58 ?_
      replace hf := o_call_e hf
      obtain ⟨x4, S1, hq1, hf⟩ := hf
      refine jq_doM hX hJ (jq_okV (As := [.int x2, .long x3]) (rest := []) hx hb hm ho ht (mJ.recv hX hJ) qw862 qw864 qs76 qw865 qw7 hy_X11_isValue rfl hl.1 (Nat.le_of_ble_eq_true rfl) dX11_run_59) (c_X11_isValue hq1) (Nat.le_of_ble_eq_true rfl) (Nat.le_of_ble_eq_true rfl) (Nat.le_refl _) (Nat.le_refl _) (fun H locs hJ' => ?_)
      clear hJ
      have hJ := hJ'
      clear hJ'
      refine lv_if_ne (tgt := 67) hx hb dX11_run_62 (by decide) (fun c2 => ?_) (fun c2 => ?_)
      · replace hf := o_f hf c2
        replace hf := o_let_e hf
        obtain ⟨x5, hx5, hf⟩ := hf
        refine lv_iinc (v := x5) (lv' := [(3, .int x5), (0, .ref (ad 0)), (1, .int l1)]) hx hb dX11_run_67 hl (k := 2) rfl (by rw [← hx5]; rfl) (by decide) rfl (fun ls hl' => ?_)
        clear hl
        have hl := hl'
        clear hl'
        refine lv_goto (tgt := 38) hx hb dX11_run_70 (by decide) ?_
        replace hl := lv_sub hl (l' := [(0, .ref (ad 0)), (1, .int l1), (3, .int x5)]) [1, 2, 0] rfl
        exact ih l1 x5 S1 S' r H locs ls hX hJ hf hl
      · replace hf := o_t hf c2
        refine lv_iconst (v := (-1)) hx hb dX11_run_65 (by decide) ?_
        obtain ⟨rfl, rfl⟩ := Prod.mk.inj (Option.some.inj hf)
        exact jq_iret hX hJ.2 dX11_run_66 ⟨rfl, rfl, rfl, hJ.1⟩
def f_X11_run (p1 : Int32) (p2 : Int32) (S : mS) : Option ((Int32) × mS) :=
  o_call (f_X11_isHandle p1 S) fun x1 S1 =>
  if x1 = 0 then (
  some ((-1), S1)) else (
  if p2 = 0 then (
  o_call (f_X11_handGoes p1 S1) fun x2 S2 =>
  if x2 = 0 then (
  some ((-4), S2)) else (
  f_X11_run_b38 12 p1 0 S2)) else (
  o_call (f_X11_isHand p1 S1) fun x3 S3 =>
  if x3 = 0 then (
  some ((-4), S3)) else (
  f_X11_run_b38 12 p1 0 S3)))
set_option maxHeartbeats 4000000 in
set_option maxRecDepth 100000 in
theorem c_X11_run {l : Launch} {D : va_G} {Y : Nat → ClassId} {aR : Nat → Nat} {A : Nat → Prop} {ad : Nat → Nat} {p1 : Int32} {p2 : Int32} {S S' : mS} {r : Int32} (hf : f_X11_run p1 p2 S = some (r, S')) : jq_M l D Y aR A ad yX11_run cX11_run 4 (some .int) 5 125 [.ref (ad 0), .int p1, .int p2] S (some (.int r)) S' := by
  unfold f_X11_run at hf
  refine jq_enterM (by decide) (Nat.le_of_ble_eq_true rfl) fun p e s m args below meth c ls H locs hX hJ hl => ?_
  have hl : lv_has ls 4 [(0, .ref (ad 0)), (1, .int p1), (2, .int p2)] := hl
  have hx := hX.1
  have hb := hX.2.1
  have hm := hX.2.2.1
  have ho := hX.2.2.2.1
  have ht := hX.2.2.2.2.1
  have hn := hX.2.2.2.2.2.1.2.1
  refine lv_aload_n hx hb dX11_run_0 rfl (lv_at hl 0 rfl) ?_
  refine lv_iload_n hx hb dX11_run_1 rfl (lv_at hl 1 rfl) ?_
  replace hf := o_call_e hf
  obtain ⟨x1, S1, hq1, hf⟩ := hf
  refine jq_doM hX hJ (jq_okV (As := [.int p1]) (rest := []) hx hb hm ho ht (mJ.recv hX hJ) qw879 qw881 qs80 qw882 qw7 hy_X11_isHandle rfl hl.1 (Nat.le_of_ble_eq_true rfl) dX11_run_2) (c_X11_isHandle hq1) (Nat.le_of_ble_eq_true rfl) (Nat.le_of_ble_eq_true rfl) (Nat.le_refl _) (Nat.le_refl _) (fun H locs hJ' => ?_)
  clear hJ
  have hJ := hJ'
  clear hJ'
  refine lv_if_ne (tgt := 10) hx hb dX11_run_5 (by decide) (fun c1 => ?_) (fun c1 => ?_)
  · replace hf := o_f hf c1
    refine lv_iload_n hx hb dX11_run_10 rfl (lv_at hl 2 rfl) ?_
    refine lv_if_eq (tgt := 25) hx hb dX11_run_11 (by decide) (fun c2 => ?_) (fun c2 => ?_)
    · replace hf := o_t hf c2
      refine lv_aload_n hx hb dX11_run_25 rfl (lv_at hl 0 rfl) ?_
      refine lv_iload_n hx hb dX11_run_26 rfl (lv_at hl 1 rfl) ?_
      replace hf := o_call_e hf
      obtain ⟨x2, S2, hq2, hf⟩ := hf
      refine jq_doM hX hJ (jq_okV (As := [.int p1]) (rest := []) hx hb hm ho ht (mJ.recv hX hJ) qw918 qw920 qs89 qw921 qw7 hy_X11_handGoes rfl hl.1 (Nat.le_of_ble_eq_true rfl) dX11_run_27) (c_X11_handGoes hq2) (Nat.le_of_ble_eq_true rfl) (Nat.le_of_ble_eq_true rfl) (Nat.le_refl _) (Nat.le_refl _) (fun H locs hJ' => ?_)
      clear hJ
      have hJ := hJ'
      clear hJ'
      refine lv_if_ne (tgt := 36) hx hb dX11_run_30 (by decide) (fun c3 => ?_) (fun c3 => ?_)
      · replace hf := o_f hf c3
        refine lv_iconst (v := 0) hx hb dX11_run_36 (by decide) ?_
        refine lv_istore_n (lv' := [(3, .int 0), (0, .ref (ad 0)), (1, .int p1), (2, .int p2)]) hx hb dX11_run_37 rfl hl (by decide) rfl (fun ls hl' => ?_)
        clear hl
        have hl := hl'
        clear hl'
        replace hl := lv_sub hl (l' := [(0, .ref (ad 0)), (1, .int p1), (3, .int 0)]) [1, 2, 0] rfl
        exact w_X11_run_b38 12 p1 0 S2 S' r H locs ls hX hJ hf hl
      · replace hf := o_t hf c3
        refine lv_bipush (v := (-4)) hx hb dX11_run_33 (by decide) ?_
        obtain ⟨rfl, rfl⟩ := Prod.mk.inj (Option.some.inj hf)
        exact jq_iret hX hJ.2 dX11_run_35 ⟨rfl, rfl, rfl, hJ.1⟩
    · replace hf := o_f hf c2
      refine lv_aload_n hx hb dX11_run_14 rfl (lv_at hl 0 rfl) ?_
      refine lv_iload_n hx hb dX11_run_15 rfl (lv_at hl 1 rfl) ?_
      replace hf := o_call_e hf
      obtain ⟨x3, S3, hq3, hf⟩ := hf
      refine jq_doM hX hJ (jq_okV (As := [.int p1]) (rest := []) hx hb hm ho ht (mJ.recv hX hJ) qw937 qw939 qs91 qw940 qw7 hy_X11_isHand rfl hl.1 (Nat.le_of_ble_eq_true rfl) dX11_run_16) (c_X11_isHand hq3) (Nat.le_of_ble_eq_true rfl) (Nat.le_of_ble_eq_true rfl) (Nat.le_refl _) (Nat.le_refl _) (fun H locs hJ' => ?_)
      clear hJ
      have hJ := hJ'
      clear hJ'
      refine lv_if_ne (tgt := 36) hx hb dX11_run_19 (by decide) (fun c4 => ?_) (fun c4 => ?_)
      · replace hf := o_f hf c4
        refine lv_iconst (v := 0) hx hb dX11_run_36 (by decide) ?_
        refine lv_istore_n (lv' := [(3, .int 0), (0, .ref (ad 0)), (1, .int p1), (2, .int p2)]) hx hb dX11_run_37 rfl hl (by decide) rfl (fun ls hl' => ?_)
        clear hl
        have hl := hl'
        clear hl'
        replace hl := lv_sub hl (l' := [(0, .ref (ad 0)), (1, .int p1), (3, .int 0)]) [1, 2, 0] rfl
        exact w_X11_run_b38 12 p1 0 S3 S' r H locs ls hX hJ hf hl
      · replace hf := o_t hf c4
        refine lv_goto (tgt := 33) hx hb dX11_run_22 (by decide) ?_
        refine lv_bipush (v := (-4)) hx hb dX11_run_33 (by decide) ?_
        obtain ⟨rfl, rfl⟩ := Prod.mk.inj (Option.some.inj hf)
        exact jq_iret hX hJ.2 dX11_run_35 ⟨rfl, rfl, rfl, hJ.1⟩
  · replace hf := o_t hf c1
    refine lv_iconst (v := (-1)) hx hb dX11_run_8 (by decide) ?_
    obtain ⟨rfl, rfl⟩ := Prod.mk.inj (Option.some.inj hf)
    exact jq_iret hX hJ.2 dX11_run_9 ⟨rfl, rfl, rfl, hJ.1⟩
