/-! the law: its loop, its start -/
theorem jInv.less {o q : Nat} {S : wS} {σ : mS} (h : jInv o (q + 1) S σ) : jInv o q S σ := by
  obtain ⟨ad, C, ρ, Z, e, k, h2⟩ := h
  exact ⟨ad, C, ρ, Z, e, k.less (by omega), h2⟩
section LAWW
variable {p : Program} {l : Launch} {e : Env} {s : State} {m : MethodId} {below : List Frame} {meth : Method} {c : Code}
variable {D : va_G} {Y : Nat → ClassId} {aR : Nat → Nat} {nm : String} {ad : Nat → Nat} {S0 : wS} {b L o : Nat} {xs : Nat → Int32}
theorem lw_room (h1 : s_lm S0 - s_nx S0 = 600000) (h2 : s_sm S0 - s_sl S0 = 7302250) : ({ frames := 2048, cells := s_lm S0 - s_nx S0, slots := s_sm S0 - s_sl S0, locals := 84000 } : Room) = room_1 := by rw [h1, h2]; rfl
set_option maxHeartbeats 4000000 in
set_option maxRecDepth 100000 in
theorem law_loop (hX : jq_X D Y aR (lw_A s) p s m #[Value.ref b] meth c cL_law RL nm 4 ret) (hB : va_X b L xs s s.heap) (hbl : b < s.heap.size) (hn : s_nx S0 = s.heap.size) (hL : L ≤ 3584) (hr1 : s_lm S0 - s_nx S0 = 600000) (hr2 : s_sm S0 - s_sl S0 = 7302250) :
    ∀ (q i : Nat) (S : wS) (σ : mS) (H : Heap) (locs : List Loc) (ls : Array Slot), i + 7 * q = 3584 → jInv o q S σ → lwI D Y s S0 ad S σ H locs → lv_has ls 4 [(0, .ref b), (1, .ref o), (2, .ref (ad 0)), (3, .int (nI i))] →
      W p l e { frames := 2048, cells := s_lm S0 - s_nx S0, slots := s_sm S0 - s_sl S0, locals := 84000 } s m #[Value.ref b] below meth c H locs (s_nx S - s_nx S0) (s_sl S - s_sl S0) (lw_Z below #[Value.ref b] s) (F0 m 18 ls []) := by
  have hx := hX.1
  have hb := hX.2.1
  have hm := hX.2.2.1
  have ho := hX.2.2.2.1
  have ht := hX.2.2.2.2.1
  have hbA : ¬ lw_A s b := Nat.not_le.mpr hbl
  intro q
  induction q with
  | zero =>
    intro i S σ H locs ls hq hV hI hl
    have eL : (nI L - (7 : Int32)).toInt = (L : Int) - 7 := pk_sub_toInt (b := 7) (by omega) (by decide)
    refine lv_iload_n hx hb dL_law_18 rfl (lv_at hl 3 rfl) ?_
    refine lv_aload_n hx hb dL_law_19 rfl (lv_at hl 0 rfl) ?_
    refine va_slen hx hb hB hbl hbA hI.1.2.2 dL_law_20 ?_
    refine lv_bipush (v := 7) hx hb dL_law_21 (by decide) ?_
    refine lv_isub hx hb dL_law_23 ?_
    refine lv_icmp_gt (tgt := 667) hx hb dL_law_24 (by decide) (fun _ => ?_) (fun z => absurd (show nI L - (7 : Int32) < nI i from by rw [Int32.lt_iff_toInt_lt, eL, nI_toInt (by omega)]; omega) z)
    refine lv_iconst (v := 1) hx hb dL_law_667 (by decide) ?_
    refine va_forget (fun q hq => hI.1.2.2.2.2 q hq) ?_
    obtain ⟨g1, g2, g3, g4, g5, g6⟩ := hI.1.1
    rw [lw_room hr1 hr2]
    refine W.widen (k := 600000) (n := 7302250) (by omega) (by omega) ?_
    refine W.base ?_
    exact lw_ret (Drawn.sameBut.refl s.drawn lw_cs) hx hb hX.2.2.2.2.2.2.1 hX.2.2.2.2.2.2.2.1 dL_law_668
  | succ q ih =>
    intro i S σ H locs ls hq hV hI hl
    have eL : (nI L - (7 : Int32)).toInt = (L : Int) - 7 := pk_sub_toInt (b := 7) (by omega) (by decide)
    refine lv_iload_n hx hb dL_law_18 rfl (lv_at hl 3 rfl) ?_
    refine lv_aload_n hx hb dL_law_19 rfl (lv_at hl 0 rfl) ?_
    refine va_slen hx hb hB hbl hbA hI.1.2.2 dL_law_20 ?_
    refine lv_bipush (v := 7) hx hb dL_law_21 (by decide) ?_
    refine lv_isub hx hb dL_law_23 ?_
    refine lv_icmp_gt (tgt := 667) hx hb dL_law_24 (by decide) (fun _ => ?_) (fun z => ?_)
    · refine lv_iconst (v := 1) hx hb dL_law_667 (by decide) ?_
      refine va_forget (fun q hq => hI.1.2.2.2.2 q hq) ?_
      obtain ⟨g1, g2, g3, g4, g5, g6⟩ := hI.1.1
      rw [lw_room hr1 hr2]
      refine W.widen (k := 600000) (n := 7302250) (by omega) (by omega) ?_
      refine W.base ?_
      exact lw_ret (Drawn.sameBut.refl s.drawn lw_cs) hx hb hX.2.2.2.2.2.2.1 hX.2.2.2.2.2.2.2.1 dL_law_668
    · have hi : i + 7 ≤ L := by
        rcases Nat.lt_or_ge L (i + 7) with w | w
        · exact absurd (show nI L - (7 : Int32) < nI i from by rw [Int32.lt_iff_toInt_lt, eL, nI_toInt (by omega)]; omega) z
        · exact w
      have kk : ∀ (S1 : wS) (σ1 : mS) (H1 : Heap) (locs1 : List Loc), jInv o q S1 σ1 → lwI D Y s S0 ad S1 σ1 H1 locs1 → W p l e { frames := 2048, cells := s_lm S0 - s_nx S0, slots := s_sm S0 - s_sl S0, locals := 84000 } s m #[Value.ref b] below meth c H1 locs1 (s_nx S1 - s_nx S0) (s_sl S1 - s_sl S0) (lw_Z below #[Value.ref b] s) (F0 m 661 ls []) := fun S1 σ1 H1 locs1 hV1 hI1 => by
        refine lv_iinc (v := nI (i + 7)) (lv' := [(3, .int (nI (i + 7))), (0, .ref b), (1, .ref o), (2, .ref (ad 0))]) hx hb dL_law_661 hl (k := 3) rfl (nI_add i 7) (by decide) rfl (fun ls hl => ?_)
        refine lv_goto (tgt := 18) hx hb dL_law_664 (by decide) ?_
        exact ih (i + 7) S1 σ1 H1 locs1 ls (by omega) hV1 hI1 (lv_sub hl [1, 2, 3, 0] rfl)
      refine lv_aload_n hx hb dL_law_27 rfl (lv_at hl 0 rfl) ?_
      refine lv_iload_n hx hb dL_law_28 rfl (lv_at hl 3 rfl) ?_
      refine va_sld hx hb hB hbl hbA hI.1.2.2 (vp_in_nI (by omega) (by omega)) dL_law_29 ?_
      refine lv_bipush (v := 15) hx hb dL_law_30 (by decide) ?_
      refine lv_iand hx hb dL_law_32 ?_
      refine lv_topi (fun v _ => ?_)
      rcases in_rng v (n := 12) (by decide) with ⟨j, hj, rfl, -⟩ | ⟨h1, -, -⟩
      · have hz : j = 0 ∨ j = 1 ∨ j = 2 ∨ j = 3 ∨ j = 4 ∨ j = 5 ∨ j = 6 ∨ j = 7 ∨ j = 8 ∨ j = 9 ∨ j = 10 ∨ j = 11 ∨ j = 12 := by omega
        rcases hz with rfl | rfl | rfl | rfl | rfl | rfl | rfl | rfl | rfl | rfl | rfl | rfl | rfl
        · refine lv_tableIn (off := 67) (tgt := 100) hx hb dL_law_33 (by decide) (by decide) rfl (by decide) ?_
          exact case_row hX hB hbl hn hi hL hV hI hl kk
        · refine lv_tableIn (off := 100) (tgt := 133) hx hb dL_law_33 (by decide) (by decide) rfl (by decide) ?_
          exact case_put hX hB hbl hn hi hL hV hI hl kk
        · refine lv_tableIn (off := 173) (tgt := 206) hx hb dL_law_33 (by decide) (by decide) rfl (by decide) ?_
          exact case_item hX hB hbl hn hi hL hV hI hl kk
        · refine lv_tableIn (off := 207) (tgt := 240) hx hb dL_law_33 (by decide) (by decide) rfl (by decide) ?_
          exact case_size hX hB hbl hn hi hL hV hI hl kk
        · refine lv_tableIn (off := 230) (tgt := 263) hx hb dL_law_33 (by decide) (by decide) rfl (by decide) ?_
          exact case_type hX hB hbl hn hi hL hV hI hl kk
        · refine lv_tableIn (off := 305) (tgt := 338) hx hb dL_law_33 (by decide) (by decide) rfl (by decide) ?_
          exact case_make hX hB hbl hn hi hL hV hI hl kk
        · refine lv_tableIn (off := 400) (tgt := 433) hx hb dL_law_33 (by decide) (by decide) rfl (by decide) ?_
          exact case_told hX hB hbl hn hi hL hV hI hl kk
        · refine lv_tableIn (off := 433) (tgt := 466) hx hb dL_law_33 (by decide) (by decide) rfl (by decide) ?_
          exact case_fits hX hB hbl hn hi hL hV hI hl kk
        · refine lv_tableIn (off := 456) (tgt := 489) hx hb dL_law_33 (by decide) (by decide) rfl (by decide) ?_
          exact case_give hX hB hbl hn hi hL hV hI hl kk
        · refine lv_tableIn (off := 519) (tgt := 552) hx hb dL_law_33 (by decide) (by decide) rfl (by decide) ?_
          exact case_run hX hB hbl hn hi hL hV hI hl kk
        · refine lv_tableIn (off := 568) (tgt := 601) hx hb dL_law_33 (by decide) (by decide) rfl (by decide) ?_
          exact case_value hX hB hbl hn hi hL hV hI hl kk
        · refine lv_tableIn (off := 582) (tgt := 615) hx hb dL_law_33 (by decide) (by decide) rfl (by decide) ?_
          exact case_last hX hB hbl hn hi hL hV hI hl kk
        · refine lv_tableIn (off := 605) (tgt := 638) hx hb dL_law_33 (by decide) (by decide) rfl (by decide) ?_
          exact case_count hX hB hbl hn hi hL hV hI hl kk
      · refine lv_tableOut (tgt := 661) hx hb dL_law_33 (h1.elim (fun w => Or.inl (by have := Int32.lt_iff_toInt_lt.mp w; exact this)) (fun w => Or.inr (by have := Int32.lt_iff_toInt_lt.mp w; exact this))) (by decide) ?_
        exact kk S σ H locs hV.less hI
set_option maxHeartbeats 4000000 in
set_option maxRecDepth 100000 in
/-- from the entry, for every script of at most 3584 ints, the law comes to its end with true -/
theorem whole_start {p : Program} {e : Env} {s : State} {m : MethodId} {below : List Frame} {meth : Method} {c : Code} (l : Launch) (hflags : l.flags = flags0) {b L : Nat} {xs : Nat → Int32} (hL : L ≤ 3584) (C0 : lw_At p s m meth c b L xs) : W p l e room_1 s m #[Value.ref b] below meth c s.heap [] 0 0 (lw_Z below #[Value.ref b] s) (entryFrame m ([Value.ref b] : List Value).toArray 4) := by
  obtain ⟨hx, hb, hr, hml, hown, hts, hB, hbl, hlocks, hgv⟩ := id C0
  obtain ⟨D, Y, aR, hK⟩ := lw_known hts hgv
  have hX : jq_X D Y aR (lw_A s) p s m #[Value.ref b] meth c cL_law RL meth.name 4 ret := ⟨hx, hb, hml, hown, fun w hw => hts w (lw_all_sub hw), hK, hr, hlocks, rfl⟩
  have hm := hX.2.2.1
  have ho := hX.2.2.2.1
  have ht := hX.2.2.2.2.1
  have hl := lv_entry ([.ref b]) (n := 4) (Nat.le_of_ble_eq_true rfl)
  rw [lg_entry_eq]
  generalize (lg_sl ([.ref b]) ++ List.replicate (4 - (lg_sl ([.ref b])).length) Slot.unset).toArray = ls at hl ⊢
  have hl : lv_has ls 4 [(0, .ref b)] := hl
  obtain ⟨N, hN⟩ : ∃ N, N = s.heap.size := ⟨_, rfl⟩
  have r1 : s_lm (s_0 N) - s_nx (s_0 N) = 600000 := by show N + 600000 - N = 600000; omega
  have r2 : s_sm (s_0 N) - s_sl (s_0 N) = 7302250 := rfl
  rw [← lw_room r1 r2]
  refine W.cs (Nat.sub_self (s_nx (s_0 N))).symm (Nat.sub_self (s_sl (s_0 N))).symm ?_
  have hJ : wJ D Y (lw_A s) s (s_0 N) (s_0 N) s.heap [] := ⟨⟨Nat.le_refl _, by show N ≤ N + 600000; omega, rfl, Nat.le_refl _, Nat.zero_le _, rfl⟩, ⟨hN.symm, fun a ha => absurd rfl ha⟩, va_S.rf⟩
  refine nw_X10 (q := N) hX hJ ⟨by show N + 1 ≤ N + 600000; omega, by show 0 + 8 ≤ 7302250; decide⟩ rfl rfl qw17 dL_law_0 (fun H hJ' => ?_)
  clear hJ
  have hJ := hJ'
  clear hJ'
  refine lv_dup hx hb dL_law_3 rfl ?_
  refine jq_doS hX hJ (jq_okI (As := []) (rest := [.ref N]) hx hb hm ho ht qw19 qw20 qw21 qw1 rfl hy_X10_init rfl hl.1 (Nat.le_of_ble_eq_true rfl) dL_law_4) (c_X10_init i10_run) (Nat.le_of_ble_eq_true rfl) (Nat.le_of_ble_eq_true rfl) (fun H locs hJ' => ?_)
  clear hJ
  have hJ := hJ'
  clear hJ'
  refine lv_astore_n (lv' := [(1, .ref N), (0, .ref b)]) hx hb dL_law_7 rfl hl (by decide) rfl (fun ls hl' => ?_)
  clear hl
  have hl := hl'
  clear hl'
  refine nw_X11 (q := N + 11) hX hJ ⟨by show N + 11 + 1 ≤ N + 600000; omega, by show 248 + 36 ≤ 7302250; decide⟩ rfl rfl qw683 dL_law_8 (fun H hJ' => ?_)
  clear hJ
  have hJ := hJ'
  clear hJ'
  refine lv_dup hx hb dL_law_11 rfl ?_
  refine jq_doS hX hJ (jq_okI (As := []) (rest := [.ref (N + 11)]) hx hb hm ho ht qw685 qw686 qw687 qw7 rfl hy_X11_init rfl hl.1 (Nat.le_of_ble_eq_true rfl) dL_law_12) (c_X11_init x11_run) (Nat.le_of_ble_eq_true rfl) (Nat.le_of_ble_eq_true rfl) (fun H locs hJ' => ?_)
  clear hJ
  have hJ := hJ'
  clear hJ'
  refine lv_astore_n (lv' := [(2, .ref (adM N 0)), (1, .ref N), (0, .ref b)]) hx hb dL_law_15 rfl hl (by decide) rfl (fun ls hl' => ?_)
  clear hl
  have hl := hl'
  clear hl'
  refine lv_iconst (v := nI 0) hx hb dL_law_16 (by decide) ?_
  refine lv_istore_n (lv' := [(3, .int (nI 0)), (2, .ref (adM N 0)), (1, .ref N), (0, .ref b)]) hx hb dL_law_17 rfl hl (by decide) rfl (fun ls hl' => ?_)
  clear hl
  have hl := hl'
  clear hl'
  have hI : lwI D Y s (s_0 N) (adM N) (S_l N) g_0 H locs := ⟨⟨hJ.1, l_wH hJ.2.1, hJ.2.2⟩, l_mH hJ.2.1, fun k hk => (l_K _).trans (if_pos (adM_in k hk).1)⟩
  exact law_loop (S0 := s_0 N) (ad := adM N) (o := N) hX hB hbl (show s_nx (s_0 N) = s.heap.size from hN) hL r1 r2 512 0 (S_l N) g_0 H locs ls (by decide) l_inv hI (lv_sub hl [3, 2, 1, 0] rfl)
end LAWW
