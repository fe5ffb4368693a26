/-! contracts of our own form: the room that a call needs and what it makes are told apart; the end is told of the heap alone -/
def jq_T (Y : Nat → ClassId) : List (ClassId × FieldType) := [(Y 0, .int), (Y 1, .long), (Y 2, .object "ScoreHandles$Handle"), (Y 3, .object "ScoreHandles$Row")]
def rc_f (k : Nat) : Int32 := if k = 0 then 23 else 52
def rc_b (k : Nat) : Int32 := if k = 0 then 127 else 1023
def rc_y (k : Nat) : Int32 := if k = 0 then 255 else 2047
def rc_s (k : Nat) : Int64 := if k = 0 then (-2147483648) else (-9223372036854775808)
/-- the two constants of Real: where they stand, what they hold -/
def jq_R (aR : Nat → Nat) (A : Nat → Prop) (U : State) (H : Heap) : Prop := ∀ k, k < 2 →
  va_Z "ScoreHandles$Real" (if k = 0 then "SINGLE" else "DOUBLE") "LScoreHandles$Real;" (.ref (aR k)) A U H ∧ va_O "ScoreHandles$Real" (aR k) A U H ∧
  va_OF "ScoreHandles$Real" "fraction" "I" (.int (rc_f k)) (aR k) A U H ∧ va_OF "ScoreHandles$Real" "bias" "I" (.int (rc_b k)) (aR k) A U H ∧
  va_OF "ScoreHandles$Real" "beyond" "I" (.int (rc_y k)) (aR k) A U H ∧ va_OF "ScoreHandles$Real" "signs" "J" (.long (rc_s k)) (aR k) A U H
theorem jq_R.moved {aR : Nat → Nat} {A : Nat → Prop} {u U : State} {H : Heap} (hvm : u.vm.Alike U.vm) (h : jq_R aR A u H) : jq_R aR A U H := fun k hk =>
  ⟨va_Z.moved hvm (h k hk).1, va_O.moved hvm (h k hk).2.1, va_OF.moved hvm (h k hk).2.2.1, va_OF.moved hvm (h k hk).2.2.2.1, va_OF.moved hvm (h k hk).2.2.2.2.1, va_OF.moved hvm (h k hk).2.2.2.2.2⟩
theorem jq_R.kept {aR : Nat → Nat} {A : Nat → Prop} {U : State} {H H1 : Heap} (h : jq_R aR A U H) (hq : ∀ a : Nat, a < H.size → ¬ A a → H1[a]? = H[a]?) : jq_R aR A U H1 := fun k hk =>
  ⟨(h k hk).1.kept hq, (h k hk).2.1.kept hq, (h k hk).2.2.1.kept hq, (h k hk).2.2.2.1.kept hq, (h k hk).2.2.2.2.1.kept hq, (h k hk).2.2.2.2.2.kept hq⟩
theorem jq_R.narrow {aR : Nat → Nat} {A B : Nat → Prop} {U : State} {H : Heap} (h : jq_R aR A U H) (hq : ∀ q, B q → A q) : jq_R aR B U H := fun k hk =>
  ⟨(h k hk).1.narrow hq, (h k hk).2.1.narrow hq, (h k hk).2.2.1.narrow hq, (h k hk).2.2.2.1.narrow hq, (h k hk).2.2.2.2.1.narrow hq, (h k hk).2.2.2.2.2.narrow hq⟩
/-- what every method may take as given of the tables, and of the constants -/
def jq_K (D : va_G) (Y : Nat → ClassId) (aR : Nat → Nat) (A : Nat → Prop) (U : State) : Prop :=
  va_K D vwCl (jq_T Y) U ∧ (∀ w ∈ lw_nest, va_Nw w U) ∧ va_AO "ScoreHandles$Handle" U ∧ va_AO "ScoreHandles$Row" U ∧ (∀ q, U.heap.size ≤ q → A q) ∧ jq_R aR A U U.heap
theorem jq_nest {s U : State} (hW : s.WarmedH U.vm) (h : ∀ w ∈ lw_nest, va_Nw w s) : ∀ w ∈ lw_nest, va_Nw w U := by
  intro w hw
  have h1 := h w hw
  have h2 : lw_isNest w = true := (List.mem_filter.mp hw).2
  cases w <;> first | exact va_Nw.warmF hW h1 | exact va_Nw.warmM hW h1 | (exact absurd h2 (by simp [lw_isNest]))
theorem jq_K.at {D : va_G} {Y : Nat → ClassId} {aR : Nat → Nat} {A A' : Nat → Prop} {s U : State} {H : Heap} {locs : List Loc} (h : jq_K D Y aR A s) (hS : va_S A s.heap H locs) (hU : U.heap = H) (hW : s.WarmedH U.vm) (hAA : ∀ q, A' q → A q) (hA : ∀ q, H.size ≤ q → A' q) : jq_K D Y aR A' U := by
  obtain ⟨h1, h2, h3, h4, h5, h6⟩ := h
  refine ⟨va_K.moved hW.alike h1, jq_nest hW h2, va_AO.moved hW.alike h3, va_AO.moved hW.alike h4, fun q hq => hA q (by rw [← hU]; exact hq), ?_⟩
  rw [hU]
  exact ((h6.moved hW.alike).kept hS.2.1).narrow hAA
/-- the contract -/
def jq_Met (l : Launch) (y : MethodName) (cc : ByteArray) (mx : Nat) (rt : Option FieldType) (fr lo rc rs : Nat) (Pc : Array Value → State → Prop) (A : Nat → Prop) (Qp : Option Value → Nat → Nat → Heap → Prop) : Prop :=
  MetFree l y (headSpec (Cond.code y cc mx rt :: lw_all) { frames := fr, cells := rc, slots := rs, locals := lo }) Pc (fun _ _ _ _ _ => True)
    (fun _ st o t => ∃ (v : Option Value) (L : List Loc) (k n : Nat), o = .returned v ∧ FrameEnd st o t L k n ∧ (∀ q ∈ L, A q.base) ∧ va_F A st t ∧ Qp v k n t.heap)
def jq_Pc (D : va_G) (Y : Nat → ClassId) (aR : Nat → Nat) (A : Nat → Prop) (av : List Value) (B : Heap → Prop) : Array Value → State → Prop := va_Pc av (fun U => jq_K D Y aR A U ∧ B U.heap)
def jq_C (l : Launch) (D : va_G) (Y : Nat → ClassId) (aR : Nat → Nat) (A : Nat → Prop) (y : MethodName) (cc : ByteArray) (mx : Nat) (rt : Option FieldType) (fr lo rc rs : Nat) (av : List Value) (B : Heap → Prop) (Qp : Option Value → Nat → Nat → Heap → Prop) : Prop :=
  jq_Met l y cc mx rt fr lo rc rs (jq_Pc D Y aR A av B) A Qp
def jq_Z (below : List Frame) (A : Nat → Prop) (Qp : Option Value → Nat → Nat → Heap → Prop) (s : State) : State → Prop := fun t =>
  ∃ o, t.status = .running ∧ Ended t below o ∧ ∃ (v : Option Value) (L : List Loc) (k n : Nat), o = .returned v ∧ FrameEnd s o t L k n ∧ (∀ q ∈ L, A q.base) ∧ va_F A s t ∧ Qp v k n t.heap
/-- what holds in a method's body, from its entry on -/
def jq_X (D : va_G) (Y : Nat → ClassId) (aR : Nat → Nat) (A : Nat → Prop) (p : Program) (s : State) (m : MethodId) (args : Array Value) (meth : Method) (c : Code) (cc : ByteArray) (own nm : String) (mx : Nat) (rt : Option FieldType) : Prop :=
  p.tables.exec = Jvm.exec ∧ c.code = cc ∧ c.maxLocals = mx ∧ s.vm.findClass own = some m.cls ∧ (∀ w ∈ lw_all, w.before args s = true) ∧ jq_K D Y aR A s ∧ meth.sig.returnType = rt ∧ meth.locks = false ∧ meth.name = nm
theorem jq_enter {l : Launch} {D : va_G} {Y : Nat → ClassId} {aR : Nat → Nat} {A : Nat → Prop} {y : MethodName} {cc : ByteArray} {mx : Nat} {rt : Option FieldType} {fr lo rc rs : Nat} {av : List Value} {B : Heap → Prop} {Qp : Option Value → Nat → Nat → Heap → Prop}
    (hy : plainName y.cls = true) (hfit : (lg_sl av).length ≤ mx)
    (body : ∀ (p : Program) (e : Env) (s : State) (m : MethodId) (args : Array Value) (below : List Frame) (meth : Method) (c : Code) (ls : Array Slot), jq_X D Y aR A p s m args meth c cc y.cls y.name mx rt → B s.heap → lv_has ls mx (lv_args 0 av) →
      W p l e { frames := fr, cells := rc, slots := rs, locals := lo } s m args below meth c s.heap [] 0 0 (jq_Z below A Qp s) (F0 m 0 ls [])) :
    jq_C l D Y aR A y cc mx rt fr lo rc rs av B Qp := by
  unfold jq_C jq_Met
  refine MetFree.of_bodyS (code := cc) (maxLocals := mx) (ret := rt) hy ?_ ?_
  · intro args s m h hn
    obtain ⟨meth, c, h1, h2, h3, h4, h5, h6, -, -⟩ := Cond.code_spec hn (atoms_spec (ws := Cond.code y cc mx rt :: lw_all) h _ List.mem_cons_self)
    exact ⟨meth, c, h1, h2, h3, h4, h5, h6⟩
  · intro p e s m args below meth c s₁ B0 hml hP _
    obtain ⟨rfl, hK, hB⟩ := hP
    have hts := atoms_spec (ws := Cond.code y cc mx rt :: lw_all) B0.pre
    have hl := lv_entry av hfit
    have hh0 : s₁.heap = s.heap := by rw [B0.state]; rfl
    have k := body p e s m av.toArray below meth c _ ⟨B0.exec, B0.bytes, hml, findClass_of_methodNamed B0.named, fun w hw => hts w (List.mem_cons_of_mem _ hw), hK, B0.returns, B0.notSynchronized, (name_of_methodNamed B0.named B0.method).1⟩ hB hl
    rw [← lg_entry_eq] at k
    obtain ⟨t, a1, o, b1, b2, b3⟩ := k s₁ hh0 (Stand.of_body B0)
    exact ⟨t, o, a1, b1, b2, b3⟩
section JQ
variable {p : Program} {l : Launch} {e : Env} {R : Room} {s : State} {m : MethodId} {args : Array Value} {below : List Frame} {meth : Method} {c : Code} {H : Heap} {locs : List Loc} {cells slots : Nat} {Q : State → Prop}
variable {D : va_G} {Y : Nat → ClassId} {aR : Nat → Nat} {A : Nat → Prop} {cc : ByteArray} {own nm : String} {mx : Nat} {rt : Option FieldType} {pc : Nat} {ls : Array Slot} {Qp : Option Value → Nat → Nat → Heap → Prop}
theorem jq_mono {Q' : State → Prop} {g : JFrame} (h : ∀ t, Q t → Q' t) (k : W p l e R s m args below meth c H locs cells slots Q g) : W p l e R s m args below meth c H locs cells slots Q' g := by
  intro T hT X
  obtain ⟨t, a, b⟩ := k T hT X
  exact ⟨t, a, h t b⟩
theorem jq_end {v : Option Value} {H : Heap} (hS : va_S A s.heap H locs) (hq : Qp v cells slots H) (t : State) (h : MQ below (fun _ _ o t => o = .returned v ∧ t.heap = H) args s cells slots A t) : jq_Z below A Qp s t := by
  obtain ⟨o, h1, h2, ⟨rfl, ht⟩, L, hF, hL⟩ := h
  exact ⟨_, h1, h2, v, L, _, _, rfl, hF, hL, hS.F ht, by rw [ht]; exact hq⟩
theorem jq_iret {v : Int32} (hX : jq_X D Y aR A p s m args meth c cc own nm mx (some .int)) (hS : va_S A s.heap H locs) (hdg : decode cc pc = .ok (.ireturn, 1)) (hq : Qp (some (.int v)) cells slots H) :
    W p l e R s m args below meth c H locs cells slots (jq_Z below A Qp s) (F0 m pc ls [.int v]) :=
  jq_mono (jq_end hS hq) (W.iret hX.1 hX.2.1 hX.2.2.2.2.2.2.1 (fun t ht _ => ⟨rfl, ht⟩) hS.2.2 hdg hX.2.2.2.2.2.2.2.1)
theorem jq_zret {v : Int32} (hX : jq_X D Y aR A p s m args meth c cc own nm mx (some .boolean)) (hS : va_S A s.heap H locs) (hn : narrow .boolean (.int v) = .int v) (hdg : decode cc pc = .ok (.ireturn, 1)) (hq : Qp (some (.int v)) cells slots H) :
    W p l e R s m args below meth c H locs cells slots (jq_Z below A Qp s) (F0 m pc ls [.int v]) :=
  jq_mono (jq_end hS hq) (W.zret hX.1 hX.2.1 hX.2.2.2.2.2.2.1 hn (fun t ht _ => ⟨rfl, ht⟩) hS.2.2 hdg hX.2.2.2.2.2.2.2.1)
theorem jq_lret {v : Int64} (hX : jq_X D Y aR A p s m args meth c cc own nm mx (some .long)) (hS : va_S A s.heap H locs) (hdg : decode cc pc = .ok (.lreturn, 1)) (hq : Qp (some (.long v)) cells slots H) :
    W p l e R s m args below meth c H locs cells slots (jq_Z below A Qp s) (F0 m pc ls [.long v]) :=
  jq_mono (jq_end hS hq) (W.lret hX.1 hX.2.1 hX.2.2.2.2.2.2.1 (fun t ht _ => ⟨rfl, ht⟩) hS.2.2 hdg hX.2.2.2.2.2.2.2.1)
theorem jq_fret {v : UInt32} (hX : jq_X D Y aR A p s m args meth c cc own nm mx (some .float)) (hS : va_S A s.heap H locs) (hdg : decode cc pc = .ok (.freturn, 1)) (hq : Qp (some (.float v)) cells slots H) :
    W p l e R s m args below meth c H locs cells slots (jq_Z below A Qp s) (F0 m pc ls [.float v]) :=
  jq_mono (jq_end hS hq) (W.fret hX.1 hX.2.1 hX.2.2.2.2.2.2.1 (fun t ht _ => ⟨rfl, ht⟩) hS.2.2 hdg hX.2.2.2.2.2.2.2.1)
theorem jq_dret {v : UInt64} (hX : jq_X D Y aR A p s m args meth c cc own nm mx (some .double)) (hS : va_S A s.heap H locs) (hdg : decode cc pc = .ok (.dreturn, 1)) (hq : Qp (some (.double v)) cells slots H) :
    W p l e R s m args below meth c H locs cells slots (jq_Z below A Qp s) (F0 m pc ls [.double v]) :=
  jq_mono (jq_end hS hq) (W.dret hX.1 hX.2.1 hX.2.2.2.2.2.2.1 (fun t ht _ => ⟨rfl, ht⟩) hS.2.2 hdg hX.2.2.2.2.2.2.2.1)
theorem jq_vret (hX : jq_X D Y aR A p s m args meth c cc own nm mx none) (hS : va_S A s.heap H locs) (hdg : decode cc pc = .ok (.return_, 1)) (hq : Qp none cells slots H) :
    W p l e R s m args below meth c H locs cells slots (jq_Z below A Qp s) (F0 m pc ls []) :=
  jq_mono (jq_end hS hq) (W.vret hX.1 hX.2.1 hX.2.2.2.2.2.2.1 (fun t ht _ => ⟨rfl, ht⟩) hS.2.2 hdg hX.2.2.2.2.2.2.2.1)
theorem jq_aret {C : String} {r : Option Nat} (hX : jq_X D Y aR A p s m args meth c cc own nm mx (some (.object C))) (hS : va_S A s.heap H locs) (hdg : decode cc pc = .ok (.areturn, 1)) (hq : Qp (some (va_rf r)) cells slots H) :
    W p l e R s m args below meth c H locs cells slots (jq_Z below A Qp s) (F0 m pc ls [va_rf r]) :=
  jq_mono (jq_end hS hq) (W.aret hX.1 hX.2.1 hX.2.2.2.2.2.2.1 (Or.inl ⟨_, rfl⟩) (va_rf_or r) (fun t ht _ => ⟨rfl, ht⟩) hS.2.2 hdg hX.2.2.2.2.2.2.2.1)
end JQ
/-! calls -/
theorem jq_blind (D : va_G) (Y : Nat → ClassId) (aR : Nat → Nat) (A : Nat → Prop) (av : List Value) (B : Heap → Prop) : FrameBlind (jq_Pc D Y aR A av B) := by
  intro a U g mk h
  obtain ⟨h0, ⟨h1, h2, h3, h4, h5, h6⟩, h7⟩ := h
  exact ⟨h0, ⟨va_K.moved (u := U) (U := U.calling g mk a) (Vm.Alike.refl U.vm) h1, fun w hw => va_Nw.same (by
    have h8 : lw_isNest w = true := (List.mem_filter.mp hw).2
    cases w <;> first | rfl | (exact absurd h8 (by simp [lw_isNest]))) (u := U) rfl (h2 w hw), va_AO.moved (u := U) (Vm.Alike.refl U.vm) h3, va_AO.moved (u := U) (Vm.Alike.refl U.vm) h4, h5, jq_R.moved (u := U) (Vm.Alike.refl U.vm) h6⟩, h7⟩
def jq_Post (A : Nat → Prop) (Qp : Option Value → Nat → Nat → Heap → Prop) : Pt → Array Value → Option Value → Pt → Prop := fun P a v B =>
  ∃ (g : JFrame) (mk : MethodId) (t : State) (L : List Loc) (k n : Nat), B.U.heap = t.heap ∧ B.U.vm = t.vm ∧ va_F A (P.U.calling g mk a) t ∧ Qp v k n t.heap ∧ B.locs = P.locs ++ L ∧ (∀ q ∈ L, A q.base) ∧ B.cells = P.cells + k ∧ B.slots = P.slots + n
def jq_Pre (R : Room) (rc rs : Nat) (Pc : Array Value → State → Prop) : Pt → Array Value → Prop := fun P a => P.cells + rc ≤ R.cells ∧ P.slots + rs ≤ R.slots ∧ Pc a P.U
theorem jq_back {R : Room} {p : Program} {l : Launch} {e : Env} {below : List Frame} {s : State} {sargs : Array Value} {y : MethodName} {cc : ByteArray} {mx : Nat} {rt : Option FieldType} {fr lo rc rs : Nat} {Pc : Array Value → State → Prop} {A : Nat → Prop} {Qp : Option Value → Nat → Nat → Heap → Prop}
    (hM : jq_Met l y cc mx rt fr lo rc rs Pc A Qp) (hblind : FrameBlind Pc) (hf : fr + 1 ≤ R.frames) (hlo : 8 + (mx + 11) + lo ≤ R.locals)
    (hts : ∀ w ∈ lw_all, w.before sargs s = true) (hcode : Cond.code y cc mx rt ∈ lw_all) (hini : Cond.initialized y.cls ∈ lw_all) :
    Back l R p e below s sargs y 3 8 (jq_Pre R rc rs Pc) (jq_Post A Qp) := by
  have hwd : ∀ w ∈ lw_all, ∀ (a' : Array Value) (U : State), s.WarmedH U.vm → w.before a' U = true := fun w hw a' U hW => word_at hW (lw_all_good hw) (hts w hw)
  refine Back.of_free (S := headSpec (Cond.code y cc mx rt :: lw_all) { frames := fr, cells := rc, slots := rs, locals := lo }) (P := Pc) (K := fun _ _ _ _ _ => True) (Q := fun _ st o t => ∃ (v : Option Value) (L : List Loc) (k n : Nat), o = .returned v ∧ FrameEnd st o t L k n ∧ (∀ q ∈ L, A q.base) ∧ va_F A st t ∧ Qp v k n t.heap) (bytes := cc) (maxL := mx) (ret := rt)
    (E := fun _ st o t L k n => (∀ q ∈ L, A q.base) ∧ va_F A st t ∧ ∃ v, o = .returned v ∧ Qp v k n t.heap) hM hf hlo ?_ ?_ (fun _ _ _ _ _ _ _ _ _ => trivial) ?_ ?_
  · intro m meth c P a X hp
    refine ⟨atoms_intro fun w hw => ?_, hwd _ hcode _ _ X.warmed, hwd _ hini _ _ X.warmed, hp.1, hp.2.1⟩
    rcases List.mem_cons.mp hw with rfl | hw
    · exact hwd _ hcode _ _ X.warmed
    · exact hwd _ hw _ _ X.warmed
  · intro m meth c P a g mk X hp
    exact hblind _ _ _ _ hp.2.2
  · intro a st o t ⟨v, L, k, n, h1, h2, h3, h4, h5⟩
    exact ⟨L, k, n, h2, h3, h4, v, h1, h5⟩
  · intro m meth c P a g mk v t L k n X hp _ hF ⟨h3, h4, v', h1, h5⟩
    cases h1
    exact ⟨g, mk, t, L, k, n, rfl, rfl, h4, h5, rfl, h3, rfl, rfl⟩
/-- a call of y from here, whatever its contract says -/
def jq_Ok (p : Program) (l : Launch) (e : Env) (R : Room) (s : State) (m : MethodId) (args : Array Value) (below : List Frame) (meth : Method) (c : Code) (H : Heap) (y : MethodName) (cy : ByteArray) (my : Nat) (ry : Option FieldType) (av : List Value) (pc : Nat) (ls : Array Slot) (st rest : List Value) : Prop :=
  ∀ (locs : List Loc) (cells slots : Nat) (Q : State → Prop) (A A' : Nat → Prop) (D : va_G) (Y : Nat → ClassId) (aR : Nat → Nat) (fr lo rc rs : Nat) (B : Heap → Prop) (Qp : Option Value → Nat → Nat → Heap → Prop),
    jq_C l D Y aR A' y cy my ry fr lo rc rs av B Qp → (∀ U : State, U.heap = H → s.WarmedH U.vm → jq_K D Y aR A' U) → B H → va_S A s.heap H locs → (∀ q, A' q → A q) →
    fr + 1 ≤ R.frames → 8 + (my + 11) + lo ≤ R.locals → cells + rc ≤ R.cells → slots + rs ≤ R.slots →
    (∀ (v : Option Value) (k n : Nat) (H1 : Heap) (locs1 : List Loc), Qp v k n H1 → va_S A s.heap H1 locs1 → H.size ≤ H1.size → (∀ q : Nat, q < H.size → ¬ A' q → H1[q]? = H[q]?) → W p l e R s m args below meth c H1 locs1 (cells + k) (slots + n) Q (F0 m (pc + 3) ls (v.toList ++ rest))) →
    W p l e R s m args below meth c H locs cells slots Q (F0 m pc ls st)
theorem jq_glue {p : Program} {l : Launch} {e : Env} {R : Room} {s : State} {m : MethodId} {args : Array Value} {below : List Frame} {meth : Method} {c : Code} {H : Heap} {locs : List Loc} {cells slots : Nat} {Q : State → Prop} {A A' : Nat → Prop} {pc : Nat} {ls : Array Slot} {st rest : List Value} {a : Array Value} {Qp : Option Value → Nat → Nat → Heap → Prop}
    (hS : va_S A s.heap H locs) (hAA : ∀ q, A' q → A q)
    (hc : ∀ T : State, T.heap = H → Stand p l e R s m args below meth c T locs cells slots → ∃ (v : Option Value) (vm₁ : Vm) (B : Pt), s.WarmedH vm₁ ∧ Stand p l e R s m args below meth c B.U B.locs B.cells B.slots ∧ jq_Post A' Qp ⟨T.setVm vm₁, locs, cells, slots⟩ a v B ∧
      ∀ target, Steps p.tables e below (B.U.setTop { F0 m pc ls st with pc := (F0 m pc ls st).pc + 3, stack := v.toList ++ rest }) target → Steps p.tables e below (T.setTop (F0 m pc ls st)) target)
    (kk : ∀ (v : Option Value) (k n : Nat) (H1 : Heap) (locs1 : List Loc), Qp v k n H1 → va_S A s.heap H1 locs1 → H.size ≤ H1.size → (∀ q : Nat, q < H.size → ¬ A' q → H1[q]? = H[q]?) → W p l e R s m args below meth c H1 locs1 (cells + k) (slots + n) Q (F0 m (pc + 3) ls (v.toList ++ rest))) :
    W p l e R s m args below meth c H locs cells slots Q (F0 m pc ls st) := by
  intro T hT X
  obtain ⟨v, vm₁, ⟨U', l2, c2, s2⟩, hW₁, X', ⟨g', mk, t, L, k, n, e1, e2, hF, hq, h1, hL, h2, h3⟩, hst⟩ := hc T hT X
  dsimp only [Pt.U, Pt.locs, Pt.cells, Pt.slots] at X' e1 e2 h1 h2 h3 hst hF
  subst h1; subst h2; subst h3
  have hF1 : H.size ≤ t.heap.size := by rw [← hT]; exact hF.1
  have hF2 : ∀ q : Nat, q < H.size → ¬ A' q → t.heap[q]? = H[q]? := fun q hq hA => by
    have h := hF.2 q (by show q < T.heap.size; rw [hT]; exact hq) hA
    rw [h]; show T.heap[q]? = _; rw [hT]
  obtain ⟨t2, a1, b1⟩ := kk v k n t.heap (locs ++ L) hq ⟨Nat.le_trans hS.1 hF1, fun q h1 h2 => (hF2 q (Nat.lt_of_lt_of_le h1 hS.1) (fun z => h2 (hAA q z))).trans (hS.2.1 q h1 h2), fun q hq => (List.mem_append.mp hq).elim (hS.2.2 q) (fun h => hAA _ (hL q h))⟩ hF1 hF2 U' e1 X'
  exact ⟨t2, hst _ a1, b1⟩
section JQC
variable {p : Program} {l : Launch} {e : Env} {R : Room} {s : State} {m : MethodId} {args : Array Value} {below : List Frame} {meth : Method} {c : Code} {H : Heap}
variable {cc : ByteArray} {own : String} {pc index mx : Nat} {ls : Array Slot} {rest : List Value} {y : MethodName} {cy : ByteArray} {my : Nat} {ry : Option FieldType} {st : List Value}
theorem jq_okV {b : Nat} {As : List Value} (hx : p.tables.exec = Jvm.exec) (hb : c.code = cc) (hml : c.maxLocals = mx) (hown : s.vm.findClass own = some m.cls) (hts : ∀ w ∈ lw_all, w.before args s = true)
    (hrec : ∃ cellB : Cell, H[b]? = some cellB ∧ cellB.vm.isStatics = false ∧ s.vm.findClass y.cls = some cellB.cls)
    (hl : Cond.methodLink own index y ∈ lw_all) (hin : Cond.instanceMethod y ∈ lw_all) (hse : Cond.selects y.cls y y ∈ lw_all) (hco : Cond.code y cy my ry ∈ lw_all) (hini : Cond.initialized y.cls ∈ lw_all)
    (hy : y.cls ≠ "java/lang/invoke/MethodHandle" ∧ y.cls ≠ "java/lang/invoke/VarHandle" ∧ (parseMethodDescriptor y.desc).map (fun d => d.parameters.length) = some As.length)
    (hst : st = As.reverse ++ .ref b :: rest) (hls : ls.size = mx) (hr : (rest.map fun v => v.category).sum ≤ 8) (hdg : decode cc pc = .ok (.invokevirtual index, 3)) :
    jq_Ok p l e R s m args below meth c H y cy my ry (.ref b :: As) pc ls st rest := by
  intro locs cells slots Q A A' D Y aR fr lo rc rs B Qp hM hK hB hS hAA hfr hlo hcl hsl kk
  obtain ⟨cellB, g1, g2, g3⟩ := hrec
  refine jq_glue (a := (Value.ref b :: As).toArray) hS hAA (fun T hT X => ?_) kk
  exact callV X hx (C := y.cls) (bytes := cy) (maxL := my) (ret := ry) hown (hts _ hl) (hts _ hin) (hts _ hse) (hts _ hco) ⟨hy.1, hy.2.1⟩ (jq_back hM (jq_blind D Y aR A' _ B) hfr hlo hts hco hini) (by rw [hT]; exact g1) g2 g3 (g := F0 m pc ls st) rfl (hls.trans hml.symm) (argsL := As) (rest := rest)
    (fun sig h => by have h2 := hy.2.2; rw [h] at h2; exact (Option.some.inj h2).symm) hst (lv_room hr) (by rw [hb]; exact hdg) (fun vm₁ hW₁ => ⟨hcl, hsl, rfl, hK (T.setVm vm₁) hT hW₁, by show B T.heap; rw [hT]; exact hB⟩)
theorem jq_okVN {b : Nat} {As : List Value} {host : String} (hx : p.tables.exec = Jvm.exec) (hb : c.code = cc) (hml : c.maxLocals = mx) (hown : s.vm.findClass own = some m.cls) (hts : ∀ w ∈ lw_all, w.before args s = true)
    (hnst : ∀ w ∈ lw_nest, va_Nw w s) (hrec : ∃ cellB : Cell, H[b]? = some cellB ∧ cellB.vm.isStatics = false ∧ s.vm.findClass y.cls = some cellB.cls)
    (hl : Cond.methodLinkNest own index y host ∈ lw_nest) (hin : Cond.instanceMethod y ∈ lw_all) (hse : Cond.selects y.cls y y ∈ lw_all) (hco : Cond.code y cy my ry ∈ lw_all) (hini : Cond.initialized y.cls ∈ lw_all)
    (hy : y.cls ≠ "java/lang/invoke/MethodHandle" ∧ y.cls ≠ "java/lang/invoke/VarHandle" ∧ (parseMethodDescriptor y.desc).map (fun d => d.parameters.length) = some As.length)
    (hst : st = As.reverse ++ .ref b :: rest) (hls : ls.size = mx) (hr : (rest.map fun v => v.category).sum ≤ 8) (hdg : decode cc pc = .ok (.invokevirtual index, 3)) :
    jq_Ok p l e R s m args below meth c H y cy my ry (.ref b :: As) pc ls st rest := by
  intro locs cells slots Q A A' D Y aR fr lo rc rs B Qp hM hK hB hS hAA hfr hlo hcl hsl kk
  obtain ⟨cellB, g1, g2, g3⟩ := hrec
  refine jq_glue (a := (Value.ref b :: As).toArray) hS hAA (fun T hT X => ?_) kk
  exact va_callVN X hx (C := y.cls) (bytes := cy) (maxL := my) (ret := ry) hown (va_Nw.use rfl (hnst _ hl)) (hts _ hin) (hts _ hse) (hts _ hco) ⟨hy.1, hy.2.1⟩ (jq_back hM (jq_blind D Y aR A' _ B) hfr hlo hts hco hini) (by rw [hT]; exact g1) g2 g3 (g := F0 m pc ls st) rfl (hls.trans hml.symm) (argsL := As) (rest := rest)
    (fun sig h => by have h2 := hy.2.2; rw [h] at h2; exact (Option.some.inj h2).symm) hst (lv_room hr) (by rw [hb]; exact hdg) (fun vm₁ hW₁ => ⟨hcl, hsl, rfl, hK (T.setVm vm₁) hT hW₁, by show B T.heap; rw [hT]; exact hB⟩)
theorem jq_okS {As : List Value} (hx : p.tables.exec = Jvm.exec) (hb : c.code = cc) (hml : c.maxLocals = mx) (hown : s.vm.findClass own = some m.cls) (hts : ∀ w ∈ lw_all, w.before args s = true)
    (hl : Cond.methodLink own index y ∈ lw_all) (hsta : Cond.static y ∈ lw_all) (hco : Cond.code y cy my ry ∈ lw_all) (hini : Cond.initialized y.cls ∈ lw_all)
    (hy : y.cls ≠ "java/lang/invoke/MethodHandle" ∧ y.cls ≠ "java/lang/invoke/VarHandle" ∧ (parseMethodDescriptor y.desc).map (fun d => d.parameters.length) = some As.length)
    (hst : st = As.reverse ++ rest) (hls : ls.size = mx) (hr : (rest.map fun v => v.category).sum ≤ 8) (hdg : decode cc pc = .ok (.invokestatic index, 3)) :
    jq_Ok p l e R s m args below meth c H y cy my ry As pc ls st rest := by
  intro locs cells slots Q A A' D Y aR fr lo rc rs B Qp hM hK hB hS hAA hfr hlo hcl hsl kk
  refine jq_glue (a := As.toArray) hS hAA (fun T hT X => ?_) kk
  exact callS X hx (bytes := cy) (maxL := my) (ret := ry) hown (hts _ hl) (hts _ hsta) (hts _ hini) (hts _ hco) ⟨hy.1, hy.2.1⟩ (jq_back hM (jq_blind D Y aR A' _ B) hfr hlo hts hco hini) (g := F0 m pc ls st) rfl (hls.trans hml.symm) (argsL := As) (rest := rest)
    (fun sig h => by have h2 := hy.2.2; rw [h] at h2; exact (Option.some.inj h2).symm) hst (lv_room hr) (by rw [hb]; exact hdg) (fun vm₁ hW₁ => ⟨hcl, hsl, rfl, hK (T.setVm vm₁) hT hW₁, by show B T.heap; rw [hT]; exact hB⟩)
theorem jq_okSN {As : List Value} {host : String} (hx : p.tables.exec = Jvm.exec) (hb : c.code = cc) (hml : c.maxLocals = mx) (hown : s.vm.findClass own = some m.cls) (hts : ∀ w ∈ lw_all, w.before args s = true)
    (hnst : ∀ w ∈ lw_nest, va_Nw w s) (hl : Cond.methodLinkNest own index y host ∈ lw_nest) (hsta : Cond.static y ∈ lw_all) (hco : Cond.code y cy my ry ∈ lw_all) (hini : Cond.initialized y.cls ∈ lw_all)
    (hy : y.cls ≠ "java/lang/invoke/MethodHandle" ∧ y.cls ≠ "java/lang/invoke/VarHandle" ∧ (parseMethodDescriptor y.desc).map (fun d => d.parameters.length) = some As.length)
    (hst : st = As.reverse ++ rest) (hls : ls.size = mx) (hr : (rest.map fun v => v.category).sum ≤ 8) (hdg : decode cc pc = .ok (.invokestatic index, 3)) :
    jq_Ok p l e R s m args below meth c H y cy my ry As pc ls st rest := by
  intro locs cells slots Q A A' D Y aR fr lo rc rs B Qp hM hK hB hS hAA hfr hlo hcl hsl kk
  refine jq_glue (a := As.toArray) hS hAA (fun T hT X => ?_) kk
  exact va_callSN X hx (bytes := cy) (maxL := my) (ret := ry) hown (va_Nw.use rfl (hnst _ hl)) (hts _ hsta) (hts _ hini) (hts _ hco) ⟨hy.1, hy.2.1⟩ (jq_back hM (jq_blind D Y aR A' _ B) hfr hlo hts hco hini) (g := F0 m pc ls st) rfl (hls.trans hml.symm) (argsL := As) (rest := rest)
    (fun sig h => by have h2 := hy.2.2; rw [h] at h2; exact (Option.some.inj h2).symm) hst (lv_room hr) (by rw [hb]; exact hdg) (fun vm₁ hW₁ => ⟨hcl, hsl, rfl, hK (T.setVm vm₁) hT hW₁, by show B T.heap; rw [hT]; exact hB⟩)
theorem jq_okI {b : Nat} {As : List Value} (hx : p.tables.exec = Jvm.exec) (hb : c.code = cc) (hml : c.maxLocals = mx) (hown : s.vm.findClass own = some m.cls) (hts : ∀ w ∈ lw_all, w.before args s = true)
    (hl : Cond.methodLink own index y ∈ lw_all) (hin : Cond.instanceMethod y ∈ lw_all) (hco : Cond.code y cy my none ∈ lw_all) (hini : Cond.initialized y.cls ∈ lw_all) (hnm : y.name = "<init>")
    (hy : y.cls ≠ "java/lang/invoke/MethodHandle" ∧ y.cls ≠ "java/lang/invoke/VarHandle" ∧ (parseMethodDescriptor y.desc).map (fun d => d.parameters.length) = some As.length)
    (hst : st = As.reverse ++ .ref b :: rest) (hls : ls.size = mx) (hr : (rest.map fun v => v.category).sum ≤ 8) (hdg : decode cc pc = .ok (.invokespecial index, 3)) :
    jq_Ok p l e R s m args below meth c H y cy my none (.ref b :: As) pc ls st rest := by
  intro locs cells slots Q A A' D Y aR fr lo rc rs B Qp hM hK hB hS hAA hfr hlo hcl hsl kk
  refine jq_glue (a := (Value.ref b :: As).toArray) hS hAA (fun T hT X => ?_) kk
  exact callI X hx (bytes := cy) (maxL := my) hown hnm (hts _ hl) (hts _ hin) (hts _ hco) ⟨hy.1, hy.2.1⟩ (jq_back hM (jq_blind D Y aR A' _ B) hfr hlo hts hco hini) (g := F0 m pc ls st) rfl (hls.trans hml.symm) (a := b) (argsL := As) (rest := rest)
    (fun sig h => by have h2 := hy.2.2; rw [h] at h2; exact (Option.some.inj h2).symm) hst (lv_room hr) (by rw [hb]; exact hdg) (fun vm₁ hW₁ => ⟨hcl, hsl, rfl, hK (T.setVm vm₁) hT hW₁, by show B T.heap; rw [hT]; exact hB⟩)
theorem jq_okIN {b : Nat} {As : List Value} {host : String} (hx : p.tables.exec = Jvm.exec) (hb : c.code = cc) (hml : c.maxLocals = mx) (hown : s.vm.findClass own = some m.cls) (hts : ∀ w ∈ lw_all, w.before args s = true)
    (hnst : ∀ w ∈ lw_nest, va_Nw w s) (hl : Cond.methodLinkNest own index y host ∈ lw_nest) (hin : Cond.instanceMethod y ∈ lw_all) (hco : Cond.code y cy my none ∈ lw_all) (hini : Cond.initialized y.cls ∈ lw_all) (hnm : y.name = "<init>")
    (hy : y.cls ≠ "java/lang/invoke/MethodHandle" ∧ y.cls ≠ "java/lang/invoke/VarHandle" ∧ (parseMethodDescriptor y.desc).map (fun d => d.parameters.length) = some As.length)
    (hst : st = As.reverse ++ .ref b :: rest) (hls : ls.size = mx) (hr : (rest.map fun v => v.category).sum ≤ 8) (hdg : decode cc pc = .ok (.invokespecial index, 3)) :
    jq_Ok p l e R s m args below meth c H y cy my none (.ref b :: As) pc ls st rest := by
  intro locs cells slots Q A A' D Y aR fr lo rc rs B Qp hM hK hB hS hAA hfr hlo hcl hsl kk
  refine jq_glue (a := (Value.ref b :: As).toArray) hS hAA (fun T hT X => ?_) kk
  exact va_callIN X hx (bytes := cy) (maxL := my) hown hnm (va_Nw.use rfl (hnst _ hl)) (hts _ hin) (hts _ hco) ⟨hy.1, hy.2.1⟩ (jq_back hM (jq_blind D Y aR A' _ B) hfr hlo hts hco hini) (g := F0 m pc ls st) rfl (hls.trans hml.symm) (a := b) (argsL := As) (rest := rest)
    (fun sig h => by have h2 := hy.2.2; rw [h] at h2; exact (Option.some.inj h2).symm) hst (lv_room hr) (by rw [hb]; exact hdg) (fun vm₁ hW₁ => ⟨hcl, hsl, rfl, hK (T.setVm vm₁) hT hW₁, by show B T.heap; rw [hT]; exact hB⟩)
end JQC
