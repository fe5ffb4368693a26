/-! an entry for methods of classes whose names are not plain (Float, Double) -/
theorem jq_enterF {l : Launch} {D : va_G} {Y : Nat → ClassId} {aR : Nat → Nat} {A : Nat → Prop} {y : MethodName} {cc : ByteArray} {mx : Nat} {rt : Option FieldType} {fr lo rc rs : Nat} {av : List Value} {B : Heap → Prop} {Qp : Option Value → Nat → Nat → Heap → Prop}
    (hy : plainFor y = true) (hfit : (lg_sl av).length ≤ mx)
    (body : ∀ (p : Program) (e : Env) (s : State) (m : MethodId) (args : Array Value) (below : List Frame) (meth : Method) (c : Code) (ls : Array Slot), jq_X D Y aR A p s m args meth c cc y.cls y.name mx rt → B s.heap → lv_has ls mx (lv_args 0 av) →
      W p l e { frames := fr, cells := rc, slots := rs, locals := lo } s m args below meth c s.heap [] 0 0 (jq_Z below A Qp s) (F0 m 0 ls [])) :
    jq_C l D Y aR A y cc mx rt fr lo rc rs av B Qp := by
  unfold jq_C jq_Met
  refine MetFree.of_bodySF (code := cc) (maxLocals := mx) (ret := rt) hy ?_ ?_
  · intro args s m h hn
    obtain ⟨meth, c, h1, h2, h3, h4, h5, h6, -, -⟩ := Cond.code_spec hn (atoms_spec (ws := Cond.code y cc mx rt :: lw_all) h _ List.mem_cons_self)
    exact ⟨meth, c, h1, h2, h3, h4, h5, h6⟩
  · intro p e s m args below meth c s₁ B0 hml hP _
    obtain ⟨rfl, hK, hB⟩ := hP
    have hts := atoms_spec (ws := Cond.code y cc mx rt :: lw_all) B0.pre
    have hl := lv_entry av hfit
    have hh0 : s₁.heap = s.heap := by rw [B0.state]; rfl
    have k := body p e s m av.toArray below meth c _ ⟨B0.exec, B0.bytes, hml, findClass_of_methodNamed B0.named, fun w hw => hts w (List.mem_cons_of_mem _ hw), hK, B0.returns, B0.notSynchronized, (name_of_methodNamed B0.named B0.method).1⟩ hB hl
    rw [← lg_entry_eq] at k
    obtain ⟨t, a1, o, b1, b2, b3⟩ := k s₁ hh0 (Stand.of_body B0)
    exact ⟨t, o, a1, b1, b2, b3⟩
theorem jq_enterPF {l : Launch} {D : va_G} {Y : Nat → ClassId} {aR : Nat → Nat} {A : Nat → Prop} {y : MethodName} {cc : ByteArray} {mx : Nat} {rt : Option FieldType} {fr lo : Nat} {av : List Value} {r : Option Value}
    (hy : plainFor y = true) (hfit : (lg_sl av).length ≤ mx)
    (body : ∀ (p : Program) (e : Env) (s : State) (m : MethodId) (args : Array Value) (below : List Frame) (meth : Method) (c : Code) (ls : Array Slot) (H : Heap) (locs : List Loc), jq_X D Y aR A p s m args meth c cc y.cls y.name mx rt → va_S A s.heap H locs → lv_has ls mx (lv_args 0 av) →
      W p l e { frames := fr, cells := 0, slots := 0, locals := lo } s m args below meth c H locs 0 0 (jq_Z below A (fun v k n H' => v = r ∧ k = 0 ∧ n = 0 ∧ H' = H) s) (F0 m 0 ls [])) :
    jq_P l D Y aR A y cc mx rt fr lo av r := by
  intro H0
  refine jq_enterF hy hfit fun p e s m args below meth c ls hX hB hl => ?_
  subst hB
  exact body p e s m args below meth c ls s.heap [] hX va_S.rf hl
