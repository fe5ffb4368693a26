/-! THE CLAIM OUT OF ONE WALK OF THE LAW'S BODY. Your part is whole_start (and what it stands on); all else here is the same for every law, but numbers. -/
def R_law : String := "ScoreHandlesLaw"
def lw_P (b : Addr) (xs : List Int32) (args : Array Value) (s : State) : Prop := args = #[.ref b] ∧ s.IntsAt b xs ∧ xs.length ≤ 3584 ∧ (Jvm.Cond.and given_1 narrow_1).before args s = true
/-- what a walk over the start with the record d0 says of its end, said of the start itself -/
theorem lw_closed {s t : State} {o : Outcome} {d0 : Drawn} {L : List Loc} {k n : Nat} (hd0 : s.drawn.sameBut d0 lw_cs) (hv : ∃ v, o = .returned v) (hW : (s.setDrawn d0).WarmedH t.vm) (hs : (s.setDrawn d0).sameButNew ({ t with vm := s.vm } : State) L k n) : State.butDraws s t lw_cs (fun t1 => Framed s o t1 L k n) := by
  have h2 : t.drawn = d0 := congrArg State.drawn hs.1
  refine ⟨⟨hv, hW, State.sameButNew.setDrawn hs s.drawn⟩, ?_, by decide⟩
  rw [h2]
  exact hd0
def lw_Q (_ : Array Value) (s : State) (o : Outcome) (t : State) : Prop := o = .returned (some (.int 1)) ∧ State.butDraws s t lw_cs (fun t1 => Framed s o t1 [] 600000 7302250)
def lw_Z (below : List Frame) (a : Array Value) (s : State) : State → Prop := fun t => ∃ o, t.status = .running ∧ Ended t below o ∧ lw_Q a s o t
/-- the law's own end, with 1 on the stack, nothing written that was there before, its room as the claim has it; d0: the record of draws at this point (at the entry s.drawn: begin with 'refine W.base ?_' and 'have hd0 := Drawn.sameBut.refl s.drawn lw_cs') -/
theorem lw_ret {p : Program} {l : Launch} {e : Env} {s : State} {m : MethodId} {below : List Frame} {meth : Method} {c : Code} {b : Nat} {d0 : Drawn} (hd0 : s.drawn.sameBut d0 lw_cs) (hx : p.tables.exec = Jvm.exec) (hb : c.code = code) (hr : meth.sig.returnType = ret) (hlocks : meth.locks = false) {pc : Nat} {H : Heap} {ls : Array Slot} (hdg : decode code pc = .ok (.ireturn, 1)) : W p l e room_1 (s.setDrawn d0) m #[Value.ref b] below meth c H [] 600000 7302250 (lw_Z below #[Value.ref b] s) (F0 m pc ls [.int 1]) := by
  intro T hT X
  obtain ⟨fs, hret, hrun, hended, hW, hframe⟩ := X.leave (v := some (.int 1)) (hlocks := hlocks) (fun h => by rw [hr] at h; cases h)
  have hmeth' : T.vm.method? m = some meth := X.method'
  refine ⟨T.setFrames fs, ?_, .returned (some (.int 1)), hrun, hended, rfl, lw_closed hd0 ⟨_, rfl⟩ hW hframe⟩
  jvm_step X.here [X.here.top, hx, hb, hdg, hmeth', hr, ret, narrow_b1]
  (try refine ⟨rfl, ?_⟩); (try refine ⟨rfl, ?_⟩)
  first | (intro acts; rw [hret _ acts rfl rfl rfl]) | rw [hret _ _ rfl rfl rfl]
  exact Steps.refl _
/-- what holds at the law's entry: the machine, the code, the tables' words (any of lw_tbl by 'hts w (by decide +kernel)'), the script of L ints xs at the cell b, what the Statement gives of the start (any of its parts by flat_of_before) -/
def lw_At (p : Program) (s : State) (m : MethodId) (meth : Method) (c : Code) (b L : Nat) (xs : Nat → Int32) : Prop :=
  p.tables.exec = Jvm.exec ∧ c.code = code ∧ meth.sig.returnType = ret ∧ c.maxLocals = 4 ∧ s.vm.findClass R_law = some m.cls ∧ (∀ w ∈ lw_tbl, w.before #[Value.ref b] s = true) ∧ va_X b L xs s s.heap ∧ b < s.heap.size ∧ meth.locks = false ∧ (Jvm.Cond.and given_1 narrow_1).before #[Value.ref b] s = true
/-! the two calls of a step: the class's, where the reference's cells stay; the reference's, where the class's do -/
def lw_A (s : State) : Nat → Prop := fun q => s.heap.size ≤ q
def lwI (D : va_G) (Y : Nat → ClassId) (s : State) (S0 : wS) (ad : Nat → Nat) (S : wS) (σ : mS) (H : Heap) (locs : List Loc) : Prop :=
  wJ D Y (lw_A s) s S0 S H locs ∧ mH D Y (lw_A s) ad σ H ∧ ∀ k, k < 21 → s_K S (ad k) = 0
section LWD
variable {p : Program} {l : Launch} {e : Env} {s : State} {m : MethodId} {args : Array Value} {below : List Frame} {meth : Method} {c : Code} {H : Heap} {locs : List Loc} {Q : State → Prop}
variable {D : va_G} {Y : Nat → ClassId} {aR : Nat → Nat} {cc : ByteArray} {own nm : String} {mx : Nat} {rt : Option FieldType} {pc : Nat} {ls : Array Slot} {st rest : List Value} {ad : Nat → Nat} {S0 S S1 : wS} {σ σ1 : mS} {FR LO : Nat}
variable {y : MethodName} {cy : ByteArray} {my fr lo : Nat} {ry : Option FieldType} {av : List Value} {r : Option Value}
theorem lw_doS (hX : jq_X D Y aR (lw_A s) p s m args meth c cc own nm mx rt) (hI : lwI D Y s S0 ad S σ H locs) (hok : jq_Ok p l e { frames := FR, cells := s_lm S0 - s_nx S0, slots := s_sm S0 - s_sl S0, locals := LO } s m args below meth c H y cy my ry av pc ls st rest) (hM : ∀ A', jq_S l D Y aR A' y cy my ry fr lo av S r S1) (hfr : fr + 1 ≤ FR) (hlo : 8 + (my + 11) + lo ≤ LO)
    (kk : ∀ (H1 : Heap) (locs1 : List Loc), lwI D Y s S0 ad S1 σ H1 locs1 → W p l e { frames := FR, cells := s_lm S0 - s_nx S0, slots := s_sm S0 - s_sl S0, locals := LO } s m args below meth c H1 locs1 (s_nx S1 - s_nx S0) (s_sl S1 - s_sl S0) Q (F0 m (pc + 3) ls (r.toList ++ rest))) : W p l e { frames := FR, cells := s_lm S0 - s_nx S0, slots := s_sm S0 - s_sl S0, locals := LO } s m args below meth c H locs (s_nx S - s_nx S0) (s_sl S - s_sl S0) Q (F0 m pc ls st) := by
  obtain ⟨⟨hg, hH, hS⟩, hm, h0⟩ := hI
  obtain ⟨g1, g2, g3, g4, g5, g6⟩ := id hg
  have sub : ∀ q, (lw_A s q ∧ ∀ k, k < 21 → q ≠ ad k) → lw_A s q := fun q h => h.1
  have hA : ∀ q, H.size ≤ q → (lw_A s q ∧ ∀ k, k < 21 → q ≠ ad k) := fun q hq => ⟨Nat.le_trans hS.1 hq, fun k hk z => by
    have h1 : ad k < H.size := (hm.1 k hk).1.lt
    omega⟩
  refine hok locs _ _ Q (lw_A s) (fun q => lw_A s q ∧ ∀ k, k < 21 → q ≠ ad k) D Y aR fr lo _ _ _ _ (hM _ hg.self) (fun U hU hW => hX.2.2.2.2.2.1.at hS hU hW sub hA) ⟨hH.1, fun a ha => ⟨(hH.2 a ha).1, (hH.2 a ha).2, fun k hk z => ha (by rw [z]; exact h0 k hk)⟩⟩ hS sub hfr hlo (by show s_nx S - s_nx S0 + (s_lm S - s_nx S) ≤ s_lm S0 - s_nx S0; omega) (by show s_sl S - s_sl S0 + (s_sm S - s_sl S) ≤ s_sm S0 - s_sl S0; omega) (fun v k n H1 locs1 hq hS1 hz hk => ?_)
  obtain ⟨rfl, rfl, rfl, hg1, hH1⟩ := hq
  obtain ⟨f1, f2, f3, f4, f5, f6⟩ := id hg1
  refine W.cs (by omega) (by omega) (kk H1 locs1 ⟨⟨hg.trans hg1, ⟨hH1.1, fun a ha => ⟨(hH1.2 a ha).1, (hH1.2 a ha).2.1⟩⟩, hS1⟩, ⟨fun k hk2 => ⟨(hm.1 k hk2).1.kept (hk _ (hm.1 k hk2).1.lt (fun z => z.2 k hk2 rfl)), (hm.1 k hk2).2⟩, hm.2⟩, fun k hk2 => ?_⟩)
  by_cases z : s_K S1 (ad k) = 0
  · exact z
  · exact absurd rfl ((hH1.2 _ z).2.2 k hk2)
theorem lw_doM (hX : jq_X D Y aR (lw_A s) p s m args meth c cc own nm mx rt) (hI : lwI D Y s S0 ad S σ H locs) (hn : s_nx S0 = s.heap.size) (hok : jq_Ok p l e { frames := FR, cells := s_lm S0 - s_nx S0, slots := s_sm S0 - s_sl S0, locals := LO } s m args below meth c H y cy my ry av pc ls st rest) (hM : ∀ A', jq_M l D Y aR A' ad y cy my ry fr lo av σ r σ1) (hfr : fr + 1 ≤ FR) (hlo : 8 + (my + 11) + lo ≤ LO)
    (kk : ∀ (H1 : Heap) (locs1 : List Loc), lwI D Y s S0 ad S σ1 H1 locs1 → W p l e { frames := FR, cells := s_lm S0 - s_nx S0, slots := s_sm S0 - s_sl S0, locals := LO } s m args below meth c H1 locs1 (s_nx S - s_nx S0) (s_sl S - s_sl S0) Q (F0 m (pc + 3) ls (r.toList ++ rest))) : W p l e { frames := FR, cells := s_lm S0 - s_nx S0, slots := s_sm S0 - s_sl S0, locals := LO } s m args below meth c H locs (s_nx S - s_nx S0) (s_sl S - s_sl S0) Q (F0 m pc ls st) := by
  obtain ⟨⟨hg, hH, hS⟩, hm, h0⟩ := hI
  obtain ⟨g1, g2, g3, g4, g5, g6⟩ := id hg
  have sub : ∀ q, (lw_A s q ∧ s_K S q = 0) → lw_A s q := fun q h => h.1
  have hA : ∀ q, H.size ≤ q → (lw_A s q ∧ s_K S q = 0) := fun q hq => ⟨Nat.le_trans hS.1 hq, by
    by_cases z : s_K S q = 0
    · exact z
    · have h1 : q < H.size := (hH.2 q z).1.lt
      omega⟩
  refine hok locs _ _ Q (lw_A s) (fun q => lw_A s q ∧ s_K S q = 0) D Y aR fr lo 0 0 _ _ (hM _) (fun U hU hW => hX.2.2.2.2.2.1.at hS hU hW sub hA) ⟨fun k hk => ⟨(hm.1 k hk).1, (hm.1 k hk).2, h0 k hk⟩, hm.2⟩ hS sub hfr hlo (by show s_nx S - s_nx S0 + 0 ≤ s_lm S0 - s_nx S0; omega) (by show s_sl S - s_sl S0 + 0 ≤ s_sm S0 - s_sl S0; omega) (fun v k n H1 locs1 hq hS1 hz hk => ?_)
  obtain ⟨rfl, rfl, rfl, hH1⟩ := hq
  intro T hT X
  have hsz : H1.size = s_nx S := by
    have h1 : (T.setVm s.vm).heap.size ≤ s.heap.size + (s_nx S - s_nx S0 + 0) := X.same.2.2.1
    have h2 : T.heap.size ≤ s.heap.size + (s_nx S - s_nx S0 + 0) := h1
    rw [hT] at h2
    have h3 := hH.1
    omega
  exact kk H1 locs1 ⟨⟨hg, ⟨hsz, fun a ha => ⟨(hH.2 a ha).1.kept (hk a (hH.2 a ha).1.lt (fun z => ha z.2)), (hH.2 a ha).2⟩⟩, hS1⟩, ⟨fun k hk2 => ⟨(hH1.1 k hk2).1, (hH1.1 k hk2).2.1⟩, hH1.2⟩, h0⟩ T hT X
end LWD
