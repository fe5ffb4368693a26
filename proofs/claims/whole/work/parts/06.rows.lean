/-! small pieces that the methods' functions are made of, and what follows where they answer -/
section OO
variable {α β : Type}
def o_gI (kd i a : Nat) (S : wS) (f : Int32 → Option α) : Option α := if s_K S a = kd then f (s_I S i a) else none
theorem o_gI_e {kd i a : Nat} {S : wS} {f : Int32 → Option α} {r : α} (h : o_gI kd i a S f = some r) : s_K S a = kd ∧ ∃ x, s_I S i a = x ∧ f x = some r := by
  unfold o_gI at h; split at h
  · exact ⟨by assumption, _, rfl, h⟩
  · cases h
def o_gL (kd i a : Nat) (S : wS) (f : Int64 → Option α) : Option α := if s_K S a = kd then f (s_L S i a) else none
theorem o_gL_e {kd i a : Nat} {S : wS} {f : Int64 → Option α} {r : α} (h : o_gL kd i a S f = some r) : s_K S a = kd ∧ ∃ x, s_L S i a = x ∧ f x = some r := by
  unfold o_gL at h; split at h
  · exact ⟨by assumption, _, rfl, h⟩
  · cases h
def o_gR (kd i a : Nat) (S : wS) (f : Option Nat → Option α) : Option α := if s_K S a = kd then f (s_R S i a) else none
theorem o_gR_e {kd i a : Nat} {S : wS} {f : Option Nat → Option α} {r : α} (h : o_gR kd i a S f = some r) : s_K S a = kd ∧ ∃ x, s_R S i a = x ∧ f x = some r := by
  unfold o_gR at h; split at h
  · exact ⟨by assumption, _, rfl, h⟩
  · cases h
def o_pI (kd i a : Nat) (v : Int32) (S : wS) (f : wS → Option α) : Option α := if s_K S a = kd then f (s_pI S i a v) else none
theorem o_pI_e {kd i a : Nat} {v : Int32} {S : wS} {f : wS → Option α} {r : α} (h : o_pI kd i a v S f = some r) : s_K S a = kd ∧ ∃ x, s_pI S i a v = x ∧ f x = some r := by
  unfold o_pI at h; split at h
  · exact ⟨by assumption, _, rfl, h⟩
  · cases h
def o_pL (kd i a : Nat) (v : Int64) (S : wS) (f : wS → Option α) : Option α := if s_K S a = kd then f (s_pL S i a v) else none
theorem o_pL_e {kd i a : Nat} {v : Int64} {S : wS} {f : wS → Option α} {r : α} (h : o_pL kd i a v S f = some r) : s_K S a = kd ∧ ∃ x, s_pL S i a v = x ∧ f x = some r := by
  unfold o_pL at h; split at h
  · exact ⟨by assumption, _, rfl, h⟩
  · cases h
def o_pR (kd i a : Nat) (v : Option Nat) (S : wS) (f : wS → Option α) : Option α := if s_K S a = kd then f (s_pR S i a v) else none
theorem o_pR_e {kd i a : Nat} {v : Option Nat} {S : wS} {f : wS → Option α} {r : α} (h : o_pR kd i a v S f = some r) : s_K S a = kd ∧ ∃ x, s_pR S i a v = x ∧ f x = some r := by
  unfold o_pR at h; split at h
  · exact ⟨by assumption, _, rfl, h⟩
  · cases h
def o_rI (a : Nat) (i : Int32) (S : wS) (f : Int32 → Option α) : Option α := if s_K S a = 21 ∧ ¬ (i < 0 ∨ s_n S a ≤ i.toNatClampNeg) then f (s_aI S a i.toNatClampNeg) else none
theorem o_rI_e {a : Nat} {i : Int32} {S : wS} {f : Int32 → Option α} {r : α} (h : o_rI a i S f = some r) : (s_K S a = 21 ∧ ¬ (i < 0 ∨ s_n S a ≤ i.toNatClampNeg)) ∧ ∃ x, s_aI S a i.toNatClampNeg = x ∧ f x = some r := by
  unfold o_rI at h; split at h
  · exact ⟨by assumption, _, rfl, h⟩
  · cases h
def o_rL (a : Nat) (i : Int32) (S : wS) (f : Int64 → Option α) : Option α := if s_K S a = 22 ∧ ¬ (i < 0 ∨ s_n S a ≤ i.toNatClampNeg) then f (s_aL S a i.toNatClampNeg) else none
theorem o_rL_e {a : Nat} {i : Int32} {S : wS} {f : Int64 → Option α} {r : α} (h : o_rL a i S f = some r) : (s_K S a = 22 ∧ ¬ (i < 0 ∨ s_n S a ≤ i.toNatClampNeg)) ∧ ∃ x, s_aL S a i.toNatClampNeg = x ∧ f x = some r := by
  unfold o_rL at h; split at h
  · exact ⟨by assumption, _, rfl, h⟩
  · cases h
def o_rR (kd a : Nat) (i : Int32) (S : wS) (f : Option Nat → Option α) : Option α := if s_K S a = kd ∧ ¬ (i < 0 ∨ s_n S a ≤ i.toNatClampNeg) then f (s_aR S a i.toNatClampNeg) else none
theorem o_rR_e {kd a : Nat} {i : Int32} {S : wS} {f : Option Nat → Option α} {r : α} (h : o_rR kd a i S f = some r) : (s_K S a = kd ∧ ¬ (i < 0 ∨ s_n S a ≤ i.toNatClampNeg)) ∧ ∃ x, s_aR S a i.toNatClampNeg = x ∧ f x = some r := by
  unfold o_rR at h; split at h
  · exact ⟨by assumption, _, rfl, h⟩
  · cases h
def o_wI (a : Nat) (i v : Int32) (S : wS) (f : wS → Option α) : Option α := if s_K S a = 21 ∧ ¬ (i < 0 ∨ s_n S a ≤ i.toNatClampNeg) then f (s_wI S a i.toNatClampNeg v) else none
theorem o_wI_e {a : Nat} {i v : Int32} {S : wS} {f : wS → Option α} {r : α} (h : o_wI a i v S f = some r) : (s_K S a = 21 ∧ ¬ (i < 0 ∨ s_n S a ≤ i.toNatClampNeg)) ∧ ∃ x, s_wI S a i.toNatClampNeg v = x ∧ f x = some r := by
  unfold o_wI at h; split at h
  · exact ⟨by assumption, _, rfl, h⟩
  · cases h
def o_wL (a : Nat) (i : Int32) (v : Int64) (S : wS) (f : wS → Option α) : Option α := if s_K S a = 22 ∧ ¬ (i < 0 ∨ s_n S a ≤ i.toNatClampNeg) then f (s_wL S a i.toNatClampNeg v) else none
theorem o_wL_e {a : Nat} {i : Int32} {v : Int64} {S : wS} {f : wS → Option α} {r : α} (h : o_wL a i v S f = some r) : (s_K S a = 22 ∧ ¬ (i < 0 ∨ s_n S a ≤ i.toNatClampNeg)) ∧ ∃ x, s_wL S a i.toNatClampNeg v = x ∧ f x = some r := by
  unfold o_wL at h; split at h
  · exact ⟨by assumption, _, rfl, h⟩
  · cases h
def o_wR (kd ke a : Nat) (i : Int32) (v : Nat) (S : wS) (f : wS → Option α) : Option α := if (s_K S a = kd ∧ s_K S v = ke) ∧ ¬ (i < 0 ∨ s_n S a ≤ i.toNatClampNeg) then f (s_wR S a i.toNatClampNeg (some v)) else none
theorem o_wR_e {kd ke a : Nat} {i : Int32} {v : Nat} {S : wS} {f : wS → Option α} {r : α} (h : o_wR kd ke a i v S f = some r) : ((s_K S a = kd ∧ s_K S v = ke) ∧ ¬ (i < 0 ∨ s_n S a ≤ i.toNatClampNeg)) ∧ ∃ x, s_wR S a i.toNatClampNeg (some v) = x ∧ f x = some r := by
  unfold o_wR at h; split at h
  · exact ⟨by assumption, _, rfl, h⟩
  · cases h
def o_len (kd a : Nat) (S : wS) (f : Int32 → Option α) : Option α := if s_K S a = kd then f (Int32.ofNat (s_n S a)) else none
theorem o_len_e {kd a : Nat} {S : wS} {f : Int32 → Option α} {r : α} (h : o_len kd a S f = some r) : s_K S a = kd ∧ ∃ x, Int32.ofNat (s_n S a) = x ∧ f x = some r := by
  unfold o_len at h; split at h
  · exact ⟨by assumption, _, rfl, h⟩
  · cases h
def o_new (kd N : Nat) (S : wS) (f : Nat → wS → Option α) : Option α := if s_nx S + 1 ≤ s_lm S ∧ s_sl S + N ≤ s_sm S then f (s_nx S) (s_new S kd N) else none
theorem o_new_e {kd N : Nat} {S : wS} {f : Nat → wS → Option α} {r : α} (h : o_new kd N S f = some r) : (s_nx S + 1 ≤ s_lm S ∧ s_sl S + N ≤ s_sm S) ∧ ∃ q x, s_nx S = q ∧ s_new S kd N = x ∧ f q x = some r := by
  unfold o_new at h; split at h
  · exact ⟨by assumption, _, _, rfl, rfl, h⟩
  · cases h
def o_newA (kd : Nat) (n : Int32) (S : wS) (f : Nat → wS → Option α) : Option α := if (¬ n < 0 ∧ n.toNatClampNeg ≤ 1000) ∧ s_nx S + 1 ≤ s_lm S ∧ s_sl S + n.toNatClampNeg ≤ s_sm S then f (s_nx S) (s_newA S kd n.toNatClampNeg) else none
theorem o_newA_e {kd : Nat} {n : Int32} {S : wS} {f : Nat → wS → Option α} {r : α} (h : o_newA kd n S f = some r) : ((¬ n < 0 ∧ n.toNatClampNeg ≤ 1000) ∧ s_nx S + 1 ≤ s_lm S ∧ s_sl S + n.toNatClampNeg ≤ s_sm S) ∧ ∃ q x, s_nx S = q ∧ s_newA S kd n.toNatClampNeg = x ∧ f q x = some r := by
  unfold o_newA at h; split at h
  · exact ⟨by assumption, _, _, rfl, rfl, h⟩
  · cases h
def o_ck (c : Prop) [Decidable c] (f : Option α) : Option α := if c then f else none
theorem o_ck_e {c : Prop} [Decidable c] {f : Option α} {r : α} (h : o_ck c f = some r) : c ∧ f = some r := by
  unfold o_ck at h; split at h
  · exact ⟨by assumption, h⟩
  · cases h
def o_let (x : β) (f : β → Option α) : Option α := f x
theorem o_let_e {x : β} {f : β → Option α} {r : α} (h : o_let x f = some r) : ∃ y, x = y ∧ f y = some r := ⟨_, rfl, h⟩
def o_call {σ : Type} (o : Option (β × σ)) (f : β → σ → Option α) : Option α := match o with
  | some q => f q.1 q.2
  | none => none
theorem o_call_e {σ : Type} {o : Option (β × σ)} {f : β → σ → Option α} {r : α} (h : o_call o f = some r) : ∃ x S, o = some (x, S) ∧ f x S = some r := by
  cases o with
  | none => cases h
  | some q => exact ⟨q.1, q.2, rfl, h⟩
def o_cP (o : Option β) (f : β → Option α) : Option α := match o with
  | some q => f q
  | none => none
theorem o_cP_e {o : Option β} {f : β → Option α} {r : α} (h : o_cP o f = some r) : ∃ x, o = some x ∧ f x = some r := by
  cases o with
  | none => cases h
  | some q => exact ⟨q, rfl, h⟩
def o_cs (x : Option Nat) (n : Option α) (f : Nat → Option α) : Option α := match x with
  | some q => f q
  | none => n
theorem o_cs_e {x : Option Nat} {n : Option α} {f : Nat → Option α} {r : α} (h : o_cs x n f = some r) : (x = none ∧ n = some r) ∨ ∃ q, x = some q ∧ f q = some r := by
  cases x with
  | none => exact Or.inl ⟨rfl, h⟩
  | some q => exact Or.inr ⟨q, rfl, h⟩
theorem o_t {c : Prop} [Decidable c] {a b : Option α} {r : α} (h : (if c then a else b) = some r) (hc : c) : a = some r := by rw [if_pos hc] at h; exact h
theorem o_f {c : Prop} [Decidable c] {a b : Option α} {r : α} (h : (if c then a else b) = some r) (hc : ¬ c) : b = some r := by rw [if_neg hc] at h; exact h
end OO
/-! contracts by kind: P (the heap stays), S (the class's heap), and their calls -/
def jq_P (l : Launch) (D : va_G) (Y : Nat → ClassId) (aR : Nat → Nat) (A : Nat → Prop) (y : MethodName) (cc : ByteArray) (mx : Nat) (rt : Option FieldType) (fr lo : Nat) (av : List Value) (r : Option Value) : Prop :=
  ∀ H0 : Heap, jq_C l D Y aR A y cc mx rt fr lo 0 0 av (fun H => H = H0) (fun v k n H => v = r ∧ k = 0 ∧ n = 0 ∧ H = H0)
def jq_S (l : Launch) (D : va_G) (Y : Nat → ClassId) (aR : Nat → Nat) (A : Nat → Prop) (y : MethodName) (cc : ByteArray) (mx : Nat) (rt : Option FieldType) (fr lo : Nat) (av : List Value) (S : wS) (r : Option Value) (S1 : wS) : Prop :=
  wG S S → jq_C l D Y aR A y cc mx rt fr lo (s_lm S - s_nx S) (s_sm S - s_sl S) av (wH D Y A S) (fun v k n H => v = r ∧ k = s_nx S1 - s_nx S ∧ n = s_sl S1 - s_sl S ∧ wG S S1 ∧ wH D Y A S1 H)
/-- where a walk over the class's heap stands -/
def wJ (D : va_G) (Y : Nat → ClassId) (A : Nat → Prop) (s : State) (S0 S : wS) (H : Heap) (locs : List Loc) : Prop := wG S0 S ∧ wH D Y A S H ∧ va_S A s.heap H locs
theorem jq_enterP {l : Launch} {D : va_G} {Y : Nat → ClassId} {aR : Nat → Nat} {A : Nat → Prop} {y : MethodName} {cc : ByteArray} {mx : Nat} {rt : Option FieldType} {fr lo : Nat} {av : List Value} {r : Option Value}
    (hy : plainName y.cls = true) (hfit : (lg_sl av).length ≤ mx)
    (body : ∀ (p : Program) (e : Env) (s : State) (m : MethodId) (args : Array Value) (below : List Frame) (meth : Method) (c : Code) (ls : Array Slot) (H : Heap) (locs : List Loc), jq_X D Y aR A p s m args meth c cc y.cls y.name mx rt → va_S A s.heap H locs → lv_has ls mx (lv_args 0 av) →
      W p l e { frames := fr, cells := 0, slots := 0, locals := lo } s m args below meth c H locs 0 0 (jq_Z below A (fun v k n H' => v = r ∧ k = 0 ∧ n = 0 ∧ H' = H) s) (F0 m 0 ls [])) :
    jq_P l D Y aR A y cc mx rt fr lo av r := by
  intro H0
  refine jq_enter hy hfit fun p e s m args below meth c ls hX hB hl => ?_
  subst hB
  exact body p e s m args below meth c ls s.heap [] hX va_S.rf hl
theorem jq_enterS {l : Launch} {D : va_G} {Y : Nat → ClassId} {aR : Nat → Nat} {A : Nat → Prop} {y : MethodName} {cc : ByteArray} {mx : Nat} {rt : Option FieldType} {fr lo : Nat} {av : List Value} {S S1 : wS} {r : Option Value}
    (hy : plainName y.cls = true) (hfit : (lg_sl av).length ≤ mx)
    (body : ∀ (p : Program) (e : Env) (s : State) (m : MethodId) (args : Array Value) (below : List Frame) (meth : Method) (c : Code) (ls : Array Slot) (H : Heap) (locs : List Loc), jq_X D Y aR A p s m args meth c cc y.cls y.name mx rt → wJ D Y A s S S H locs → lv_has ls mx (lv_args 0 av) →
      W p l e { frames := fr, cells := s_lm S - s_nx S, slots := s_sm S - s_sl S, locals := lo } s m args below meth c H locs (s_nx S - s_nx S) (s_sl S - s_sl S) (jq_Z below A (fun v k n H => v = r ∧ k = s_nx S1 - s_nx S ∧ n = s_sl S1 - s_sl S ∧ wG S S1 ∧ wH D Y A S1 H) s) (F0 m 0 ls [])) :
    jq_S l D Y aR A y cc mx rt fr lo av S r S1 := by
  intro hg
  refine jq_enter hy hfit fun p e s m args below meth c ls hX hB hl => ?_
  exact W.cs (Nat.sub_self _).symm (Nat.sub_self _).symm (body p e s m args below meth c ls s.heap [] hX ⟨hg, hB, va_S.rf⟩ hl)
section JD
variable {p : Program} {l : Launch} {e : Env} {R : Room} {s : State} {m : MethodId} {args : Array Value} {below : List Frame} {meth : Method} {c : Code} {H : Heap} {locs : List Loc} {cells slots : Nat} {Q : State → Prop}
variable {D : va_G} {Y : Nat → ClassId} {aR : Nat → Nat} {A : Nat → Prop} {cc : ByteArray} {own nm : String} {mx : Nat} {rt : Option FieldType} {pc : Nat} {ls : Array Slot} {st rest : List Value} {a index : Nat}
variable {y : MethodName} {cy : ByteArray} {my fr lo : Nat} {ry : Option FieldType} {av : List Value} {r : Option Value}
theorem jq_doP (hX : jq_X D Y aR A p s m args meth c cc own nm mx rt) (hS : va_S A s.heap H locs) (hok : jq_Ok p l e R s m args below meth c H y cy my ry av pc ls st rest) (hM : jq_P l D Y aR A y cy my ry fr lo av r) (hfr : fr + 1 ≤ R.frames) (hlo : 8 + (my + 11) + lo ≤ R.locals) (hc : cells ≤ R.cells) (hs : slots ≤ R.slots)
    (kk : ∀ locs1 : List Loc, va_S A s.heap H locs1 → W p l e R s m args below meth c H locs1 cells slots Q (F0 m (pc + 3) ls (r.toList ++ rest))) : W p l e R s m args below meth c H locs cells slots Q (F0 m pc ls st) := by
  have hA : ∀ q, H.size ≤ q → A q := fun q hq => hX.2.2.2.2.2.1.2.2.2.2.1 q (Nat.le_trans hS.1 hq)
  refine hok locs cells slots Q A A D Y aR fr lo 0 0 _ _ (hM H) (fun U hU hW => hX.2.2.2.2.2.1.at hS hU hW (fun _ h => h) hA) rfl hS (fun _ h => h) hfr hlo hc hs (fun v k n H1 locs1 hq hS1 _ _ => ?_)
  obtain ⟨rfl, rfl, rfl, rfl⟩ := hq
  exact kk locs1 hS1
theorem jq_doS {S0 S S1 : wS} {FR LO : Nat} (hX : jq_X D Y aR A p s m args meth c cc own nm mx rt) (hJ : wJ D Y A s S0 S H locs) (hok : jq_Ok p l e { frames := FR, cells := s_lm S0 - s_nx S0, slots := s_sm S0 - s_sl S0, locals := LO } s m args below meth c H y cy my ry av pc ls st rest) (hM : jq_S l D Y aR A y cy my ry fr lo av S r S1) (hfr : fr + 1 ≤ FR) (hlo : 8 + (my + 11) + lo ≤ LO)
    (kk : ∀ (H1 : Heap) (locs1 : List Loc), wJ D Y A s S0 S1 H1 locs1 → W p l e { frames := FR, cells := s_lm S0 - s_nx S0, slots := s_sm S0 - s_sl S0, locals := LO } s m args below meth c H1 locs1 (s_nx S1 - s_nx S0) (s_sl S1 - s_sl S0) Q (F0 m (pc + 3) ls (r.toList ++ rest))) : W p l e { frames := FR, cells := s_lm S0 - s_nx S0, slots := s_sm S0 - s_sl S0, locals := LO } s m args below meth c H locs (s_nx S - s_nx S0) (s_sl S - s_sl S0) Q (F0 m pc ls st) := by
  obtain ⟨hg, hH, hS⟩ := hJ
  have hA : ∀ q, H.size ≤ q → A q := fun q hq => hX.2.2.2.2.2.1.2.2.2.2.1 q (Nat.le_trans hS.1 hq)
  obtain ⟨g1, g2, g3, g4, g5, g6⟩ := id hg
  refine hok locs _ _ Q A A D Y aR fr lo _ _ _ _ (hM hg.self) (fun U hU hW => hX.2.2.2.2.2.1.at hS hU hW (fun _ h => h) hA) hH hS (fun _ h => h) hfr hlo (by show s_nx S - s_nx S0 + (s_lm S - s_nx S) ≤ s_lm S0 - s_nx S0; omega) (by show s_sl S - s_sl S0 + (s_sm S - s_sl S) ≤ s_sm S0 - s_sl S0; omega) (fun v k n H1 locs1 hq hS1 _ _ => ?_)
  obtain ⟨rfl, rfl, rfl, hg1, hH1⟩ := hq
  obtain ⟨f1, f2, f3, f4, f5, f6⟩ := id hg1
  exact W.cs (by omega) (by omega) (kk H1 locs1 ⟨hg.trans hg1, hH1, hS1⟩)
theorem jq_doPS {S0 S : wS} {FR LO : Nat} (hX : jq_X D Y aR A p s m args meth c cc own nm mx rt) (hJ : wJ D Y A s S0 S H locs) (hok : jq_Ok p l e { frames := FR, cells := s_lm S0 - s_nx S0, slots := s_sm S0 - s_sl S0, locals := LO } s m args below meth c H y cy my ry av pc ls st rest) (hM : jq_P l D Y aR A y cy my ry fr lo av r) (hfr : fr + 1 ≤ FR) (hlo : 8 + (my + 11) + lo ≤ LO)
    (kk : ∀ (locs1 : List Loc), wJ D Y A s S0 S H locs1 → W p l e { frames := FR, cells := s_lm S0 - s_nx S0, slots := s_sm S0 - s_sl S0, locals := LO } s m args below meth c H locs1 (s_nx S - s_nx S0) (s_sl S - s_sl S0) Q (F0 m (pc + 3) ls (r.toList ++ rest))) : W p l e { frames := FR, cells := s_lm S0 - s_nx S0, slots := s_sm S0 - s_sl S0, locals := LO } s m args below meth c H locs (s_nx S - s_nx S0) (s_sl S - s_sl S0) Q (F0 m pc ls st) := by
  obtain ⟨hg, hH, hS⟩ := hJ
  obtain ⟨g1, g2, g3, g4, g5, g6⟩ := id hg
  exact jq_doP hX hS hok hM hfr hlo (by show s_nx S - s_nx S0 ≤ s_lm S0 - s_nx S0; omega) (by show s_sl S - s_sl S0 ≤ s_sm S0 - s_sl S0; omega) (fun locs1 hS1 => kk locs1 ⟨hg, hH, hS1⟩)
theorem wJ.recv {S0 S : wS} {ci N : Nat} {C : String} {T : u_T} {fs : List Value} (hX : jq_X D Y aR A p s m args meth c cc own nm mx rt) (hJ : wJ D Y A s S0 S H locs) (hk : s_K S a ≠ 0) (he : wE Y S a = .inr (ci, fs)) (hc : vwCl[ci]? = some (C, T, N)) : ∃ cell : Cell, H[a]? = some cell ∧ cell.vm.isStatics = false ∧ s.vm.findClass C = some cell.cls := by
  have h := hJ.2.1.at hk
  rw [he] at h
  exact jq_recvA hX.2.2.2.2.2.1.1 h hc
theorem wJ.const {S0 S : wS} {k : Nat} (hX : jq_X D Y aR A p s m args meth c cc own nm mx rt) (hJ : wJ D Y A s S0 S H locs) (hk : k < 2) : ∃ cell : Cell, H[aR k]? = some cell ∧ cell.vm.isStatics = false ∧ s.vm.findClass "ScoreHandles$Real" = some cell.cls :=
  va_Orecv (hX.2.2.2.2.2.1.2.2.2.2.2 k hk).2.1 hJ.2.2
theorem jq_const {k : Nat} (hX : jq_X D Y aR A p s m args meth c cc own nm mx rt) (hS : va_S A s.heap H locs) (hk : k < 2) : ∃ cell : Cell, H[aR k]? = some cell ∧ cell.vm.isStatics = false ∧ s.vm.findClass "ScoreHandles$Real" = some cell.cls :=
  va_Orecv (hX.2.2.2.2.2.1.2.2.2.2.2 k hk).2.1 hS
/-- a constant of Real is taken -/
theorem jq_gets {k : Nat} (hX : jq_X D Y aR A p s m args meth c cc own nm mx rt) (hS : va_S A s.heap H locs) (hk : k < 2) (hl : Cond.fieldLink own index "ScoreHandles$Real" (if k = 0 then "SINGLE" else "DOUBLE") "LScoreHandles$Real;" ∈ lw_all) (hdg : decode cc pc = .ok (.getstatic index, 3))
    (kk : W p l e R s m args below meth c H locs cells slots Q (F0 m (pc + 3) ls (.ref (aR k) :: rest))) : W p l e R s m args below meth c H locs cells slots Q (F0 m pc ls rest) :=
  va_gets hX.1 hX.2.1 (hX.2.2.2.2.2.1.2.2.2.2.2 k hk).1 hS hX.2.2.2.1 (hX.2.2.2.2.1 _ hl) (fun _ h => h) hdg kk
theorem jq_rdc {n d : String} {v : Value} {k : Nat} (hX : jq_X D Y aR A p s m args meth c cc own nm mx rt) (hS : va_S A s.heap H locs) (hF : va_OF "ScoreHandles$Real" n d v (aR k) A s s.heap) (hl : Cond.fieldLink own index "ScoreHandles$Real" n d ∈ lw_all) (hdg : decode cc pc = .ok (.getfield index, 3))
    (kk : W p l e R s m args below meth c H locs cells slots Q (F0 m (pc + 3) ls (v :: rest))) : W p l e R s m args below meth c H locs cells slots Q (F0 m pc ls (.ref (aR k) :: rest)) := by
  obtain ⟨cf, kc, fi, f, cell, h1, h2, h3, h4, h5, h6⟩ := hF.kept hS.2.1
  exact W.getf hX.1 hX.2.1 hX.2.2.2.1 (hX.2.2.2.2.1 _ hl) h1 h2 h3 h4 h5 rfl rfl hdg kk
theorem gc_fraction {k : Nat} {x : Int32} (hX : jq_X D Y aR A p s m args meth c cc own nm mx rt) (hS : va_S A s.heap H locs) (hk : k < 2) (hx : rc_f k = x) (hl : Cond.fieldLink own index "ScoreHandles$Real" "fraction" "I" ∈ lw_all) (hdg : decode cc pc = .ok (.getfield index, 3)) (kk : W p l e R s m args below meth c H locs cells slots Q (F0 m (pc + 3) ls (.int x :: rest))) : W p l e R s m args below meth c H locs cells slots Q (F0 m pc ls (.ref (aR k) :: rest)) := by
  subst hx; exact jq_rdc hX hS (hX.2.2.2.2.2.1.2.2.2.2.2 k hk).2.2.1 hl hdg kk
theorem gc_bias {k : Nat} {x : Int32} (hX : jq_X D Y aR A p s m args meth c cc own nm mx rt) (hS : va_S A s.heap H locs) (hk : k < 2) (hx : rc_b k = x) (hl : Cond.fieldLink own index "ScoreHandles$Real" "bias" "I" ∈ lw_all) (hdg : decode cc pc = .ok (.getfield index, 3)) (kk : W p l e R s m args below meth c H locs cells slots Q (F0 m (pc + 3) ls (.int x :: rest))) : W p l e R s m args below meth c H locs cells slots Q (F0 m pc ls (.ref (aR k) :: rest)) := by
  subst hx; exact jq_rdc hX hS (hX.2.2.2.2.2.1.2.2.2.2.2 k hk).2.2.2.1 hl hdg kk
theorem gc_beyond {k : Nat} {x : Int32} (hX : jq_X D Y aR A p s m args meth c cc own nm mx rt) (hS : va_S A s.heap H locs) (hk : k < 2) (hx : rc_y k = x) (hl : Cond.fieldLink own index "ScoreHandles$Real" "beyond" "I" ∈ lw_all) (hdg : decode cc pc = .ok (.getfield index, 3)) (kk : W p l e R s m args below meth c H locs cells slots Q (F0 m (pc + 3) ls (.int x :: rest))) : W p l e R s m args below meth c H locs cells slots Q (F0 m pc ls (.ref (aR k) :: rest)) := by
  subst hx; exact jq_rdc hX hS (hX.2.2.2.2.2.1.2.2.2.2.2 k hk).2.2.2.2.1 hl hdg kk
theorem gc_signs {k : Nat} {x : Int64} (hX : jq_X D Y aR A p s m args meth c cc own nm mx rt) (hS : va_S A s.heap H locs) (hk : k < 2) (hx : rc_s k = x) (hl : Cond.fieldLink own index "ScoreHandles$Real" "signs" "J" ∈ lw_all) (hdg : decode cc pc = .ok (.getfield index, 3)) (kk : W p l e R s m args below meth c H locs cells slots Q (F0 m (pc + 3) ls (.long x :: rest))) : W p l e R s m args below meth c H locs cells slots Q (F0 m pc ls (.ref (aR k) :: rest)) := by
  subst hx; exact jq_rdc hX hS (hX.2.2.2.2.2.1.2.2.2.2.2 k hk).2.2.2.2.2 hl hdg kk
theorem gf_X0_sort {S0 S : wS} {x : Int32} (hX : jq_X D Y aR A p s m args meth c cc own nm mx rt) (hJ : wJ D Y A s S0 S H locs) (hk : s_K S a = 1) (hx : s_I S 0 a = x) (hl : Cond.fieldLink own index "ScoreHandles$Handle" "sort" "I" ∈ lw_all) (hdg : decode cc pc = .ok (.getfield index, 3)) (kk : W p l e R s m args below meth c H locs (s_nx S - s_nx S0) (s_sl S - s_sl S0) Q (F0 m (pc + 3) ls (.int x :: rest))) : W p l e R s m args below meth c H locs (s_nx S - s_nx S0) (s_sl S - s_sl S0) Q (F0 m pc ls (.ref a :: rest)) := by
  have h := hJ.2.1.at (a := a) (by rw [hk]; decide)
  rw [wE_X0 hk] at h
  exact jq_rdf hX h ly_X0 rfl (k := 0) (by decide) hl (by rw [← hx]; rfl) hdg kk
theorem gn_X0_sort {S0 S : wS} {x : Int32} {host : String} (hX : jq_X D Y aR A p s m args meth c cc own nm mx rt) (hJ : wJ D Y A s S0 S H locs) (hk : s_K S a = 1) (hx : s_I S 0 a = x) (hl : Cond.fieldLinkNest own index "ScoreHandles$Handle" "sort" "I" host ∈ lw_nest) (hdg : decode cc pc = .ok (.getfield index, 3)) (kk : W p l e R s m args below meth c H locs (s_nx S - s_nx S0) (s_sl S - s_sl S0) Q (F0 m (pc + 3) ls (.int x :: rest))) : W p l e R s m args below meth c H locs (s_nx S - s_nx S0) (s_sl S - s_sl S0) Q (F0 m pc ls (.ref a :: rest)) := by
  have h := hJ.2.1.at (a := a) (by rw [hk]; decide)
  rw [wE_X0 hk] at h
  exact jq_rdfN hX h ly_X0 rfl (k := 0) (by decide) hl (by rw [← hx]; rfl) hdg kk
theorem pf_X0_sort {S0 S S1 : wS} {v : Int32} (hX : jq_X D Y aR A p s m args meth c cc own nm mx rt) (hJ : wJ D Y A s S0 S H locs) (hk : s_K S a = 1) (hx : s_pI S 0 a v = S1) (hn : nm = "<init>") (ho : (TX0 0).1 = own) (hl : Cond.fieldLink own index "ScoreHandles$Handle" "sort" "I" ∈ lw_all) (hdg : decode cc pc = .ok (.putfield index, 3)) (kk : ∀ (H1 : Heap) (locs1 : List Loc), wJ D Y A s S0 S1 H1 locs1 → W p l e R s m args below meth c H1 locs1 (s_nx S1 - s_nx S0) (s_sl S1 - s_sl S0) Q (F0 m (pc + 3) ls rest)) : W p l e R s m args below meth c H locs (s_nx S - s_nx S0) (s_sl S - s_sl S0) Q (F0 m pc ls (.int v :: .ref a :: rest)) := by
  subst hx
  have h := hJ.2.1.at (a := a) (by rw [hk]; decide)
  rw [wE_X0 hk] at h
  refine jq_wrf hX h ly_X0 tyX0_ok nmX0 rfl (k := 0) (by decide) hl (Or.inr ⟨rfl, hn, ho⟩) (ty := .int) (by decide +kernel) rfl rfl (by show _ < _; simp) hJ.2.2 (hJ.2.1.2 a (by rw [hk]; decide)).2 hdg (fun H1 locs1 h1 hz hq hS1 => kk H1 locs1 ⟨hJ.1, hJ.2.1.set (a := a) (by rw [hk]; decide) rfl rfl (fun b hb => wE_pI S 0 a _ hb) ?_ hz hq, hS1⟩)
  rw [wE_X0 (S := s_pI S 0 a _) hk]
  simp only [I_pI, L_pI, R_pI, and_true, if_true, reduceIte, Nat.reduceEqDiff, false_and]
  exact h1
theorem gf_X0_a {S0 S : wS} {x : Int32} (hX : jq_X D Y aR A p s m args meth c cc own nm mx rt) (hJ : wJ D Y A s S0 S H locs) (hk : s_K S a = 1) (hx : s_I S 1 a = x) (hl : Cond.fieldLink own index "ScoreHandles$Handle" "a" "I" ∈ lw_all) (hdg : decode cc pc = .ok (.getfield index, 3)) (kk : W p l e R s m args below meth c H locs (s_nx S - s_nx S0) (s_sl S - s_sl S0) Q (F0 m (pc + 3) ls (.int x :: rest))) : W p l e R s m args below meth c H locs (s_nx S - s_nx S0) (s_sl S - s_sl S0) Q (F0 m pc ls (.ref a :: rest)) := by
  have h := hJ.2.1.at (a := a) (by rw [hk]; decide)
  rw [wE_X0 hk] at h
  exact jq_rdf hX h ly_X0 rfl (k := 1) (by decide) hl (by rw [← hx]; rfl) hdg kk
theorem gn_X0_a {S0 S : wS} {x : Int32} {host : String} (hX : jq_X D Y aR A p s m args meth c cc own nm mx rt) (hJ : wJ D Y A s S0 S H locs) (hk : s_K S a = 1) (hx : s_I S 1 a = x) (hl : Cond.fieldLinkNest own index "ScoreHandles$Handle" "a" "I" host ∈ lw_nest) (hdg : decode cc pc = .ok (.getfield index, 3)) (kk : W p l e R s m args below meth c H locs (s_nx S - s_nx S0) (s_sl S - s_sl S0) Q (F0 m (pc + 3) ls (.int x :: rest))) : W p l e R s m args below meth c H locs (s_nx S - s_nx S0) (s_sl S - s_sl S0) Q (F0 m pc ls (.ref a :: rest)) := by
  have h := hJ.2.1.at (a := a) (by rw [hk]; decide)
  rw [wE_X0 hk] at h
  exact jq_rdfN hX h ly_X0 rfl (k := 1) (by decide) hl (by rw [← hx]; rfl) hdg kk
theorem pf_X0_a {S0 S S1 : wS} {v : Int32} (hX : jq_X D Y aR A p s m args meth c cc own nm mx rt) (hJ : wJ D Y A s S0 S H locs) (hk : s_K S a = 1) (hx : s_pI S 1 a v = S1) (hn : nm = "<init>") (ho : (TX0 1).1 = own) (hl : Cond.fieldLink own index "ScoreHandles$Handle" "a" "I" ∈ lw_all) (hdg : decode cc pc = .ok (.putfield index, 3)) (kk : ∀ (H1 : Heap) (locs1 : List Loc), wJ D Y A s S0 S1 H1 locs1 → W p l e R s m args below meth c H1 locs1 (s_nx S1 - s_nx S0) (s_sl S1 - s_sl S0) Q (F0 m (pc + 3) ls rest)) : W p l e R s m args below meth c H locs (s_nx S - s_nx S0) (s_sl S - s_sl S0) Q (F0 m pc ls (.int v :: .ref a :: rest)) := by
  subst hx
  have h := hJ.2.1.at (a := a) (by rw [hk]; decide)
  rw [wE_X0 hk] at h
  refine jq_wrf hX h ly_X0 tyX0_ok nmX0 rfl (k := 1) (by decide) hl (Or.inr ⟨rfl, hn, ho⟩) (ty := .int) (by decide +kernel) rfl rfl (by show _ < _; simp) hJ.2.2 (hJ.2.1.2 a (by rw [hk]; decide)).2 hdg (fun H1 locs1 h1 hz hq hS1 => kk H1 locs1 ⟨hJ.1, hJ.2.1.set (a := a) (by rw [hk]; decide) rfl rfl (fun b hb => wE_pI S 1 a _ hb) ?_ hz hq, hS1⟩)
  rw [wE_X0 (S := s_pI S 1 a _) hk]
  simp only [I_pI, L_pI, R_pI, and_true, if_true, reduceIte, Nat.reduceEqDiff, false_and]
  exact h1
theorem gf_X0_b {S0 S : wS} {x : Int32} (hX : jq_X D Y aR A p s m args meth c cc own nm mx rt) (hJ : wJ D Y A s S0 S H locs) (hk : s_K S a = 1) (hx : s_I S 2 a = x) (hl : Cond.fieldLink own index "ScoreHandles$Handle" "b" "I" ∈ lw_all) (hdg : decode cc pc = .ok (.getfield index, 3)) (kk : W p l e R s m args below meth c H locs (s_nx S - s_nx S0) (s_sl S - s_sl S0) Q (F0 m (pc + 3) ls (.int x :: rest))) : W p l e R s m args below meth c H locs (s_nx S - s_nx S0) (s_sl S - s_sl S0) Q (F0 m pc ls (.ref a :: rest)) := by
  have h := hJ.2.1.at (a := a) (by rw [hk]; decide)
  rw [wE_X0 hk] at h
  exact jq_rdf hX h ly_X0 rfl (k := 2) (by decide) hl (by rw [← hx]; rfl) hdg kk
theorem gn_X0_b {S0 S : wS} {x : Int32} {host : String} (hX : jq_X D Y aR A p s m args meth c cc own nm mx rt) (hJ : wJ D Y A s S0 S H locs) (hk : s_K S a = 1) (hx : s_I S 2 a = x) (hl : Cond.fieldLinkNest own index "ScoreHandles$Handle" "b" "I" host ∈ lw_nest) (hdg : decode cc pc = .ok (.getfield index, 3)) (kk : W p l e R s m args below meth c H locs (s_nx S - s_nx S0) (s_sl S - s_sl S0) Q (F0 m (pc + 3) ls (.int x :: rest))) : W p l e R s m args below meth c H locs (s_nx S - s_nx S0) (s_sl S - s_sl S0) Q (F0 m pc ls (.ref a :: rest)) := by
  have h := hJ.2.1.at (a := a) (by rw [hk]; decide)
  rw [wE_X0 hk] at h
  exact jq_rdfN hX h ly_X0 rfl (k := 2) (by decide) hl (by rw [← hx]; rfl) hdg kk
theorem pf_X0_b {S0 S S1 : wS} {v : Int32} (hX : jq_X D Y aR A p s m args meth c cc own nm mx rt) (hJ : wJ D Y A s S0 S H locs) (hk : s_K S a = 1) (hx : s_pI S 2 a v = S1) (hn : nm = "<init>") (ho : (TX0 2).1 = own) (hl : Cond.fieldLink own index "ScoreHandles$Handle" "b" "I" ∈ lw_all) (hdg : decode cc pc = .ok (.putfield index, 3)) (kk : ∀ (H1 : Heap) (locs1 : List Loc), wJ D Y A s S0 S1 H1 locs1 → W p l e R s m args below meth c H1 locs1 (s_nx S1 - s_nx S0) (s_sl S1 - s_sl S0) Q (F0 m (pc + 3) ls rest)) : W p l e R s m args below meth c H locs (s_nx S - s_nx S0) (s_sl S - s_sl S0) Q (F0 m pc ls (.int v :: .ref a :: rest)) := by
  subst hx
  have h := hJ.2.1.at (a := a) (by rw [hk]; decide)
  rw [wE_X0 hk] at h
  refine jq_wrf hX h ly_X0 tyX0_ok nmX0 rfl (k := 2) (by decide) hl (Or.inr ⟨rfl, hn, ho⟩) (ty := .int) (by decide +kernel) rfl rfl (by show _ < _; simp) hJ.2.2 (hJ.2.1.2 a (by rw [hk]; decide)).2 hdg (fun H1 locs1 h1 hz hq hS1 => kk H1 locs1 ⟨hJ.1, hJ.2.1.set (a := a) (by rw [hk]; decide) rfl rfl (fun b hb => wE_pI S 2 a _ hb) ?_ hz hq, hS1⟩)
  rw [wE_X0 (S := s_pI S 2 a _) hk]
  simp only [I_pI, L_pI, R_pI, and_true, if_true, reduceIte, Nat.reduceEqDiff, false_and]
  exact h1
theorem gf_X0_c {S0 S : wS} {x : Int32} (hX : jq_X D Y aR A p s m args meth c cc own nm mx rt) (hJ : wJ D Y A s S0 S H locs) (hk : s_K S a = 1) (hx : s_I S 3 a = x) (hl : Cond.fieldLink own index "ScoreHandles$Handle" "c" "I" ∈ lw_all) (hdg : decode cc pc = .ok (.getfield index, 3)) (kk : W p l e R s m args below meth c H locs (s_nx S - s_nx S0) (s_sl S - s_sl S0) Q (F0 m (pc + 3) ls (.int x :: rest))) : W p l e R s m args below meth c H locs (s_nx S - s_nx S0) (s_sl S - s_sl S0) Q (F0 m pc ls (.ref a :: rest)) := by
  have h := hJ.2.1.at (a := a) (by rw [hk]; decide)
  rw [wE_X0 hk] at h
  exact jq_rdf hX h ly_X0 rfl (k := 3) (by decide) hl (by rw [← hx]; rfl) hdg kk
theorem gn_X0_c {S0 S : wS} {x : Int32} {host : String} (hX : jq_X D Y aR A p s m args meth c cc own nm mx rt) (hJ : wJ D Y A s S0 S H locs) (hk : s_K S a = 1) (hx : s_I S 3 a = x) (hl : Cond.fieldLinkNest own index "ScoreHandles$Handle" "c" "I" host ∈ lw_nest) (hdg : decode cc pc = .ok (.getfield index, 3)) (kk : W p l e R s m args below meth c H locs (s_nx S - s_nx S0) (s_sl S - s_sl S0) Q (F0 m (pc + 3) ls (.int x :: rest))) : W p l e R s m args below meth c H locs (s_nx S - s_nx S0) (s_sl S - s_sl S0) Q (F0 m pc ls (.ref a :: rest)) := by
  have h := hJ.2.1.at (a := a) (by rw [hk]; decide)
  rw [wE_X0 hk] at h
  exact jq_rdfN hX h ly_X0 rfl (k := 3) (by decide) hl (by rw [← hx]; rfl) hdg kk
theorem pf_X0_c {S0 S S1 : wS} {v : Int32} (hX : jq_X D Y aR A p s m args meth c cc own nm mx rt) (hJ : wJ D Y A s S0 S H locs) (hk : s_K S a = 1) (hx : s_pI S 3 a v = S1) (hn : nm = "<init>") (ho : (TX0 3).1 = own) (hl : Cond.fieldLink own index "ScoreHandles$Handle" "c" "I" ∈ lw_all) (hdg : decode cc pc = .ok (.putfield index, 3)) (kk : ∀ (H1 : Heap) (locs1 : List Loc), wJ D Y A s S0 S1 H1 locs1 → W p l e R s m args below meth c H1 locs1 (s_nx S1 - s_nx S0) (s_sl S1 - s_sl S0) Q (F0 m (pc + 3) ls rest)) : W p l e R s m args below meth c H locs (s_nx S - s_nx S0) (s_sl S - s_sl S0) Q (F0 m pc ls (.int v :: .ref a :: rest)) := by
  subst hx
  have h := hJ.2.1.at (a := a) (by rw [hk]; decide)
  rw [wE_X0 hk] at h
  refine jq_wrf hX h ly_X0 tyX0_ok nmX0 rfl (k := 3) (by decide) hl (Or.inr ⟨rfl, hn, ho⟩) (ty := .int) (by decide +kernel) rfl rfl (by show _ < _; simp) hJ.2.2 (hJ.2.1.2 a (by rw [hk]; decide)).2 hdg (fun H1 locs1 h1 hz hq hS1 => kk H1 locs1 ⟨hJ.1, hJ.2.1.set (a := a) (by rw [hk]; decide) rfl rfl (fun b hb => wE_pI S 3 a _ hb) ?_ hz hq, hS1⟩)
  rw [wE_X0 (S := s_pI S 3 a _) hk]
  simp only [I_pI, L_pI, R_pI, and_true, if_true, reduceIte, Nat.reduceEqDiff, false_and]
  exact h1
theorem gf_X0_v {S0 S : wS} {x : Int64} (hX : jq_X D Y aR A p s m args meth c cc own nm mx rt) (hJ : wJ D Y A s S0 S H locs) (hk : s_K S a = 1) (hx : s_L S 0 a = x) (hl : Cond.fieldLink own index "ScoreHandles$Handle" "v" "J" ∈ lw_all) (hdg : decode cc pc = .ok (.getfield index, 3)) (kk : W p l e R s m args below meth c H locs (s_nx S - s_nx S0) (s_sl S - s_sl S0) Q (F0 m (pc + 3) ls (.long x :: rest))) : W p l e R s m args below meth c H locs (s_nx S - s_nx S0) (s_sl S - s_sl S0) Q (F0 m pc ls (.ref a :: rest)) := by
  have h := hJ.2.1.at (a := a) (by rw [hk]; decide)
  rw [wE_X0 hk] at h
  exact jq_rdf hX h ly_X0 rfl (k := 4) (by decide) hl (by rw [← hx]; rfl) hdg kk
theorem gn_X0_v {S0 S : wS} {x : Int64} {host : String} (hX : jq_X D Y aR A p s m args meth c cc own nm mx rt) (hJ : wJ D Y A s S0 S H locs) (hk : s_K S a = 1) (hx : s_L S 0 a = x) (hl : Cond.fieldLinkNest own index "ScoreHandles$Handle" "v" "J" host ∈ lw_nest) (hdg : decode cc pc = .ok (.getfield index, 3)) (kk : W p l e R s m args below meth c H locs (s_nx S - s_nx S0) (s_sl S - s_sl S0) Q (F0 m (pc + 3) ls (.long x :: rest))) : W p l e R s m args below meth c H locs (s_nx S - s_nx S0) (s_sl S - s_sl S0) Q (F0 m pc ls (.ref a :: rest)) := by
  have h := hJ.2.1.at (a := a) (by rw [hk]; decide)
  rw [wE_X0 hk] at h
  exact jq_rdfN hX h ly_X0 rfl (k := 4) (by decide) hl (by rw [← hx]; rfl) hdg kk
theorem pf_X0_v {S0 S S1 : wS} {v : Int64} (hX : jq_X D Y aR A p s m args meth c cc own nm mx rt) (hJ : wJ D Y A s S0 S H locs) (hk : s_K S a = 1) (hx : s_pL S 0 a v = S1) (hl : Cond.fieldLink own index "ScoreHandles$Handle" "v" "J" ∈ lw_all) (hdg : decode cc pc = .ok (.putfield index, 3)) (kk : ∀ (H1 : Heap) (locs1 : List Loc), wJ D Y A s S0 S1 H1 locs1 → W p l e R s m args below meth c H1 locs1 (s_nx S1 - s_nx S0) (s_sl S1 - s_sl S0) Q (F0 m (pc + 3) ls rest)) : W p l e R s m args below meth c H locs (s_nx S - s_nx S0) (s_sl S - s_sl S0) Q (F0 m pc ls (.long v :: .ref a :: rest)) := by
  subst hx
  have h := hJ.2.1.at (a := a) (by rw [hk]; decide)
  rw [wE_X0 hk] at h
  refine jq_wrf hX h ly_X0 tyX0_ok nmX0 rfl (k := 4) (by decide) hl (Or.inl rfl) (ty := .long) (by decide +kernel) rfl rfl (by show _ < _; simp) hJ.2.2 (hJ.2.1.2 a (by rw [hk]; decide)).2 hdg (fun H1 locs1 h1 hz hq hS1 => kk H1 locs1 ⟨hJ.1, hJ.2.1.set (a := a) (by rw [hk]; decide) rfl rfl (fun b hb => wE_pL S 0 a _ hb) ?_ hz hq, hS1⟩)
  rw [wE_X0 (S := s_pL S 0 a _) hk]
  simp only [I_pL, L_pL, R_pL, and_true, if_true, reduceIte, Nat.reduceEqDiff, false_and]
  exact h1
theorem gf_X0_type {S0 S : wS} {x : Option Nat} (hX : jq_X D Y aR A p s m args meth c cc own nm mx rt) (hJ : wJ D Y A s S0 S H locs) (hk : s_K S a = 1) (hx : s_R S 0 a = x) (hl : Cond.fieldLink own index "ScoreHandles$Handle" "type" "LScoreHandles$Type;" ∈ lw_all) (hdg : decode cc pc = .ok (.getfield index, 3)) (kk : W p l e R s m args below meth c H locs (s_nx S - s_nx S0) (s_sl S - s_sl S0) Q (F0 m (pc + 3) ls (va_rf x :: rest))) : W p l e R s m args below meth c H locs (s_nx S - s_nx S0) (s_sl S - s_sl S0) Q (F0 m pc ls (.ref a :: rest)) := by
  have h := hJ.2.1.at (a := a) (by rw [hk]; decide)
  rw [wE_X0 hk] at h
  exact jq_rdf hX h ly_X0 rfl (k := 5) (by decide) hl (by rw [← hx]; rfl) hdg kk
theorem gn_X0_type {S0 S : wS} {x : Option Nat} {host : String} (hX : jq_X D Y aR A p s m args meth c cc own nm mx rt) (hJ : wJ D Y A s S0 S H locs) (hk : s_K S a = 1) (hx : s_R S 0 a = x) (hl : Cond.fieldLinkNest own index "ScoreHandles$Handle" "type" "LScoreHandles$Type;" host ∈ lw_nest) (hdg : decode cc pc = .ok (.getfield index, 3)) (kk : W p l e R s m args below meth c H locs (s_nx S - s_nx S0) (s_sl S - s_sl S0) Q (F0 m (pc + 3) ls (va_rf x :: rest))) : W p l e R s m args below meth c H locs (s_nx S - s_nx S0) (s_sl S - s_sl S0) Q (F0 m pc ls (.ref a :: rest)) := by
  have h := hJ.2.1.at (a := a) (by rw [hk]; decide)
  rw [wE_X0 hk] at h
  exact jq_rdfN hX h ly_X0 rfl (k := 5) (by decide) hl (by rw [← hx]; rfl) hdg kk
theorem pf_X0_type {S0 S S1 : wS} {v : Nat} (hX : jq_X D Y aR A p s m args meth c cc own nm mx rt) (hJ : wJ D Y A s S0 S H locs) (hk : s_K S a = 1) (hx : s_pR S 0 a (some v) = S1) (hl : Cond.fieldLink own index "ScoreHandles$Handle" "type" "LScoreHandles$Type;" ∈ lw_all) (hdg : decode cc pc = .ok (.putfield index, 3)) (kk : ∀ (H1 : Heap) (locs1 : List Loc), wJ D Y A s S0 S1 H1 locs1 → W p l e R s m args below meth c H1 locs1 (s_nx S1 - s_nx S0) (s_sl S1 - s_sl S0) Q (F0 m (pc + 3) ls rest)) : W p l e R s m args below meth c H locs (s_nx S - s_nx S0) (s_sl S - s_sl S0) Q (F0 m pc ls (.ref v :: .ref a :: rest)) := by
  subst hx
  have h := hJ.2.1.at (a := a) (by rw [hk]; decide)
  rw [wE_X0 hk] at h
  refine jq_wrf hX h ly_X0 tyX0_ok nmX0 rfl (k := 5) (by decide) hl (Or.inl rfl) (ty := (.object "ScoreHandles$Type")) (by decide +kernel) rfl rfl (by show _ < _; simp) hJ.2.2 (hJ.2.1.2 a (by rw [hk]; decide)).2 hdg (fun H1 locs1 h1 hz hq hS1 => kk H1 locs1 ⟨hJ.1, hJ.2.1.set (a := a) (by rw [hk]; decide) rfl rfl (fun b hb => wE_pR S 0 a _ hb) ?_ hz hq, hS1⟩)
  rw [wE_X0 (S := s_pR S 0 a _) hk]
  simp only [I_pR, L_pR, R_pR, and_true, if_true, reduceIte, Nat.reduceEqDiff, false_and]
  exact h1
theorem gf_X0_number {S0 S : wS} {x : Int32} (hX : jq_X D Y aR A p s m args meth c cc own nm mx rt) (hJ : wJ D Y A s S0 S H locs) (hk : s_K S a = 1) (hx : s_I S 4 a = x) (hl : Cond.fieldLink own index "ScoreHandles$Handle" "number" "I" ∈ lw_all) (hdg : decode cc pc = .ok (.getfield index, 3)) (kk : W p l e R s m args below meth c H locs (s_nx S - s_nx S0) (s_sl S - s_sl S0) Q (F0 m (pc + 3) ls (.int x :: rest))) : W p l e R s m args below meth c H locs (s_nx S - s_nx S0) (s_sl S - s_sl S0) Q (F0 m pc ls (.ref a :: rest)) := by
  have h := hJ.2.1.at (a := a) (by rw [hk]; decide)
  rw [wE_X0 hk] at h
  exact jq_rdf hX h ly_X0 rfl (k := 6) (by decide) hl (by rw [← hx]; rfl) hdg kk
theorem gn_X0_number {S0 S : wS} {x : Int32} {host : String} (hX : jq_X D Y aR A p s m args meth c cc own nm mx rt) (hJ : wJ D Y A s S0 S H locs) (hk : s_K S a = 1) (hx : s_I S 4 a = x) (hl : Cond.fieldLinkNest own index "ScoreHandles$Handle" "number" "I" host ∈ lw_nest) (hdg : decode cc pc = .ok (.getfield index, 3)) (kk : W p l e R s m args below meth c H locs (s_nx S - s_nx S0) (s_sl S - s_sl S0) Q (F0 m (pc + 3) ls (.int x :: rest))) : W p l e R s m args below meth c H locs (s_nx S - s_nx S0) (s_sl S - s_sl S0) Q (F0 m pc ls (.ref a :: rest)) := by
  have h := hJ.2.1.at (a := a) (by rw [hk]; decide)
  rw [wE_X0 hk] at h
  exact jq_rdfN hX h ly_X0 rfl (k := 6) (by decide) hl (by rw [← hx]; rfl) hdg kk
theorem pf_X0_number {S0 S S1 : wS} {v : Int32} (hX : jq_X D Y aR A p s m args meth c cc own nm mx rt) (hJ : wJ D Y A s S0 S H locs) (hk : s_K S a = 1) (hx : s_pI S 4 a v = S1) (hl : Cond.fieldLink own index "ScoreHandles$Handle" "number" "I" ∈ lw_all) (hdg : decode cc pc = .ok (.putfield index, 3)) (kk : ∀ (H1 : Heap) (locs1 : List Loc), wJ D Y A s S0 S1 H1 locs1 → W p l e R s m args below meth c H1 locs1 (s_nx S1 - s_nx S0) (s_sl S1 - s_sl S0) Q (F0 m (pc + 3) ls rest)) : W p l e R s m args below meth c H locs (s_nx S - s_nx S0) (s_sl S - s_sl S0) Q (F0 m pc ls (.int v :: .ref a :: rest)) := by
  subst hx
  have h := hJ.2.1.at (a := a) (by rw [hk]; decide)
  rw [wE_X0 hk] at h
  refine jq_wrf hX h ly_X0 tyX0_ok nmX0 rfl (k := 6) (by decide) hl (Or.inl rfl) (ty := .int) (by decide +kernel) rfl rfl (by show _ < _; simp) hJ.2.2 (hJ.2.1.2 a (by rw [hk]; decide)).2 hdg (fun H1 locs1 h1 hz hq hS1 => kk H1 locs1 ⟨hJ.1, hJ.2.1.set (a := a) (by rw [hk]; decide) rfl rfl (fun b hb => wE_pI S 4 a _ hb) ?_ hz hq, hS1⟩)
  rw [wE_X0 (S := s_pI S 4 a _) hk]
  simp only [I_pI, L_pI, R_pI, and_true, if_true, reduceIte, Nat.reduceEqDiff, false_and]
  exact h1
theorem gf_X1_kept {S0 S : wS} {x : Option Nat} (hX : jq_X D Y aR A p s m args meth c cc own nm mx rt) (hJ : wJ D Y A s S0 S H locs) (hk : s_K S a = 2) (hx : s_R S 1 a = x) (hl : Cond.fieldLink own index "ScoreHandles$Handles" "kept" "[LScoreHandles$Handle;" ∈ lw_all) (hdg : decode cc pc = .ok (.getfield index, 3)) (kk : W p l e R s m args below meth c H locs (s_nx S - s_nx S0) (s_sl S - s_sl S0) Q (F0 m (pc + 3) ls (va_rf x :: rest))) : W p l e R s m args below meth c H locs (s_nx S - s_nx S0) (s_sl S - s_sl S0) Q (F0 m pc ls (.ref a :: rest)) := by
  have h := hJ.2.1.at (a := a) (by rw [hk]; decide)
  rw [wE_X1 hk] at h
  exact jq_rdf hX h ly_X1 rfl (k := 0) (by decide) hl (by rw [← hx]; rfl) hdg kk
theorem gn_X1_kept {S0 S : wS} {x : Option Nat} {host : String} (hX : jq_X D Y aR A p s m args meth c cc own nm mx rt) (hJ : wJ D Y A s S0 S H locs) (hk : s_K S a = 2) (hx : s_R S 1 a = x) (hl : Cond.fieldLinkNest own index "ScoreHandles$Handles" "kept" "[LScoreHandles$Handle;" host ∈ lw_nest) (hdg : decode cc pc = .ok (.getfield index, 3)) (kk : W p l e R s m args below meth c H locs (s_nx S - s_nx S0) (s_sl S - s_sl S0) Q (F0 m (pc + 3) ls (va_rf x :: rest))) : W p l e R s m args below meth c H locs (s_nx S - s_nx S0) (s_sl S - s_sl S0) Q (F0 m pc ls (.ref a :: rest)) := by
  have h := hJ.2.1.at (a := a) (by rw [hk]; decide)
  rw [wE_X1 hk] at h
  exact jq_rdfN hX h ly_X1 rfl (k := 0) (by decide) hl (by rw [← hx]; rfl) hdg kk
theorem pf_X1_kept {S0 S S1 : wS} {v : Nat} (hX : jq_X D Y aR A p s m args meth c cc own nm mx rt) (hJ : wJ D Y A s S0 S H locs) (hk : s_K S a = 2) (hx : s_pR S 1 a (some v) = S1) (hn : nm = "<init>") (ho : (TX1 0).1 = own) (hl : Cond.fieldLink own index "ScoreHandles$Handles" "kept" "[LScoreHandles$Handle;" ∈ lw_all) (hdg : decode cc pc = .ok (.putfield index, 3)) (kk : ∀ (H1 : Heap) (locs1 : List Loc), wJ D Y A s S0 S1 H1 locs1 → W p l e R s m args below meth c H1 locs1 (s_nx S1 - s_nx S0) (s_sl S1 - s_sl S0) Q (F0 m (pc + 3) ls rest)) : W p l e R s m args below meth c H locs (s_nx S - s_nx S0) (s_sl S - s_sl S0) Q (F0 m pc ls (.ref v :: .ref a :: rest)) := by
  subst hx
  have h := hJ.2.1.at (a := a) (by rw [hk]; decide)
  rw [wE_X1 hk] at h
  refine jq_wrf hX h ly_X1 tyX1_ok nmX1 rfl (k := 0) (by decide) hl (Or.inr ⟨rfl, hn, ho⟩) (ty := (.array (.object "ScoreHandles$Handle"))) (by decide +kernel) rfl rfl (by show _ < _; simp) hJ.2.2 (hJ.2.1.2 a (by rw [hk]; decide)).2 hdg (fun H1 locs1 h1 hz hq hS1 => kk H1 locs1 ⟨hJ.1, hJ.2.1.set (a := a) (by rw [hk]; decide) rfl rfl (fun b hb => wE_pR S 1 a _ hb) ?_ hz hq, hS1⟩)
  rw [wE_X1 (S := s_pR S 1 a _) hk]
  simp only [I_pR, L_pR, R_pR, and_true, if_true, reduceIte, Nat.reduceEqDiff, false_and]
  exact h1
theorem gf_X1_many {S0 S : wS} {x : Int32} (hX : jq_X D Y aR A p s m args meth c cc own nm mx rt) (hJ : wJ D Y A s S0 S H locs) (hk : s_K S a = 2) (hx : s_I S 5 a = x) (hl : Cond.fieldLink own index "ScoreHandles$Handles" "many" "I" ∈ lw_all) (hdg : decode cc pc = .ok (.getfield index, 3)) (kk : W p l e R s m args below meth c H locs (s_nx S - s_nx S0) (s_sl S - s_sl S0) Q (F0 m (pc + 3) ls (.int x :: rest))) : W p l e R s m args below meth c H locs (s_nx S - s_nx S0) (s_sl S - s_sl S0) Q (F0 m pc ls (.ref a :: rest)) := by
  have h := hJ.2.1.at (a := a) (by rw [hk]; decide)
  rw [wE_X1 hk] at h
  exact jq_rdf hX h ly_X1 rfl (k := 1) (by decide) hl (by rw [← hx]; rfl) hdg kk
theorem gn_X1_many {S0 S : wS} {x : Int32} {host : String} (hX : jq_X D Y aR A p s m args meth c cc own nm mx rt) (hJ : wJ D Y A s S0 S H locs) (hk : s_K S a = 2) (hx : s_I S 5 a = x) (hl : Cond.fieldLinkNest own index "ScoreHandles$Handles" "many" "I" host ∈ lw_nest) (hdg : decode cc pc = .ok (.getfield index, 3)) (kk : W p l e R s m args below meth c H locs (s_nx S - s_nx S0) (s_sl S - s_sl S0) Q (F0 m (pc + 3) ls (.int x :: rest))) : W p l e R s m args below meth c H locs (s_nx S - s_nx S0) (s_sl S - s_sl S0) Q (F0 m pc ls (.ref a :: rest)) := by
  have h := hJ.2.1.at (a := a) (by rw [hk]; decide)
  rw [wE_X1 hk] at h
  exact jq_rdfN hX h ly_X1 rfl (k := 1) (by decide) hl (by rw [← hx]; rfl) hdg kk
theorem pf_X1_many {S0 S S1 : wS} {v : Int32} (hX : jq_X D Y aR A p s m args meth c cc own nm mx rt) (hJ : wJ D Y A s S0 S H locs) (hk : s_K S a = 2) (hx : s_pI S 5 a v = S1) (hl : Cond.fieldLink own index "ScoreHandles$Handles" "many" "I" ∈ lw_all) (hdg : decode cc pc = .ok (.putfield index, 3)) (kk : ∀ (H1 : Heap) (locs1 : List Loc), wJ D Y A s S0 S1 H1 locs1 → W p l e R s m args below meth c H1 locs1 (s_nx S1 - s_nx S0) (s_sl S1 - s_sl S0) Q (F0 m (pc + 3) ls rest)) : W p l e R s m args below meth c H locs (s_nx S - s_nx S0) (s_sl S - s_sl S0) Q (F0 m pc ls (.int v :: .ref a :: rest)) := by
  subst hx
  have h := hJ.2.1.at (a := a) (by rw [hk]; decide)
  rw [wE_X1 hk] at h
  refine jq_wrf hX h ly_X1 tyX1_ok nmX1 rfl (k := 1) (by decide) hl (Or.inl rfl) (ty := .int) (by decide +kernel) rfl rfl (by show _ < _; simp) hJ.2.2 (hJ.2.1.2 a (by rw [hk]; decide)).2 hdg (fun H1 locs1 h1 hz hq hS1 => kk H1 locs1 ⟨hJ.1, hJ.2.1.set (a := a) (by rw [hk]; decide) rfl rfl (fun b hb => wE_pI S 5 a _ hb) ?_ hz hq, hS1⟩)
  rw [wE_X1 (S := s_pI S 5 a _) hk]
  simp only [I_pI, L_pI, R_pI, and_true, if_true, reduceIte, Nat.reduceEqDiff, false_and]
  exact h1
theorem gf_X3_handles {S0 S : wS} {x : Option Nat} (hX : jq_X D Y aR A p s m args meth c cc own nm mx rt) (hJ : wJ D Y A s S0 S H locs) (hk : s_K S a = 3) (hx : s_R S 2 a = x) (hl : Cond.fieldLink own index "ScoreHandles$Maker" "handles" "LScoreHandles$Handles;" ∈ lw_all) (hdg : decode cc pc = .ok (.getfield index, 3)) (kk : W p l e R s m args below meth c H locs (s_nx S - s_nx S0) (s_sl S - s_sl S0) Q (F0 m (pc + 3) ls (va_rf x :: rest))) : W p l e R s m args below meth c H locs (s_nx S - s_nx S0) (s_sl S - s_sl S0) Q (F0 m pc ls (.ref a :: rest)) := by
  have h := hJ.2.1.at (a := a) (by rw [hk]; decide)
  rw [wE_X3 hk] at h
  exact jq_rdf hX h ly_X3 rfl (k := 0) (by decide) hl (by rw [← hx]; rfl) hdg kk
theorem gn_X3_handles {S0 S : wS} {x : Option Nat} {host : String} (hX : jq_X D Y aR A p s m args meth c cc own nm mx rt) (hJ : wJ D Y A s S0 S H locs) (hk : s_K S a = 3) (hx : s_R S 2 a = x) (hl : Cond.fieldLinkNest own index "ScoreHandles$Maker" "handles" "LScoreHandles$Handles;" host ∈ lw_nest) (hdg : decode cc pc = .ok (.getfield index, 3)) (kk : W p l e R s m args below meth c H locs (s_nx S - s_nx S0) (s_sl S - s_sl S0) Q (F0 m (pc + 3) ls (va_rf x :: rest))) : W p l e R s m args below meth c H locs (s_nx S - s_nx S0) (s_sl S - s_sl S0) Q (F0 m pc ls (.ref a :: rest)) := by
  have h := hJ.2.1.at (a := a) (by rw [hk]; decide)
  rw [wE_X3 hk] at h
  exact jq_rdfN hX h ly_X3 rfl (k := 0) (by decide) hl (by rw [← hx]; rfl) hdg kk
theorem pf_X3_handles {S0 S S1 : wS} {v : Nat} (hX : jq_X D Y aR A p s m args meth c cc own nm mx rt) (hJ : wJ D Y A s S0 S H locs) (hk : s_K S a = 3) (hx : s_pR S 2 a (some v) = S1) (hn : nm = "<init>") (ho : (TX3 0).1 = own) (hl : Cond.fieldLink own index "ScoreHandles$Maker" "handles" "LScoreHandles$Handles;" ∈ lw_all) (hdg : decode cc pc = .ok (.putfield index, 3)) (kk : ∀ (H1 : Heap) (locs1 : List Loc), wJ D Y A s S0 S1 H1 locs1 → W p l e R s m args below meth c H1 locs1 (s_nx S1 - s_nx S0) (s_sl S1 - s_sl S0) Q (F0 m (pc + 3) ls rest)) : W p l e R s m args below meth c H locs (s_nx S - s_nx S0) (s_sl S - s_sl S0) Q (F0 m pc ls (.ref v :: .ref a :: rest)) := by
  subst hx
  have h := hJ.2.1.at (a := a) (by rw [hk]; decide)
  rw [wE_X3 hk] at h
  refine jq_wrf hX h ly_X3 tyX3_ok nmX3 rfl (k := 0) (by decide) hl (Or.inr ⟨rfl, hn, ho⟩) (ty := (.object "ScoreHandles$Handles")) (by decide +kernel) rfl rfl (by show _ < _; simp) hJ.2.2 (hJ.2.1.2 a (by rw [hk]; decide)).2 hdg (fun H1 locs1 h1 hz hq hS1 => kk H1 locs1 ⟨hJ.1, hJ.2.1.set (a := a) (by rw [hk]; decide) rfl rfl (fun b hb => wE_pR S 2 a _ hb) ?_ hz hq, hS1⟩)
  rw [wE_X3 (S := s_pR S 2 a _) hk]
  simp only [I_pR, L_pR, R_pR, and_true, if_true, reduceIte, Nat.reduceEqDiff, false_and]
  exact h1
theorem gf_X3_rows {S0 S : wS} {x : Option Nat} (hX : jq_X D Y aR A p s m args meth c cc own nm mx rt) (hJ : wJ D Y A s S0 S H locs) (hk : s_K S a = 3) (hx : s_R S 3 a = x) (hl : Cond.fieldLink own index "ScoreHandles$Maker" "rows" "LScoreHandles$Rows;" ∈ lw_all) (hdg : decode cc pc = .ok (.getfield index, 3)) (kk : W p l e R s m args below meth c H locs (s_nx S - s_nx S0) (s_sl S - s_sl S0) Q (F0 m (pc + 3) ls (va_rf x :: rest))) : W p l e R s m args below meth c H locs (s_nx S - s_nx S0) (s_sl S - s_sl S0) Q (F0 m pc ls (.ref a :: rest)) := by
  have h := hJ.2.1.at (a := a) (by rw [hk]; decide)
  rw [wE_X3 hk] at h
  exact jq_rdf hX h ly_X3 rfl (k := 1) (by decide) hl (by rw [← hx]; rfl) hdg kk
theorem gn_X3_rows {S0 S : wS} {x : Option Nat} {host : String} (hX : jq_X D Y aR A p s m args meth c cc own nm mx rt) (hJ : wJ D Y A s S0 S H locs) (hk : s_K S a = 3) (hx : s_R S 3 a = x) (hl : Cond.fieldLinkNest own index "ScoreHandles$Maker" "rows" "LScoreHandles$Rows;" host ∈ lw_nest) (hdg : decode cc pc = .ok (.getfield index, 3)) (kk : W p l e R s m args below meth c H locs (s_nx S - s_nx S0) (s_sl S - s_sl S0) Q (F0 m (pc + 3) ls (va_rf x :: rest))) : W p l e R s m args below meth c H locs (s_nx S - s_nx S0) (s_sl S - s_sl S0) Q (F0 m pc ls (.ref a :: rest)) := by
  have h := hJ.2.1.at (a := a) (by rw [hk]; decide)
  rw [wE_X3 hk] at h
  exact jq_rdfN hX h ly_X3 rfl (k := 1) (by decide) hl (by rw [← hx]; rfl) hdg kk
theorem pf_X3_rows {S0 S S1 : wS} {v : Nat} (hX : jq_X D Y aR A p s m args meth c cc own nm mx rt) (hJ : wJ D Y A s S0 S H locs) (hk : s_K S a = 3) (hx : s_pR S 3 a (some v) = S1) (hn : nm = "<init>") (ho : (TX3 1).1 = own) (hl : Cond.fieldLink own index "ScoreHandles$Maker" "rows" "LScoreHandles$Rows;" ∈ lw_all) (hdg : decode cc pc = .ok (.putfield index, 3)) (kk : ∀ (H1 : Heap) (locs1 : List Loc), wJ D Y A s S0 S1 H1 locs1 → W p l e R s m args below meth c H1 locs1 (s_nx S1 - s_nx S0) (s_sl S1 - s_sl S0) Q (F0 m (pc + 3) ls rest)) : W p l e R s m args below meth c H locs (s_nx S - s_nx S0) (s_sl S - s_sl S0) Q (F0 m pc ls (.ref v :: .ref a :: rest)) := by
  subst hx
  have h := hJ.2.1.at (a := a) (by rw [hk]; decide)
  rw [wE_X3 hk] at h
  refine jq_wrf hX h ly_X3 tyX3_ok nmX3 rfl (k := 1) (by decide) hl (Or.inr ⟨rfl, hn, ho⟩) (ty := (.object "ScoreHandles$Rows")) (by decide +kernel) rfl rfl (by show _ < _; simp) hJ.2.2 (hJ.2.1.2 a (by rw [hk]; decide)).2 hdg (fun H1 locs1 h1 hz hq hS1 => kk H1 locs1 ⟨hJ.1, hJ.2.1.set (a := a) (by rw [hk]; decide) rfl rfl (fun b hb => wE_pR S 3 a _ hb) ?_ hz hq, hS1⟩)
  rw [wE_X3 (S := s_pR S 3 a _) hk]
  simp only [I_pR, L_pR, R_pR, and_true, if_true, reduceIte, Nat.reduceEqDiff, false_and]
  exact h1
theorem gf_X5_lane {S0 S : wS} {x : Int32} (hX : jq_X D Y aR A p s m args meth c cc own nm mx rt) (hJ : wJ D Y A s S0 S H locs) (hk : s_K S a = 5) (hx : s_I S 6 a = x) (hl : Cond.fieldLink own index "ScoreHandles$Row" "lane" "I" ∈ lw_all) (hdg : decode cc pc = .ok (.getfield index, 3)) (kk : W p l e R s m args below meth c H locs (s_nx S - s_nx S0) (s_sl S - s_sl S0) Q (F0 m (pc + 3) ls (.int x :: rest))) : W p l e R s m args below meth c H locs (s_nx S - s_nx S0) (s_sl S - s_sl S0) Q (F0 m pc ls (.ref a :: rest)) := by
  have h := hJ.2.1.at (a := a) (by rw [hk]; decide)
  rw [wE_X5 hk] at h
  exact jq_rdf hX h ly_X5 rfl (k := 0) (by decide) hl (by rw [← hx]; rfl) hdg kk
theorem gn_X5_lane {S0 S : wS} {x : Int32} {host : String} (hX : jq_X D Y aR A p s m args meth c cc own nm mx rt) (hJ : wJ D Y A s S0 S H locs) (hk : s_K S a = 5) (hx : s_I S 6 a = x) (hl : Cond.fieldLinkNest own index "ScoreHandles$Row" "lane" "I" host ∈ lw_nest) (hdg : decode cc pc = .ok (.getfield index, 3)) (kk : W p l e R s m args below meth c H locs (s_nx S - s_nx S0) (s_sl S - s_sl S0) Q (F0 m (pc + 3) ls (.int x :: rest))) : W p l e R s m args below meth c H locs (s_nx S - s_nx S0) (s_sl S - s_sl S0) Q (F0 m pc ls (.ref a :: rest)) := by
  have h := hJ.2.1.at (a := a) (by rw [hk]; decide)
  rw [wE_X5 hk] at h
  exact jq_rdfN hX h ly_X5 rfl (k := 0) (by decide) hl (by rw [← hx]; rfl) hdg kk
theorem pf_X5_lane {S0 S S1 : wS} {v : Int32} (hX : jq_X D Y aR A p s m args meth c cc own nm mx rt) (hJ : wJ D Y A s S0 S H locs) (hk : s_K S a = 5) (hx : s_pI S 6 a v = S1) (hn : nm = "<init>") (ho : (TX5 0).1 = own) (hl : Cond.fieldLink own index "ScoreHandles$Row" "lane" "I" ∈ lw_all) (hdg : decode cc pc = .ok (.putfield index, 3)) (kk : ∀ (H1 : Heap) (locs1 : List Loc), wJ D Y A s S0 S1 H1 locs1 → W p l e R s m args below meth c H1 locs1 (s_nx S1 - s_nx S0) (s_sl S1 - s_sl S0) Q (F0 m (pc + 3) ls rest)) : W p l e R s m args below meth c H locs (s_nx S - s_nx S0) (s_sl S - s_sl S0) Q (F0 m pc ls (.int v :: .ref a :: rest)) := by
  subst hx
  have h := hJ.2.1.at (a := a) (by rw [hk]; decide)
  rw [wE_X5 hk] at h
  refine jq_wrf hX h ly_X5 tyX5_ok nmX5 rfl (k := 0) (by decide) hl (Or.inr ⟨rfl, hn, ho⟩) (ty := .int) (by decide +kernel) rfl rfl (by show _ < _; simp) hJ.2.2 (hJ.2.1.2 a (by rw [hk]; decide)).2 hdg (fun H1 locs1 h1 hz hq hS1 => kk H1 locs1 ⟨hJ.1, hJ.2.1.set (a := a) (by rw [hk]; decide) rfl rfl (fun b hb => wE_pI S 6 a _ hb) ?_ hz hq, hS1⟩)
  rw [wE_X5 (S := s_pI S 6 a _) hk]
  simp only [I_pI, L_pI, R_pI, and_true, if_true, reduceIte, Nat.reduceEqDiff, false_and]
  exact h1
theorem gf_X5_items {S0 S : wS} {x : Option Nat} (hX : jq_X D Y aR A p s m args meth c cc own nm mx rt) (hJ : wJ D Y A s S0 S H locs) (hk : s_K S a = 5) (hx : s_R S 4 a = x) (hl : Cond.fieldLink own index "ScoreHandles$Row" "items" "[J" ∈ lw_all) (hdg : decode cc pc = .ok (.getfield index, 3)) (kk : W p l e R s m args below meth c H locs (s_nx S - s_nx S0) (s_sl S - s_sl S0) Q (F0 m (pc + 3) ls (va_rf x :: rest))) : W p l e R s m args below meth c H locs (s_nx S - s_nx S0) (s_sl S - s_sl S0) Q (F0 m pc ls (.ref a :: rest)) := by
  have h := hJ.2.1.at (a := a) (by rw [hk]; decide)
  rw [wE_X5 hk] at h
  exact jq_rdf hX h ly_X5 rfl (k := 1) (by decide) hl (by rw [← hx]; rfl) hdg kk
theorem gn_X5_items {S0 S : wS} {x : Option Nat} {host : String} (hX : jq_X D Y aR A p s m args meth c cc own nm mx rt) (hJ : wJ D Y A s S0 S H locs) (hk : s_K S a = 5) (hx : s_R S 4 a = x) (hl : Cond.fieldLinkNest own index "ScoreHandles$Row" "items" "[J" host ∈ lw_nest) (hdg : decode cc pc = .ok (.getfield index, 3)) (kk : W p l e R s m args below meth c H locs (s_nx S - s_nx S0) (s_sl S - s_sl S0) Q (F0 m (pc + 3) ls (va_rf x :: rest))) : W p l e R s m args below meth c H locs (s_nx S - s_nx S0) (s_sl S - s_sl S0) Q (F0 m pc ls (.ref a :: rest)) := by
  have h := hJ.2.1.at (a := a) (by rw [hk]; decide)
  rw [wE_X5 hk] at h
  exact jq_rdfN hX h ly_X5 rfl (k := 1) (by decide) hl (by rw [← hx]; rfl) hdg kk
theorem pf_X5_items {S0 S S1 : wS} {v : Nat} (hX : jq_X D Y aR A p s m args meth c cc own nm mx rt) (hJ : wJ D Y A s S0 S H locs) (hk : s_K S a = 5) (hx : s_pR S 4 a (some v) = S1) (hn : nm = "<init>") (ho : (TX5 1).1 = own) (hl : Cond.fieldLink own index "ScoreHandles$Row" "items" "[J" ∈ lw_all) (hdg : decode cc pc = .ok (.putfield index, 3)) (kk : ∀ (H1 : Heap) (locs1 : List Loc), wJ D Y A s S0 S1 H1 locs1 → W p l e R s m args below meth c H1 locs1 (s_nx S1 - s_nx S0) (s_sl S1 - s_sl S0) Q (F0 m (pc + 3) ls rest)) : W p l e R s m args below meth c H locs (s_nx S - s_nx S0) (s_sl S - s_sl S0) Q (F0 m pc ls (.ref v :: .ref a :: rest)) := by
  subst hx
  have h := hJ.2.1.at (a := a) (by rw [hk]; decide)
  rw [wE_X5 hk] at h
  refine jq_wrf hX h ly_X5 tyX5_ok nmX5 rfl (k := 1) (by decide) hl (Or.inr ⟨rfl, hn, ho⟩) (ty := (.array .long)) (by decide +kernel) rfl rfl (by show _ < _; simp) hJ.2.2 (hJ.2.1.2 a (by rw [hk]; decide)).2 hdg (fun H1 locs1 h1 hz hq hS1 => kk H1 locs1 ⟨hJ.1, hJ.2.1.set (a := a) (by rw [hk]; decide) rfl rfl (fun b hb => wE_pR S 4 a _ hb) ?_ hz hq, hS1⟩)
  rw [wE_X5 (S := s_pR S 4 a _) hk]
  simp only [I_pR, L_pR, R_pR, and_true, if_true, reduceIte, Nat.reduceEqDiff, false_and]
  exact h1
theorem gf_X6_kept {S0 S : wS} {x : Option Nat} (hX : jq_X D Y aR A p s m args meth c cc own nm mx rt) (hJ : wJ D Y A s S0 S H locs) (hk : s_K S a = 6) (hx : s_R S 5 a = x) (hl : Cond.fieldLink own index "ScoreHandles$Rows" "kept" "[LScoreHandles$Row;" ∈ lw_all) (hdg : decode cc pc = .ok (.getfield index, 3)) (kk : W p l e R s m args below meth c H locs (s_nx S - s_nx S0) (s_sl S - s_sl S0) Q (F0 m (pc + 3) ls (va_rf x :: rest))) : W p l e R s m args below meth c H locs (s_nx S - s_nx S0) (s_sl S - s_sl S0) Q (F0 m pc ls (.ref a :: rest)) := by
  have h := hJ.2.1.at (a := a) (by rw [hk]; decide)
  rw [wE_X6 hk] at h
  exact jq_rdf hX h ly_X6 rfl (k := 0) (by decide) hl (by rw [← hx]; rfl) hdg kk
theorem gn_X6_kept {S0 S : wS} {x : Option Nat} {host : String} (hX : jq_X D Y aR A p s m args meth c cc own nm mx rt) (hJ : wJ D Y A s S0 S H locs) (hk : s_K S a = 6) (hx : s_R S 5 a = x) (hl : Cond.fieldLinkNest own index "ScoreHandles$Rows" "kept" "[LScoreHandles$Row;" host ∈ lw_nest) (hdg : decode cc pc = .ok (.getfield index, 3)) (kk : W p l e R s m args below meth c H locs (s_nx S - s_nx S0) (s_sl S - s_sl S0) Q (F0 m (pc + 3) ls (va_rf x :: rest))) : W p l e R s m args below meth c H locs (s_nx S - s_nx S0) (s_sl S - s_sl S0) Q (F0 m pc ls (.ref a :: rest)) := by
  have h := hJ.2.1.at (a := a) (by rw [hk]; decide)
  rw [wE_X6 hk] at h
  exact jq_rdfN hX h ly_X6 rfl (k := 0) (by decide) hl (by rw [← hx]; rfl) hdg kk
theorem pf_X6_kept {S0 S S1 : wS} {v : Nat} (hX : jq_X D Y aR A p s m args meth c cc own nm mx rt) (hJ : wJ D Y A s S0 S H locs) (hk : s_K S a = 6) (hx : s_pR S 5 a (some v) = S1) (hn : nm = "<init>") (ho : (TX6 0).1 = own) (hl : Cond.fieldLink own index "ScoreHandles$Rows" "kept" "[LScoreHandles$Row;" ∈ lw_all) (hdg : decode cc pc = .ok (.putfield index, 3)) (kk : ∀ (H1 : Heap) (locs1 : List Loc), wJ D Y A s S0 S1 H1 locs1 → W p l e R s m args below meth c H1 locs1 (s_nx S1 - s_nx S0) (s_sl S1 - s_sl S0) Q (F0 m (pc + 3) ls rest)) : W p l e R s m args below meth c H locs (s_nx S - s_nx S0) (s_sl S - s_sl S0) Q (F0 m pc ls (.ref v :: .ref a :: rest)) := by
  subst hx
  have h := hJ.2.1.at (a := a) (by rw [hk]; decide)
  rw [wE_X6 hk] at h
  refine jq_wrf hX h ly_X6 tyX6_ok nmX6 rfl (k := 0) (by decide) hl (Or.inr ⟨rfl, hn, ho⟩) (ty := (.array (.object "ScoreHandles$Row"))) (by decide +kernel) rfl rfl (by show _ < _; simp) hJ.2.2 (hJ.2.1.2 a (by rw [hk]; decide)).2 hdg (fun H1 locs1 h1 hz hq hS1 => kk H1 locs1 ⟨hJ.1, hJ.2.1.set (a := a) (by rw [hk]; decide) rfl rfl (fun b hb => wE_pR S 5 a _ hb) ?_ hz hq, hS1⟩)
  rw [wE_X6 (S := s_pR S 5 a _) hk]
  simp only [I_pR, L_pR, R_pR, and_true, if_true, reduceIte, Nat.reduceEqDiff, false_and]
  exact h1
theorem gf_X6_many {S0 S : wS} {x : Int32} (hX : jq_X D Y aR A p s m args meth c cc own nm mx rt) (hJ : wJ D Y A s S0 S H locs) (hk : s_K S a = 6) (hx : s_I S 7 a = x) (hl : Cond.fieldLink own index "ScoreHandles$Rows" "many" "I" ∈ lw_all) (hdg : decode cc pc = .ok (.getfield index, 3)) (kk : W p l e R s m args below meth c H locs (s_nx S - s_nx S0) (s_sl S - s_sl S0) Q (F0 m (pc + 3) ls (.int x :: rest))) : W p l e R s m args below meth c H locs (s_nx S - s_nx S0) (s_sl S - s_sl S0) Q (F0 m pc ls (.ref a :: rest)) := by
  have h := hJ.2.1.at (a := a) (by rw [hk]; decide)
  rw [wE_X6 hk] at h
  exact jq_rdf hX h ly_X6 rfl (k := 1) (by decide) hl (by rw [← hx]; rfl) hdg kk
theorem gn_X6_many {S0 S : wS} {x : Int32} {host : String} (hX : jq_X D Y aR A p s m args meth c cc own nm mx rt) (hJ : wJ D Y A s S0 S H locs) (hk : s_K S a = 6) (hx : s_I S 7 a = x) (hl : Cond.fieldLinkNest own index "ScoreHandles$Rows" "many" "I" host ∈ lw_nest) (hdg : decode cc pc = .ok (.getfield index, 3)) (kk : W p l e R s m args below meth c H locs (s_nx S - s_nx S0) (s_sl S - s_sl S0) Q (F0 m (pc + 3) ls (.int x :: rest))) : W p l e R s m args below meth c H locs (s_nx S - s_nx S0) (s_sl S - s_sl S0) Q (F0 m pc ls (.ref a :: rest)) := by
  have h := hJ.2.1.at (a := a) (by rw [hk]; decide)
  rw [wE_X6 hk] at h
  exact jq_rdfN hX h ly_X6 rfl (k := 1) (by decide) hl (by rw [← hx]; rfl) hdg kk
theorem pf_X6_many {S0 S S1 : wS} {v : Int32} (hX : jq_X D Y aR A p s m args meth c cc own nm mx rt) (hJ : wJ D Y A s S0 S H locs) (hk : s_K S a = 6) (hx : s_pI S 7 a v = S1) (hl : Cond.fieldLink own index "ScoreHandles$Rows" "many" "I" ∈ lw_all) (hdg : decode cc pc = .ok (.putfield index, 3)) (kk : ∀ (H1 : Heap) (locs1 : List Loc), wJ D Y A s S0 S1 H1 locs1 → W p l e R s m args below meth c H1 locs1 (s_nx S1 - s_nx S0) (s_sl S1 - s_sl S0) Q (F0 m (pc + 3) ls rest)) : W p l e R s m args below meth c H locs (s_nx S - s_nx S0) (s_sl S - s_sl S0) Q (F0 m pc ls (.int v :: .ref a :: rest)) := by
  subst hx
  have h := hJ.2.1.at (a := a) (by rw [hk]; decide)
  rw [wE_X6 hk] at h
  refine jq_wrf hX h ly_X6 tyX6_ok nmX6 rfl (k := 1) (by decide) hl (Or.inl rfl) (ty := .int) (by decide +kernel) rfl rfl (by show _ < _; simp) hJ.2.2 (hJ.2.1.2 a (by rw [hk]; decide)).2 hdg (fun H1 locs1 h1 hz hq hS1 => kk H1 locs1 ⟨hJ.1, hJ.2.1.set (a := a) (by rw [hk]; decide) rfl rfl (fun b hb => wE_pI S 7 a _ hb) ?_ hz hq, hS1⟩)
  rw [wE_X6 (S := s_pI S 7 a _) hk]
  simp only [I_pI, L_pI, R_pI, and_true, if_true, reduceIte, Nat.reduceEqDiff, false_and]
  exact h1
theorem gf_X7_handles {S0 S : wS} {x : Option Nat} (hX : jq_X D Y aR A p s m args meth c cc own nm mx rt) (hJ : wJ D Y A s S0 S H locs) (hk : s_K S a = 7) (hx : s_R S 6 a = x) (hl : Cond.fieldLink own index "ScoreHandles$Runner" "handles" "LScoreHandles$Handles;" ∈ lw_all) (hdg : decode cc pc = .ok (.getfield index, 3)) (kk : W p l e R s m args below meth c H locs (s_nx S - s_nx S0) (s_sl S - s_sl S0) Q (F0 m (pc + 3) ls (va_rf x :: rest))) : W p l e R s m args below meth c H locs (s_nx S - s_nx S0) (s_sl S - s_sl S0) Q (F0 m pc ls (.ref a :: rest)) := by
  have h := hJ.2.1.at (a := a) (by rw [hk]; decide)
  rw [wE_X7 hk] at h
  exact jq_rdf hX h ly_X7 rfl (k := 0) (by decide) hl (by rw [← hx]; rfl) hdg kk
theorem gn_X7_handles {S0 S : wS} {x : Option Nat} {host : String} (hX : jq_X D Y aR A p s m args meth c cc own nm mx rt) (hJ : wJ D Y A s S0 S H locs) (hk : s_K S a = 7) (hx : s_R S 6 a = x) (hl : Cond.fieldLinkNest own index "ScoreHandles$Runner" "handles" "LScoreHandles$Handles;" host ∈ lw_nest) (hdg : decode cc pc = .ok (.getfield index, 3)) (kk : W p l e R s m args below meth c H locs (s_nx S - s_nx S0) (s_sl S - s_sl S0) Q (F0 m (pc + 3) ls (va_rf x :: rest))) : W p l e R s m args below meth c H locs (s_nx S - s_nx S0) (s_sl S - s_sl S0) Q (F0 m pc ls (.ref a :: rest)) := by
  have h := hJ.2.1.at (a := a) (by rw [hk]; decide)
  rw [wE_X7 hk] at h
  exact jq_rdfN hX h ly_X7 rfl (k := 0) (by decide) hl (by rw [← hx]; rfl) hdg kk
theorem pf_X7_handles {S0 S S1 : wS} {v : Nat} (hX : jq_X D Y aR A p s m args meth c cc own nm mx rt) (hJ : wJ D Y A s S0 S H locs) (hk : s_K S a = 7) (hx : s_pR S 6 a (some v) = S1) (hn : nm = "<init>") (ho : (TX7 0).1 = own) (hl : Cond.fieldLink own index "ScoreHandles$Runner" "handles" "LScoreHandles$Handles;" ∈ lw_all) (hdg : decode cc pc = .ok (.putfield index, 3)) (kk : ∀ (H1 : Heap) (locs1 : List Loc), wJ D Y A s S0 S1 H1 locs1 → W p l e R s m args below meth c H1 locs1 (s_nx S1 - s_nx S0) (s_sl S1 - s_sl S0) Q (F0 m (pc + 3) ls rest)) : W p l e R s m args below meth c H locs (s_nx S - s_nx S0) (s_sl S - s_sl S0) Q (F0 m pc ls (.ref v :: .ref a :: rest)) := by
  subst hx
  have h := hJ.2.1.at (a := a) (by rw [hk]; decide)
  rw [wE_X7 hk] at h
  refine jq_wrf hX h ly_X7 tyX7_ok nmX7 rfl (k := 0) (by decide) hl (Or.inr ⟨rfl, hn, ho⟩) (ty := (.object "ScoreHandles$Handles")) (by decide +kernel) rfl rfl (by show _ < _; simp) hJ.2.2 (hJ.2.1.2 a (by rw [hk]; decide)).2 hdg (fun H1 locs1 h1 hz hq hS1 => kk H1 locs1 ⟨hJ.1, hJ.2.1.set (a := a) (by rw [hk]; decide) rfl rfl (fun b hb => wE_pR S 6 a _ hb) ?_ hz hq, hS1⟩)
  rw [wE_X7 (S := s_pR S 6 a _) hk]
  simp only [I_pR, L_pR, R_pR, and_true, if_true, reduceIte, Nat.reduceEqDiff, false_and]
  exact h1
theorem gf_X7_rows {S0 S : wS} {x : Option Nat} (hX : jq_X D Y aR A p s m args meth c cc own nm mx rt) (hJ : wJ D Y A s S0 S H locs) (hk : s_K S a = 7) (hx : s_R S 7 a = x) (hl : Cond.fieldLink own index "ScoreHandles$Runner" "rows" "LScoreHandles$Rows;" ∈ lw_all) (hdg : decode cc pc = .ok (.getfield index, 3)) (kk : W p l e R s m args below meth c H locs (s_nx S - s_nx S0) (s_sl S - s_sl S0) Q (F0 m (pc + 3) ls (va_rf x :: rest))) : W p l e R s m args below meth c H locs (s_nx S - s_nx S0) (s_sl S - s_sl S0) Q (F0 m pc ls (.ref a :: rest)) := by
  have h := hJ.2.1.at (a := a) (by rw [hk]; decide)
  rw [wE_X7 hk] at h
  exact jq_rdf hX h ly_X7 rfl (k := 1) (by decide) hl (by rw [← hx]; rfl) hdg kk
theorem gn_X7_rows {S0 S : wS} {x : Option Nat} {host : String} (hX : jq_X D Y aR A p s m args meth c cc own nm mx rt) (hJ : wJ D Y A s S0 S H locs) (hk : s_K S a = 7) (hx : s_R S 7 a = x) (hl : Cond.fieldLinkNest own index "ScoreHandles$Runner" "rows" "LScoreHandles$Rows;" host ∈ lw_nest) (hdg : decode cc pc = .ok (.getfield index, 3)) (kk : W p l e R s m args below meth c H locs (s_nx S - s_nx S0) (s_sl S - s_sl S0) Q (F0 m (pc + 3) ls (va_rf x :: rest))) : W p l e R s m args below meth c H locs (s_nx S - s_nx S0) (s_sl S - s_sl S0) Q (F0 m pc ls (.ref a :: rest)) := by
  have h := hJ.2.1.at (a := a) (by rw [hk]; decide)
  rw [wE_X7 hk] at h
  exact jq_rdfN hX h ly_X7 rfl (k := 1) (by decide) hl (by rw [← hx]; rfl) hdg kk
theorem pf_X7_rows {S0 S S1 : wS} {v : Nat} (hX : jq_X D Y aR A p s m args meth c cc own nm mx rt) (hJ : wJ D Y A s S0 S H locs) (hk : s_K S a = 7) (hx : s_pR S 7 a (some v) = S1) (hn : nm = "<init>") (ho : (TX7 1).1 = own) (hl : Cond.fieldLink own index "ScoreHandles$Runner" "rows" "LScoreHandles$Rows;" ∈ lw_all) (hdg : decode cc pc = .ok (.putfield index, 3)) (kk : ∀ (H1 : Heap) (locs1 : List Loc), wJ D Y A s S0 S1 H1 locs1 → W p l e R s m args below meth c H1 locs1 (s_nx S1 - s_nx S0) (s_sl S1 - s_sl S0) Q (F0 m (pc + 3) ls rest)) : W p l e R s m args below meth c H locs (s_nx S - s_nx S0) (s_sl S - s_sl S0) Q (F0 m pc ls (.ref v :: .ref a :: rest)) := by
  subst hx
  have h := hJ.2.1.at (a := a) (by rw [hk]; decide)
  rw [wE_X7 hk] at h
  refine jq_wrf hX h ly_X7 tyX7_ok nmX7 rfl (k := 1) (by decide) hl (Or.inr ⟨rfl, hn, ho⟩) (ty := (.object "ScoreHandles$Rows")) (by decide +kernel) rfl rfl (by show _ < _; simp) hJ.2.2 (hJ.2.1.2 a (by rw [hk]; decide)).2 hdg (fun H1 locs1 h1 hz hq hS1 => kk H1 locs1 ⟨hJ.1, hJ.2.1.set (a := a) (by rw [hk]; decide) rfl rfl (fun b hb => wE_pR S 7 a _ hb) ?_ hz hq, hS1⟩)
  rw [wE_X7 (S := s_pR S 7 a _) hk]
  simp only [I_pR, L_pR, R_pR, and_true, if_true, reduceIte, Nat.reduceEqDiff, false_and]
  exact h1
theorem gf_X7_frames {S0 S : wS} {x : Option Nat} (hX : jq_X D Y aR A p s m args meth c cc own nm mx rt) (hJ : wJ D Y A s S0 S H locs) (hk : s_K S a = 7) (hx : s_R S 8 a = x) (hl : Cond.fieldLink own index "ScoreHandles$Runner" "frames" "[J" ∈ lw_all) (hdg : decode cc pc = .ok (.getfield index, 3)) (kk : W p l e R s m args below meth c H locs (s_nx S - s_nx S0) (s_sl S - s_sl S0) Q (F0 m (pc + 3) ls (va_rf x :: rest))) : W p l e R s m args below meth c H locs (s_nx S - s_nx S0) (s_sl S - s_sl S0) Q (F0 m pc ls (.ref a :: rest)) := by
  have h := hJ.2.1.at (a := a) (by rw [hk]; decide)
  rw [wE_X7 hk] at h
  exact jq_rdf hX h ly_X7 rfl (k := 2) (by decide) hl (by rw [← hx]; rfl) hdg kk
theorem gn_X7_frames {S0 S : wS} {x : Option Nat} {host : String} (hX : jq_X D Y aR A p s m args meth c cc own nm mx rt) (hJ : wJ D Y A s S0 S H locs) (hk : s_K S a = 7) (hx : s_R S 8 a = x) (hl : Cond.fieldLinkNest own index "ScoreHandles$Runner" "frames" "[J" host ∈ lw_nest) (hdg : decode cc pc = .ok (.getfield index, 3)) (kk : W p l e R s m args below meth c H locs (s_nx S - s_nx S0) (s_sl S - s_sl S0) Q (F0 m (pc + 3) ls (va_rf x :: rest))) : W p l e R s m args below meth c H locs (s_nx S - s_nx S0) (s_sl S - s_sl S0) Q (F0 m pc ls (.ref a :: rest)) := by
  have h := hJ.2.1.at (a := a) (by rw [hk]; decide)
  rw [wE_X7 hk] at h
  exact jq_rdfN hX h ly_X7 rfl (k := 2) (by decide) hl (by rw [← hx]; rfl) hdg kk
theorem pf_X7_frames {S0 S S1 : wS} {v : Nat} (hX : jq_X D Y aR A p s m args meth c cc own nm mx rt) (hJ : wJ D Y A s S0 S H locs) (hk : s_K S a = 7) (hx : s_pR S 8 a (some v) = S1) (hn : nm = "<init>") (ho : (TX7 2).1 = own) (hl : Cond.fieldLink own index "ScoreHandles$Runner" "frames" "[J" ∈ lw_all) (hdg : decode cc pc = .ok (.putfield index, 3)) (kk : ∀ (H1 : Heap) (locs1 : List Loc), wJ D Y A s S0 S1 H1 locs1 → W p l e R s m args below meth c H1 locs1 (s_nx S1 - s_nx S0) (s_sl S1 - s_sl S0) Q (F0 m (pc + 3) ls rest)) : W p l e R s m args below meth c H locs (s_nx S - s_nx S0) (s_sl S - s_sl S0) Q (F0 m pc ls (.ref v :: .ref a :: rest)) := by
  subst hx
  have h := hJ.2.1.at (a := a) (by rw [hk]; decide)
  rw [wE_X7 hk] at h
  refine jq_wrf hX h ly_X7 tyX7_ok nmX7 rfl (k := 2) (by decide) hl (Or.inr ⟨rfl, hn, ho⟩) (ty := (.array .long)) (by decide +kernel) rfl rfl (by show _ < _; simp) hJ.2.2 (hJ.2.1.2 a (by rw [hk]; decide)).2 hdg (fun H1 locs1 h1 hz hq hS1 => kk H1 locs1 ⟨hJ.1, hJ.2.1.set (a := a) (by rw [hk]; decide) rfl rfl (fun b hb => wE_pR S 8 a _ hb) ?_ hz hq, hS1⟩)
  rw [wE_X7 (S := s_pR S 8 a _) hk]
  simp only [I_pR, L_pR, R_pR, and_true, if_true, reduceIte, Nat.reduceEqDiff, false_and]
  exact h1
theorem gf_X7_steps {S0 S : wS} {x : Int32} (hX : jq_X D Y aR A p s m args meth c cc own nm mx rt) (hJ : wJ D Y A s S0 S H locs) (hk : s_K S a = 7) (hx : s_I S 8 a = x) (hl : Cond.fieldLink own index "ScoreHandles$Runner" "steps" "I" ∈ lw_all) (hdg : decode cc pc = .ok (.getfield index, 3)) (kk : W p l e R s m args below meth c H locs (s_nx S - s_nx S0) (s_sl S - s_sl S0) Q (F0 m (pc + 3) ls (.int x :: rest))) : W p l e R s m args below meth c H locs (s_nx S - s_nx S0) (s_sl S - s_sl S0) Q (F0 m pc ls (.ref a :: rest)) := by
  have h := hJ.2.1.at (a := a) (by rw [hk]; decide)
  rw [wE_X7 hk] at h
  exact jq_rdf hX h ly_X7 rfl (k := 3) (by decide) hl (by rw [← hx]; rfl) hdg kk
theorem gn_X7_steps {S0 S : wS} {x : Int32} {host : String} (hX : jq_X D Y aR A p s m args meth c cc own nm mx rt) (hJ : wJ D Y A s S0 S H locs) (hk : s_K S a = 7) (hx : s_I S 8 a = x) (hl : Cond.fieldLinkNest own index "ScoreHandles$Runner" "steps" "I" host ∈ lw_nest) (hdg : decode cc pc = .ok (.getfield index, 3)) (kk : W p l e R s m args below meth c H locs (s_nx S - s_nx S0) (s_sl S - s_sl S0) Q (F0 m (pc + 3) ls (.int x :: rest))) : W p l e R s m args below meth c H locs (s_nx S - s_nx S0) (s_sl S - s_sl S0) Q (F0 m pc ls (.ref a :: rest)) := by
  have h := hJ.2.1.at (a := a) (by rw [hk]; decide)
  rw [wE_X7 hk] at h
  exact jq_rdfN hX h ly_X7 rfl (k := 3) (by decide) hl (by rw [← hx]; rfl) hdg kk
theorem pf_X7_steps {S0 S S1 : wS} {v : Int32} (hX : jq_X D Y aR A p s m args meth c cc own nm mx rt) (hJ : wJ D Y A s S0 S H locs) (hk : s_K S a = 7) (hx : s_pI S 8 a v = S1) (hl : Cond.fieldLink own index "ScoreHandles$Runner" "steps" "I" ∈ lw_all) (hdg : decode cc pc = .ok (.putfield index, 3)) (kk : ∀ (H1 : Heap) (locs1 : List Loc), wJ D Y A s S0 S1 H1 locs1 → W p l e R s m args below meth c H1 locs1 (s_nx S1 - s_nx S0) (s_sl S1 - s_sl S0) Q (F0 m (pc + 3) ls rest)) : W p l e R s m args below meth c H locs (s_nx S - s_nx S0) (s_sl S - s_sl S0) Q (F0 m pc ls (.int v :: .ref a :: rest)) := by
  subst hx
  have h := hJ.2.1.at (a := a) (by rw [hk]; decide)
  rw [wE_X7 hk] at h
  refine jq_wrf hX h ly_X7 tyX7_ok nmX7 rfl (k := 3) (by decide) hl (Or.inl rfl) (ty := .int) (by decide +kernel) rfl rfl (by show _ < _; simp) hJ.2.2 (hJ.2.1.2 a (by rw [hk]; decide)).2 hdg (fun H1 locs1 h1 hz hq hS1 => kk H1 locs1 ⟨hJ.1, hJ.2.1.set (a := a) (by rw [hk]; decide) rfl rfl (fun b hb => wE_pI S 8 a _ hb) ?_ hz hq, hS1⟩)
  rw [wE_X7 (S := s_pI S 8 a _) hk]
  simp only [I_pI, L_pI, R_pI, and_true, if_true, reduceIte, Nat.reduceEqDiff, false_and]
  exact h1
theorem gf_X7_failures {S0 S : wS} {x : Int32} (hX : jq_X D Y aR A p s m args meth c cc own nm mx rt) (hJ : wJ D Y A s S0 S H locs) (hk : s_K S a = 7) (hx : s_I S 9 a = x) (hl : Cond.fieldLink own index "ScoreHandles$Runner" "failures" "I" ∈ lw_all) (hdg : decode cc pc = .ok (.getfield index, 3)) (kk : W p l e R s m args below meth c H locs (s_nx S - s_nx S0) (s_sl S - s_sl S0) Q (F0 m (pc + 3) ls (.int x :: rest))) : W p l e R s m args below meth c H locs (s_nx S - s_nx S0) (s_sl S - s_sl S0) Q (F0 m pc ls (.ref a :: rest)) := by
  have h := hJ.2.1.at (a := a) (by rw [hk]; decide)
  rw [wE_X7 hk] at h
  exact jq_rdf hX h ly_X7 rfl (k := 4) (by decide) hl (by rw [← hx]; rfl) hdg kk
theorem gn_X7_failures {S0 S : wS} {x : Int32} {host : String} (hX : jq_X D Y aR A p s m args meth c cc own nm mx rt) (hJ : wJ D Y A s S0 S H locs) (hk : s_K S a = 7) (hx : s_I S 9 a = x) (hl : Cond.fieldLinkNest own index "ScoreHandles$Runner" "failures" "I" host ∈ lw_nest) (hdg : decode cc pc = .ok (.getfield index, 3)) (kk : W p l e R s m args below meth c H locs (s_nx S - s_nx S0) (s_sl S - s_sl S0) Q (F0 m (pc + 3) ls (.int x :: rest))) : W p l e R s m args below meth c H locs (s_nx S - s_nx S0) (s_sl S - s_sl S0) Q (F0 m pc ls (.ref a :: rest)) := by
  have h := hJ.2.1.at (a := a) (by rw [hk]; decide)
  rw [wE_X7 hk] at h
  exact jq_rdfN hX h ly_X7 rfl (k := 4) (by decide) hl (by rw [← hx]; rfl) hdg kk
theorem pf_X7_failures {S0 S S1 : wS} {v : Int32} (hX : jq_X D Y aR A p s m args meth c cc own nm mx rt) (hJ : wJ D Y A s S0 S H locs) (hk : s_K S a = 7) (hx : s_pI S 9 a v = S1) (hl : Cond.fieldLink own index "ScoreHandles$Runner" "failures" "I" ∈ lw_all) (hdg : decode cc pc = .ok (.putfield index, 3)) (kk : ∀ (H1 : Heap) (locs1 : List Loc), wJ D Y A s S0 S1 H1 locs1 → W p l e R s m args below meth c H1 locs1 (s_nx S1 - s_nx S0) (s_sl S1 - s_sl S0) Q (F0 m (pc + 3) ls rest)) : W p l e R s m args below meth c H locs (s_nx S - s_nx S0) (s_sl S - s_sl S0) Q (F0 m pc ls (.int v :: .ref a :: rest)) := by
  subst hx
  have h := hJ.2.1.at (a := a) (by rw [hk]; decide)
  rw [wE_X7 hk] at h
  refine jq_wrf hX h ly_X7 tyX7_ok nmX7 rfl (k := 4) (by decide) hl (Or.inl rfl) (ty := .int) (by decide +kernel) rfl rfl (by show _ < _; simp) hJ.2.2 (hJ.2.1.2 a (by rw [hk]; decide)).2 hdg (fun H1 locs1 h1 hz hq hS1 => kk H1 locs1 ⟨hJ.1, hJ.2.1.set (a := a) (by rw [hk]; decide) rfl rfl (fun b hb => wE_pI S 9 a _ hb) ?_ hz hq, hS1⟩)
  rw [wE_X7 (S := s_pI S 9 a _) hk]
  simp only [I_pI, L_pI, R_pI, and_true, if_true, reduceIte, Nat.reduceEqDiff, false_and]
  exact h1
theorem gf_X7_failedLast {S0 S : wS} {x : Int32} (hX : jq_X D Y aR A p s m args meth c cc own nm mx rt) (hJ : wJ D Y A s S0 S H locs) (hk : s_K S a = 7) (hx : s_I S 10 a = x) (hl : Cond.fieldLink own index "ScoreHandles$Runner" "failedLast" "I" ∈ lw_all) (hdg : decode cc pc = .ok (.getfield index, 3)) (kk : W p l e R s m args below meth c H locs (s_nx S - s_nx S0) (s_sl S - s_sl S0) Q (F0 m (pc + 3) ls (.int x :: rest))) : W p l e R s m args below meth c H locs (s_nx S - s_nx S0) (s_sl S - s_sl S0) Q (F0 m pc ls (.ref a :: rest)) := by
  have h := hJ.2.1.at (a := a) (by rw [hk]; decide)
  rw [wE_X7 hk] at h
  exact jq_rdf hX h ly_X7 rfl (k := 5) (by decide) hl (by rw [← hx]; rfl) hdg kk
theorem gn_X7_failedLast {S0 S : wS} {x : Int32} {host : String} (hX : jq_X D Y aR A p s m args meth c cc own nm mx rt) (hJ : wJ D Y A s S0 S H locs) (hk : s_K S a = 7) (hx : s_I S 10 a = x) (hl : Cond.fieldLinkNest own index "ScoreHandles$Runner" "failedLast" "I" host ∈ lw_nest) (hdg : decode cc pc = .ok (.getfield index, 3)) (kk : W p l e R s m args below meth c H locs (s_nx S - s_nx S0) (s_sl S - s_sl S0) Q (F0 m (pc + 3) ls (.int x :: rest))) : W p l e R s m args below meth c H locs (s_nx S - s_nx S0) (s_sl S - s_sl S0) Q (F0 m pc ls (.ref a :: rest)) := by
  have h := hJ.2.1.at (a := a) (by rw [hk]; decide)
  rw [wE_X7 hk] at h
  exact jq_rdfN hX h ly_X7 rfl (k := 5) (by decide) hl (by rw [← hx]; rfl) hdg kk
theorem pf_X7_failedLast {S0 S S1 : wS} {v : Int32} (hX : jq_X D Y aR A p s m args meth c cc own nm mx rt) (hJ : wJ D Y A s S0 S H locs) (hk : s_K S a = 7) (hx : s_pI S 10 a v = S1) (hl : Cond.fieldLink own index "ScoreHandles$Runner" "failedLast" "I" ∈ lw_all) (hdg : decode cc pc = .ok (.putfield index, 3)) (kk : ∀ (H1 : Heap) (locs1 : List Loc), wJ D Y A s S0 S1 H1 locs1 → W p l e R s m args below meth c H1 locs1 (s_nx S1 - s_nx S0) (s_sl S1 - s_sl S0) Q (F0 m (pc + 3) ls rest)) : W p l e R s m args below meth c H locs (s_nx S - s_nx S0) (s_sl S - s_sl S0) Q (F0 m pc ls (.int v :: .ref a :: rest)) := by
  subst hx
  have h := hJ.2.1.at (a := a) (by rw [hk]; decide)
  rw [wE_X7 hk] at h
  refine jq_wrf hX h ly_X7 tyX7_ok nmX7 rfl (k := 5) (by decide) hl (Or.inl rfl) (ty := .int) (by decide +kernel) rfl rfl (by show _ < _; simp) hJ.2.2 (hJ.2.1.2 a (by rw [hk]; decide)).2 hdg (fun H1 locs1 h1 hz hq hS1 => kk H1 locs1 ⟨hJ.1, hJ.2.1.set (a := a) (by rw [hk]; decide) rfl rfl (fun b hb => wE_pI S 10 a _ hb) ?_ hz hq, hS1⟩)
  rw [wE_X7 (S := s_pI S 10 a _) hk]
  simp only [I_pI, L_pI, R_pI, and_true, if_true, reduceIte, Nat.reduceEqDiff, false_and]
  exact h1
theorem gf_X7_failure {S0 S : wS} {x : Int32} (hX : jq_X D Y aR A p s m args meth c cc own nm mx rt) (hJ : wJ D Y A s S0 S H locs) (hk : s_K S a = 7) (hx : s_I S 11 a = x) (hl : Cond.fieldLink own index "ScoreHandles$Runner" "failure" "I" ∈ lw_all) (hdg : decode cc pc = .ok (.getfield index, 3)) (kk : W p l e R s m args below meth c H locs (s_nx S - s_nx S0) (s_sl S - s_sl S0) Q (F0 m (pc + 3) ls (.int x :: rest))) : W p l e R s m args below meth c H locs (s_nx S - s_nx S0) (s_sl S - s_sl S0) Q (F0 m pc ls (.ref a :: rest)) := by
  have h := hJ.2.1.at (a := a) (by rw [hk]; decide)
  rw [wE_X7 hk] at h
  exact jq_rdf hX h ly_X7 rfl (k := 6) (by decide) hl (by rw [← hx]; rfl) hdg kk
theorem gn_X7_failure {S0 S : wS} {x : Int32} {host : String} (hX : jq_X D Y aR A p s m args meth c cc own nm mx rt) (hJ : wJ D Y A s S0 S H locs) (hk : s_K S a = 7) (hx : s_I S 11 a = x) (hl : Cond.fieldLinkNest own index "ScoreHandles$Runner" "failure" "I" host ∈ lw_nest) (hdg : decode cc pc = .ok (.getfield index, 3)) (kk : W p l e R s m args below meth c H locs (s_nx S - s_nx S0) (s_sl S - s_sl S0) Q (F0 m (pc + 3) ls (.int x :: rest))) : W p l e R s m args below meth c H locs (s_nx S - s_nx S0) (s_sl S - s_sl S0) Q (F0 m pc ls (.ref a :: rest)) := by
  have h := hJ.2.1.at (a := a) (by rw [hk]; decide)
  rw [wE_X7 hk] at h
  exact jq_rdfN hX h ly_X7 rfl (k := 6) (by decide) hl (by rw [← hx]; rfl) hdg kk
theorem pf_X7_failure {S0 S S1 : wS} {v : Int32} (hX : jq_X D Y aR A p s m args meth c cc own nm mx rt) (hJ : wJ D Y A s S0 S H locs) (hk : s_K S a = 7) (hx : s_pI S 11 a v = S1) (hl : Cond.fieldLink own index "ScoreHandles$Runner" "failure" "I" ∈ lw_all) (hdg : decode cc pc = .ok (.putfield index, 3)) (kk : ∀ (H1 : Heap) (locs1 : List Loc), wJ D Y A s S0 S1 H1 locs1 → W p l e R s m args below meth c H1 locs1 (s_nx S1 - s_nx S0) (s_sl S1 - s_sl S0) Q (F0 m (pc + 3) ls rest)) : W p l e R s m args below meth c H locs (s_nx S - s_nx S0) (s_sl S - s_sl S0) Q (F0 m pc ls (.int v :: .ref a :: rest)) := by
  subst hx
  have h := hJ.2.1.at (a := a) (by rw [hk]; decide)
  rw [wE_X7 hk] at h
  refine jq_wrf hX h ly_X7 tyX7_ok nmX7 rfl (k := 6) (by decide) hl (Or.inl rfl) (ty := .int) (by decide +kernel) rfl rfl (by show _ < _; simp) hJ.2.2 (hJ.2.1.2 a (by rw [hk]; decide)).2 hdg (fun H1 locs1 h1 hz hq hS1 => kk H1 locs1 ⟨hJ.1, hJ.2.1.set (a := a) (by rw [hk]; decide) rfl rfl (fun b hb => wE_pI S 11 a _ hb) ?_ hz hq, hS1⟩)
  rw [wE_X7 (S := s_pI S 11 a _) hk]
  simp only [I_pI, L_pI, R_pI, and_true, if_true, reduceIte, Nat.reduceEqDiff, false_and]
  exact h1
theorem gf_X9_result {S0 S : wS} {x : Int32} (hX : jq_X D Y aR A p s m args meth c cc own nm mx rt) (hJ : wJ D Y A s S0 S H locs) (hk : s_K S a = 8) (hx : s_I S 12 a = x) (hl : Cond.fieldLink own index "ScoreHandles$Type" "result" "I" ∈ lw_all) (hdg : decode cc pc = .ok (.getfield index, 3)) (kk : W p l e R s m args below meth c H locs (s_nx S - s_nx S0) (s_sl S - s_sl S0) Q (F0 m (pc + 3) ls (.int x :: rest))) : W p l e R s m args below meth c H locs (s_nx S - s_nx S0) (s_sl S - s_sl S0) Q (F0 m pc ls (.ref a :: rest)) := by
  have h := hJ.2.1.at (a := a) (by rw [hk]; decide)
  rw [wE_X9 hk] at h
  exact jq_rdf hX h ly_X9 rfl (k := 0) (by decide) hl (by rw [← hx]; rfl) hdg kk
theorem gn_X9_result {S0 S : wS} {x : Int32} {host : String} (hX : jq_X D Y aR A p s m args meth c cc own nm mx rt) (hJ : wJ D Y A s S0 S H locs) (hk : s_K S a = 8) (hx : s_I S 12 a = x) (hl : Cond.fieldLinkNest own index "ScoreHandles$Type" "result" "I" host ∈ lw_nest) (hdg : decode cc pc = .ok (.getfield index, 3)) (kk : W p l e R s m args below meth c H locs (s_nx S - s_nx S0) (s_sl S - s_sl S0) Q (F0 m (pc + 3) ls (.int x :: rest))) : W p l e R s m args below meth c H locs (s_nx S - s_nx S0) (s_sl S - s_sl S0) Q (F0 m pc ls (.ref a :: rest)) := by
  have h := hJ.2.1.at (a := a) (by rw [hk]; decide)
  rw [wE_X9 hk] at h
  exact jq_rdfN hX h ly_X9 rfl (k := 0) (by decide) hl (by rw [← hx]; rfl) hdg kk
theorem pf_X9_result {S0 S S1 : wS} {v : Int32} (hX : jq_X D Y aR A p s m args meth c cc own nm mx rt) (hJ : wJ D Y A s S0 S H locs) (hk : s_K S a = 8) (hx : s_pI S 12 a v = S1) (hn : nm = "<init>") (ho : (TX9 0).1 = own) (hl : Cond.fieldLink own index "ScoreHandles$Type" "result" "I" ∈ lw_all) (hdg : decode cc pc = .ok (.putfield index, 3)) (kk : ∀ (H1 : Heap) (locs1 : List Loc), wJ D Y A s S0 S1 H1 locs1 → W p l e R s m args below meth c H1 locs1 (s_nx S1 - s_nx S0) (s_sl S1 - s_sl S0) Q (F0 m (pc + 3) ls rest)) : W p l e R s m args below meth c H locs (s_nx S - s_nx S0) (s_sl S - s_sl S0) Q (F0 m pc ls (.int v :: .ref a :: rest)) := by
  subst hx
  have h := hJ.2.1.at (a := a) (by rw [hk]; decide)
  rw [wE_X9 hk] at h
  refine jq_wrf hX h ly_X9 tyX9_ok nmX9 rfl (k := 0) (by decide) hl (Or.inr ⟨rfl, hn, ho⟩) (ty := .int) (by decide +kernel) rfl rfl (by show _ < _; simp) hJ.2.2 (hJ.2.1.2 a (by rw [hk]; decide)).2 hdg (fun H1 locs1 h1 hz hq hS1 => kk H1 locs1 ⟨hJ.1, hJ.2.1.set (a := a) (by rw [hk]; decide) rfl rfl (fun b hb => wE_pI S 12 a _ hb) ?_ hz hq, hS1⟩)
  rw [wE_X9 (S := s_pI S 12 a _) hk]
  simp only [I_pI, L_pI, R_pI, and_true, if_true, reduceIte, Nat.reduceEqDiff, false_and]
  exact h1
theorem gf_X9_many {S0 S : wS} {x : Int32} (hX : jq_X D Y aR A p s m args meth c cc own nm mx rt) (hJ : wJ D Y A s S0 S H locs) (hk : s_K S a = 8) (hx : s_I S 13 a = x) (hl : Cond.fieldLink own index "ScoreHandles$Type" "many" "I" ∈ lw_all) (hdg : decode cc pc = .ok (.getfield index, 3)) (kk : W p l e R s m args below meth c H locs (s_nx S - s_nx S0) (s_sl S - s_sl S0) Q (F0 m (pc + 3) ls (.int x :: rest))) : W p l e R s m args below meth c H locs (s_nx S - s_nx S0) (s_sl S - s_sl S0) Q (F0 m pc ls (.ref a :: rest)) := by
  have h := hJ.2.1.at (a := a) (by rw [hk]; decide)
  rw [wE_X9 hk] at h
  exact jq_rdf hX h ly_X9 rfl (k := 1) (by decide) hl (by rw [← hx]; rfl) hdg kk
theorem gn_X9_many {S0 S : wS} {x : Int32} {host : String} (hX : jq_X D Y aR A p s m args meth c cc own nm mx rt) (hJ : wJ D Y A s S0 S H locs) (hk : s_K S a = 8) (hx : s_I S 13 a = x) (hl : Cond.fieldLinkNest own index "ScoreHandles$Type" "many" "I" host ∈ lw_nest) (hdg : decode cc pc = .ok (.getfield index, 3)) (kk : W p l e R s m args below meth c H locs (s_nx S - s_nx S0) (s_sl S - s_sl S0) Q (F0 m (pc + 3) ls (.int x :: rest))) : W p l e R s m args below meth c H locs (s_nx S - s_nx S0) (s_sl S - s_sl S0) Q (F0 m pc ls (.ref a :: rest)) := by
  have h := hJ.2.1.at (a := a) (by rw [hk]; decide)
  rw [wE_X9 hk] at h
  exact jq_rdfN hX h ly_X9 rfl (k := 1) (by decide) hl (by rw [← hx]; rfl) hdg kk
theorem pf_X9_many {S0 S S1 : wS} {v : Int32} (hX : jq_X D Y aR A p s m args meth c cc own nm mx rt) (hJ : wJ D Y A s S0 S H locs) (hk : s_K S a = 8) (hx : s_pI S 13 a v = S1) (hn : nm = "<init>") (ho : (TX9 1).1 = own) (hl : Cond.fieldLink own index "ScoreHandles$Type" "many" "I" ∈ lw_all) (hdg : decode cc pc = .ok (.putfield index, 3)) (kk : ∀ (H1 : Heap) (locs1 : List Loc), wJ D Y A s S0 S1 H1 locs1 → W p l e R s m args below meth c H1 locs1 (s_nx S1 - s_nx S0) (s_sl S1 - s_sl S0) Q (F0 m (pc + 3) ls rest)) : W p l e R s m args below meth c H locs (s_nx S - s_nx S0) (s_sl S - s_sl S0) Q (F0 m pc ls (.int v :: .ref a :: rest)) := by
  subst hx
  have h := hJ.2.1.at (a := a) (by rw [hk]; decide)
  rw [wE_X9 hk] at h
  refine jq_wrf hX h ly_X9 tyX9_ok nmX9 rfl (k := 1) (by decide) hl (Or.inr ⟨rfl, hn, ho⟩) (ty := .int) (by decide +kernel) rfl rfl (by show _ < _; simp) hJ.2.2 (hJ.2.1.2 a (by rw [hk]; decide)).2 hdg (fun H1 locs1 h1 hz hq hS1 => kk H1 locs1 ⟨hJ.1, hJ.2.1.set (a := a) (by rw [hk]; decide) rfl rfl (fun b hb => wE_pI S 13 a _ hb) ?_ hz hq, hS1⟩)
  rw [wE_X9 (S := s_pI S 13 a _) hk]
  simp only [I_pI, L_pI, R_pI, and_true, if_true, reduceIte, Nat.reduceEqDiff, false_and]
  exact h1
theorem gf_X9_kinds {S0 S : wS} {x : Option Nat} (hX : jq_X D Y aR A p s m args meth c cc own nm mx rt) (hJ : wJ D Y A s S0 S H locs) (hk : s_K S a = 8) (hx : s_R S 9 a = x) (hl : Cond.fieldLink own index "ScoreHandles$Type" "kinds" "[I" ∈ lw_all) (hdg : decode cc pc = .ok (.getfield index, 3)) (kk : W p l e R s m args below meth c H locs (s_nx S - s_nx S0) (s_sl S - s_sl S0) Q (F0 m (pc + 3) ls (va_rf x :: rest))) : W p l e R s m args below meth c H locs (s_nx S - s_nx S0) (s_sl S - s_sl S0) Q (F0 m pc ls (.ref a :: rest)) := by
  have h := hJ.2.1.at (a := a) (by rw [hk]; decide)
  rw [wE_X9 hk] at h
  exact jq_rdf hX h ly_X9 rfl (k := 2) (by decide) hl (by rw [← hx]; rfl) hdg kk
theorem gn_X9_kinds {S0 S : wS} {x : Option Nat} {host : String} (hX : jq_X D Y aR A p s m args meth c cc own nm mx rt) (hJ : wJ D Y A s S0 S H locs) (hk : s_K S a = 8) (hx : s_R S 9 a = x) (hl : Cond.fieldLinkNest own index "ScoreHandles$Type" "kinds" "[I" host ∈ lw_nest) (hdg : decode cc pc = .ok (.getfield index, 3)) (kk : W p l e R s m args below meth c H locs (s_nx S - s_nx S0) (s_sl S - s_sl S0) Q (F0 m (pc + 3) ls (va_rf x :: rest))) : W p l e R s m args below meth c H locs (s_nx S - s_nx S0) (s_sl S - s_sl S0) Q (F0 m pc ls (.ref a :: rest)) := by
  have h := hJ.2.1.at (a := a) (by rw [hk]; decide)
  rw [wE_X9 hk] at h
  exact jq_rdfN hX h ly_X9 rfl (k := 2) (by decide) hl (by rw [← hx]; rfl) hdg kk
theorem pf_X9_kinds {S0 S S1 : wS} {v : Nat} (hX : jq_X D Y aR A p s m args meth c cc own nm mx rt) (hJ : wJ D Y A s S0 S H locs) (hk : s_K S a = 8) (hx : s_pR S 9 a (some v) = S1) (hn : nm = "<init>") (ho : (TX9 2).1 = own) (hl : Cond.fieldLink own index "ScoreHandles$Type" "kinds" "[I" ∈ lw_all) (hdg : decode cc pc = .ok (.putfield index, 3)) (kk : ∀ (H1 : Heap) (locs1 : List Loc), wJ D Y A s S0 S1 H1 locs1 → W p l e R s m args below meth c H1 locs1 (s_nx S1 - s_nx S0) (s_sl S1 - s_sl S0) Q (F0 m (pc + 3) ls rest)) : W p l e R s m args below meth c H locs (s_nx S - s_nx S0) (s_sl S - s_sl S0) Q (F0 m pc ls (.ref v :: .ref a :: rest)) := by
  subst hx
  have h := hJ.2.1.at (a := a) (by rw [hk]; decide)
  rw [wE_X9 hk] at h
  refine jq_wrf hX h ly_X9 tyX9_ok nmX9 rfl (k := 2) (by decide) hl (Or.inr ⟨rfl, hn, ho⟩) (ty := (.array .int)) (by decide +kernel) rfl rfl (by show _ < _; simp) hJ.2.2 (hJ.2.1.2 a (by rw [hk]; decide)).2 hdg (fun H1 locs1 h1 hz hq hS1 => kk H1 locs1 ⟨hJ.1, hJ.2.1.set (a := a) (by rw [hk]; decide) rfl rfl (fun b hb => wE_pR S 9 a _ hb) ?_ hz hq, hS1⟩)
  rw [wE_X9 (S := s_pR S 9 a _) hk]
  simp only [I_pR, L_pR, R_pR, and_true, if_true, reduceIte, Nat.reduceEqDiff, false_and]
  exact h1
theorem gf_X10_rows {S0 S : wS} {x : Option Nat} (hX : jq_X D Y aR A p s m args meth c cc own nm mx rt) (hJ : wJ D Y A s S0 S H locs) (hk : s_K S a = 9) (hx : s_R S 10 a = x) (hl : Cond.fieldLink own index "ScoreHandles" "rows" "LScoreHandles$Rows;" ∈ lw_all) (hdg : decode cc pc = .ok (.getfield index, 3)) (kk : W p l e R s m args below meth c H locs (s_nx S - s_nx S0) (s_sl S - s_sl S0) Q (F0 m (pc + 3) ls (va_rf x :: rest))) : W p l e R s m args below meth c H locs (s_nx S - s_nx S0) (s_sl S - s_sl S0) Q (F0 m pc ls (.ref a :: rest)) := by
  have h := hJ.2.1.at (a := a) (by rw [hk]; decide)
  rw [wE_X10 hk] at h
  exact jq_rdf hX h ly_X10 rfl (k := 0) (by decide) hl (by rw [← hx]; rfl) hdg kk
theorem pf_X10_rows {S0 S S1 : wS} {v : Nat} (hX : jq_X D Y aR A p s m args meth c cc own nm mx rt) (hJ : wJ D Y A s S0 S H locs) (hk : s_K S a = 9) (hx : s_pR S 10 a (some v) = S1) (hn : nm = "<init>") (ho : (TX10 0).1 = own) (hl : Cond.fieldLink own index "ScoreHandles" "rows" "LScoreHandles$Rows;" ∈ lw_all) (hdg : decode cc pc = .ok (.putfield index, 3)) (kk : ∀ (H1 : Heap) (locs1 : List Loc), wJ D Y A s S0 S1 H1 locs1 → W p l e R s m args below meth c H1 locs1 (s_nx S1 - s_nx S0) (s_sl S1 - s_sl S0) Q (F0 m (pc + 3) ls rest)) : W p l e R s m args below meth c H locs (s_nx S - s_nx S0) (s_sl S - s_sl S0) Q (F0 m pc ls (.ref v :: .ref a :: rest)) := by
  subst hx
  have h := hJ.2.1.at (a := a) (by rw [hk]; decide)
  rw [wE_X10 hk] at h
  refine jq_wrf hX h ly_X10 tyX10_ok nmX10 rfl (k := 0) (by decide) hl (Or.inr ⟨rfl, hn, ho⟩) (ty := (.object "ScoreHandles$Rows")) (by decide +kernel) rfl rfl (by show _ < _; simp) hJ.2.2 (hJ.2.1.2 a (by rw [hk]; decide)).2 hdg (fun H1 locs1 h1 hz hq hS1 => kk H1 locs1 ⟨hJ.1, hJ.2.1.set (a := a) (by rw [hk]; decide) rfl rfl (fun b hb => wE_pR S 10 a _ hb) ?_ hz hq, hS1⟩)
  rw [wE_X10 (S := s_pR S 10 a _) hk]
  simp only [I_pR, L_pR, R_pR, and_true, if_true, reduceIte, Nat.reduceEqDiff, false_and]
  exact h1
theorem gf_X10_handles {S0 S : wS} {x : Option Nat} (hX : jq_X D Y aR A p s m args meth c cc own nm mx rt) (hJ : wJ D Y A s S0 S H locs) (hk : s_K S a = 9) (hx : s_R S 11 a = x) (hl : Cond.fieldLink own index "ScoreHandles" "handles" "LScoreHandles$Handles;" ∈ lw_all) (hdg : decode cc pc = .ok (.getfield index, 3)) (kk : W p l e R s m args below meth c H locs (s_nx S - s_nx S0) (s_sl S - s_sl S0) Q (F0 m (pc + 3) ls (va_rf x :: rest))) : W p l e R s m args below meth c H locs (s_nx S - s_nx S0) (s_sl S - s_sl S0) Q (F0 m pc ls (.ref a :: rest)) := by
  have h := hJ.2.1.at (a := a) (by rw [hk]; decide)
  rw [wE_X10 hk] at h
  exact jq_rdf hX h ly_X10 rfl (k := 1) (by decide) hl (by rw [← hx]; rfl) hdg kk
theorem pf_X10_handles {S0 S S1 : wS} {v : Nat} (hX : jq_X D Y aR A p s m args meth c cc own nm mx rt) (hJ : wJ D Y A s S0 S H locs) (hk : s_K S a = 9) (hx : s_pR S 11 a (some v) = S1) (hn : nm = "<init>") (ho : (TX10 1).1 = own) (hl : Cond.fieldLink own index "ScoreHandles" "handles" "LScoreHandles$Handles;" ∈ lw_all) (hdg : decode cc pc = .ok (.putfield index, 3)) (kk : ∀ (H1 : Heap) (locs1 : List Loc), wJ D Y A s S0 S1 H1 locs1 → W p l e R s m args below meth c H1 locs1 (s_nx S1 - s_nx S0) (s_sl S1 - s_sl S0) Q (F0 m (pc + 3) ls rest)) : W p l e R s m args below meth c H locs (s_nx S - s_nx S0) (s_sl S - s_sl S0) Q (F0 m pc ls (.ref v :: .ref a :: rest)) := by
  subst hx
  have h := hJ.2.1.at (a := a) (by rw [hk]; decide)
  rw [wE_X10 hk] at h
  refine jq_wrf hX h ly_X10 tyX10_ok nmX10 rfl (k := 1) (by decide) hl (Or.inr ⟨rfl, hn, ho⟩) (ty := (.object "ScoreHandles$Handles")) (by decide +kernel) rfl rfl (by show _ < _; simp) hJ.2.2 (hJ.2.1.2 a (by rw [hk]; decide)).2 hdg (fun H1 locs1 h1 hz hq hS1 => kk H1 locs1 ⟨hJ.1, hJ.2.1.set (a := a) (by rw [hk]; decide) rfl rfl (fun b hb => wE_pR S 11 a _ hb) ?_ hz hq, hS1⟩)
  rw [wE_X10 (S := s_pR S 11 a _) hk]
  simp only [I_pR, L_pR, R_pR, and_true, if_true, reduceIte, Nat.reduceEqDiff, false_and]
  exact h1
theorem gf_X10_maker {S0 S : wS} {x : Option Nat} (hX : jq_X D Y aR A p s m args meth c cc own nm mx rt) (hJ : wJ D Y A s S0 S H locs) (hk : s_K S a = 9) (hx : s_R S 12 a = x) (hl : Cond.fieldLink own index "ScoreHandles" "maker" "LScoreHandles$Maker;" ∈ lw_all) (hdg : decode cc pc = .ok (.getfield index, 3)) (kk : W p l e R s m args below meth c H locs (s_nx S - s_nx S0) (s_sl S - s_sl S0) Q (F0 m (pc + 3) ls (va_rf x :: rest))) : W p l e R s m args below meth c H locs (s_nx S - s_nx S0) (s_sl S - s_sl S0) Q (F0 m pc ls (.ref a :: rest)) := by
  have h := hJ.2.1.at (a := a) (by rw [hk]; decide)
  rw [wE_X10 hk] at h
  exact jq_rdf hX h ly_X10 rfl (k := 2) (by decide) hl (by rw [← hx]; rfl) hdg kk
theorem pf_X10_maker {S0 S S1 : wS} {v : Nat} (hX : jq_X D Y aR A p s m args meth c cc own nm mx rt) (hJ : wJ D Y A s S0 S H locs) (hk : s_K S a = 9) (hx : s_pR S 12 a (some v) = S1) (hn : nm = "<init>") (ho : (TX10 2).1 = own) (hl : Cond.fieldLink own index "ScoreHandles" "maker" "LScoreHandles$Maker;" ∈ lw_all) (hdg : decode cc pc = .ok (.putfield index, 3)) (kk : ∀ (H1 : Heap) (locs1 : List Loc), wJ D Y A s S0 S1 H1 locs1 → W p l e R s m args below meth c H1 locs1 (s_nx S1 - s_nx S0) (s_sl S1 - s_sl S0) Q (F0 m (pc + 3) ls rest)) : W p l e R s m args below meth c H locs (s_nx S - s_nx S0) (s_sl S - s_sl S0) Q (F0 m pc ls (.ref v :: .ref a :: rest)) := by
  subst hx
  have h := hJ.2.1.at (a := a) (by rw [hk]; decide)
  rw [wE_X10 hk] at h
  refine jq_wrf hX h ly_X10 tyX10_ok nmX10 rfl (k := 2) (by decide) hl (Or.inr ⟨rfl, hn, ho⟩) (ty := (.object "ScoreHandles$Maker")) (by decide +kernel) rfl rfl (by show _ < _; simp) hJ.2.2 (hJ.2.1.2 a (by rw [hk]; decide)).2 hdg (fun H1 locs1 h1 hz hq hS1 => kk H1 locs1 ⟨hJ.1, hJ.2.1.set (a := a) (by rw [hk]; decide) rfl rfl (fun b hb => wE_pR S 12 a _ hb) ?_ hz hq, hS1⟩)
  rw [wE_X10 (S := s_pR S 12 a _) hk]
  simp only [I_pR, L_pR, R_pR, and_true, if_true, reduceIte, Nat.reduceEqDiff, false_and]
  exact h1
theorem gf_X10_runner {S0 S : wS} {x : Option Nat} (hX : jq_X D Y aR A p s m args meth c cc own nm mx rt) (hJ : wJ D Y A s S0 S H locs) (hk : s_K S a = 9) (hx : s_R S 13 a = x) (hl : Cond.fieldLink own index "ScoreHandles" "runner" "LScoreHandles$Runner;" ∈ lw_all) (hdg : decode cc pc = .ok (.getfield index, 3)) (kk : W p l e R s m args below meth c H locs (s_nx S - s_nx S0) (s_sl S - s_sl S0) Q (F0 m (pc + 3) ls (va_rf x :: rest))) : W p l e R s m args below meth c H locs (s_nx S - s_nx S0) (s_sl S - s_sl S0) Q (F0 m pc ls (.ref a :: rest)) := by
  have h := hJ.2.1.at (a := a) (by rw [hk]; decide)
  rw [wE_X10 hk] at h
  exact jq_rdf hX h ly_X10 rfl (k := 3) (by decide) hl (by rw [← hx]; rfl) hdg kk
theorem pf_X10_runner {S0 S S1 : wS} {v : Nat} (hX : jq_X D Y aR A p s m args meth c cc own nm mx rt) (hJ : wJ D Y A s S0 S H locs) (hk : s_K S a = 9) (hx : s_pR S 13 a (some v) = S1) (hn : nm = "<init>") (ho : (TX10 3).1 = own) (hl : Cond.fieldLink own index "ScoreHandles" "runner" "LScoreHandles$Runner;" ∈ lw_all) (hdg : decode cc pc = .ok (.putfield index, 3)) (kk : ∀ (H1 : Heap) (locs1 : List Loc), wJ D Y A s S0 S1 H1 locs1 → W p l e R s m args below meth c H1 locs1 (s_nx S1 - s_nx S0) (s_sl S1 - s_sl S0) Q (F0 m (pc + 3) ls rest)) : W p l e R s m args below meth c H locs (s_nx S - s_nx S0) (s_sl S - s_sl S0) Q (F0 m pc ls (.ref v :: .ref a :: rest)) := by
  subst hx
  have h := hJ.2.1.at (a := a) (by rw [hk]; decide)
  rw [wE_X10 hk] at h
  refine jq_wrf hX h ly_X10 tyX10_ok nmX10 rfl (k := 3) (by decide) hl (Or.inr ⟨rfl, hn, ho⟩) (ty := (.object "ScoreHandles$Runner")) (by decide +kernel) rfl rfl (by show _ < _; simp) hJ.2.2 (hJ.2.1.2 a (by rw [hk]; decide)).2 hdg (fun H1 locs1 h1 hz hq hS1 => kk H1 locs1 ⟨hJ.1, hJ.2.1.set (a := a) (by rw [hk]; decide) rfl rfl (fun b hb => wE_pR S 13 a _ hb) ?_ hz hq, hS1⟩)
  rw [wE_X10 (S := s_pR S 13 a _) hk]
  simp only [I_pR, L_pR, R_pR, and_true, if_true, reduceIte, Nat.reduceEqDiff, false_and]
  exact h1
theorem gf_X10_numbers {S0 S : wS} {x : Option Nat} (hX : jq_X D Y aR A p s m args meth c cc own nm mx rt) (hJ : wJ D Y A s S0 S H locs) (hk : s_K S a = 9) (hx : s_R S 14 a = x) (hl : Cond.fieldLink own index "ScoreHandles" "numbers" "[J" ∈ lw_all) (hdg : decode cc pc = .ok (.getfield index, 3)) (kk : W p l e R s m args below meth c H locs (s_nx S - s_nx S0) (s_sl S - s_sl S0) Q (F0 m (pc + 3) ls (va_rf x :: rest))) : W p l e R s m args below meth c H locs (s_nx S - s_nx S0) (s_sl S - s_sl S0) Q (F0 m pc ls (.ref a :: rest)) := by
  have h := hJ.2.1.at (a := a) (by rw [hk]; decide)
  rw [wE_X10 hk] at h
  exact jq_rdf hX h ly_X10 rfl (k := 4) (by decide) hl (by rw [← hx]; rfl) hdg kk
theorem pf_X10_numbers {S0 S S1 : wS} {v : Nat} (hX : jq_X D Y aR A p s m args meth c cc own nm mx rt) (hJ : wJ D Y A s S0 S H locs) (hk : s_K S a = 9) (hx : s_pR S 14 a (some v) = S1) (hn : nm = "<init>") (ho : (TX10 4).1 = own) (hl : Cond.fieldLink own index "ScoreHandles" "numbers" "[J" ∈ lw_all) (hdg : decode cc pc = .ok (.putfield index, 3)) (kk : ∀ (H1 : Heap) (locs1 : List Loc), wJ D Y A s S0 S1 H1 locs1 → W p l e R s m args below meth c H1 locs1 (s_nx S1 - s_nx S0) (s_sl S1 - s_sl S0) Q (F0 m (pc + 3) ls rest)) : W p l e R s m args below meth c H locs (s_nx S - s_nx S0) (s_sl S - s_sl S0) Q (F0 m pc ls (.ref v :: .ref a :: rest)) := by
  subst hx
  have h := hJ.2.1.at (a := a) (by rw [hk]; decide)
  rw [wE_X10 hk] at h
  refine jq_wrf hX h ly_X10 tyX10_ok nmX10 rfl (k := 4) (by decide) hl (Or.inr ⟨rfl, hn, ho⟩) (ty := (.array .long)) (by decide +kernel) rfl rfl (by show _ < _; simp) hJ.2.2 (hJ.2.1.2 a (by rw [hk]; decide)).2 hdg (fun H1 locs1 h1 hz hq hS1 => kk H1 locs1 ⟨hJ.1, hJ.2.1.set (a := a) (by rw [hk]; decide) rfl rfl (fun b hb => wE_pR S 14 a _ hb) ?_ hz hq, hS1⟩)
  rw [wE_X10 (S := s_pR S 14 a _) hk]
  simp only [I_pR, L_pR, R_pR, and_true, if_true, reduceIte, Nat.reduceEqDiff, false_and]
  exact h1
theorem gf_X10_atHand {S0 S : wS} {x : Option Nat} (hX : jq_X D Y aR A p s m args meth c cc own nm mx rt) (hJ : wJ D Y A s S0 S H locs) (hk : s_K S a = 9) (hx : s_R S 15 a = x) (hl : Cond.fieldLink own index "ScoreHandles" "atHand" "LScoreHandles$Type;" ∈ lw_all) (hdg : decode cc pc = .ok (.getfield index, 3)) (kk : W p l e R s m args below meth c H locs (s_nx S - s_nx S0) (s_sl S - s_sl S0) Q (F0 m (pc + 3) ls (va_rf x :: rest))) : W p l e R s m args below meth c H locs (s_nx S - s_nx S0) (s_sl S - s_sl S0) Q (F0 m pc ls (.ref a :: rest)) := by
  have h := hJ.2.1.at (a := a) (by rw [hk]; decide)
  rw [wE_X10 hk] at h
  exact jq_rdf hX h ly_X10 rfl (k := 5) (by decide) hl (by rw [← hx]; rfl) hdg kk
theorem pf_X10_atHand {S0 S S1 : wS} {v : Nat} (hX : jq_X D Y aR A p s m args meth c cc own nm mx rt) (hJ : wJ D Y A s S0 S H locs) (hk : s_K S a = 9) (hx : s_pR S 15 a (some v) = S1) (hl : Cond.fieldLink own index "ScoreHandles" "atHand" "LScoreHandles$Type;" ∈ lw_all) (hdg : decode cc pc = .ok (.putfield index, 3)) (kk : ∀ (H1 : Heap) (locs1 : List Loc), wJ D Y A s S0 S1 H1 locs1 → W p l e R s m args below meth c H1 locs1 (s_nx S1 - s_nx S0) (s_sl S1 - s_sl S0) Q (F0 m (pc + 3) ls rest)) : W p l e R s m args below meth c H locs (s_nx S - s_nx S0) (s_sl S - s_sl S0) Q (F0 m pc ls (.ref v :: .ref a :: rest)) := by
  subst hx
  have h := hJ.2.1.at (a := a) (by rw [hk]; decide)
  rw [wE_X10 hk] at h
  refine jq_wrf hX h ly_X10 tyX10_ok nmX10 rfl (k := 5) (by decide) hl (Or.inl rfl) (ty := (.object "ScoreHandles$Type")) (by decide +kernel) rfl rfl (by show _ < _; simp) hJ.2.2 (hJ.2.1.2 a (by rw [hk]; decide)).2 hdg (fun H1 locs1 h1 hz hq hS1 => kk H1 locs1 ⟨hJ.1, hJ.2.1.set (a := a) (by rw [hk]; decide) rfl rfl (fun b hb => wE_pR S 15 a _ hb) ?_ hz hq, hS1⟩)
  rw [wE_X10 (S := s_pR S 15 a _) hk]
  simp only [I_pR, L_pR, R_pR, and_true, if_true, reduceIte, Nat.reduceEqDiff, false_and]
  exact h1
theorem gf_X10_result {S0 S : wS} {x : Int64} (hX : jq_X D Y aR A p s m args meth c cc own nm mx rt) (hJ : wJ D Y A s S0 S H locs) (hk : s_K S a = 9) (hx : s_L S 1 a = x) (hl : Cond.fieldLink own index "ScoreHandles" "result" "J" ∈ lw_all) (hdg : decode cc pc = .ok (.getfield index, 3)) (kk : W p l e R s m args below meth c H locs (s_nx S - s_nx S0) (s_sl S - s_sl S0) Q (F0 m (pc + 3) ls (.long x :: rest))) : W p l e R s m args below meth c H locs (s_nx S - s_nx S0) (s_sl S - s_sl S0) Q (F0 m pc ls (.ref a :: rest)) := by
  have h := hJ.2.1.at (a := a) (by rw [hk]; decide)
  rw [wE_X10 hk] at h
  exact jq_rdf hX h ly_X10 rfl (k := 6) (by decide) hl (by rw [← hx]; rfl) hdg kk
theorem pf_X10_result {S0 S S1 : wS} {v : Int64} (hX : jq_X D Y aR A p s m args meth c cc own nm mx rt) (hJ : wJ D Y A s S0 S H locs) (hk : s_K S a = 9) (hx : s_pL S 1 a v = S1) (hl : Cond.fieldLink own index "ScoreHandles" "result" "J" ∈ lw_all) (hdg : decode cc pc = .ok (.putfield index, 3)) (kk : ∀ (H1 : Heap) (locs1 : List Loc), wJ D Y A s S0 S1 H1 locs1 → W p l e R s m args below meth c H1 locs1 (s_nx S1 - s_nx S0) (s_sl S1 - s_sl S0) Q (F0 m (pc + 3) ls rest)) : W p l e R s m args below meth c H locs (s_nx S - s_nx S0) (s_sl S - s_sl S0) Q (F0 m pc ls (.long v :: .ref a :: rest)) := by
  subst hx
  have h := hJ.2.1.at (a := a) (by rw [hk]; decide)
  rw [wE_X10 hk] at h
  refine jq_wrf hX h ly_X10 tyX10_ok nmX10 rfl (k := 6) (by decide) hl (Or.inl rfl) (ty := .long) (by decide +kernel) rfl rfl (by show _ < _; simp) hJ.2.2 (hJ.2.1.2 a (by rw [hk]; decide)).2 hdg (fun H1 locs1 h1 hz hq hS1 => kk H1 locs1 ⟨hJ.1, hJ.2.1.set (a := a) (by rw [hk]; decide) rfl rfl (fun b hb => wE_pL S 1 a _ hb) ?_ hz hq, hS1⟩)
  rw [wE_X10 (S := s_pL S 1 a _) hk]
  simp only [I_pL, L_pL, R_pL, and_true, if_true, reduceIte, Nat.reduceEqDiff, false_and]
  exact h1
theorem gf_X10_runs {S0 S : wS} {x : Int32} (hX : jq_X D Y aR A p s m args meth c cc own nm mx rt) (hJ : wJ D Y A s S0 S H locs) (hk : s_K S a = 9) (hx : s_I S 14 a = x) (hl : Cond.fieldLink own index "ScoreHandles" "runs" "I" ∈ lw_all) (hdg : decode cc pc = .ok (.getfield index, 3)) (kk : W p l e R s m args below meth c H locs (s_nx S - s_nx S0) (s_sl S - s_sl S0) Q (F0 m (pc + 3) ls (.int x :: rest))) : W p l e R s m args below meth c H locs (s_nx S - s_nx S0) (s_sl S - s_sl S0) Q (F0 m pc ls (.ref a :: rest)) := by
  have h := hJ.2.1.at (a := a) (by rw [hk]; decide)
  rw [wE_X10 hk] at h
  exact jq_rdf hX h ly_X10 rfl (k := 7) (by decide) hl (by rw [← hx]; rfl) hdg kk
theorem pf_X10_runs {S0 S S1 : wS} {v : Int32} (hX : jq_X D Y aR A p s m args meth c cc own nm mx rt) (hJ : wJ D Y A s S0 S H locs) (hk : s_K S a = 9) (hx : s_pI S 14 a v = S1) (hl : Cond.fieldLink own index "ScoreHandles" "runs" "I" ∈ lw_all) (hdg : decode cc pc = .ok (.putfield index, 3)) (kk : ∀ (H1 : Heap) (locs1 : List Loc), wJ D Y A s S0 S1 H1 locs1 → W p l e R s m args below meth c H1 locs1 (s_nx S1 - s_nx S0) (s_sl S1 - s_sl S0) Q (F0 m (pc + 3) ls rest)) : W p l e R s m args below meth c H locs (s_nx S - s_nx S0) (s_sl S - s_sl S0) Q (F0 m pc ls (.int v :: .ref a :: rest)) := by
  subst hx
  have h := hJ.2.1.at (a := a) (by rw [hk]; decide)
  rw [wE_X10 hk] at h
  refine jq_wrf hX h ly_X10 tyX10_ok nmX10 rfl (k := 7) (by decide) hl (Or.inl rfl) (ty := .int) (by decide +kernel) rfl rfl (by show _ < _; simp) hJ.2.2 (hJ.2.1.2 a (by rw [hk]; decide)).2 hdg (fun H1 locs1 h1 hz hq hS1 => kk H1 locs1 ⟨hJ.1, hJ.2.1.set (a := a) (by rw [hk]; decide) rfl rfl (fun b hb => wE_pI S 14 a _ hb) ?_ hz hq, hS1⟩)
  rw [wE_X10 (S := s_pI S 14 a _) hk]
  simp only [I_pI, L_pI, R_pI, and_true, if_true, reduceIte, Nat.reduceEqDiff, false_and]
  exact h1
theorem pf_X11_rows {S0 S S1 : wS} {v : Int32} (hX : jq_X D Y aR A p s m args meth c cc own nm mx rt) (hJ : wJ D Y A s S0 S H locs) (hk : s_K S a = 10) (hx : s_pI S 15 a v = S1) (hl : Cond.fieldLink own index "ScoreHandlesModel" "rows" "I" ∈ lw_all) (hdg : decode cc pc = .ok (.putfield index, 3)) (kk : ∀ (H1 : Heap) (locs1 : List Loc), wJ D Y A s S0 S1 H1 locs1 → W p l e R s m args below meth c H1 locs1 (s_nx S1 - s_nx S0) (s_sl S1 - s_sl S0) Q (F0 m (pc + 3) ls rest)) : W p l e R s m args below meth c H locs (s_nx S - s_nx S0) (s_sl S - s_sl S0) Q (F0 m pc ls (.int v :: .ref a :: rest)) := by
  subst hx
  have h := hJ.2.1.at (a := a) (by rw [hk]; decide)
  rw [wE_X11 hk] at h
  refine jq_wrf hX h ly_X11 tyX11_ok nmX11 rfl (k := 0) (by decide) hl (Or.inl rfl) (ty := .int) (by decide +kernel) rfl rfl (by show _ < _; simp) hJ.2.2 (hJ.2.1.2 a (by rw [hk]; decide)).2 hdg (fun H1 locs1 h1 hz hq hS1 => kk H1 locs1 ⟨hJ.1, hJ.2.1.set (a := a) (by rw [hk]; decide) rfl rfl (fun b hb => wE_pI S 15 a _ hb) ?_ hz hq, hS1⟩)
  rw [wE_X11 (S := s_pI S 15 a _) hk]
  simp only [I_pI, L_pI, R_pI, and_true, if_true, reduceIte, Nat.reduceEqDiff, false_and]
  exact h1
theorem pf_X11_laneOf {S0 S S1 : wS} {v : Nat} (hX : jq_X D Y aR A p s m args meth c cc own nm mx rt) (hJ : wJ D Y A s S0 S H locs) (hk : s_K S a = 10) (hx : s_pR S 16 a (some v) = S1) (hn : nm = "<init>") (ho : (TX11 1).1 = own) (hl : Cond.fieldLink own index "ScoreHandlesModel" "laneOf" "[I" ∈ lw_all) (hdg : decode cc pc = .ok (.putfield index, 3)) (kk : ∀ (H1 : Heap) (locs1 : List Loc), wJ D Y A s S0 S1 H1 locs1 → W p l e R s m args below meth c H1 locs1 (s_nx S1 - s_nx S0) (s_sl S1 - s_sl S0) Q (F0 m (pc + 3) ls rest)) : W p l e R s m args below meth c H locs (s_nx S - s_nx S0) (s_sl S - s_sl S0) Q (F0 m pc ls (.ref v :: .ref a :: rest)) := by
  subst hx
  have h := hJ.2.1.at (a := a) (by rw [hk]; decide)
  rw [wE_X11 hk] at h
  refine jq_wrf hX h ly_X11 tyX11_ok nmX11 rfl (k := 1) (by decide) hl (Or.inr ⟨rfl, hn, ho⟩) (ty := (.array .int)) (by decide +kernel) rfl rfl (by show _ < _; simp) hJ.2.2 (hJ.2.1.2 a (by rw [hk]; decide)).2 hdg (fun H1 locs1 h1 hz hq hS1 => kk H1 locs1 ⟨hJ.1, hJ.2.1.set (a := a) (by rw [hk]; decide) rfl rfl (fun b hb => wE_pR S 16 a _ hb) ?_ hz hq, hS1⟩)
  rw [wE_X11 (S := s_pR S 16 a _) hk]
  simp only [I_pR, L_pR, R_pR, and_true, if_true, reduceIte, Nat.reduceEqDiff, false_and]
  exact h1
theorem pf_X11_sizeOf {S0 S S1 : wS} {v : Nat} (hX : jq_X D Y aR A p s m args meth c cc own nm mx rt) (hJ : wJ D Y A s S0 S H locs) (hk : s_K S a = 10) (hx : s_pR S 17 a (some v) = S1) (hn : nm = "<init>") (ho : (TX11 2).1 = own) (hl : Cond.fieldLink own index "ScoreHandlesModel" "sizeOf" "[I" ∈ lw_all) (hdg : decode cc pc = .ok (.putfield index, 3)) (kk : ∀ (H1 : Heap) (locs1 : List Loc), wJ D Y A s S0 S1 H1 locs1 → W p l e R s m args below meth c H1 locs1 (s_nx S1 - s_nx S0) (s_sl S1 - s_sl S0) Q (F0 m (pc + 3) ls rest)) : W p l e R s m args below meth c H locs (s_nx S - s_nx S0) (s_sl S - s_sl S0) Q (F0 m pc ls (.ref v :: .ref a :: rest)) := by
  subst hx
  have h := hJ.2.1.at (a := a) (by rw [hk]; decide)
  rw [wE_X11 hk] at h
  refine jq_wrf hX h ly_X11 tyX11_ok nmX11 rfl (k := 2) (by decide) hl (Or.inr ⟨rfl, hn, ho⟩) (ty := (.array .int)) (by decide +kernel) rfl rfl (by show _ < _; simp) hJ.2.2 (hJ.2.1.2 a (by rw [hk]; decide)).2 hdg (fun H1 locs1 h1 hz hq hS1 => kk H1 locs1 ⟨hJ.1, hJ.2.1.set (a := a) (by rw [hk]; decide) rfl rfl (fun b hb => wE_pR S 17 a _ hb) ?_ hz hq, hS1⟩)
  rw [wE_X11 (S := s_pR S 17 a _) hk]
  simp only [I_pR, L_pR, R_pR, and_true, if_true, reduceIte, Nat.reduceEqDiff, false_and]
  exact h1
theorem pf_X11_items {S0 S S1 : wS} {v : Nat} (hX : jq_X D Y aR A p s m args meth c cc own nm mx rt) (hJ : wJ D Y A s S0 S H locs) (hk : s_K S a = 10) (hx : s_pR S 18 a (some v) = S1) (hn : nm = "<init>") (ho : (TX11 3).1 = own) (hl : Cond.fieldLink own index "ScoreHandlesModel" "items" "[J" ∈ lw_all) (hdg : decode cc pc = .ok (.putfield index, 3)) (kk : ∀ (H1 : Heap) (locs1 : List Loc), wJ D Y A s S0 S1 H1 locs1 → W p l e R s m args below meth c H1 locs1 (s_nx S1 - s_nx S0) (s_sl S1 - s_sl S0) Q (F0 m (pc + 3) ls rest)) : W p l e R s m args below meth c H locs (s_nx S - s_nx S0) (s_sl S - s_sl S0) Q (F0 m pc ls (.ref v :: .ref a :: rest)) := by
  subst hx
  have h := hJ.2.1.at (a := a) (by rw [hk]; decide)
  rw [wE_X11 hk] at h
  refine jq_wrf hX h ly_X11 tyX11_ok nmX11 rfl (k := 3) (by decide) hl (Or.inr ⟨rfl, hn, ho⟩) (ty := (.array .long)) (by decide +kernel) rfl rfl (by show _ < _; simp) hJ.2.2 (hJ.2.1.2 a (by rw [hk]; decide)).2 hdg (fun H1 locs1 h1 hz hq hS1 => kk H1 locs1 ⟨hJ.1, hJ.2.1.set (a := a) (by rw [hk]; decide) rfl rfl (fun b hb => wE_pR S 18 a _ hb) ?_ hz hq, hS1⟩)
  rw [wE_X11 (S := s_pR S 18 a _) hk]
  simp only [I_pR, L_pR, R_pR, and_true, if_true, reduceIte, Nat.reduceEqDiff, false_and]
  exact h1
theorem pf_X11_handResult {S0 S S1 : wS} {v : Int32} (hX : jq_X D Y aR A p s m args meth c cc own nm mx rt) (hJ : wJ D Y A s S0 S H locs) (hk : s_K S a = 10) (hx : s_pI S 16 a v = S1) (hl : Cond.fieldLink own index "ScoreHandlesModel" "handResult" "I" ∈ lw_all) (hdg : decode cc pc = .ok (.putfield index, 3)) (kk : ∀ (H1 : Heap) (locs1 : List Loc), wJ D Y A s S0 S1 H1 locs1 → W p l e R s m args below meth c H1 locs1 (s_nx S1 - s_nx S0) (s_sl S1 - s_sl S0) Q (F0 m (pc + 3) ls rest)) : W p l e R s m args below meth c H locs (s_nx S - s_nx S0) (s_sl S - s_sl S0) Q (F0 m pc ls (.int v :: .ref a :: rest)) := by
  subst hx
  have h := hJ.2.1.at (a := a) (by rw [hk]; decide)
  rw [wE_X11 hk] at h
  refine jq_wrf hX h ly_X11 tyX11_ok nmX11 rfl (k := 4) (by decide) hl (Or.inl rfl) (ty := .int) (by decide +kernel) rfl rfl (by show _ < _; simp) hJ.2.2 (hJ.2.1.2 a (by rw [hk]; decide)).2 hdg (fun H1 locs1 h1 hz hq hS1 => kk H1 locs1 ⟨hJ.1, hJ.2.1.set (a := a) (by rw [hk]; decide) rfl rfl (fun b hb => wE_pI S 16 a _ hb) ?_ hz hq, hS1⟩)
  rw [wE_X11 (S := s_pI S 16 a _) hk]
  simp only [I_pI, L_pI, R_pI, and_true, if_true, reduceIte, Nat.reduceEqDiff, false_and]
  exact h1
theorem pf_X11_handMany {S0 S S1 : wS} {v : Int32} (hX : jq_X D Y aR A p s m args meth c cc own nm mx rt) (hJ : wJ D Y A s S0 S H locs) (hk : s_K S a = 10) (hx : s_pI S 17 a v = S1) (hl : Cond.fieldLink own index "ScoreHandlesModel" "handMany" "I" ∈ lw_all) (hdg : decode cc pc = .ok (.putfield index, 3)) (kk : ∀ (H1 : Heap) (locs1 : List Loc), wJ D Y A s S0 S1 H1 locs1 → W p l e R s m args below meth c H1 locs1 (s_nx S1 - s_nx S0) (s_sl S1 - s_sl S0) Q (F0 m (pc + 3) ls rest)) : W p l e R s m args below meth c H locs (s_nx S - s_nx S0) (s_sl S - s_sl S0) Q (F0 m pc ls (.int v :: .ref a :: rest)) := by
  subst hx
  have h := hJ.2.1.at (a := a) (by rw [hk]; decide)
  rw [wE_X11 hk] at h
  refine jq_wrf hX h ly_X11 tyX11_ok nmX11 rfl (k := 5) (by decide) hl (Or.inl rfl) (ty := .int) (by decide +kernel) rfl rfl (by show _ < _; simp) hJ.2.2 (hJ.2.1.2 a (by rw [hk]; decide)).2 hdg (fun H1 locs1 h1 hz hq hS1 => kk H1 locs1 ⟨hJ.1, hJ.2.1.set (a := a) (by rw [hk]; decide) rfl rfl (fun b hb => wE_pI S 17 a _ hb) ?_ hz hq, hS1⟩)
  rw [wE_X11 (S := s_pI S 17 a _) hk]
  simp only [I_pI, L_pI, R_pI, and_true, if_true, reduceIte, Nat.reduceEqDiff, false_and]
  exact h1
theorem pf_X11_handKind {S0 S S1 : wS} {v : Nat} (hX : jq_X D Y aR A p s m args meth c cc own nm mx rt) (hJ : wJ D Y A s S0 S H locs) (hk : s_K S a = 10) (hx : s_pR S 19 a (some v) = S1) (hn : nm = "<init>") (ho : (TX11 6).1 = own) (hl : Cond.fieldLink own index "ScoreHandlesModel" "handKind" "[I" ∈ lw_all) (hdg : decode cc pc = .ok (.putfield index, 3)) (kk : ∀ (H1 : Heap) (locs1 : List Loc), wJ D Y A s S0 S1 H1 locs1 → W p l e R s m args below meth c H1 locs1 (s_nx S1 - s_nx S0) (s_sl S1 - s_sl S0) Q (F0 m (pc + 3) ls rest)) : W p l e R s m args below meth c H locs (s_nx S - s_nx S0) (s_sl S - s_sl S0) Q (F0 m pc ls (.ref v :: .ref a :: rest)) := by
  subst hx
  have h := hJ.2.1.at (a := a) (by rw [hk]; decide)
  rw [wE_X11 hk] at h
  refine jq_wrf hX h ly_X11 tyX11_ok nmX11 rfl (k := 6) (by decide) hl (Or.inr ⟨rfl, hn, ho⟩) (ty := (.array .int)) (by decide +kernel) rfl rfl (by show _ < _; simp) hJ.2.2 (hJ.2.1.2 a (by rw [hk]; decide)).2 hdg (fun H1 locs1 h1 hz hq hS1 => kk H1 locs1 ⟨hJ.1, hJ.2.1.set (a := a) (by rw [hk]; decide) rfl rfl (fun b hb => wE_pR S 19 a _ hb) ?_ hz hq, hS1⟩)
  rw [wE_X11 (S := s_pR S 19 a _) hk]
  simp only [I_pR, L_pR, R_pR, and_true, if_true, reduceIte, Nat.reduceEqDiff, false_and]
  exact h1
theorem pf_X11_given {S0 S S1 : wS} {v : Nat} (hX : jq_X D Y aR A p s m args meth c cc own nm mx rt) (hJ : wJ D Y A s S0 S H locs) (hk : s_K S a = 10) (hx : s_pR S 20 a (some v) = S1) (hn : nm = "<init>") (ho : (TX11 7).1 = own) (hl : Cond.fieldLink own index "ScoreHandlesModel" "given" "[J" ∈ lw_all) (hdg : decode cc pc = .ok (.putfield index, 3)) (kk : ∀ (H1 : Heap) (locs1 : List Loc), wJ D Y A s S0 S1 H1 locs1 → W p l e R s m args below meth c H1 locs1 (s_nx S1 - s_nx S0) (s_sl S1 - s_sl S0) Q (F0 m (pc + 3) ls rest)) : W p l e R s m args below meth c H locs (s_nx S - s_nx S0) (s_sl S - s_sl S0) Q (F0 m pc ls (.ref v :: .ref a :: rest)) := by
  subst hx
  have h := hJ.2.1.at (a := a) (by rw [hk]; decide)
  rw [wE_X11 hk] at h
  refine jq_wrf hX h ly_X11 tyX11_ok nmX11 rfl (k := 7) (by decide) hl (Or.inr ⟨rfl, hn, ho⟩) (ty := (.array .long)) (by decide +kernel) rfl rfl (by show _ < _; simp) hJ.2.2 (hJ.2.1.2 a (by rw [hk]; decide)).2 hdg (fun H1 locs1 h1 hz hq hS1 => kk H1 locs1 ⟨hJ.1, hJ.2.1.set (a := a) (by rw [hk]; decide) rfl rfl (fun b hb => wE_pR S 20 a _ hb) ?_ hz hq, hS1⟩)
  rw [wE_X11 (S := s_pR S 20 a _) hk]
  simp only [I_pR, L_pR, R_pR, and_true, if_true, reduceIte, Nat.reduceEqDiff, false_and]
  exact h1
theorem pf_X11_handles {S0 S S1 : wS} {v : Int32} (hX : jq_X D Y aR A p s m args meth c cc own nm mx rt) (hJ : wJ D Y A s S0 S H locs) (hk : s_K S a = 10) (hx : s_pI S 18 a v = S1) (hl : Cond.fieldLink own index "ScoreHandlesModel" "handles" "I" ∈ lw_all) (hdg : decode cc pc = .ok (.putfield index, 3)) (kk : ∀ (H1 : Heap) (locs1 : List Loc), wJ D Y A s S0 S1 H1 locs1 → W p l e R s m args below meth c H1 locs1 (s_nx S1 - s_nx S0) (s_sl S1 - s_sl S0) Q (F0 m (pc + 3) ls rest)) : W p l e R s m args below meth c H locs (s_nx S - s_nx S0) (s_sl S - s_sl S0) Q (F0 m pc ls (.int v :: .ref a :: rest)) := by
  subst hx
  have h := hJ.2.1.at (a := a) (by rw [hk]; decide)
  rw [wE_X11 hk] at h
  refine jq_wrf hX h ly_X11 tyX11_ok nmX11 rfl (k := 8) (by decide) hl (Or.inl rfl) (ty := .int) (by decide +kernel) rfl rfl (by show _ < _; simp) hJ.2.2 (hJ.2.1.2 a (by rw [hk]; decide)).2 hdg (fun H1 locs1 h1 hz hq hS1 => kk H1 locs1 ⟨hJ.1, hJ.2.1.set (a := a) (by rw [hk]; decide) rfl rfl (fun b hb => wE_pI S 18 a _ hb) ?_ hz hq, hS1⟩)
  rw [wE_X11 (S := s_pI S 18 a _) hk]
  simp only [I_pI, L_pI, R_pI, and_true, if_true, reduceIte, Nat.reduceEqDiff, false_and]
  exact h1
theorem pf_X11_sortOf {S0 S S1 : wS} {v : Nat} (hX : jq_X D Y aR A p s m args meth c cc own nm mx rt) (hJ : wJ D Y A s S0 S H locs) (hk : s_K S a = 10) (hx : s_pR S 21 a (some v) = S1) (hn : nm = "<init>") (ho : (TX11 9).1 = own) (hl : Cond.fieldLink own index "ScoreHandlesModel" "sortOf" "[I" ∈ lw_all) (hdg : decode cc pc = .ok (.putfield index, 3)) (kk : ∀ (H1 : Heap) (locs1 : List Loc), wJ D Y A s S0 S1 H1 locs1 → W p l e R s m args below meth c H1 locs1 (s_nx S1 - s_nx S0) (s_sl S1 - s_sl S0) Q (F0 m (pc + 3) ls rest)) : W p l e R s m args below meth c H locs (s_nx S - s_nx S0) (s_sl S - s_sl S0) Q (F0 m pc ls (.ref v :: .ref a :: rest)) := by
  subst hx
  have h := hJ.2.1.at (a := a) (by rw [hk]; decide)
  rw [wE_X11 hk] at h
  refine jq_wrf hX h ly_X11 tyX11_ok nmX11 rfl (k := 9) (by decide) hl (Or.inr ⟨rfl, hn, ho⟩) (ty := (.array .int)) (by decide +kernel) rfl rfl (by show _ < _; simp) hJ.2.2 (hJ.2.1.2 a (by rw [hk]; decide)).2 hdg (fun H1 locs1 h1 hz hq hS1 => kk H1 locs1 ⟨hJ.1, hJ.2.1.set (a := a) (by rw [hk]; decide) rfl rfl (fun b hb => wE_pR S 21 a _ hb) ?_ hz hq, hS1⟩)
  rw [wE_X11 (S := s_pR S 21 a _) hk]
  simp only [I_pR, L_pR, R_pR, and_true, if_true, reduceIte, Nat.reduceEqDiff, false_and]
  exact h1
theorem pf_X11_aOf {S0 S S1 : wS} {v : Nat} (hX : jq_X D Y aR A p s m args meth c cc own nm mx rt) (hJ : wJ D Y A s S0 S H locs) (hk : s_K S a = 10) (hx : s_pR S 22 a (some v) = S1) (hn : nm = "<init>") (ho : (TX11 10).1 = own) (hl : Cond.fieldLink own index "ScoreHandlesModel" "aOf" "[I" ∈ lw_all) (hdg : decode cc pc = .ok (.putfield index, 3)) (kk : ∀ (H1 : Heap) (locs1 : List Loc), wJ D Y A s S0 S1 H1 locs1 → W p l e R s m args below meth c H1 locs1 (s_nx S1 - s_nx S0) (s_sl S1 - s_sl S0) Q (F0 m (pc + 3) ls rest)) : W p l e R s m args below meth c H locs (s_nx S - s_nx S0) (s_sl S - s_sl S0) Q (F0 m pc ls (.ref v :: .ref a :: rest)) := by
  subst hx
  have h := hJ.2.1.at (a := a) (by rw [hk]; decide)
  rw [wE_X11 hk] at h
  refine jq_wrf hX h ly_X11 tyX11_ok nmX11 rfl (k := 10) (by decide) hl (Or.inr ⟨rfl, hn, ho⟩) (ty := (.array .int)) (by decide +kernel) rfl rfl (by show _ < _; simp) hJ.2.2 (hJ.2.1.2 a (by rw [hk]; decide)).2 hdg (fun H1 locs1 h1 hz hq hS1 => kk H1 locs1 ⟨hJ.1, hJ.2.1.set (a := a) (by rw [hk]; decide) rfl rfl (fun b hb => wE_pR S 22 a _ hb) ?_ hz hq, hS1⟩)
  rw [wE_X11 (S := s_pR S 22 a _) hk]
  simp only [I_pR, L_pR, R_pR, and_true, if_true, reduceIte, Nat.reduceEqDiff, false_and]
  exact h1
theorem pf_X11_bOf {S0 S S1 : wS} {v : Nat} (hX : jq_X D Y aR A p s m args meth c cc own nm mx rt) (hJ : wJ D Y A s S0 S H locs) (hk : s_K S a = 10) (hx : s_pR S 23 a (some v) = S1) (hn : nm = "<init>") (ho : (TX11 11).1 = own) (hl : Cond.fieldLink own index "ScoreHandlesModel" "bOf" "[I" ∈ lw_all) (hdg : decode cc pc = .ok (.putfield index, 3)) (kk : ∀ (H1 : Heap) (locs1 : List Loc), wJ D Y A s S0 S1 H1 locs1 → W p l e R s m args below meth c H1 locs1 (s_nx S1 - s_nx S0) (s_sl S1 - s_sl S0) Q (F0 m (pc + 3) ls rest)) : W p l e R s m args below meth c H locs (s_nx S - s_nx S0) (s_sl S - s_sl S0) Q (F0 m pc ls (.ref v :: .ref a :: rest)) := by
  subst hx
  have h := hJ.2.1.at (a := a) (by rw [hk]; decide)
  rw [wE_X11 hk] at h
  refine jq_wrf hX h ly_X11 tyX11_ok nmX11 rfl (k := 11) (by decide) hl (Or.inr ⟨rfl, hn, ho⟩) (ty := (.array .int)) (by decide +kernel) rfl rfl (by show _ < _; simp) hJ.2.2 (hJ.2.1.2 a (by rw [hk]; decide)).2 hdg (fun H1 locs1 h1 hz hq hS1 => kk H1 locs1 ⟨hJ.1, hJ.2.1.set (a := a) (by rw [hk]; decide) rfl rfl (fun b hb => wE_pR S 23 a _ hb) ?_ hz hq, hS1⟩)
  rw [wE_X11 (S := s_pR S 23 a _) hk]
  simp only [I_pR, L_pR, R_pR, and_true, if_true, reduceIte, Nat.reduceEqDiff, false_and]
  exact h1
theorem pf_X11_cOf {S0 S S1 : wS} {v : Nat} (hX : jq_X D Y aR A p s m args meth c cc own nm mx rt) (hJ : wJ D Y A s S0 S H locs) (hk : s_K S a = 10) (hx : s_pR S 24 a (some v) = S1) (hn : nm = "<init>") (ho : (TX11 12).1 = own) (hl : Cond.fieldLink own index "ScoreHandlesModel" "cOf" "[I" ∈ lw_all) (hdg : decode cc pc = .ok (.putfield index, 3)) (kk : ∀ (H1 : Heap) (locs1 : List Loc), wJ D Y A s S0 S1 H1 locs1 → W p l e R s m args below meth c H1 locs1 (s_nx S1 - s_nx S0) (s_sl S1 - s_sl S0) Q (F0 m (pc + 3) ls rest)) : W p l e R s m args below meth c H locs (s_nx S - s_nx S0) (s_sl S - s_sl S0) Q (F0 m pc ls (.ref v :: .ref a :: rest)) := by
  subst hx
  have h := hJ.2.1.at (a := a) (by rw [hk]; decide)
  rw [wE_X11 hk] at h
  refine jq_wrf hX h ly_X11 tyX11_ok nmX11 rfl (k := 12) (by decide) hl (Or.inr ⟨rfl, hn, ho⟩) (ty := (.array .int)) (by decide +kernel) rfl rfl (by show _ < _; simp) hJ.2.2 (hJ.2.1.2 a (by rw [hk]; decide)).2 hdg (fun H1 locs1 h1 hz hq hS1 => kk H1 locs1 ⟨hJ.1, hJ.2.1.set (a := a) (by rw [hk]; decide) rfl rfl (fun b hb => wE_pR S 24 a _ hb) ?_ hz hq, hS1⟩)
  rw [wE_X11 (S := s_pR S 24 a _) hk]
  simp only [I_pR, L_pR, R_pR, and_true, if_true, reduceIte, Nat.reduceEqDiff, false_and]
  exact h1
theorem pf_X11_vOf {S0 S S1 : wS} {v : Nat} (hX : jq_X D Y aR A p s m args meth c cc own nm mx rt) (hJ : wJ D Y A s S0 S H locs) (hk : s_K S a = 10) (hx : s_pR S 25 a (some v) = S1) (hn : nm = "<init>") (ho : (TX11 13).1 = own) (hl : Cond.fieldLink own index "ScoreHandlesModel" "vOf" "[J" ∈ lw_all) (hdg : decode cc pc = .ok (.putfield index, 3)) (kk : ∀ (H1 : Heap) (locs1 : List Loc), wJ D Y A s S0 S1 H1 locs1 → W p l e R s m args below meth c H1 locs1 (s_nx S1 - s_nx S0) (s_sl S1 - s_sl S0) Q (F0 m (pc + 3) ls rest)) : W p l e R s m args below meth c H locs (s_nx S - s_nx S0) (s_sl S - s_sl S0) Q (F0 m pc ls (.ref v :: .ref a :: rest)) := by
  subst hx
  have h := hJ.2.1.at (a := a) (by rw [hk]; decide)
  rw [wE_X11 hk] at h
  refine jq_wrf hX h ly_X11 tyX11_ok nmX11 rfl (k := 13) (by decide) hl (Or.inr ⟨rfl, hn, ho⟩) (ty := (.array .long)) (by decide +kernel) rfl rfl (by show _ < _; simp) hJ.2.2 (hJ.2.1.2 a (by rw [hk]; decide)).2 hdg (fun H1 locs1 h1 hz hq hS1 => kk H1 locs1 ⟨hJ.1, hJ.2.1.set (a := a) (by rw [hk]; decide) rfl rfl (fun b hb => wE_pR S 25 a _ hb) ?_ hz hq, hS1⟩)
  rw [wE_X11 (S := s_pR S 25 a _) hk]
  simp only [I_pR, L_pR, R_pR, and_true, if_true, reduceIte, Nat.reduceEqDiff, false_and]
  exact h1
theorem pf_X11_manyOf {S0 S S1 : wS} {v : Nat} (hX : jq_X D Y aR A p s m args meth c cc own nm mx rt) (hJ : wJ D Y A s S0 S H locs) (hk : s_K S a = 10) (hx : s_pR S 26 a (some v) = S1) (hn : nm = "<init>") (ho : (TX11 14).1 = own) (hl : Cond.fieldLink own index "ScoreHandlesModel" "manyOf" "[I" ∈ lw_all) (hdg : decode cc pc = .ok (.putfield index, 3)) (kk : ∀ (H1 : Heap) (locs1 : List Loc), wJ D Y A s S0 S1 H1 locs1 → W p l e R s m args below meth c H1 locs1 (s_nx S1 - s_nx S0) (s_sl S1 - s_sl S0) Q (F0 m (pc + 3) ls rest)) : W p l e R s m args below meth c H locs (s_nx S - s_nx S0) (s_sl S - s_sl S0) Q (F0 m pc ls (.ref v :: .ref a :: rest)) := by
  subst hx
  have h := hJ.2.1.at (a := a) (by rw [hk]; decide)
  rw [wE_X11 hk] at h
  refine jq_wrf hX h ly_X11 tyX11_ok nmX11 rfl (k := 14) (by decide) hl (Or.inr ⟨rfl, hn, ho⟩) (ty := (.array .int)) (by decide +kernel) rfl rfl (by show _ < _; simp) hJ.2.2 (hJ.2.1.2 a (by rw [hk]; decide)).2 hdg (fun H1 locs1 h1 hz hq hS1 => kk H1 locs1 ⟨hJ.1, hJ.2.1.set (a := a) (by rw [hk]; decide) rfl rfl (fun b hb => wE_pR S 26 a _ hb) ?_ hz hq, hS1⟩)
  rw [wE_X11 (S := s_pR S 26 a _) hk]
  simp only [I_pR, L_pR, R_pR, and_true, if_true, reduceIte, Nat.reduceEqDiff, false_and]
  exact h1
theorem pf_X11_kindOf {S0 S S1 : wS} {v : Nat} (hX : jq_X D Y aR A p s m args meth c cc own nm mx rt) (hJ : wJ D Y A s S0 S H locs) (hk : s_K S a = 10) (hx : s_pR S 27 a (some v) = S1) (hn : nm = "<init>") (ho : (TX11 15).1 = own) (hl : Cond.fieldLink own index "ScoreHandlesModel" "kindOf" "[I" ∈ lw_all) (hdg : decode cc pc = .ok (.putfield index, 3)) (kk : ∀ (H1 : Heap) (locs1 : List Loc), wJ D Y A s S0 S1 H1 locs1 → W p l e R s m args below meth c H1 locs1 (s_nx S1 - s_nx S0) (s_sl S1 - s_sl S0) Q (F0 m (pc + 3) ls rest)) : W p l e R s m args below meth c H locs (s_nx S - s_nx S0) (s_sl S - s_sl S0) Q (F0 m pc ls (.ref v :: .ref a :: rest)) := by
  subst hx
  have h := hJ.2.1.at (a := a) (by rw [hk]; decide)
  rw [wE_X11 hk] at h
  refine jq_wrf hX h ly_X11 tyX11_ok nmX11 rfl (k := 15) (by decide) hl (Or.inr ⟨rfl, hn, ho⟩) (ty := (.array .int)) (by decide +kernel) rfl rfl (by show _ < _; simp) hJ.2.2 (hJ.2.1.2 a (by rw [hk]; decide)).2 hdg (fun H1 locs1 h1 hz hq hS1 => kk H1 locs1 ⟨hJ.1, hJ.2.1.set (a := a) (by rw [hk]; decide) rfl rfl (fun b hb => wE_pR S 27 a _ hb) ?_ hz hq, hS1⟩)
  rw [wE_X11 (S := s_pR S 27 a _) hk]
  simp only [I_pR, L_pR, R_pR, and_true, if_true, reduceIte, Nat.reduceEqDiff, false_and]
  exact h1
theorem pf_X11_resultOf {S0 S S1 : wS} {v : Nat} (hX : jq_X D Y aR A p s m args meth c cc own nm mx rt) (hJ : wJ D Y A s S0 S H locs) (hk : s_K S a = 10) (hx : s_pR S 28 a (some v) = S1) (hn : nm = "<init>") (ho : (TX11 16).1 = own) (hl : Cond.fieldLink own index "ScoreHandlesModel" "resultOf" "[I" ∈ lw_all) (hdg : decode cc pc = .ok (.putfield index, 3)) (kk : ∀ (H1 : Heap) (locs1 : List Loc), wJ D Y A s S0 S1 H1 locs1 → W p l e R s m args below meth c H1 locs1 (s_nx S1 - s_nx S0) (s_sl S1 - s_sl S0) Q (F0 m (pc + 3) ls rest)) : W p l e R s m args below meth c H locs (s_nx S - s_nx S0) (s_sl S - s_sl S0) Q (F0 m pc ls (.ref v :: .ref a :: rest)) := by
  subst hx
  have h := hJ.2.1.at (a := a) (by rw [hk]; decide)
  rw [wE_X11 hk] at h
  refine jq_wrf hX h ly_X11 tyX11_ok nmX11 rfl (k := 16) (by decide) hl (Or.inr ⟨rfl, hn, ho⟩) (ty := (.array .int)) (by decide +kernel) rfl rfl (by show _ < _; simp) hJ.2.2 (hJ.2.1.2 a (by rw [hk]; decide)).2 hdg (fun H1 locs1 h1 hz hq hS1 => kk H1 locs1 ⟨hJ.1, hJ.2.1.set (a := a) (by rw [hk]; decide) rfl rfl (fun b hb => wE_pR S 28 a _ hb) ?_ hz hq, hS1⟩)
  rw [wE_X11 (S := s_pR S 28 a _) hk]
  simp only [I_pR, L_pR, R_pR, and_true, if_true, reduceIte, Nat.reduceEqDiff, false_and]
  exact h1
theorem pf_X11_madeA {S0 S S1 : wS} {v : Int32} (hX : jq_X D Y aR A p s m args meth c cc own nm mx rt) (hJ : wJ D Y A s S0 S H locs) (hk : s_K S a = 10) (hx : s_pI S 19 a v = S1) (hl : Cond.fieldLink own index "ScoreHandlesModel" "madeA" "I" ∈ lw_all) (hdg : decode cc pc = .ok (.putfield index, 3)) (kk : ∀ (H1 : Heap) (locs1 : List Loc), wJ D Y A s S0 S1 H1 locs1 → W p l e R s m args below meth c H1 locs1 (s_nx S1 - s_nx S0) (s_sl S1 - s_sl S0) Q (F0 m (pc + 3) ls rest)) : W p l e R s m args below meth c H locs (s_nx S - s_nx S0) (s_sl S - s_sl S0) Q (F0 m pc ls (.int v :: .ref a :: rest)) := by
  subst hx
  have h := hJ.2.1.at (a := a) (by rw [hk]; decide)
  rw [wE_X11 hk] at h
  refine jq_wrf hX h ly_X11 tyX11_ok nmX11 rfl (k := 17) (by decide) hl (Or.inl rfl) (ty := .int) (by decide +kernel) rfl rfl (by show _ < _; simp) hJ.2.2 (hJ.2.1.2 a (by rw [hk]; decide)).2 hdg (fun H1 locs1 h1 hz hq hS1 => kk H1 locs1 ⟨hJ.1, hJ.2.1.set (a := a) (by rw [hk]; decide) rfl rfl (fun b hb => wE_pI S 19 a _ hb) ?_ hz hq, hS1⟩)
  rw [wE_X11 (S := s_pI S 19 a _) hk]
  simp only [I_pI, L_pI, R_pI, and_true, if_true, reduceIte, Nat.reduceEqDiff, false_and]
  exact h1
theorem pf_X11_madeB {S0 S S1 : wS} {v : Int32} (hX : jq_X D Y aR A p s m args meth c cc own nm mx rt) (hJ : wJ D Y A s S0 S H locs) (hk : s_K S a = 10) (hx : s_pI S 20 a v = S1) (hl : Cond.fieldLink own index "ScoreHandlesModel" "madeB" "I" ∈ lw_all) (hdg : decode cc pc = .ok (.putfield index, 3)) (kk : ∀ (H1 : Heap) (locs1 : List Loc), wJ D Y A s S0 S1 H1 locs1 → W p l e R s m args below meth c H1 locs1 (s_nx S1 - s_nx S0) (s_sl S1 - s_sl S0) Q (F0 m (pc + 3) ls rest)) : W p l e R s m args below meth c H locs (s_nx S - s_nx S0) (s_sl S - s_sl S0) Q (F0 m pc ls (.int v :: .ref a :: rest)) := by
  subst hx
  have h := hJ.2.1.at (a := a) (by rw [hk]; decide)
  rw [wE_X11 hk] at h
  refine jq_wrf hX h ly_X11 tyX11_ok nmX11 rfl (k := 18) (by decide) hl (Or.inl rfl) (ty := .int) (by decide +kernel) rfl rfl (by show _ < _; simp) hJ.2.2 (hJ.2.1.2 a (by rw [hk]; decide)).2 hdg (fun H1 locs1 h1 hz hq hS1 => kk H1 locs1 ⟨hJ.1, hJ.2.1.set (a := a) (by rw [hk]; decide) rfl rfl (fun b hb => wE_pI S 20 a _ hb) ?_ hz hq, hS1⟩)
  rw [wE_X11 (S := s_pI S 20 a _) hk]
  simp only [I_pI, L_pI, R_pI, and_true, if_true, reduceIte, Nat.reduceEqDiff, false_and]
  exact h1
theorem pf_X11_madeC {S0 S S1 : wS} {v : Int32} (hX : jq_X D Y aR A p s m args meth c cc own nm mx rt) (hJ : wJ D Y A s S0 S H locs) (hk : s_K S a = 10) (hx : s_pI S 21 a v = S1) (hl : Cond.fieldLink own index "ScoreHandlesModel" "madeC" "I" ∈ lw_all) (hdg : decode cc pc = .ok (.putfield index, 3)) (kk : ∀ (H1 : Heap) (locs1 : List Loc), wJ D Y A s S0 S1 H1 locs1 → W p l e R s m args below meth c H1 locs1 (s_nx S1 - s_nx S0) (s_sl S1 - s_sl S0) Q (F0 m (pc + 3) ls rest)) : W p l e R s m args below meth c H locs (s_nx S - s_nx S0) (s_sl S - s_sl S0) Q (F0 m pc ls (.int v :: .ref a :: rest)) := by
  subst hx
  have h := hJ.2.1.at (a := a) (by rw [hk]; decide)
  rw [wE_X11 hk] at h
  refine jq_wrf hX h ly_X11 tyX11_ok nmX11 rfl (k := 19) (by decide) hl (Or.inl rfl) (ty := .int) (by decide +kernel) rfl rfl (by show _ < _; simp) hJ.2.2 (hJ.2.1.2 a (by rw [hk]; decide)).2 hdg (fun H1 locs1 h1 hz hq hS1 => kk H1 locs1 ⟨hJ.1, hJ.2.1.set (a := a) (by rw [hk]; decide) rfl rfl (fun b hb => wE_pI S 21 a _ hb) ?_ hz hq, hS1⟩)
  rw [wE_X11 (S := s_pI S 21 a _) hk]
  simp only [I_pI, L_pI, R_pI, and_true, if_true, reduceIte, Nat.reduceEqDiff, false_and]
  exact h1
theorem pf_X11_madeV {S0 S S1 : wS} {v : Int64} (hX : jq_X D Y aR A p s m args meth c cc own nm mx rt) (hJ : wJ D Y A s S0 S H locs) (hk : s_K S a = 10) (hx : s_pL S 2 a v = S1) (hl : Cond.fieldLink own index "ScoreHandlesModel" "madeV" "J" ∈ lw_all) (hdg : decode cc pc = .ok (.putfield index, 3)) (kk : ∀ (H1 : Heap) (locs1 : List Loc), wJ D Y A s S0 S1 H1 locs1 → W p l e R s m args below meth c H1 locs1 (s_nx S1 - s_nx S0) (s_sl S1 - s_sl S0) Q (F0 m (pc + 3) ls rest)) : W p l e R s m args below meth c H locs (s_nx S - s_nx S0) (s_sl S - s_sl S0) Q (F0 m pc ls (.long v :: .ref a :: rest)) := by
  subst hx
  have h := hJ.2.1.at (a := a) (by rw [hk]; decide)
  rw [wE_X11 hk] at h
  refine jq_wrf hX h ly_X11 tyX11_ok nmX11 rfl (k := 20) (by decide) hl (Or.inl rfl) (ty := .long) (by decide +kernel) rfl rfl (by show _ < _; simp) hJ.2.2 (hJ.2.1.2 a (by rw [hk]; decide)).2 hdg (fun H1 locs1 h1 hz hq hS1 => kk H1 locs1 ⟨hJ.1, hJ.2.1.set (a := a) (by rw [hk]; decide) rfl rfl (fun b hb => wE_pL S 2 a _ hb) ?_ hz hq, hS1⟩)
  rw [wE_X11 (S := s_pL S 2 a _) hk]
  simp only [I_pL, L_pL, R_pL, and_true, if_true, reduceIte, Nat.reduceEqDiff, false_and]
  exact h1
theorem pf_X11_depth {S0 S S1 : wS} {v : Int32} (hX : jq_X D Y aR A p s m args meth c cc own nm mx rt) (hJ : wJ D Y A s S0 S H locs) (hk : s_K S a = 10) (hx : s_pI S 22 a v = S1) (hl : Cond.fieldLink own index "ScoreHandlesModel" "depth" "I" ∈ lw_all) (hdg : decode cc pc = .ok (.putfield index, 3)) (kk : ∀ (H1 : Heap) (locs1 : List Loc), wJ D Y A s S0 S1 H1 locs1 → W p l e R s m args below meth c H1 locs1 (s_nx S1 - s_nx S0) (s_sl S1 - s_sl S0) Q (F0 m (pc + 3) ls rest)) : W p l e R s m args below meth c H locs (s_nx S - s_nx S0) (s_sl S - s_sl S0) Q (F0 m pc ls (.int v :: .ref a :: rest)) := by
  subst hx
  have h := hJ.2.1.at (a := a) (by rw [hk]; decide)
  rw [wE_X11 hk] at h
  refine jq_wrf hX h ly_X11 tyX11_ok nmX11 rfl (k := 21) (by decide) hl (Or.inl rfl) (ty := .int) (by decide +kernel) rfl rfl (by show _ < _; simp) hJ.2.2 (hJ.2.1.2 a (by rw [hk]; decide)).2 hdg (fun H1 locs1 h1 hz hq hS1 => kk H1 locs1 ⟨hJ.1, hJ.2.1.set (a := a) (by rw [hk]; decide) rfl rfl (fun b hb => wE_pI S 22 a _ hb) ?_ hz hq, hS1⟩)
  rw [wE_X11 (S := s_pI S 22 a _) hk]
  simp only [I_pI, L_pI, R_pI, and_true, if_true, reduceIte, Nat.reduceEqDiff, false_and]
  exact h1
theorem pf_X11_frame {S0 S S1 : wS} {v : Nat} (hX : jq_X D Y aR A p s m args meth c cc own nm mx rt) (hJ : wJ D Y A s S0 S H locs) (hk : s_K S a = 10) (hx : s_pR S 29 a (some v) = S1) (hn : nm = "<init>") (ho : (TX11 22).1 = own) (hl : Cond.fieldLink own index "ScoreHandlesModel" "frame" "[I" ∈ lw_all) (hdg : decode cc pc = .ok (.putfield index, 3)) (kk : ∀ (H1 : Heap) (locs1 : List Loc), wJ D Y A s S0 S1 H1 locs1 → W p l e R s m args below meth c H1 locs1 (s_nx S1 - s_nx S0) (s_sl S1 - s_sl S0) Q (F0 m (pc + 3) ls rest)) : W p l e R s m args below meth c H locs (s_nx S - s_nx S0) (s_sl S - s_sl S0) Q (F0 m pc ls (.ref v :: .ref a :: rest)) := by
  subst hx
  have h := hJ.2.1.at (a := a) (by rw [hk]; decide)
  rw [wE_X11 hk] at h
  refine jq_wrf hX h ly_X11 tyX11_ok nmX11 rfl (k := 22) (by decide) hl (Or.inr ⟨rfl, hn, ho⟩) (ty := (.array .int)) (by decide +kernel) rfl rfl (by show _ < _; simp) hJ.2.2 (hJ.2.1.2 a (by rw [hk]; decide)).2 hdg (fun H1 locs1 h1 hz hq hS1 => kk H1 locs1 ⟨hJ.1, hJ.2.1.set (a := a) (by rw [hk]; decide) rfl rfl (fun b hb => wE_pR S 29 a _ hb) ?_ hz hq, hS1⟩)
  rw [wE_X11 (S := s_pR S 29 a _) hk]
  simp only [I_pR, L_pR, R_pR, and_true, if_true, reduceIte, Nat.reduceEqDiff, false_and]
  exact h1
theorem pf_X11_phase {S0 S S1 : wS} {v : Nat} (hX : jq_X D Y aR A p s m args meth c cc own nm mx rt) (hJ : wJ D Y A s S0 S H locs) (hk : s_K S a = 10) (hx : s_pR S 30 a (some v) = S1) (hn : nm = "<init>") (ho : (TX11 23).1 = own) (hl : Cond.fieldLink own index "ScoreHandlesModel" "phase" "[I" ∈ lw_all) (hdg : decode cc pc = .ok (.putfield index, 3)) (kk : ∀ (H1 : Heap) (locs1 : List Loc), wJ D Y A s S0 S1 H1 locs1 → W p l e R s m args below meth c H1 locs1 (s_nx S1 - s_nx S0) (s_sl S1 - s_sl S0) Q (F0 m (pc + 3) ls rest)) : W p l e R s m args below meth c H locs (s_nx S - s_nx S0) (s_sl S - s_sl S0) Q (F0 m pc ls (.ref v :: .ref a :: rest)) := by
  subst hx
  have h := hJ.2.1.at (a := a) (by rw [hk]; decide)
  rw [wE_X11 hk] at h
  refine jq_wrf hX h ly_X11 tyX11_ok nmX11 rfl (k := 23) (by decide) hl (Or.inr ⟨rfl, hn, ho⟩) (ty := (.array .int)) (by decide +kernel) rfl rfl (by show _ < _; simp) hJ.2.2 (hJ.2.1.2 a (by rw [hk]; decide)).2 hdg (fun H1 locs1 h1 hz hq hS1 => kk H1 locs1 ⟨hJ.1, hJ.2.1.set (a := a) (by rw [hk]; decide) rfl rfl (fun b hb => wE_pR S 30 a _ hb) ?_ hz hq, hS1⟩)
  rw [wE_X11 (S := s_pR S 30 a _) hk]
  simp only [I_pR, L_pR, R_pR, and_true, if_true, reduceIte, Nat.reduceEqDiff, false_and]
  exact h1
theorem pf_X11_par {S0 S S1 : wS} {v : Nat} (hX : jq_X D Y aR A p s m args meth c cc own nm mx rt) (hJ : wJ D Y A s S0 S H locs) (hk : s_K S a = 10) (hx : s_pR S 31 a (some v) = S1) (hn : nm = "<init>") (ho : (TX11 24).1 = own) (hl : Cond.fieldLink own index "ScoreHandlesModel" "par" "[J" ∈ lw_all) (hdg : decode cc pc = .ok (.putfield index, 3)) (kk : ∀ (H1 : Heap) (locs1 : List Loc), wJ D Y A s S0 S1 H1 locs1 → W p l e R s m args below meth c H1 locs1 (s_nx S1 - s_nx S0) (s_sl S1 - s_sl S0) Q (F0 m (pc + 3) ls rest)) : W p l e R s m args below meth c H locs (s_nx S - s_nx S0) (s_sl S - s_sl S0) Q (F0 m pc ls (.ref v :: .ref a :: rest)) := by
  subst hx
  have h := hJ.2.1.at (a := a) (by rw [hk]; decide)
  rw [wE_X11 hk] at h
  refine jq_wrf hX h ly_X11 tyX11_ok nmX11 rfl (k := 24) (by decide) hl (Or.inr ⟨rfl, hn, ho⟩) (ty := (.array .long)) (by decide +kernel) rfl rfl (by show _ < _; simp) hJ.2.2 (hJ.2.1.2 a (by rw [hk]; decide)).2 hdg (fun H1 locs1 h1 hz hq hS1 => kk H1 locs1 ⟨hJ.1, hJ.2.1.set (a := a) (by rw [hk]; decide) rfl rfl (fun b hb => wE_pR S 31 a _ hb) ?_ hz hq, hS1⟩)
  rw [wE_X11 (S := s_pR S 31 a _) hk]
  simp only [I_pR, L_pR, R_pR, and_true, if_true, reduceIte, Nat.reduceEqDiff, false_and]
  exact h1
theorem pf_X11_held {S0 S S1 : wS} {v : Nat} (hX : jq_X D Y aR A p s m args meth c cc own nm mx rt) (hJ : wJ D Y A s S0 S H locs) (hk : s_K S a = 10) (hx : s_pR S 32 a (some v) = S1) (hn : nm = "<init>") (ho : (TX11 25).1 = own) (hl : Cond.fieldLink own index "ScoreHandlesModel" "held" "[J" ∈ lw_all) (hdg : decode cc pc = .ok (.putfield index, 3)) (kk : ∀ (H1 : Heap) (locs1 : List Loc), wJ D Y A s S0 S1 H1 locs1 → W p l e R s m args below meth c H1 locs1 (s_nx S1 - s_nx S0) (s_sl S1 - s_sl S0) Q (F0 m (pc + 3) ls rest)) : W p l e R s m args below meth c H locs (s_nx S - s_nx S0) (s_sl S - s_sl S0) Q (F0 m pc ls (.ref v :: .ref a :: rest)) := by
  subst hx
  have h := hJ.2.1.at (a := a) (by rw [hk]; decide)
  rw [wE_X11 hk] at h
  refine jq_wrf hX h ly_X11 tyX11_ok nmX11 rfl (k := 25) (by decide) hl (Or.inr ⟨rfl, hn, ho⟩) (ty := (.array .long)) (by decide +kernel) rfl rfl (by show _ < _; simp) hJ.2.2 (hJ.2.1.2 a (by rw [hk]; decide)).2 hdg (fun H1 locs1 h1 hz hq hS1 => kk H1 locs1 ⟨hJ.1, hJ.2.1.set (a := a) (by rw [hk]; decide) rfl rfl (fun b hb => wE_pR S 32 a _ hb) ?_ hz hq, hS1⟩)
  rw [wE_X11 (S := s_pR S 32 a _) hk]
  simp only [I_pR, L_pR, R_pR, and_true, if_true, reduceIte, Nat.reduceEqDiff, false_and]
  exact h1
theorem pf_X11_turn {S0 S S1 : wS} {v : Nat} (hX : jq_X D Y aR A p s m args meth c cc own nm mx rt) (hJ : wJ D Y A s S0 S H locs) (hk : s_K S a = 10) (hx : s_pR S 33 a (some v) = S1) (hn : nm = "<init>") (ho : (TX11 26).1 = own) (hl : Cond.fieldLink own index "ScoreHandlesModel" "turn" "[I" ∈ lw_all) (hdg : decode cc pc = .ok (.putfield index, 3)) (kk : ∀ (H1 : Heap) (locs1 : List Loc), wJ D Y A s S0 S1 H1 locs1 → W p l e R s m args below meth c H1 locs1 (s_nx S1 - s_nx S0) (s_sl S1 - s_sl S0) Q (F0 m (pc + 3) ls rest)) : W p l e R s m args below meth c H locs (s_nx S - s_nx S0) (s_sl S - s_sl S0) Q (F0 m pc ls (.ref v :: .ref a :: rest)) := by
  subst hx
  have h := hJ.2.1.at (a := a) (by rw [hk]; decide)
  rw [wE_X11 hk] at h
  refine jq_wrf hX h ly_X11 tyX11_ok nmX11 rfl (k := 26) (by decide) hl (Or.inr ⟨rfl, hn, ho⟩) (ty := (.array .int)) (by decide +kernel) rfl rfl (by show _ < _; simp) hJ.2.2 (hJ.2.1.2 a (by rw [hk]; decide)).2 hdg (fun H1 locs1 h1 hz hq hS1 => kk H1 locs1 ⟨hJ.1, hJ.2.1.set (a := a) (by rw [hk]; decide) rfl rfl (fun b hb => wE_pR S 33 a _ hb) ?_ hz hq, hS1⟩)
  rw [wE_X11 (S := s_pR S 33 a _) hk]
  simp only [I_pR, L_pR, R_pR, and_true, if_true, reduceIte, Nat.reduceEqDiff, false_and]
  exact h1
theorem pf_X11_saved {S0 S S1 : wS} {v : Nat} (hX : jq_X D Y aR A p s m args meth c cc own nm mx rt) (hJ : wJ D Y A s S0 S H locs) (hk : s_K S a = 10) (hx : s_pR S 34 a (some v) = S1) (hn : nm = "<init>") (ho : (TX11 27).1 = own) (hl : Cond.fieldLink own index "ScoreHandlesModel" "saved" "[I" ∈ lw_all) (hdg : decode cc pc = .ok (.putfield index, 3)) (kk : ∀ (H1 : Heap) (locs1 : List Loc), wJ D Y A s S0 S1 H1 locs1 → W p l e R s m args below meth c H1 locs1 (s_nx S1 - s_nx S0) (s_sl S1 - s_sl S0) Q (F0 m (pc + 3) ls rest)) : W p l e R s m args below meth c H locs (s_nx S - s_nx S0) (s_sl S - s_sl S0) Q (F0 m pc ls (.ref v :: .ref a :: rest)) := by
  subst hx
  have h := hJ.2.1.at (a := a) (by rw [hk]; decide)
  rw [wE_X11 hk] at h
  refine jq_wrf hX h ly_X11 tyX11_ok nmX11 rfl (k := 27) (by decide) hl (Or.inr ⟨rfl, hn, ho⟩) (ty := (.array .int)) (by decide +kernel) rfl rfl (by show _ < _; simp) hJ.2.2 (hJ.2.1.2 a (by rw [hk]; decide)).2 hdg (fun H1 locs1 h1 hz hq hS1 => kk H1 locs1 ⟨hJ.1, hJ.2.1.set (a := a) (by rw [hk]; decide) rfl rfl (fun b hb => wE_pR S 34 a _ hb) ?_ hz hq, hS1⟩)
  rw [wE_X11 (S := s_pR S 34 a _) hk]
  simp only [I_pR, L_pR, R_pR, and_true, if_true, reduceIte, Nat.reduceEqDiff, false_and]
  exact h1
theorem pf_X11_back {S0 S S1 : wS} {v : Int64} (hX : jq_X D Y aR A p s m args meth c cc own nm mx rt) (hJ : wJ D Y A s S0 S H locs) (hk : s_K S a = 10) (hx : s_pL S 3 a v = S1) (hl : Cond.fieldLink own index "ScoreHandlesModel" "back" "J" ∈ lw_all) (hdg : decode cc pc = .ok (.putfield index, 3)) (kk : ∀ (H1 : Heap) (locs1 : List Loc), wJ D Y A s S0 S1 H1 locs1 → W p l e R s m args below meth c H1 locs1 (s_nx S1 - s_nx S0) (s_sl S1 - s_sl S0) Q (F0 m (pc + 3) ls rest)) : W p l e R s m args below meth c H locs (s_nx S - s_nx S0) (s_sl S - s_sl S0) Q (F0 m pc ls (.long v :: .ref a :: rest)) := by
  subst hx
  have h := hJ.2.1.at (a := a) (by rw [hk]; decide)
  rw [wE_X11 hk] at h
  refine jq_wrf hX h ly_X11 tyX11_ok nmX11 rfl (k := 28) (by decide) hl (Or.inl rfl) (ty := .long) (by decide +kernel) rfl rfl (by show _ < _; simp) hJ.2.2 (hJ.2.1.2 a (by rw [hk]; decide)).2 hdg (fun H1 locs1 h1 hz hq hS1 => kk H1 locs1 ⟨hJ.1, hJ.2.1.set (a := a) (by rw [hk]; decide) rfl rfl (fun b hb => wE_pL S 3 a _ hb) ?_ hz hq, hS1⟩)
  rw [wE_X11 (S := s_pL S 3 a _) hk]
  simp only [I_pL, L_pL, R_pL, and_true, if_true, reduceIte, Nat.reduceEqDiff, false_and]
  exact h1
theorem pf_X11_failure {S0 S S1 : wS} {v : Int32} (hX : jq_X D Y aR A p s m args meth c cc own nm mx rt) (hJ : wJ D Y A s S0 S H locs) (hk : s_K S a = 10) (hx : s_pI S 23 a v = S1) (hl : Cond.fieldLink own index "ScoreHandlesModel" "failure" "I" ∈ lw_all) (hdg : decode cc pc = .ok (.putfield index, 3)) (kk : ∀ (H1 : Heap) (locs1 : List Loc), wJ D Y A s S0 S1 H1 locs1 → W p l e R s m args below meth c H1 locs1 (s_nx S1 - s_nx S0) (s_sl S1 - s_sl S0) Q (F0 m (pc + 3) ls rest)) : W p l e R s m args below meth c H locs (s_nx S - s_nx S0) (s_sl S - s_sl S0) Q (F0 m pc ls (.int v :: .ref a :: rest)) := by
  subst hx
  have h := hJ.2.1.at (a := a) (by rw [hk]; decide)
  rw [wE_X11 hk] at h
  refine jq_wrf hX h ly_X11 tyX11_ok nmX11 rfl (k := 29) (by decide) hl (Or.inl rfl) (ty := .int) (by decide +kernel) rfl rfl (by show _ < _; simp) hJ.2.2 (hJ.2.1.2 a (by rw [hk]; decide)).2 hdg (fun H1 locs1 h1 hz hq hS1 => kk H1 locs1 ⟨hJ.1, hJ.2.1.set (a := a) (by rw [hk]; decide) rfl rfl (fun b hb => wE_pI S 23 a _ hb) ?_ hz hq, hS1⟩)
  rw [wE_X11 (S := s_pI S 23 a _) hk]
  simp only [I_pI, L_pI, R_pI, and_true, if_true, reduceIte, Nat.reduceEqDiff, false_and]
  exact h1
theorem pf_X11_steps {S0 S S1 : wS} {v : Int32} (hX : jq_X D Y aR A p s m args meth c cc own nm mx rt) (hJ : wJ D Y A s S0 S H locs) (hk : s_K S a = 10) (hx : s_pI S 24 a v = S1) (hl : Cond.fieldLink own index "ScoreHandlesModel" "steps" "I" ∈ lw_all) (hdg : decode cc pc = .ok (.putfield index, 3)) (kk : ∀ (H1 : Heap) (locs1 : List Loc), wJ D Y A s S0 S1 H1 locs1 → W p l e R s m args below meth c H1 locs1 (s_nx S1 - s_nx S0) (s_sl S1 - s_sl S0) Q (F0 m (pc + 3) ls rest)) : W p l e R s m args below meth c H locs (s_nx S - s_nx S0) (s_sl S - s_sl S0) Q (F0 m pc ls (.int v :: .ref a :: rest)) := by
  subst hx
  have h := hJ.2.1.at (a := a) (by rw [hk]; decide)
  rw [wE_X11 hk] at h
  refine jq_wrf hX h ly_X11 tyX11_ok nmX11 rfl (k := 30) (by decide) hl (Or.inl rfl) (ty := .int) (by decide +kernel) rfl rfl (by show _ < _; simp) hJ.2.2 (hJ.2.1.2 a (by rw [hk]; decide)).2 hdg (fun H1 locs1 h1 hz hq hS1 => kk H1 locs1 ⟨hJ.1, hJ.2.1.set (a := a) (by rw [hk]; decide) rfl rfl (fun b hb => wE_pI S 24 a _ hb) ?_ hz hq, hS1⟩)
  rw [wE_X11 (S := s_pI S 24 a _) hk]
  simp only [I_pI, L_pI, R_pI, and_true, if_true, reduceIte, Nat.reduceEqDiff, false_and]
  exact h1
theorem pf_X11_failures {S0 S S1 : wS} {v : Int32} (hX : jq_X D Y aR A p s m args meth c cc own nm mx rt) (hJ : wJ D Y A s S0 S H locs) (hk : s_K S a = 10) (hx : s_pI S 25 a v = S1) (hl : Cond.fieldLink own index "ScoreHandlesModel" "failures" "I" ∈ lw_all) (hdg : decode cc pc = .ok (.putfield index, 3)) (kk : ∀ (H1 : Heap) (locs1 : List Loc), wJ D Y A s S0 S1 H1 locs1 → W p l e R s m args below meth c H1 locs1 (s_nx S1 - s_nx S0) (s_sl S1 - s_sl S0) Q (F0 m (pc + 3) ls rest)) : W p l e R s m args below meth c H locs (s_nx S - s_nx S0) (s_sl S - s_sl S0) Q (F0 m pc ls (.int v :: .ref a :: rest)) := by
  subst hx
  have h := hJ.2.1.at (a := a) (by rw [hk]; decide)
  rw [wE_X11 hk] at h
  refine jq_wrf hX h ly_X11 tyX11_ok nmX11 rfl (k := 31) (by decide) hl (Or.inl rfl) (ty := .int) (by decide +kernel) rfl rfl (by show _ < _; simp) hJ.2.2 (hJ.2.1.2 a (by rw [hk]; decide)).2 hdg (fun H1 locs1 h1 hz hq hS1 => kk H1 locs1 ⟨hJ.1, hJ.2.1.set (a := a) (by rw [hk]; decide) rfl rfl (fun b hb => wE_pI S 25 a _ hb) ?_ hz hq, hS1⟩)
  rw [wE_X11 (S := s_pI S 25 a _) hk]
  simp only [I_pI, L_pI, R_pI, and_true, if_true, reduceIte, Nat.reduceEqDiff, false_and]
  exact h1
theorem pf_X11_blamed {S0 S S1 : wS} {v : Int32} (hX : jq_X D Y aR A p s m args meth c cc own nm mx rt) (hJ : wJ D Y A s S0 S H locs) (hk : s_K S a = 10) (hx : s_pI S 26 a v = S1) (hl : Cond.fieldLink own index "ScoreHandlesModel" "blamed" "I" ∈ lw_all) (hdg : decode cc pc = .ok (.putfield index, 3)) (kk : ∀ (H1 : Heap) (locs1 : List Loc), wJ D Y A s S0 S1 H1 locs1 → W p l e R s m args below meth c H1 locs1 (s_nx S1 - s_nx S0) (s_sl S1 - s_sl S0) Q (F0 m (pc + 3) ls rest)) : W p l e R s m args below meth c H locs (s_nx S - s_nx S0) (s_sl S - s_sl S0) Q (F0 m pc ls (.int v :: .ref a :: rest)) := by
  subst hx
  have h := hJ.2.1.at (a := a) (by rw [hk]; decide)
  rw [wE_X11 hk] at h
  refine jq_wrf hX h ly_X11 tyX11_ok nmX11 rfl (k := 32) (by decide) hl (Or.inl rfl) (ty := .int) (by decide +kernel) rfl rfl (by show _ < _; simp) hJ.2.2 (hJ.2.1.2 a (by rw [hk]; decide)).2 hdg (fun H1 locs1 h1 hz hq hS1 => kk H1 locs1 ⟨hJ.1, hJ.2.1.set (a := a) (by rw [hk]; decide) rfl rfl (fun b hb => wE_pI S 26 a _ hb) ?_ hz hq, hS1⟩)
  rw [wE_X11 (S := s_pI S 26 a _) hk]
  simp only [I_pI, L_pI, R_pI, and_true, if_true, reduceIte, Nat.reduceEqDiff, false_and]
  exact h1
theorem pf_X11_runs {S0 S S1 : wS} {v : Int32} (hX : jq_X D Y aR A p s m args meth c cc own nm mx rt) (hJ : wJ D Y A s S0 S H locs) (hk : s_K S a = 10) (hx : s_pI S 27 a v = S1) (hl : Cond.fieldLink own index "ScoreHandlesModel" "runs" "I" ∈ lw_all) (hdg : decode cc pc = .ok (.putfield index, 3)) (kk : ∀ (H1 : Heap) (locs1 : List Loc), wJ D Y A s S0 S1 H1 locs1 → W p l e R s m args below meth c H1 locs1 (s_nx S1 - s_nx S0) (s_sl S1 - s_sl S0) Q (F0 m (pc + 3) ls rest)) : W p l e R s m args below meth c H locs (s_nx S - s_nx S0) (s_sl S - s_sl S0) Q (F0 m pc ls (.int v :: .ref a :: rest)) := by
  subst hx
  have h := hJ.2.1.at (a := a) (by rw [hk]; decide)
  rw [wE_X11 hk] at h
  refine jq_wrf hX h ly_X11 tyX11_ok nmX11 rfl (k := 33) (by decide) hl (Or.inl rfl) (ty := .int) (by decide +kernel) rfl rfl (by show _ < _; simp) hJ.2.2 (hJ.2.1.2 a (by rw [hk]; decide)).2 hdg (fun H1 locs1 h1 hz hq hS1 => kk H1 locs1 ⟨hJ.1, hJ.2.1.set (a := a) (by rw [hk]; decide) rfl rfl (fun b hb => wE_pI S 27 a _ hb) ?_ hz hq, hS1⟩)
  rw [wE_X11 (S := s_pI S 27 a _) hk]
  simp only [I_pI, L_pI, R_pI, and_true, if_true, reduceIte, Nat.reduceEqDiff, false_and]
  exact h1
theorem pf_X11_value {S0 S S1 : wS} {v : Int64} (hX : jq_X D Y aR A p s m args meth c cc own nm mx rt) (hJ : wJ D Y A s S0 S H locs) (hk : s_K S a = 10) (hx : s_pL S 4 a v = S1) (hl : Cond.fieldLink own index "ScoreHandlesModel" "value" "J" ∈ lw_all) (hdg : decode cc pc = .ok (.putfield index, 3)) (kk : ∀ (H1 : Heap) (locs1 : List Loc), wJ D Y A s S0 S1 H1 locs1 → W p l e R s m args below meth c H1 locs1 (s_nx S1 - s_nx S0) (s_sl S1 - s_sl S0) Q (F0 m (pc + 3) ls rest)) : W p l e R s m args below meth c H locs (s_nx S - s_nx S0) (s_sl S - s_sl S0) Q (F0 m pc ls (.long v :: .ref a :: rest)) := by
  subst hx
  have h := hJ.2.1.at (a := a) (by rw [hk]; decide)
  rw [wE_X11 hk] at h
  refine jq_wrf hX h ly_X11 tyX11_ok nmX11 rfl (k := 34) (by decide) hl (Or.inl rfl) (ty := .long) (by decide +kernel) rfl rfl (by show _ < _; simp) hJ.2.2 (hJ.2.1.2 a (by rw [hk]; decide)).2 hdg (fun H1 locs1 h1 hz hq hS1 => kk H1 locs1 ⟨hJ.1, hJ.2.1.set (a := a) (by rw [hk]; decide) rfl rfl (fun b hb => wE_pL S 4 a _ hb) ?_ hz hq, hS1⟩)
  rw [wE_X11 (S := s_pL S 4 a _) hk]
  simp only [I_pL, L_pL, R_pL, and_true, if_true, reduceIte, Nat.reduceEqDiff, false_and]
  exact h1
theorem pf_X11_hand {S0 S S1 : wS} {v : Nat} (hX : jq_X D Y aR A p s m args meth c cc own nm mx rt) (hJ : wJ D Y A s S0 S H locs) (hk : s_K S a = 10) (hx : s_pR S 35 a (some v) = S1) (hn : nm = "<init>") (ho : (TX11 35).1 = own) (hl : Cond.fieldLink own index "ScoreHandlesModel" "hand" "[J" ∈ lw_all) (hdg : decode cc pc = .ok (.putfield index, 3)) (kk : ∀ (H1 : Heap) (locs1 : List Loc), wJ D Y A s S0 S1 H1 locs1 → W p l e R s m args below meth c H1 locs1 (s_nx S1 - s_nx S0) (s_sl S1 - s_sl S0) Q (F0 m (pc + 3) ls rest)) : W p l e R s m args below meth c H locs (s_nx S - s_nx S0) (s_sl S - s_sl S0) Q (F0 m pc ls (.ref v :: .ref a :: rest)) := by
  subst hx
  have h := hJ.2.1.at (a := a) (by rw [hk]; decide)
  rw [wE_X11 hk] at h
  refine jq_wrf hX h ly_X11 tyX11_ok nmX11 rfl (k := 35) (by decide) hl (Or.inr ⟨rfl, hn, ho⟩) (ty := (.array .long)) (by decide +kernel) rfl rfl (by show _ < _; simp) hJ.2.2 (hJ.2.1.2 a (by rw [hk]; decide)).2 hdg (fun H1 locs1 h1 hz hq hS1 => kk H1 locs1 ⟨hJ.1, hJ.2.1.set (a := a) (by rw [hk]; decide) rfl rfl (fun b hb => wE_pR S 35 a _ hb) ?_ hz hq, hS1⟩)
  rw [wE_X11 (S := s_pR S 35 a _) hk]
  simp only [I_pR, L_pR, R_pR, and_true, if_true, reduceIte, Nat.reduceEqDiff, false_and]
  exact h1
theorem ga_I {S0 S : wS} {i : Int32} {x : Int32} (hX : jq_X D Y aR A p s m args meth c cc own nm mx rt) (hJ : wJ D Y A s S0 S H locs) (hk : s_K S a = 21 ∧ ¬ (i < 0 ∨ s_n S a ≤ i.toNatClampNeg)) (hx : s_aI S a i.toNatClampNeg = x) (hdg : decode cc pc = .ok (.iaload, 1)) (kk : W p l e R s m args below meth c H locs (s_nx S - s_nx S0) (s_sl S - s_sl S0) Q (F0 m (pc + 1) ls (.int x :: rest))) : W p l e R s m args below meth c H locs (s_nx S - s_nx S0) (s_sl S - s_sl S0) Q (F0 m pc ls (.int i :: .ref a :: rest)) := by
  have h := hJ.2.1.at (a := a) (by rw [hk.1]; decide)
  rw [wE_21 hk.1] at h
  subst hx
  exact va_iald hX.1 hX.2.1 hX.2.2.2.2.2.1.1 (jq_oneA h) 0 0 rfl rfl hk.2 hdg kk
theorem wa_I {S0 S S1 : wS} {i : Int32} {v : Int32} (hX : jq_X D Y aR A p s m args meth c cc own nm mx rt) (hJ : wJ D Y A s S0 S H locs) (hk : s_K S a = 21 ∧ ¬ (i < 0 ∨ s_n S a ≤ i.toNatClampNeg)) (hx : s_wI S a i.toNatClampNeg v = S1) (hdg : decode cc pc = .ok (.iastore, 1)) (kk : ∀ (H1 : Heap) (locs1 : List Loc), wJ D Y A s S0 S1 H1 locs1 → W p l e R s m args below meth c H1 locs1 (s_nx S1 - s_nx S0) (s_sl S1 - s_sl S0) Q (F0 m (pc + 1) ls rest)) : W p l e R s m args below meth c H locs (s_nx S - s_nx S0) (s_sl S - s_sl S0) Q (F0 m pc ls (.int v :: .int i :: .ref a :: rest)) := by
  subst hx
  have h := hJ.2.1.at (a := a) (by rw [hk.1]; decide)
  rw [wE_21 hk.1] at h
  refine W.iast hX.1 hX.2.1 h ((hX.2.2.2.2.2.1.1.2 0 _ rfl).1 _ (fun j => .int (s_aI S a j))) (fun q => by cases q) (by show ¬ (i < 0 ∨ (arrV _ _ _).slots.size ≤ _); rw [arrV_size]; exact hk.2) rfl rfl hdg fun H1 e z oq => ?_
  refine kk H1 _ ⟨hJ.1, hJ.2.1.set (a := a) (by rw [hk.1]; decide) rfl rfl (fun b hb => wE_wI S a _ _ hb) ?_ z oq, hJ.2.2.put z oq (hJ.2.1.2 a (by rw [hk.1]; decide)).2⟩
  rw [wE_21 (S := s_wI S a _ _) hk.1]
  show H1[a]? = some (vp_cell _ _)
  rw [e]
  show some ((arrV (Y 0) (s_n S a) (fun j => .int (s_aI S a j))).setSlot i.toNatClampNeg (.int v)) = some (arrV (Y 0) (s_n S a) (fun j => .int (s_aI (s_wI S a i.toNatClampNeg v) a j)))
  rw [arrV_store]
  congr 2
  funext q
  by_cases hq : q = i.toNatClampNeg
  · subst hq; simp [updV, aI_wI]
  · simp [updV, aI_wI, hq]
  
theorem ga_L {S0 S : wS} {i : Int32} {x : Int64} (hX : jq_X D Y aR A p s m args meth c cc own nm mx rt) (hJ : wJ D Y A s S0 S H locs) (hk : s_K S a = 22 ∧ ¬ (i < 0 ∨ s_n S a ≤ i.toNatClampNeg)) (hx : s_aL S a i.toNatClampNeg = x) (hdg : decode cc pc = .ok (.laload, 1)) (kk : W p l e R s m args below meth c H locs (s_nx S - s_nx S0) (s_sl S - s_sl S0) Q (F0 m (pc + 1) ls (.long x :: rest))) : W p l e R s m args below meth c H locs (s_nx S - s_nx S0) (s_sl S - s_sl S0) Q (F0 m pc ls (.int i :: .ref a :: rest)) := by
  have h := hJ.2.1.at (a := a) (by rw [hk.1]; decide)
  rw [wE_22 hk.1] at h
  subst hx
  exact va_lald hX.1 hX.2.1 hX.2.2.2.2.2.1.1 (jq_oneA h) 0 1 rfl rfl hk.2 hdg kk
theorem wa_L {S0 S S1 : wS} {i : Int32} {v : Int64} (hX : jq_X D Y aR A p s m args meth c cc own nm mx rt) (hJ : wJ D Y A s S0 S H locs) (hk : s_K S a = 22 ∧ ¬ (i < 0 ∨ s_n S a ≤ i.toNatClampNeg)) (hx : s_wL S a i.toNatClampNeg v = S1) (hdg : decode cc pc = .ok (.lastore, 1)) (kk : ∀ (H1 : Heap) (locs1 : List Loc), wJ D Y A s S0 S1 H1 locs1 → W p l e R s m args below meth c H1 locs1 (s_nx S1 - s_nx S0) (s_sl S1 - s_sl S0) Q (F0 m (pc + 1) ls rest)) : W p l e R s m args below meth c H locs (s_nx S - s_nx S0) (s_sl S - s_sl S0) Q (F0 m pc ls (.long v :: .int i :: .ref a :: rest)) := by
  subst hx
  have h := hJ.2.1.at (a := a) (by rw [hk.1]; decide)
  rw [wE_22 hk.1] at h
  refine W.last hX.1 hX.2.1 h ((hX.2.2.2.2.2.1.1.2 1 _ rfl).1 _ (fun j => .long (s_aL S a j))) (fun q => by cases q) (by show ¬ (i < 0 ∨ (arrV _ _ _).slots.size ≤ _); rw [arrV_size]; exact hk.2) rfl rfl hdg fun H1 e z oq => ?_
  refine kk H1 _ ⟨hJ.1, hJ.2.1.set (a := a) (by rw [hk.1]; decide) rfl rfl (fun b hb => wE_wL S a _ _ hb) ?_ z oq, hJ.2.2.put z oq (hJ.2.1.2 a (by rw [hk.1]; decide)).2⟩
  rw [wE_22 (S := s_wL S a _ _) hk.1]
  show H1[a]? = some (vp_cell _ _)
  rw [e]
  show some ((arrV (Y 1) (s_n S a) (fun j => .long (s_aL S a j))).setSlot i.toNatClampNeg (.long v)) = some (arrV (Y 1) (s_n S a) (fun j => .long (s_aL (s_wL S a i.toNatClampNeg v) a j)))
  rw [arrV_store]
  congr 2
  funext q
  by_cases hq : q = i.toNatClampNeg
  · subst hq; simp [updV, aL_wL]
  · simp [updV, aL_wL, hq]
  
theorem ga_H {S0 S : wS} {i : Int32} {x : Option Nat} (hX : jq_X D Y aR A p s m args meth c cc own nm mx rt) (hJ : wJ D Y A s S0 S H locs) (hk : s_K S a = 23 ∧ ¬ (i < 0 ∨ s_n S a ≤ i.toNatClampNeg)) (hx : s_aR S a i.toNatClampNeg = x) (hdg : decode cc pc = .ok (.aaload, 1)) (kk : W p l e R s m args below meth c H locs (s_nx S - s_nx S0) (s_sl S - s_sl S0) Q (F0 m (pc + 1) ls (va_rf x :: rest))) : W p l e R s m args below meth c H locs (s_nx S - s_nx S0) (s_sl S - s_sl S0) Q (F0 m pc ls (.int i :: .ref a :: rest)) := by
  have h := hJ.2.1.at (a := a) (by rw [hk.1]; decide)
  rw [wE_23 hk.1] at h
  subst hx
  exact va_aldq (C := "ScoreHandles$Handle") hX.1 hX.2.1 hX.2.2.2.2.2.1.1 (jq_oneA h) 0 2 rfl rfl hk.2 hdg kk
theorem wa_H {S0 S S1 : wS} {i : Int32} {v : Nat} (hX : jq_X D Y aR A p s m args meth c cc own nm mx rt) (hJ : wJ D Y A s S0 S H locs) (hk : (s_K S a = 23 ∧ s_K S v = 1) ∧ ¬ (i < 0 ∨ s_n S a ≤ i.toNatClampNeg)) (hx : s_wR S a i.toNatClampNeg (some v) = S1) (hdg : decode cc pc = .ok (.aastore, 1)) (kk : ∀ (H1 : Heap) (locs1 : List Loc), wJ D Y A s S0 S1 H1 locs1 → W p l e R s m args below meth c H1 locs1 (s_nx S1 - s_nx S0) (s_sl S1 - s_sl S0) Q (F0 m (pc + 1) ls rest)) : W p l e R s m args below meth c H locs (s_nx S - s_nx S0) (s_sl S - s_sl S0) Q (F0 m pc ls (.ref v :: .int i :: .ref a :: rest)) := by
  subst hx
  have h := hJ.2.1.at (a := a) (by rw [hk.1.1]; decide)
  rw [wE_23 hk.1.1] at h
  have hv := hJ.2.1.at (a := v) (by rw [hk.1.2]; decide)
  rw [wE_X0 hk.1.2] at hv
  have hK := hX.2.2.2.2.2.1.1
  have hlt : i.toNatClampNeg < s_n S a := Nat.not_le.mp fun q => hk.2 (Or.inr q)
  have h0 : ¬ i < 0 := fun q => hk.2 (Or.inl q)
  obtain ⟨r', hr', cellV, g1, g2, g3, -⟩ := hv
  have hcls := (hK.1 0 _ rfl).2
  obtain ⟨kA, comp, k1, k2, k3, -⟩ := (hK.2 2 _ rfl).2
  have hcomp : comp = D.1 0 := Option.some.inj (k3.symm.trans hcls.1)
  subst hcomp
  obtain ⟨kC, hkC, -⟩ := hcls.2
  refine W.aast hX.1 hX.2.1 h (fun q h => by cases h) (fun h => by cases h) k1 k2 rfl hkC ⟨h0, by show _ < (arrV _ _ _).slots.size; rw [arrV_size]; exact hlt⟩ g1 (fun q h => by rw [g3] at h; cases h) (by rw [g2]; exact hkC) (by rw [g2]; exact va_assign hcls) rfl rfl hdg fun H1 e z oq => ?_
  refine kk H1 _ ⟨hJ.1, hJ.2.1.set (a := a) (by rw [hk.1.1]; decide) rfl rfl (fun b hb => wE_wR S a _ _ hb) ?_ z oq, hJ.2.2.put z oq (hJ.2.1.2 a (by rw [hk.1.1]; decide)).2⟩
  rw [wE_23 (S := s_wR S a _ _) hk.1.1]
  show H1[a]? = some (vp_cell _ _)
  rw [e]
  show some ((arrV (Y 2) (s_n S a) (fun j => va_rf (s_aR S a j))).setSlot i.toNatClampNeg (.ref v)) = some (arrV (Y 2) (s_n S a) (fun j => va_rf (s_aR (s_wR S a i.toNatClampNeg (some v)) a j)))
  rw [arrV_store]
  congr 2
  funext q
  by_cases hq : q = i.toNatClampNeg
  · subst hq; simp [updV, aR_wR, va_rf]
  · simp [updV, aR_wR, hq]
theorem ga_W {S0 S : wS} {i : Int32} {x : Option Nat} (hX : jq_X D Y aR A p s m args meth c cc own nm mx rt) (hJ : wJ D Y A s S0 S H locs) (hk : s_K S a = 24 ∧ ¬ (i < 0 ∨ s_n S a ≤ i.toNatClampNeg)) (hx : s_aR S a i.toNatClampNeg = x) (hdg : decode cc pc = .ok (.aaload, 1)) (kk : W p l e R s m args below meth c H locs (s_nx S - s_nx S0) (s_sl S - s_sl S0) Q (F0 m (pc + 1) ls (va_rf x :: rest))) : W p l e R s m args below meth c H locs (s_nx S - s_nx S0) (s_sl S - s_sl S0) Q (F0 m pc ls (.int i :: .ref a :: rest)) := by
  have h := hJ.2.1.at (a := a) (by rw [hk.1]; decide)
  rw [wE_24 hk.1] at h
  subst hx
  exact va_aldq (C := "ScoreHandles$Row") hX.1 hX.2.1 hX.2.2.2.2.2.1.1 (jq_oneA h) 0 3 rfl rfl hk.2 hdg kk
theorem wa_W {S0 S S1 : wS} {i : Int32} {v : Nat} (hX : jq_X D Y aR A p s m args meth c cc own nm mx rt) (hJ : wJ D Y A s S0 S H locs) (hk : (s_K S a = 24 ∧ s_K S v = 5) ∧ ¬ (i < 0 ∨ s_n S a ≤ i.toNatClampNeg)) (hx : s_wR S a i.toNatClampNeg (some v) = S1) (hdg : decode cc pc = .ok (.aastore, 1)) (kk : ∀ (H1 : Heap) (locs1 : List Loc), wJ D Y A s S0 S1 H1 locs1 → W p l e R s m args below meth c H1 locs1 (s_nx S1 - s_nx S0) (s_sl S1 - s_sl S0) Q (F0 m (pc + 1) ls rest)) : W p l e R s m args below meth c H locs (s_nx S - s_nx S0) (s_sl S - s_sl S0) Q (F0 m pc ls (.ref v :: .int i :: .ref a :: rest)) := by
  subst hx
  have h := hJ.2.1.at (a := a) (by rw [hk.1.1]; decide)
  rw [wE_24 hk.1.1] at h
  have hv := hJ.2.1.at (a := v) (by rw [hk.1.2]; decide)
  rw [wE_X5 hk.1.2] at hv
  have hK := hX.2.2.2.2.2.1.1
  have hlt : i.toNatClampNeg < s_n S a := Nat.not_le.mp fun q => hk.2 (Or.inr q)
  have h0 : ¬ i < 0 := fun q => hk.2 (Or.inl q)
  obtain ⟨r', hr', cellV, g1, g2, g3, -⟩ := hv
  have hcls := (hK.1 4 _ rfl).2
  obtain ⟨kA, comp, k1, k2, k3, -⟩ := (hK.2 3 _ rfl).2
  have hcomp : comp = D.1 4 := Option.some.inj (k3.symm.trans hcls.1)
  subst hcomp
  obtain ⟨kC, hkC, -⟩ := hcls.2
  refine W.aast hX.1 hX.2.1 h (fun q h => by cases h) (fun h => by cases h) k1 k2 rfl hkC ⟨h0, by show _ < (arrV _ _ _).slots.size; rw [arrV_size]; exact hlt⟩ g1 (fun q h => by rw [g3] at h; cases h) (by rw [g2]; exact hkC) (by rw [g2]; exact va_assign hcls) rfl rfl hdg fun H1 e z oq => ?_
  refine kk H1 _ ⟨hJ.1, hJ.2.1.set (a := a) (by rw [hk.1.1]; decide) rfl rfl (fun b hb => wE_wR S a _ _ hb) ?_ z oq, hJ.2.2.put z oq (hJ.2.1.2 a (by rw [hk.1.1]; decide)).2⟩
  rw [wE_24 (S := s_wR S a _ _) hk.1.1]
  show H1[a]? = some (vp_cell _ _)
  rw [e]
  show some ((arrV (Y 3) (s_n S a) (fun j => va_rf (s_aR S a j))).setSlot i.toNatClampNeg (.ref v)) = some (arrV (Y 3) (s_n S a) (fun j => va_rf (s_aR (s_wR S a i.toNatClampNeg (some v)) a j)))
  rw [arrV_store]
  congr 2
  funext q
  by_cases hq : q = i.toNatClampNeg
  · subst hq; simp [updV, aR_wR, va_rf]
  · simp [updV, aR_wR, hq]
theorem gl_I {S0 S : wS} {x : Int32} (hX : jq_X D Y aR A p s m args meth c cc own nm mx rt) (hJ : wJ D Y A s S0 S H locs) (hk : s_K S a = 21) (hx : Int32.ofNat (s_n S a) = x) (hdg : decode cc pc = .ok (.arraylength, 1)) (kk : W p l e R s m args below meth c H locs (s_nx S - s_nx S0) (s_sl S - s_sl S0) Q (F0 m (pc + 1) ls (.int x :: rest))) : W p l e R s m args below meth c H locs (s_nx S - s_nx S0) (s_sl S - s_sl S0) Q (F0 m pc ls (.ref a :: rest)) := by
  have h := hJ.2.1.at (a := a) (by rw [hk]; decide)
  rw [wE_21 hk] at h
  exact va_alen hX.1 hX.2.1 hX.2.2.2.2.2.1.1 (jq_oneA h) 0 0 rfl (ty := .int) rfl hx hdg kk
theorem gl_L {S0 S : wS} {x : Int32} (hX : jq_X D Y aR A p s m args meth c cc own nm mx rt) (hJ : wJ D Y A s S0 S H locs) (hk : s_K S a = 22) (hx : Int32.ofNat (s_n S a) = x) (hdg : decode cc pc = .ok (.arraylength, 1)) (kk : W p l e R s m args below meth c H locs (s_nx S - s_nx S0) (s_sl S - s_sl S0) Q (F0 m (pc + 1) ls (.int x :: rest))) : W p l e R s m args below meth c H locs (s_nx S - s_nx S0) (s_sl S - s_sl S0) Q (F0 m pc ls (.ref a :: rest)) := by
  have h := hJ.2.1.at (a := a) (by rw [hk]; decide)
  rw [wE_22 hk] at h
  exact va_alen hX.1 hX.2.1 hX.2.2.2.2.2.1.1 (jq_oneA h) 0 1 rfl (ty := .long) rfl hx hdg kk
theorem gl_H {S0 S : wS} {x : Int32} (hX : jq_X D Y aR A p s m args meth c cc own nm mx rt) (hJ : wJ D Y A s S0 S H locs) (hk : s_K S a = 23) (hx : Int32.ofNat (s_n S a) = x) (hdg : decode cc pc = .ok (.arraylength, 1)) (kk : W p l e R s m args below meth c H locs (s_nx S - s_nx S0) (s_sl S - s_sl S0) Q (F0 m (pc + 1) ls (.int x :: rest))) : W p l e R s m args below meth c H locs (s_nx S - s_nx S0) (s_sl S - s_sl S0) Q (F0 m pc ls (.ref a :: rest)) := by
  have h := hJ.2.1.at (a := a) (by rw [hk]; decide)
  rw [wE_23 hk] at h
  exact va_alen hX.1 hX.2.1 hX.2.2.2.2.2.1.1 (jq_oneA h) 0 2 rfl (ty := (.object "ScoreHandles$Handle")) rfl hx hdg kk
theorem gl_W {S0 S : wS} {x : Int32} (hX : jq_X D Y aR A p s m args meth c cc own nm mx rt) (hJ : wJ D Y A s S0 S H locs) (hk : s_K S a = 24) (hx : Int32.ofNat (s_n S a) = x) (hdg : decode cc pc = .ok (.arraylength, 1)) (kk : W p l e R s m args below meth c H locs (s_nx S - s_nx S0) (s_sl S - s_sl S0) Q (F0 m (pc + 1) ls (.int x :: rest))) : W p l e R s m args below meth c H locs (s_nx S - s_nx S0) (s_sl S - s_sl S0) Q (F0 m pc ls (.ref a :: rest)) := by
  have h := hJ.2.1.at (a := a) (by rw [hk]; decide)
  rw [wE_24 hk] at h
  exact va_alen hX.1 hX.2.1 hX.2.2.2.2.2.1.1 (jq_oneA h) 0 3 rfl (ty := (.object "ScoreHandles$Row")) rfl hx hdg kk
end JD
