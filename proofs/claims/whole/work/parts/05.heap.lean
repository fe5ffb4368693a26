/-! the heap by types: kinds, fields and arrays by address, the next address, the room; the parts of the class's own state -/
def wS : Type := ((Nat × Nat) × (Nat × Nat)) × (Nat → Nat) × (Nat → Nat → Int32) × (Nat → Nat → Int64) × (Nat → Nat → Option Nat) × (Nat → Nat) × (Nat → Nat → Int32) × (Nat → Nat → Int64) × (Nat → Nat → Option Nat)
def s_nx (S : wS) : Nat := S.1.1.1
def s_lm (S : wS) : Nat := S.1.1.2
def s_sl (S : wS) : Nat := S.1.2.1
def s_sm (S : wS) : Nat := S.1.2.2
def s_K (S : wS) : Nat → Nat := S.2.1
def s_I (S : wS) : Nat → Nat → Int32 := S.2.2.1
def s_L (S : wS) : Nat → Nat → Int64 := S.2.2.2.1
def s_R (S : wS) : Nat → Nat → Option Nat := S.2.2.2.2.1
def s_n (S : wS) : Nat → Nat := S.2.2.2.2.2.1
def s_aI (S : wS) : Nat → Nat → Int32 := S.2.2.2.2.2.2.1
def s_aL (S : wS) : Nat → Nat → Int64 := S.2.2.2.2.2.2.2.1
def s_aR (S : wS) : Nat → Nat → Option Nat := S.2.2.2.2.2.2.2.2
def s_pI (S : wS) (i a : Nat) (v : Int32) : wS := (S.1, S.2.1, fun j b => if j = i ∧ b = a then v else S.2.2.1 j b, S.2.2.2)
def s_pL (S : wS) (i a : Nat) (v : Int64) : wS := (S.1, S.2.1, S.2.2.1, fun j b => if j = i ∧ b = a then v else S.2.2.2.1 j b, S.2.2.2.2)
def s_pR (S : wS) (i a : Nat) (v : Option Nat) : wS := (S.1, S.2.1, S.2.2.1, S.2.2.2.1, fun j b => if j = i ∧ b = a then v else S.2.2.2.2.1 j b, S.2.2.2.2.2)
def s_wI (S : wS) (a i : Nat) (v : Int32) : wS := (S.1, S.2.1, S.2.2.1, S.2.2.2.1, S.2.2.2.2.1, S.2.2.2.2.2.1, fun b j => if b = a ∧ j = i then v else S.2.2.2.2.2.2.1 b j, S.2.2.2.2.2.2.2)
def s_wL (S : wS) (a i : Nat) (v : Int64) : wS := (S.1, S.2.1, S.2.2.1, S.2.2.2.1, S.2.2.2.2.1, S.2.2.2.2.2.1, S.2.2.2.2.2.2.1, fun b j => if b = a ∧ j = i then v else S.2.2.2.2.2.2.2.1 b j, S.2.2.2.2.2.2.2.2)
def s_wR (S : wS) (a i : Nat) (v : Option Nat) : wS := (S.1, S.2.1, S.2.2.1, S.2.2.2.1, S.2.2.2.2.1, S.2.2.2.2.2.1, S.2.2.2.2.2.2.1, S.2.2.2.2.2.2.2.1, fun b j => if b = a ∧ j = i then v else S.2.2.2.2.2.2.2.2 b j)
def s_new (S : wS) (kd N : Nat) : wS := (((S.1.1.1 + 1, S.1.1.2), (S.1.2.1 + N, S.1.2.2)), fun b => if b = S.1.1.1 then kd else S.2.1 b, fun j b => if b = S.1.1.1 then 0 else S.2.2.1 j b, fun j b => if b = S.1.1.1 then 0 else S.2.2.2.1 j b, fun j b => if b = S.1.1.1 then none else S.2.2.2.2.1 j b, S.2.2.2.2.2)
def s_newA (S : wS) (kd N : Nat) : wS := (((S.1.1.1 + 1, S.1.1.2), (S.1.2.1 + N, S.1.2.2)), fun b => if b = S.1.1.1 then kd else S.2.1 b, S.2.2.1, S.2.2.2.1, S.2.2.2.2.1, fun b => if b = S.1.1.1 then N else S.2.2.2.2.2.1 b, fun b j => if b = S.1.1.1 then 0 else S.2.2.2.2.2.2.1 b j, fun b j => if b = S.1.1.1 then 0 else S.2.2.2.2.2.2.2.1 b j, fun b j => if b = S.1.1.1 then none else S.2.2.2.2.2.2.2.2 b j)
theorem nx_pI (S : wS) (i a : Nat) (v : Int32) : s_nx (s_pI S i a v) = s_nx S := rfl
theorem lm_pI (S : wS) (i a : Nat) (v : Int32) : s_lm (s_pI S i a v) = s_lm S := rfl
theorem sl_pI (S : wS) (i a : Nat) (v : Int32) : s_sl (s_pI S i a v) = s_sl S := rfl
theorem sm_pI (S : wS) (i a : Nat) (v : Int32) : s_sm (s_pI S i a v) = s_sm S := rfl
theorem K_pI (S : wS) (i a : Nat) (v : Int32) : s_K (s_pI S i a v) = s_K S := rfl
theorem I_pI (S : wS) (i a : Nat) (v : Int32) : s_I (s_pI S i a v) = fun j b => if j = i ∧ b = a then v else s_I S j b := rfl
theorem L_pI (S : wS) (i a : Nat) (v : Int32) : s_L (s_pI S i a v) = s_L S := rfl
theorem R_pI (S : wS) (i a : Nat) (v : Int32) : s_R (s_pI S i a v) = s_R S := rfl
theorem n_pI (S : wS) (i a : Nat) (v : Int32) : s_n (s_pI S i a v) = s_n S := rfl
theorem aI_pI (S : wS) (i a : Nat) (v : Int32) : s_aI (s_pI S i a v) = s_aI S := rfl
theorem aL_pI (S : wS) (i a : Nat) (v : Int32) : s_aL (s_pI S i a v) = s_aL S := rfl
theorem aR_pI (S : wS) (i a : Nat) (v : Int32) : s_aR (s_pI S i a v) = s_aR S := rfl
theorem nx_pL (S : wS) (i a : Nat) (v : Int64) : s_nx (s_pL S i a v) = s_nx S := rfl
theorem lm_pL (S : wS) (i a : Nat) (v : Int64) : s_lm (s_pL S i a v) = s_lm S := rfl
theorem sl_pL (S : wS) (i a : Nat) (v : Int64) : s_sl (s_pL S i a v) = s_sl S := rfl
theorem sm_pL (S : wS) (i a : Nat) (v : Int64) : s_sm (s_pL S i a v) = s_sm S := rfl
theorem K_pL (S : wS) (i a : Nat) (v : Int64) : s_K (s_pL S i a v) = s_K S := rfl
theorem I_pL (S : wS) (i a : Nat) (v : Int64) : s_I (s_pL S i a v) = s_I S := rfl
theorem L_pL (S : wS) (i a : Nat) (v : Int64) : s_L (s_pL S i a v) = fun j b => if j = i ∧ b = a then v else s_L S j b := rfl
theorem R_pL (S : wS) (i a : Nat) (v : Int64) : s_R (s_pL S i a v) = s_R S := rfl
theorem n_pL (S : wS) (i a : Nat) (v : Int64) : s_n (s_pL S i a v) = s_n S := rfl
theorem aI_pL (S : wS) (i a : Nat) (v : Int64) : s_aI (s_pL S i a v) = s_aI S := rfl
theorem aL_pL (S : wS) (i a : Nat) (v : Int64) : s_aL (s_pL S i a v) = s_aL S := rfl
theorem aR_pL (S : wS) (i a : Nat) (v : Int64) : s_aR (s_pL S i a v) = s_aR S := rfl
theorem nx_pR (S : wS) (i a : Nat) (v : Option Nat) : s_nx (s_pR S i a v) = s_nx S := rfl
theorem lm_pR (S : wS) (i a : Nat) (v : Option Nat) : s_lm (s_pR S i a v) = s_lm S := rfl
theorem sl_pR (S : wS) (i a : Nat) (v : Option Nat) : s_sl (s_pR S i a v) = s_sl S := rfl
theorem sm_pR (S : wS) (i a : Nat) (v : Option Nat) : s_sm (s_pR S i a v) = s_sm S := rfl
theorem K_pR (S : wS) (i a : Nat) (v : Option Nat) : s_K (s_pR S i a v) = s_K S := rfl
theorem I_pR (S : wS) (i a : Nat) (v : Option Nat) : s_I (s_pR S i a v) = s_I S := rfl
theorem L_pR (S : wS) (i a : Nat) (v : Option Nat) : s_L (s_pR S i a v) = s_L S := rfl
theorem R_pR (S : wS) (i a : Nat) (v : Option Nat) : s_R (s_pR S i a v) = fun j b => if j = i ∧ b = a then v else s_R S j b := rfl
theorem n_pR (S : wS) (i a : Nat) (v : Option Nat) : s_n (s_pR S i a v) = s_n S := rfl
theorem aI_pR (S : wS) (i a : Nat) (v : Option Nat) : s_aI (s_pR S i a v) = s_aI S := rfl
theorem aL_pR (S : wS) (i a : Nat) (v : Option Nat) : s_aL (s_pR S i a v) = s_aL S := rfl
theorem aR_pR (S : wS) (i a : Nat) (v : Option Nat) : s_aR (s_pR S i a v) = s_aR S := rfl
theorem nx_wI (S : wS) (a i : Nat) (v : Int32) : s_nx (s_wI S a i v) = s_nx S := rfl
theorem lm_wI (S : wS) (a i : Nat) (v : Int32) : s_lm (s_wI S a i v) = s_lm S := rfl
theorem sl_wI (S : wS) (a i : Nat) (v : Int32) : s_sl (s_wI S a i v) = s_sl S := rfl
theorem sm_wI (S : wS) (a i : Nat) (v : Int32) : s_sm (s_wI S a i v) = s_sm S := rfl
theorem K_wI (S : wS) (a i : Nat) (v : Int32) : s_K (s_wI S a i v) = s_K S := rfl
theorem I_wI (S : wS) (a i : Nat) (v : Int32) : s_I (s_wI S a i v) = s_I S := rfl
theorem L_wI (S : wS) (a i : Nat) (v : Int32) : s_L (s_wI S a i v) = s_L S := rfl
theorem R_wI (S : wS) (a i : Nat) (v : Int32) : s_R (s_wI S a i v) = s_R S := rfl
theorem n_wI (S : wS) (a i : Nat) (v : Int32) : s_n (s_wI S a i v) = s_n S := rfl
theorem aI_wI (S : wS) (a i : Nat) (v : Int32) : s_aI (s_wI S a i v) = fun b j => if b = a ∧ j = i then v else s_aI S b j := rfl
theorem aL_wI (S : wS) (a i : Nat) (v : Int32) : s_aL (s_wI S a i v) = s_aL S := rfl
theorem aR_wI (S : wS) (a i : Nat) (v : Int32) : s_aR (s_wI S a i v) = s_aR S := rfl
theorem nx_wL (S : wS) (a i : Nat) (v : Int64) : s_nx (s_wL S a i v) = s_nx S := rfl
theorem lm_wL (S : wS) (a i : Nat) (v : Int64) : s_lm (s_wL S a i v) = s_lm S := rfl
theorem sl_wL (S : wS) (a i : Nat) (v : Int64) : s_sl (s_wL S a i v) = s_sl S := rfl
theorem sm_wL (S : wS) (a i : Nat) (v : Int64) : s_sm (s_wL S a i v) = s_sm S := rfl
theorem K_wL (S : wS) (a i : Nat) (v : Int64) : s_K (s_wL S a i v) = s_K S := rfl
theorem I_wL (S : wS) (a i : Nat) (v : Int64) : s_I (s_wL S a i v) = s_I S := rfl
theorem L_wL (S : wS) (a i : Nat) (v : Int64) : s_L (s_wL S a i v) = s_L S := rfl
theorem R_wL (S : wS) (a i : Nat) (v : Int64) : s_R (s_wL S a i v) = s_R S := rfl
theorem n_wL (S : wS) (a i : Nat) (v : Int64) : s_n (s_wL S a i v) = s_n S := rfl
theorem aI_wL (S : wS) (a i : Nat) (v : Int64) : s_aI (s_wL S a i v) = s_aI S := rfl
theorem aL_wL (S : wS) (a i : Nat) (v : Int64) : s_aL (s_wL S a i v) = fun b j => if b = a ∧ j = i then v else s_aL S b j := rfl
theorem aR_wL (S : wS) (a i : Nat) (v : Int64) : s_aR (s_wL S a i v) = s_aR S := rfl
theorem nx_wR (S : wS) (a i : Nat) (v : Option Nat) : s_nx (s_wR S a i v) = s_nx S := rfl
theorem lm_wR (S : wS) (a i : Nat) (v : Option Nat) : s_lm (s_wR S a i v) = s_lm S := rfl
theorem sl_wR (S : wS) (a i : Nat) (v : Option Nat) : s_sl (s_wR S a i v) = s_sl S := rfl
theorem sm_wR (S : wS) (a i : Nat) (v : Option Nat) : s_sm (s_wR S a i v) = s_sm S := rfl
theorem K_wR (S : wS) (a i : Nat) (v : Option Nat) : s_K (s_wR S a i v) = s_K S := rfl
theorem I_wR (S : wS) (a i : Nat) (v : Option Nat) : s_I (s_wR S a i v) = s_I S := rfl
theorem L_wR (S : wS) (a i : Nat) (v : Option Nat) : s_L (s_wR S a i v) = s_L S := rfl
theorem R_wR (S : wS) (a i : Nat) (v : Option Nat) : s_R (s_wR S a i v) = s_R S := rfl
theorem n_wR (S : wS) (a i : Nat) (v : Option Nat) : s_n (s_wR S a i v) = s_n S := rfl
theorem aI_wR (S : wS) (a i : Nat) (v : Option Nat) : s_aI (s_wR S a i v) = s_aI S := rfl
theorem aL_wR (S : wS) (a i : Nat) (v : Option Nat) : s_aL (s_wR S a i v) = s_aL S := rfl
theorem aR_wR (S : wS) (a i : Nat) (v : Option Nat) : s_aR (s_wR S a i v) = fun b j => if b = a ∧ j = i then v else s_aR S b j := rfl
theorem nx_new (S : wS) (kd N : Nat) : s_nx (s_new S kd N) = s_nx S + 1 := rfl
theorem lm_new (S : wS) (kd N : Nat) : s_lm (s_new S kd N) = s_lm S := rfl
theorem sl_new (S : wS) (kd N : Nat) : s_sl (s_new S kd N) = s_sl S + N := rfl
theorem sm_new (S : wS) (kd N : Nat) : s_sm (s_new S kd N) = s_sm S := rfl
theorem K_new (S : wS) (kd N : Nat) : s_K (s_new S kd N) = fun b => if b = s_nx S then kd else s_K S b := rfl
theorem I_new (S : wS) (kd N : Nat) : s_I (s_new S kd N) = fun j b => if b = s_nx S then 0 else s_I S j b := rfl
theorem L_new (S : wS) (kd N : Nat) : s_L (s_new S kd N) = fun j b => if b = s_nx S then 0 else s_L S j b := rfl
theorem R_new (S : wS) (kd N : Nat) : s_R (s_new S kd N) = fun j b => if b = s_nx S then none else s_R S j b := rfl
theorem n_new (S : wS) (kd N : Nat) : s_n (s_new S kd N) = s_n S := rfl
theorem aI_new (S : wS) (kd N : Nat) : s_aI (s_new S kd N) = s_aI S := rfl
theorem aL_new (S : wS) (kd N : Nat) : s_aL (s_new S kd N) = s_aL S := rfl
theorem aR_new (S : wS) (kd N : Nat) : s_aR (s_new S kd N) = s_aR S := rfl
theorem nx_newA (S : wS) (kd N : Nat) : s_nx (s_newA S kd N) = s_nx S + 1 := rfl
theorem lm_newA (S : wS) (kd N : Nat) : s_lm (s_newA S kd N) = s_lm S := rfl
theorem sl_newA (S : wS) (kd N : Nat) : s_sl (s_newA S kd N) = s_sl S + N := rfl
theorem sm_newA (S : wS) (kd N : Nat) : s_sm (s_newA S kd N) = s_sm S := rfl
theorem K_newA (S : wS) (kd N : Nat) : s_K (s_newA S kd N) = fun b => if b = s_nx S then kd else s_K S b := rfl
theorem I_newA (S : wS) (kd N : Nat) : s_I (s_newA S kd N) = s_I S := rfl
theorem L_newA (S : wS) (kd N : Nat) : s_L (s_newA S kd N) = s_L S := rfl
theorem R_newA (S : wS) (kd N : Nat) : s_R (s_newA S kd N) = s_R S := rfl
theorem n_newA (S : wS) (kd N : Nat) : s_n (s_newA S kd N) = fun b => if b = s_nx S then N else s_n S b := rfl
theorem aI_newA (S : wS) (kd N : Nat) : s_aI (s_newA S kd N) = fun b j => if b = s_nx S then 0 else s_aI S b j := rfl
theorem aL_newA (S : wS) (kd N : Nat) : s_aL (s_newA S kd N) = fun b j => if b = s_nx S then 0 else s_aL S b j := rfl
theorem aR_newA (S : wS) (kd N : Nat) : s_aR (s_newA S kd N) = fun b j => if b = s_nx S then none else s_aR S b j := rfl
/-- the cell of an address -/
def wE (Y : Nat → ClassId) (S : wS) (a : Nat) : va_E := match s_K S a with
  | 1 => .inr (0, [.int (s_I S 0 a), .int (s_I S 1 a), .int (s_I S 2 a), .int (s_I S 3 a), .long (s_L S 0 a), va_rf (s_R S 0 a), .int (s_I S 4 a)])
  | 2 => .inr (1, [va_rf (s_R S 1 a), .int (s_I S 5 a)])
  | 3 => .inr (2, [va_rf (s_R S 2 a), va_rf (s_R S 3 a)])
  | 5 => .inr (4, [.int (s_I S 6 a), va_rf (s_R S 4 a)])
  | 6 => .inr (5, [va_rf (s_R S 5 a), .int (s_I S 7 a)])
  | 7 => .inr (6, [va_rf (s_R S 6 a), va_rf (s_R S 7 a), va_rf (s_R S 8 a), .int (s_I S 8 a), .int (s_I S 9 a), .int (s_I S 10 a), .int (s_I S 11 a)])
  | 8 => .inr (7, [.int (s_I S 12 a), .int (s_I S 13 a), va_rf (s_R S 9 a)])
  | 9 => .inr (8, [va_rf (s_R S 10 a), va_rf (s_R S 11 a), va_rf (s_R S 12 a), va_rf (s_R S 13 a), va_rf (s_R S 14 a), va_rf (s_R S 15 a), .long (s_L S 1 a), .int (s_I S 14 a)])
  | 10 => .inr (9, [.int (s_I S 15 a), va_rf (s_R S 16 a), va_rf (s_R S 17 a), va_rf (s_R S 18 a), .int (s_I S 16 a), .int (s_I S 17 a), va_rf (s_R S 19 a), va_rf (s_R S 20 a), .int (s_I S 18 a), va_rf (s_R S 21 a), va_rf (s_R S 22 a), va_rf (s_R S 23 a), va_rf (s_R S 24 a), va_rf (s_R S 25 a), va_rf (s_R S 26 a), va_rf (s_R S 27 a), va_rf (s_R S 28 a), .int (s_I S 19 a), .int (s_I S 20 a), .int (s_I S 21 a), .long (s_L S 2 a), .int (s_I S 22 a), va_rf (s_R S 29 a), va_rf (s_R S 30 a), va_rf (s_R S 31 a), va_rf (s_R S 32 a), va_rf (s_R S 33 a), va_rf (s_R S 34 a), .long (s_L S 3 a), .int (s_I S 23 a), .int (s_I S 24 a), .int (s_I S 25 a), .int (s_I S 26 a), .int (s_I S 27 a), .long (s_L S 4 a), va_rf (s_R S 35 a)])
  | 21 => .inl (Y 0, s_n S a, .inl (s_aI S a))
  | 22 => .inl (Y 1, s_n S a, .inr (.inl (s_aL S a)))
  | 23 => .inl (Y 2, s_n S a, .inr (.inr (.inr (.inr (s_aR S a)))))
  | 24 => .inl (Y 3, s_n S a, .inr (.inr (.inr (.inr (s_aR S a)))))
  | _ => .inl (Y 0, 0, .inl (fun _ => 0))
theorem wE_X0 {Y : Nat → ClassId} {S : wS} {a : Nat} (h : s_K S a = 1) : wE Y S a = .inr (0, [.int (s_I S 0 a), .int (s_I S 1 a), .int (s_I S 2 a), .int (s_I S 3 a), .long (s_L S 0 a), va_rf (s_R S 0 a), .int (s_I S 4 a)]) := by unfold wE; rw [h]; rfl
theorem wE_X1 {Y : Nat → ClassId} {S : wS} {a : Nat} (h : s_K S a = 2) : wE Y S a = .inr (1, [va_rf (s_R S 1 a), .int (s_I S 5 a)]) := by unfold wE; rw [h]; rfl
theorem wE_X3 {Y : Nat → ClassId} {S : wS} {a : Nat} (h : s_K S a = 3) : wE Y S a = .inr (2, [va_rf (s_R S 2 a), va_rf (s_R S 3 a)]) := by unfold wE; rw [h]; rfl
theorem wE_X5 {Y : Nat → ClassId} {S : wS} {a : Nat} (h : s_K S a = 5) : wE Y S a = .inr (4, [.int (s_I S 6 a), va_rf (s_R S 4 a)]) := by unfold wE; rw [h]; rfl
theorem wE_X6 {Y : Nat → ClassId} {S : wS} {a : Nat} (h : s_K S a = 6) : wE Y S a = .inr (5, [va_rf (s_R S 5 a), .int (s_I S 7 a)]) := by unfold wE; rw [h]; rfl
theorem wE_X7 {Y : Nat → ClassId} {S : wS} {a : Nat} (h : s_K S a = 7) : wE Y S a = .inr (6, [va_rf (s_R S 6 a), va_rf (s_R S 7 a), va_rf (s_R S 8 a), .int (s_I S 8 a), .int (s_I S 9 a), .int (s_I S 10 a), .int (s_I S 11 a)]) := by unfold wE; rw [h]; rfl
theorem wE_X9 {Y : Nat → ClassId} {S : wS} {a : Nat} (h : s_K S a = 8) : wE Y S a = .inr (7, [.int (s_I S 12 a), .int (s_I S 13 a), va_rf (s_R S 9 a)]) := by unfold wE; rw [h]; rfl
theorem wE_X10 {Y : Nat → ClassId} {S : wS} {a : Nat} (h : s_K S a = 9) : wE Y S a = .inr (8, [va_rf (s_R S 10 a), va_rf (s_R S 11 a), va_rf (s_R S 12 a), va_rf (s_R S 13 a), va_rf (s_R S 14 a), va_rf (s_R S 15 a), .long (s_L S 1 a), .int (s_I S 14 a)]) := by unfold wE; rw [h]; rfl
theorem wE_X11 {Y : Nat → ClassId} {S : wS} {a : Nat} (h : s_K S a = 10) : wE Y S a = .inr (9, [.int (s_I S 15 a), va_rf (s_R S 16 a), va_rf (s_R S 17 a), va_rf (s_R S 18 a), .int (s_I S 16 a), .int (s_I S 17 a), va_rf (s_R S 19 a), va_rf (s_R S 20 a), .int (s_I S 18 a), va_rf (s_R S 21 a), va_rf (s_R S 22 a), va_rf (s_R S 23 a), va_rf (s_R S 24 a), va_rf (s_R S 25 a), va_rf (s_R S 26 a), va_rf (s_R S 27 a), va_rf (s_R S 28 a), .int (s_I S 19 a), .int (s_I S 20 a), .int (s_I S 21 a), .long (s_L S 2 a), .int (s_I S 22 a), va_rf (s_R S 29 a), va_rf (s_R S 30 a), va_rf (s_R S 31 a), va_rf (s_R S 32 a), va_rf (s_R S 33 a), va_rf (s_R S 34 a), .long (s_L S 3 a), .int (s_I S 23 a), .int (s_I S 24 a), .int (s_I S 25 a), .int (s_I S 26 a), .int (s_I S 27 a), .long (s_L S 4 a), va_rf (s_R S 35 a)]) := by unfold wE; rw [h]; rfl
theorem wE_21 {Y : Nat → ClassId} {S : wS} {a : Nat} (h : s_K S a = 21) : wE Y S a = .inl (Y 0, s_n S a, .inl (s_aI S a)) := by unfold wE; rw [h]; rfl
theorem wE_22 {Y : Nat → ClassId} {S : wS} {a : Nat} (h : s_K S a = 22) : wE Y S a = .inl (Y 1, s_n S a, .inr (.inl (s_aL S a))) := by unfold wE; rw [h]; rfl
theorem wE_23 {Y : Nat → ClassId} {S : wS} {a : Nat} (h : s_K S a = 23) : wE Y S a = .inl (Y 2, s_n S a, .inr (.inr (.inr (.inr (s_aR S a))))) := by unfold wE; rw [h]; rfl
theorem wE_24 {Y : Nat → ClassId} {S : wS} {a : Nat} (h : s_K S a = 24) : wE Y S a = .inl (Y 3, s_n S a, .inr (.inr (.inr (.inr (s_aR S a))))) := by unfold wE; rw [h]; rfl
theorem wE_congr {Y : Nat → ClassId} {S S' : wS} {a : Nat} (h1 : s_K S' a = s_K S a) (h2 : ∀ i, s_I S' i a = s_I S i a) (h3 : ∀ i, s_L S' i a = s_L S i a) (h4 : ∀ i, s_R S' i a = s_R S i a) (h5 : s_n S' a = s_n S a) (h6 : s_aI S' a = s_aI S a) (h7 : s_aL S' a = s_aL S a) (h8 : s_aR S' a = s_aR S a) : wE Y S' a = wE Y S a := by
  unfold wE; simp only [h1, h2, h3, h4, h5, h6, h7, h8]
/-- the heap is as S says -/
def wH (D : va_G) (Y : Nat → ClassId) (A : Nat → Prop) (S : wS) (H : Heap) : Prop := H.size = s_nx S ∧ ∀ a, s_K S a ≠ 0 → va_at D vwCl (a, wE Y S a) H ∧ A a
def wG (S0 S : wS) : Prop := s_nx S0 ≤ s_nx S ∧ s_nx S ≤ s_lm S ∧ s_lm S = s_lm S0 ∧ s_sl S0 ≤ s_sl S ∧ s_sl S ≤ s_sm S ∧ s_sm S = s_sm S0
theorem wG.trans {S0 S1 S2 : wS} (h : wG S0 S1) (k : wG S1 S2) : wG S0 S2 := by
  obtain ⟨a1, a2, a3, a4, a5, a6⟩ := h
  obtain ⟨b1, b2, b3, b4, b5, b6⟩ := k
  exact ⟨by omega, by omega, by omega, by omega, by omega, by omega⟩
theorem wG.self {S0 S1 : wS} (h : wG S0 S1) : wG S1 S1 := ⟨Nat.le_refl _, h.2.1, rfl, Nat.le_refl _, h.2.2.2.2.1, rfl⟩
theorem wE_pI {Y : Nat → ClassId} (S : wS) (i a : Nat) (v : Int32) {b : Nat} (hb : b ≠ a) : wE Y (s_pI S i a v) b = wE Y S b := wE_congr rfl (fun j => if_neg (fun z => hb z.2)) (fun _ => rfl) (fun _ => rfl) rfl rfl rfl rfl
theorem wE_pL {Y : Nat → ClassId} (S : wS) (i a : Nat) (v : Int64) {b : Nat} (hb : b ≠ a) : wE Y (s_pL S i a v) b = wE Y S b := wE_congr rfl (fun _ => rfl) (fun j => if_neg (fun z => hb z.2)) (fun _ => rfl) rfl rfl rfl rfl
theorem wE_pR {Y : Nat → ClassId} (S : wS) (i a : Nat) (v : Option Nat) {b : Nat} (hb : b ≠ a) : wE Y (s_pR S i a v) b = wE Y S b := wE_congr rfl (fun _ => rfl) (fun _ => rfl) (fun j => if_neg (fun z => hb z.2)) rfl rfl rfl rfl
theorem wE_wI {Y : Nat → ClassId} (S : wS) (a i : Nat) (v : Int32) {b : Nat} (hb : b ≠ a) : wE Y (s_wI S a i v) b = wE Y S b := wE_congr rfl (fun _ => rfl) (fun _ => rfl) (fun _ => rfl) rfl (funext fun j => if_neg (fun z => hb z.1)) rfl rfl
theorem wE_wL {Y : Nat → ClassId} (S : wS) (a i : Nat) (v : Int64) {b : Nat} (hb : b ≠ a) : wE Y (s_wL S a i v) b = wE Y S b := wE_congr rfl (fun _ => rfl) (fun _ => rfl) (fun _ => rfl) rfl rfl (funext fun j => if_neg (fun z => hb z.1)) rfl
theorem wE_wR {Y : Nat → ClassId} (S : wS) (a i : Nat) (v : Option Nat) {b : Nat} (hb : b ≠ a) : wE Y (s_wR S a i v) b = wE Y S b := wE_congr rfl (fun _ => rfl) (fun _ => rfl) (fun _ => rfl) rfl rfl rfl (funext fun j => if_neg (fun z => hb z.1))
theorem wE_new {Y : Nat → ClassId} (S : wS) (kd N : Nat) {b : Nat} (hb : b ≠ s_nx S) : wE Y (s_new S kd N) b = wE Y S b := wE_congr (if_neg hb) (fun _ => if_neg hb) (fun _ => if_neg hb) (fun _ => if_neg hb) rfl rfl rfl rfl
theorem wE_newA {Y : Nat → ClassId} (S : wS) (kd N : Nat) {b : Nat} (hb : b ≠ s_nx S) : wE Y (s_newA S kd N) b = wE Y S b := wE_congr (if_neg hb) (fun _ => rfl) (fun _ => rfl) (fun _ => rfl) (if_neg hb) (funext fun _ => if_neg hb) (funext fun _ => if_neg hb) (funext fun _ => if_neg hb)
theorem ly_X0 : ∀ w ∈ u_ws RX0 TX0 7, w ∈ lw_all := fun w hw => by
  obtain ⟨k, hk, rfl⟩ := List.mem_map.mp hw
  have hk := List.mem_range.mp hk
  match k, hk with
  | 0, _ => exact qw292
  | 1, _ => exact qw294
  | 2, _ => exact qw296
  | 3, _ => exact qw298
  | 4, _ => exact qw300
  | 5, _ => exact qw302
  | 6, _ => exact qw304
  | k + 7, hk => exact absurd hk (by omega)
theorem ly_X1 : ∀ w ∈ u_ws RX1 TX1 2, w ∈ lw_all := fun w hw => by
  obtain ⟨k, hk, rfl⟩ := List.mem_map.mp hw
  have hk := List.mem_range.mp hk
  match k, hk with
  | 0, _ => exact qw52
  | 1, _ => exact qw54
  | k + 2, hk => exact absurd hk (by omega)
theorem ly_X3 : ∀ w ∈ u_ws RX3 TX3 2, w ∈ lw_all := fun w hw => by
  obtain ⟨k, hk, rfl⟩ := List.mem_map.mp hw
  have hk := List.mem_range.mp hk
  match k, hk with
  | 0, _ => exact qw65
  | 1, _ => exact qw67
  | k + 2, hk => exact absurd hk (by omega)
theorem ly_X5 : ∀ w ∈ u_ws RX5 TX5 2, w ∈ lw_all := fun w hw => by
  obtain ⟨k, hk, rfl⟩ := List.mem_map.mp hw
  have hk := List.mem_range.mp hk
  match k, hk with
  | 0, _ => exact qw177
  | 1, _ => exact qw179
  | k + 2, hk => exact absurd hk (by omega)
theorem ly_X6 : ∀ w ∈ u_ws RX6 TX6 2, w ∈ lw_all := fun w hw => by
  obtain ⟨k, hk, rfl⟩ := List.mem_map.mp hw
  have hk := List.mem_range.mp hk
  match k, hk with
  | 0, _ => exact qw36
  | 1, _ => exact qw38
  | k + 2, hk => exact absurd hk (by omega)
theorem ly_X7 : ∀ w ∈ u_ws RX7 TX7 7, w ∈ lw_all := fun w hw => by
  obtain ⟨k, hk, rfl⟩ := List.mem_map.mp hw
  have hk := List.mem_range.mp hk
  match k, hk with
  | 0, _ => exact qw87
  | 1, _ => exact qw89
  | 2, _ => exact qw91
  | 3, _ => exact qw93
  | 4, _ => exact qw95
  | 5, _ => exact qw97
  | 6, _ => exact qw99
  | k + 7, hk => exact absurd hk (by omega)
theorem ly_X9 : ∀ w ∈ u_ws RX9 TX9 3, w ∈ lw_all := fun w hw => by
  obtain ⟨k, hk, rfl⟩ := List.mem_map.mp hw
  have hk := List.mem_range.mp hk
  match k, hk with
  | 0, _ => exact qw118
  | 1, _ => exact qw120
  | 2, _ => exact qw122
  | k + 3, hk => exact absurd hk (by omega)
theorem ly_X10 : ∀ w ∈ u_ws RX10 TX10 8, w ∈ lw_all := fun w hw => by
  obtain ⟨k, hk, rfl⟩ := List.mem_map.mp hw
  have hk := List.mem_range.mp hk
  match k, hk with
  | 0, _ => exact qw134
  | 1, _ => exact qw136
  | 2, _ => exact qw138
  | 3, _ => exact qw140
  | 4, _ => exact qw142
  | 5, _ => exact qw144
  | 6, _ => exact qw146
  | 7, _ => exact qw148
  | k + 8, hk => exact absurd hk (by omega)
theorem ly_X11 : ∀ w ∈ u_ws RX11 TX11 36, w ∈ lw_all := fun w hw => by
  obtain ⟨k, hk, rfl⟩ := List.mem_map.mp hw
  have hk := List.mem_range.mp hk
  match k, hk with
  | 0, _ => exact qw725
  | 1, _ => exact qw727
  | 2, _ => exact qw729
  | 3, _ => exact qw731
  | 4, _ => exact qw733
  | 5, _ => exact qw735
  | 6, _ => exact qw737
  | 7, _ => exact qw739
  | 8, _ => exact qw741
  | 9, _ => exact qw743
  | 10, _ => exact qw745
  | 11, _ => exact qw747
  | 12, _ => exact qw749
  | 13, _ => exact qw751
  | 14, _ => exact qw753
  | 15, _ => exact qw755
  | 16, _ => exact qw757
  | 17, _ => exact qw759
  | 18, _ => exact qw761
  | 19, _ => exact qw763
  | 20, _ => exact qw765
  | 21, _ => exact qw767
  | 22, _ => exact qw769
  | 23, _ => exact qw771
  | 24, _ => exact qw773
  | 25, _ => exact qw775
  | 26, _ => exact qw777
  | 27, _ => exact qw779
  | 28, _ => exact qw781
  | 29, _ => exact qw783
  | 30, _ => exact qw785
  | 31, _ => exact qw787
  | 32, _ => exact qw789
  | 33, _ => exact qw791
  | 34, _ => exact qw793
  | 35, _ => exact qw795
  | k + 36, hk => exact absurd hk (by omega)
section HP
variable {p : Program} {l : Launch} {e : Env} {R : Room} {s : State} {m : MethodId} {args : Array Value} {below : List Frame} {meth : Method} {c : Code} {H : Heap} {locs : List Loc} {cells slots : Nat} {Q : State → Prop}
variable {D : va_G} {Y : Nat → ClassId} {aR : Nat → Nat} {A : Nat → Prop} {cc : ByteArray} {own nm : String} {mx : Nat} {rt : Option FieldType} {pc : Nat} {ls : Array Slot} {rest : List Value} {a index : Nat}
theorem jq_one {ci : Nat} {fs : List Value} (h : va_at D vwCl (a, .inr (ci, fs)) H) : va_P D vwCl [(a, .inr (ci, fs))] H := by
  intro k q hk
  match k, hk with
  | 0, hk => cases hk; exact h
  | k + 1, hk => simp at hk
theorem jq_oneA {x : ClassId × vp_A} (h : va_at D vwCl (a, .inl x) H) : va_P D vwCl [(a, .inl x)] H := by
  intro k q hk
  match k, hk with
  | 0, hk => cases hk; exact h
  | k + 1, hk => simp at hk
/-- a field read, of a cell that is known -/
theorem jq_rdf {ci k N : Nat} {C : String} {T : u_T} {fs : List Value} {v : Value} (hX : jq_X D Y aR A p s m args meth c cc own nm mx rt) (hat : va_at D vwCl (a, .inr (ci, fs)) H) (hin : ∀ w ∈ u_ws C T N, w ∈ lw_all) (hc : vwCl[ci]? = some (C, T, N)) (hk : k < N)
    (hl : Cond.fieldLink own index (T k).1 (T k).2.1 (T k).2.2.1 ∈ lw_all) (hv : fs[k]? = some v) (hdg : decode cc pc = .ok (.getfield index, 3))
    (kk : W p l e R s m args below meth c H locs cells slots Q (F0 m (pc + 3) ls (v :: rest))) : W p l e R s m args below meth c H locs cells slots Q (F0 m pc ls (.ref a :: rest)) :=
  va_get hX.1 hX.2.1 hX.2.2.2.2.1 hin hX.2.2.2.1 hX.2.2.2.2.2.1.1 (jq_one hat) 0 rfl hc k hk (hX.2.2.2.2.1 _ hl) (fun _ h => h) hv hdg kk
theorem jq_rdfN {ci k N : Nat} {C host : String} {T : u_T} {fs : List Value} {v : Value} (hX : jq_X D Y aR A p s m args meth c cc own nm mx rt) (hat : va_at D vwCl (a, .inr (ci, fs)) H) (hin : ∀ w ∈ u_ws C T N, w ∈ lw_all) (hc : vwCl[ci]? = some (C, T, N)) (hk : k < N)
    (hl : Cond.fieldLinkNest own index (T k).1 (T k).2.1 (T k).2.2.1 host ∈ lw_nest) (hv : fs[k]? = some v) (hdg : decode cc pc = .ok (.getfield index, 3))
    (kk : W p l e R s m args below meth c H locs cells slots Q (F0 m (pc + 3) ls (v :: rest))) : W p l e R s m args below meth c H locs cells slots Q (F0 m pc ls (.ref a :: rest)) :=
  va_getN hX.1 hX.2.1 hX.2.2.2.2.1 hin hX.2.2.2.1 hX.2.2.2.2.2.1.1 (jq_one hat) 0 rfl hc k hk (va_Nw.use rfl (hX.2.2.2.2.2.1.2.1 _ hl)) (fun _ h => h) hv hdg kk
theorem jq_recvA {ci N : Nat} {C : String} {T : u_T} {fs : List Value} (hK : va_K D vwCl (jq_T Y) s) (hat : va_at D vwCl (a, .inr (ci, fs)) H) (hc : vwCl[ci]? = some (C, T, N)) : ∃ cell : Cell, H[a]? = some cell ∧ cell.vm.isStatics = false ∧ s.vm.findClass C = some cell.cls :=
  va_recv hK (jq_one hat) hc (q0 := 0) rfl
/-- a field written -/
theorem jq_wrf {ci k N : Nat} {C : String} {T : u_T} {fs : List Value} {v : Value} {ty : FieldType} {ty0 : Nat → FieldType} (hX : jq_X D Y aR A p s m args meth c cc own nm mx rt) (hat : va_at D vwCl (a, .inr (ci, fs)) H) (hin : ∀ w ∈ u_ws C T N, w ∈ lw_all) (hty : ∀ k, k < N → parseFieldDescriptor (T k).2.2.1 = some (ty0 k)) (hnm : ∀ a, a < N → ∀ b, b < N → a ≠ b → (T a).2.1 ≠ (T b).2.1) (hc : vwCl[ci]? = some (C, T, N)) (hk : k < N)
    (hl : Cond.fieldLink own index (T k).1 (T k).2.1 (T k).2.2.1 ∈ lw_all) (hfin : (T k).2.2.2 = false ∨ ((T k).2.2.2 = true ∧ nm = "<init>" ∧ (T k).1 = own)) (hd : parseFieldDescriptor (T k).2.2.1 = some ty) (hn : narrow ty v = v) (hfit : fits ty v = true) (hlen : k < fs.length) (hS : va_S A s.heap H locs) (hA : A a) (hdg : decode cc pc = .ok (.putfield index, 3))
    (kk : ∀ (H1 : Heap) (locs1 : List Loc), va_at D vwCl (a, .inr (ci, fs.set k v)) H1 → H1.size = H.size → (∀ q : Nat, q ≠ a → H1[q]? = H[q]?) → va_S A s.heap H1 locs1 → W p l e R s m args below meth c H1 locs1 cells slots Q (F0 m (pc + 3) ls rest)) : W p l e R s m args below meth c H locs cells slots Q (F0 m pc ls (v :: .ref a :: rest)) := by
  obtain ⟨hx, hb, -, hown, hts, ⟨hK, -⟩, -, -, hnm2⟩ := hX
  have hap := va_apart (own := own) hts hin ty0 hty hnm hK hc
  obtain ⟨r, h1, cell, q1, q2, q3, q4⟩ := hat
  have hr : r = (C, T, N) := Option.some.inj (h1.symm.trans hc)
  subst hr
  obtain ⟨hSl, hfc, kC, hkC, hkind⟩ := hK.1 ci _ hc
  obtain ⟨cf, kf, fi, f, hi, hsl⟩ := hSl k hk
  have hst := (u_facts hfc hkC (u_lays hts hin hk) hi).1
  have hlay := hts _ (hin _ (u_in_lay hk))
  have fin : ∀ (H1 : Heap) (i0 : Nat), i0 = D.2 ci k → H1[a]? = some (cell.setSlot i0 v) → H1.size = H.size → (∀ q : Nat, q ≠ a → H1[q]? = H[q]?) → W p l e R s m args below meth c H1 (locs ++ [⟨a, i0⟩]) cells slots Q (F0 m (pc + 3) ls rest) := by
    intro H1 i0 hi0 e1 e2 e3
    subst hi0
    exact kk H1 _ ⟨_, hc, t_OB.to (V := updV (vp_V fs) k v) ⟨_, e1, q2, q3, t_set q4 hap hk v⟩ (fun j _ => vp_updV_set hlen v j)⟩ e2 e3 (hS.put e2 e3 hA)
  rcases hfin with hfin | ⟨hfin, hin2, hdecl⟩
  · unfold u_lay at hlay
    rw [if_neg (by rw [hfin]; decide)] at hlay
    have h6 := u_store hfc hkC hkind hlay hi hd hn hfit
    exact W.putK hx hb (f := f) ⟨hown, hts _ hl, ⟨_, _, _, hi⟩, hst⟩ (by rw [q2]; exact h6) q1 q3 (by rw [hsl]; exact k2_hasslot (q4 k hk)) rfl rfl hdg fun H' e1 e2 e3 => fin H' _ hsl e1 e2 e3
  · unfold u_lay at hlay
    rw [if_pos hfin] at hlay
    have hcf : m.cls = cf := by
      obtain ⟨_, _, c', _, _, _, -, -, hf', -, -, -, hown2, -⟩ := Cond.laysFinal_spec hlay
      have e1 : c' = cf := by have := hi.symm.trans hf'; simp at this; exact this.1.symm
      rw [hdecl] at hown2
      rw [← e1]; exact Option.some.inj (hown.symm.trans hown2)
    have h6 := u_fits hfc hkC hkind (Or.inr hlay) hi hd hn hfit
    exact W.putFinK hx hb hown (hts _ hl) hi hst hcf (hnm2.trans hin2) (by rw [q2]; exact h6) q1 q3 (by rw [hsl]; exact k2_hasslot (q4 k hk)) rfl rfl hdg fun H' e1 e2 e3 => fin H' _ hsl e1 e2 e3
theorem wH.at {S : wS} (hH : wH D Y A S H) (h : s_K S a ≠ 0) : va_at D vwCl (a, wE Y S a) H := (hH.2 a h).1
theorem wH.set {S S1 : wS} {H1 : Heap} (hH : wH D Y A S H) (ha : s_K S a ≠ 0) (hx : s_nx S1 = s_nx S) (hK : s_K S1 = s_K S) (ho : ∀ b, b ≠ a → wE Y S1 b = wE Y S b) (h1 : va_at D vwCl (a, wE Y S1 a) H1) (hz : H1.size = H.size) (hq : ∀ q : Nat, q ≠ a → H1[q]? = H[q]?) : wH D Y A S1 H1 := by
  refine ⟨by rw [hz, hx]; exact hH.1, fun b hb => ?_⟩
  rw [hK] at hb
  refine ⟨?_, (hH.2 b hb).2⟩
  by_cases hba : b = a
  · subst hba; exact h1
  · rw [ho b hba]; exact (hH.2 b hb).1.kept (hq b hba)
end HP
