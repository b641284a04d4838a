/-! what an instruction does is one of: nothing, go on, call, return -/
abbrev zAct : Type := zC ⊕ (Nat × List Value × zC) ⊕ (Option Value × zM)
def z_fold.{u} {ρ : Sort u} (fail : ρ) (k : zC → ρ) (call : Nat → List Value → zC → ρ) (ret : Option Value → zM → ρ) (a : Option zAct) : ρ := match a with
  | none => fail
  | some (.inl c) => k c
  | some (.inr (.inl q)) => call q.1 q.2.1 q.2.2
  | some (.inr (.inr q)) => ret q.1 q.2
def z_kK (c : zC) : Option zAct := some (.inl c)
def z_kC (m : Nat) (as : List Value) (c : zC) : Option zAct := some (.inr (.inl (m, as, c)))
def z_kR (v : Option Value) (M : zM) : Option zAct := some (.inr (.inr (v, M)))
def z_act (X : zX) (c : zC) : Option zAct := z_stepc X none z_kK z_kC z_kR c
theorem zf_isA.{u} {ρ : Sort u} (φ : Option zAct → ρ) (v : Value) (g0 : Option zAct) : φ (z_isA none v g0) = z_isA (φ none) v (φ g0) := by
  unfold z_isA
  (repeat' split) <;> first | rfl | contradiction
theorem zf_cat1.{u} {ρ : Sort u} (φ : Option zAct → ρ) (v : Value) (g0 : Option zAct) : φ (z_cat1 none v g0) = z_cat1 (φ none) v (φ g0) := by
  unfold z_cat1
  (repeat' split) <;> first | rfl | contradiction
theorem zf_I1.{u} {ρ : Sort u} (φ : Option zAct → ρ) (st : List Value) (g0 : Int32 → List Value → Option zAct) : φ (z_I1 none st g0) = z_I1 (φ none) st (fun x r => φ (g0 x r)) := by
  unfold z_I1
  (repeat' split) <;> first | rfl | contradiction
theorem zf_J1.{u} {ρ : Sort u} (φ : Option zAct → ρ) (st : List Value) (g0 : Int64 → List Value → Option zAct) : φ (z_J1 none st g0) = z_J1 (φ none) st (fun x r => φ (g0 x r)) := by
  unfold z_J1
  (repeat' split) <;> first | rfl | contradiction
theorem zf_I2.{u} {ρ : Sort u} (φ : Option zAct → ρ) (st : List Value) (g0 : Int32 → Int32 → List Value → Option zAct) : φ (z_I2 none st g0) = z_I2 (φ none) st (fun x y r => φ (g0 x y r)) := by
  unfold z_I2
  (repeat' split) <;> first | rfl | contradiction
theorem zf_J2.{u} {ρ : Sort u} (φ : Option zAct → ρ) (st : List Value) (g0 : Int64 → Int64 → List Value → Option zAct) : φ (z_J2 none st g0) = z_J2 (φ none) st (fun x y r => φ (g0 x y r)) := by
  unfold z_J2
  (repeat' split) <;> first | rfl | contradiction
theorem zf_JI.{u} {ρ : Sort u} (φ : Option zAct → ρ) (st : List Value) (g0 : Int64 → Int32 → List Value → Option zAct) : φ (z_JI none st g0) = z_JI (φ none) st (fun x y r => φ (g0 x y r)) := by
  unfold z_JI
  (repeat' split) <;> first | rfl | contradiction
theorem zf_V1.{u} {ρ : Sort u} (φ : Option zAct → ρ) (st : List Value) (g0 : Value → List Value → Option zAct) : φ (z_V1 none st g0) = z_V1 (φ none) st (fun x r => φ (g0 x r)) := by
  unfold z_V1
  (repeat' split) <;> first | rfl | contradiction
theorem zf_R1.{u} {ρ : Sort u} (φ : Option zAct → ρ) (st : List Value) (g0 : Nat → List Value → Option zAct) : φ (z_R1 none st g0) = z_R1 (φ none) st (fun x r => φ (g0 x r)) := by
  unfold z_R1
  (repeat' split) <;> first | rfl | contradiction
theorem zf_RI.{u} {ρ : Sort u} (φ : Option zAct → ρ) (st : List Value) (g0 : Nat → Int32 → List Value → Option zAct) : φ (z_RI none st g0) = z_RI (φ none) st (fun x y r => φ (g0 x y r)) := by
  unfold z_RI
  (repeat' split) <;> first | rfl | contradiction
theorem zf_cp5.{u} {ρ : Sort u} (φ : Option zAct → ρ) (st : List Value) (g0 : Int32 → Int32 → Nat → Int32 → Nat → List Value → Option zAct) : φ (z_cp5 none st g0) = z_cp5 (φ none) st (fun a b c d e f => φ (g0 a b c d e f)) := by
  unfold z_cp5
  (repeat' split) <;> first | rfl | contradiction
theorem zf_ldI.{u} {ρ : Sort u} (φ : Option zAct → ρ) (L : zL) (a : Nat) (g0 : Int32 → Option zAct) : φ (z_ldI none L a g0) = z_ldI (φ none) L a (fun x => φ (g0 x)) := by
  unfold z_ldI
  (repeat' split) <;> first | rfl | contradiction
theorem zf_ldJ.{u} {ρ : Sort u} (φ : Option zAct → ρ) (L : zL) (a : Nat) (g0 : Int64 → Option zAct) : φ (z_ldJ none L a g0) = z_ldJ (φ none) L a (fun x => φ (g0 x)) := by
  unfold z_ldJ
  (repeat' split) <;> first | rfl | contradiction
theorem zf_nul.{u} {ρ : Sort u} (φ : Option zAct → ρ) (v : Value) (g0 : Option zAct) (g1 : Option zAct) : φ (z_nul none v g0 g1) = z_nul (φ none) v (φ g0) (φ g1) := by
  unfold z_nul
  (repeat' split) <;> first | rfl | contradiction
theorem zf_jld.{u} {ρ : Sort u} (φ : Option zAct → ρ) (M : zM) (a : Nat) (i : Int32) (g0 : Int64 → Option zAct) : φ (z_jld none M a i g0) = z_jld (φ none) M a i (fun x => φ (g0 x)) := by
  unfold z_jld
  (repeat' split) <;> first | rfl | contradiction
theorem zf_qld.{u} {ρ : Sort u} (φ : Option zAct → ρ) (M : zM) (a : Nat) (i : Int32) (g0 : Option zAct) (g1 : Nat → Option zAct) : φ (z_qld none M a i g0 g1) = z_qld (φ none) M a i (φ g0) (fun x => φ (g1 x)) := by
  unfold z_qld
  (repeat' split) <;> first | rfl | contradiction
theorem zf_ast.{u} {ρ : Sort u} (φ : Option zAct → ρ) (M : zM) (t a : Nat) (i x : Int32) (g0 : zM → Option zAct) : φ (z_ast none M t a i x g0) = z_ast (φ none) M t a i x (fun m => φ (g0 m)) := by
  unfold z_ast
  (repeat' split) <;> first | rfl | contradiction
theorem zf_jst.{u} {ρ : Sort u} (φ : Option zAct → ρ) (M : zM) (a : Nat) (i : Int32) (x : Int64) (g0 : zM → Option zAct) : φ (z_jst none M a i x g0) = z_jst (φ none) M a i x (fun m => φ (g0 m)) := by
  unfold z_jst
  (repeat' split) <;> first | rfl | contradiction
theorem zf_qst.{u} {ρ : Sort u} (φ : Option zAct → ρ) (M : zM) (a : Nat) (i : Int32) (v : Value) (g0 : zM → Option zAct) : φ (z_qst none M a i v g0) = z_qst (φ none) M a i v (fun m => φ (g0 m)) := by
  unfold z_qst
  (repeat' split) <;> first | rfl | contradiction
theorem zf_fset.{u} {ρ : Sort u} (φ : Option zAct → ρ) (M : zM) (a ci j : Nat) (v : Value) (g0 : zM → Option zAct) : φ (z_fset none M a ci j v g0) = z_fset (φ none) M a ci j v (fun m => φ (g0 m)) := by
  unfold z_fset
  (repeat' split) <;> first | rfl | contradiction
theorem zf_bool.{u} {ρ : Sort u} (φ : Option zAct → ρ) (x : Int32) (g0 : Option zAct) : φ (z_bool none x g0) = z_bool (φ none) x (φ g0) := by
  unfold z_bool
  (repeat' split) <;> first | rfl | contradiction
theorem zf_obj.{u} {ρ : Sort u} (φ : Option zAct → ρ) (M : zM) (v : Value) (ci : Nat) (g0 : Option zAct) : φ (z_obj none M v ci g0) = z_obj (φ none) M v ci (φ g0) := by
  unfold z_obj
  (repeat' split) <;> first | rfl | contradiction
theorem zf_cpy.{u} {ρ : Sort u} (φ : Option zAct → ρ) (M : zM) (a0 : Nat) (sp : Int32) (a : Nat) (dp n : Int32) (g0 : zM → Option zAct) : φ (z_cpy none M a0 sp a dp n g0) = z_cpy (φ none) M a0 sp a dp n (fun m => φ (g0 m)) := by
  unfold z_cpy
  (repeat' split) <;> first | rfl | contradiction
theorem zf_cln.{u} {ρ : Sort u} (φ : Option zAct → ρ) (M : zM) (a : Nat) (g0 : zM → Option zAct) : φ (z_cln none M a g0) = z_cln (φ none) M a (fun m => φ (g0 m)) := by
  unfold z_cln
  (repeat' split) <;> first | rfl | contradiction
theorem zf_fit.{u} {ρ : Sort u} (φ : Option zAct → ρ) (a : Nat) (as : List Value) (g0 : Option zAct) : φ (z_fit none a as g0) = z_fit (φ none) a as (φ g0) := by
  unfold z_fit
  (repeat' split) <;> first | rfl | contradiction
theorem zf_ar0.{u} {ρ : Sort u} (φ : Option zAct → ρ) (M : zM) (a : Nat) (g0 : Option zAct) : φ (z_ar0 none M a g0) = z_ar0 (φ none) M a (φ g0) := by
  unfold z_ar0
  (repeat' split) <;> first | rfl | contradiction
theorem zf_nil.{u} {ρ : Sort u} (φ : Option zAct → ρ) (r : List Value) (g0 : Option zAct) : φ (z_nil none r g0) = z_nil (φ none) r (φ g0) := by
  unfold z_nil
  (repeat' split) <;> first | rfl | contradiction
theorem zf_sm.{u} {ρ : Sort u} (φ : Option zAct → ρ) (r : List Value) (g0 : Option zAct) : φ (z_sm none r g0) = z_sm (φ none) r (φ g0) := by
  unfold z_sm
  (repeat' split) <;> first | rfl | contradiction
theorem zf_str.{u} {ρ : Sort u} (φ : Option zAct → ρ) (a : Nat) (g0 : Option zAct) : φ (z_str none a g0) = z_str (φ none) a (φ g0) := by
  unfold z_str
  (repeat' split) <;> first | rfl | contradiction
theorem zf_isI.{u} {ρ : Sort u} (φ : Option zAct → ρ) (v : Value) (g0 : Int32 → Option zAct) : φ (z_isI none v g0) = z_isI (φ none) v (fun x => φ (g0 x)) := by
  unfold z_isI
  (repeat' split) <;> first | rfl | contradiction
theorem zf_isJ.{u} {ρ : Sort u} (φ : Option zAct → ρ) (v : Value) (g0 : Int64 → Option zAct) : φ (z_isJ none v g0) = z_isJ (φ none) v (fun x => φ (g0 x)) := by
  unfold z_isJ
  (repeat' split) <;> first | rfl | contradiction
theorem zf_isR.{u} {ρ : Sort u} (φ : Option zAct → ρ) (v : Value) (g0 : Nat → Option zAct) : φ (z_isR none v g0) = z_isR (φ none) v (fun x => φ (g0 x)) := by
  unfold z_isR
  (repeat' split) <;> first | rfl | contradiction
theorem zf_fld.{u} {ρ : Sort u} (φ : Option zAct → ρ) (M : zM) (a ci j : Nat) (g0 : Value → Option zAct) : φ (z_fld none M a ci j g0) = z_fld (φ none) M a ci j (fun x => φ (g0 x)) := by
  unfold z_fld
  (repeat' split) <;> first | rfl | contradiction
theorem zf_ald.{u} {ρ : Sort u} (φ : Option zAct → ρ) (X : zX) (M : zM) (t a : Nat) (i : Int32) (g : Int32 → Option zAct) : φ (z_ald X none M t a i g) = z_ald X (φ none) M t a i (fun x => φ (g x)) := by
  unfold z_ald
  (repeat' split) <;> first | rfl | contradiction
theorem zf_len.{u} {ρ : Sort u} (φ : Option zAct → ρ) (X : zX) (M : zM) (a : Nat) (g : Int32 → Option zAct) : φ (z_len X none M a g) = z_len X (φ none) M a (fun x => φ (g x)) := by
  unfold z_len
  (repeat' split) <;> first | rfl | contradiction
theorem zf_ldA.{u} {ρ : Sort u} (φ : Option zAct → ρ) (L : zL) (a : Nat) (g : Value → Option zAct) : φ (z_ldA none L a g) = z_ldA (φ none) L a (fun x => φ (g x)) := by
  unfold z_ldA
  split
  · exact zf_isA φ _ _
  · rfl
theorem zf_fldI.{u} {ρ : Sort u} (φ : Option zAct → ρ) (M : zM) (a ci j : Nat) (g : Int32 → Option zAct) : φ (z_fldI none M a ci j g) = z_fldI (φ none) M a ci j (fun x => φ (g x)) := by
  unfold z_fldI
  rw [zf_fld φ]
  simp only [zf_isI φ]
theorem zf_fldJ.{u} {ρ : Sort u} (φ : Option zAct → ρ) (M : zM) (a ci j : Nat) (g : Int64 → Option zAct) : φ (z_fldJ none M a ci j g) = z_fldJ (φ none) M a ci j (fun x => φ (g x)) := by
  unfold z_fldJ
  rw [zf_fld φ]
  simp only [zf_isJ φ]
theorem zf_fldA.{u} {ρ : Sort u} (φ : Option zAct → ρ) (M : zM) (a ci j : Nat) (g : Nat → Option zAct) : φ (z_fldA none M a ci j g) = z_fldA (φ none) M a ci j (fun x => φ (g x)) := by
  unfold z_fldA
  rw [zf_fld φ]
  simp only [zf_isR φ]
theorem zf_pop.{u} {ρ : Sort u} (φ : Option zAct → ρ) (n : Nat) : ∀ (st acc : List Value) (g : List Value → List Value → Option zAct), φ (z_pop none n st acc g) = z_pop (φ none) n st acc (fun x r => φ (g x r)) := by
  induction n with
  | zero => intro st acc g; rfl
  | succ n ih =>
    intro st acc g
    cases st with
    | nil => rfl
    | cons v st => exact ih st (v :: acc) g
theorem zf_sw.{u} {ρ : Sort u} (φ : Option zAct → ρ) (x : Int32) (d : Nat) (g : Nat → Option zAct) : ∀ sw : List (Int32 × Nat), φ (z_sw x sw d g) = z_sw x sw d (fun t => φ (g t)) := by
  intro sw
  induction sw with
  | nil => rfl
  | cons q r ih =>
    obtain ⟨y, t⟩ := q
    show φ (if x = y then g t else z_sw x r d g) = if x = y then φ (g t) else z_sw x r d (fun t => φ (g t))
    split
    · rfl
    · exact ih
theorem zf_getf.{u} {ρ : Sort u} (φ : Option zAct → ρ) (M : zM) (val : Value) (o a b : Nat) (g : Value → Option zAct) : φ (z_getf none M val o a b g) = z_getf (φ none) M val o a b (fun x => φ (g x)) := by
  unfold z_getf
  split
  · exact zf_fldJ φ M o a b _
  · exact zf_fldA φ M o a b _
  · exact zf_fldI φ M o a b _
theorem zf_putf.{u} {ρ : Sort u} (φ : Option zAct → ρ) (M : zM) (val : Value) (o a b : Nat) (v : Value) (g : zM → Option zAct) : φ (z_putf none M val o a b v g) = z_putf (φ none) M val o a b v (fun x => φ (g x)) := by
  unfold z_putf
  split
  · rw [zf_isI φ]; simp only [zf_fset φ]
  · rw [zf_isI φ]; simp only [zf_bool φ, zf_fset φ]
  · rw [zf_isJ φ]; simp only [zf_fset φ]
  · rw [zf_isA φ]; simp only [zf_fset φ]
theorem zf_ite.{u} {ρ : Sort u} (φ : Option zAct → ρ) (c : Prop) [Decidable c] (a b : Option zAct) : φ (if c then a else b) = if c then φ a else φ b := by
  split <;> rfl
section
variable {X : zX}
theorem zf_spec.{u} {ρ : Sort u} (fail : ρ) (k : zC → ρ) (call : Nat → List Value → zC → ρ) (ret : Option Value → zM → ρ) (a npc mi : Nat) (L : zL) (st : List Value) (M : zM) : z_spec fail k a npc mi L st M = z_fold fail k call ret (z_spec none z_kK a npc mi L st M) := by
  unfold z_spec
  split <;> first | rfl | (simp only [zf_isA (z_fold fail k call ret), zf_cat1 (z_fold fail k call ret), zf_I1 (z_fold fail k call ret), zf_J1 (z_fold fail k call ret), zf_I2 (z_fold fail k call ret), zf_J2 (z_fold fail k call ret), zf_JI (z_fold fail k call ret), zf_V1 (z_fold fail k call ret), zf_R1 (z_fold fail k call ret), zf_RI (z_fold fail k call ret), zf_cp5 (z_fold fail k call ret), zf_ldI (z_fold fail k call ret), zf_ldJ (z_fold fail k call ret), zf_nul (z_fold fail k call ret), zf_jld (z_fold fail k call ret), zf_qld (z_fold fail k call ret), zf_ast (z_fold fail k call ret), zf_jst (z_fold fail k call ret), zf_qst (z_fold fail k call ret), zf_fset (z_fold fail k call ret), zf_bool (z_fold fail k call ret), zf_obj (z_fold fail k call ret), zf_cpy (z_fold fail k call ret), zf_cln (z_fold fail k call ret), zf_fit (z_fold fail k call ret), zf_ar0 (z_fold fail k call ret), zf_nil (z_fold fail k call ret), zf_sm (z_fold fail k call ret), zf_str (z_fold fail k call ret), zf_isI (z_fold fail k call ret), zf_isJ (z_fold fail k call ret), zf_isR (z_fold fail k call ret), zf_fld (z_fold fail k call ret), zf_ald (z_fold fail k call ret), zf_len (z_fold fail k call ret), zf_ldA (z_fold fail k call ret), zf_pop (z_fold fail k call ret), zf_sw (z_fold fail k call ret), zf_getf (z_fold fail k call ret), zf_putf (z_fold fail k call ret), zf_ite (z_fold fail k call ret)]; rfl)
theorem zf_inv.{u} {ρ : Sort u} (fail : ρ) (k : zC → ρ) (call : Nat → List Value → zC → ρ) (ret : Option Value → zM → ρ) (kind a b npc mi : Nat) (L : zL) (st : List Value) (M : zM) : z_inv fail k call kind a b npc mi L st M = z_fold fail k call ret (z_inv none z_kK z_kC kind a b npc mi L st M) := by
  unfold z_inv
  split
  · exact zf_spec fail k call ret a npc mi L st M
  · rw [zf_pop (z_fold fail k call ret)]
    congr 1
    funext as r
    split
    · rw [zf_sm (z_fold fail k call ret), zf_fit (z_fold fail k call ret)]; rfl
    · simp only [zf_V1 (z_fold fail k call ret), zf_sm (z_fold fail k call ret), zf_obj (z_fold fail k call ret), zf_fit (z_fold fail k call ret)]; rfl
set_option maxHeartbeats 4000000 in
theorem z_step_param.{u} {ρ : Sort u} (fail : ρ) (k : zC → ρ) (call : Nat → List Value → zC → ρ) (ret : Option Value → zM → ρ) (ins : Instr) (npc a b : Nat) (val : Value) (sw : List (Int32 × Nat)) (mi : Nat) (L : zL) (st : List Value) (M : zM) : z_step X fail k call ret ins npc a b val sw mi L st M = z_fold fail k call ret (z_step X none z_kK z_kC z_kR ins npc a b val sw mi L st M) := by
  unfold z_step
  split
  all_goals first
    | rfl
    | exact zf_inv fail k call ret _ _ _ _ _ _ _ _
    | (simp only [zf_isA (z_fold fail k call ret), zf_cat1 (z_fold fail k call ret), zf_I1 (z_fold fail k call ret), zf_J1 (z_fold fail k call ret), zf_I2 (z_fold fail k call ret), zf_J2 (z_fold fail k call ret), zf_JI (z_fold fail k call ret), zf_V1 (z_fold fail k call ret), zf_R1 (z_fold fail k call ret), zf_RI (z_fold fail k call ret), zf_cp5 (z_fold fail k call ret), zf_ldI (z_fold fail k call ret), zf_ldJ (z_fold fail k call ret), zf_nul (z_fold fail k call ret), zf_jld (z_fold fail k call ret), zf_qld (z_fold fail k call ret), zf_ast (z_fold fail k call ret), zf_jst (z_fold fail k call ret), zf_qst (z_fold fail k call ret), zf_fset (z_fold fail k call ret), zf_bool (z_fold fail k call ret), zf_obj (z_fold fail k call ret), zf_cpy (z_fold fail k call ret), zf_cln (z_fold fail k call ret), zf_fit (z_fold fail k call ret), zf_ar0 (z_fold fail k call ret), zf_nil (z_fold fail k call ret), zf_sm (z_fold fail k call ret), zf_str (z_fold fail k call ret), zf_isI (z_fold fail k call ret), zf_isJ (z_fold fail k call ret), zf_isR (z_fold fail k call ret), zf_fld (z_fold fail k call ret), zf_ald (z_fold fail k call ret), zf_len (z_fold fail k call ret), zf_ldA (z_fold fail k call ret), zf_pop (z_fold fail k call ret), zf_sw (z_fold fail k call ret), zf_getf (z_fold fail k call ret), zf_putf (z_fold fail k call ret), zf_ite (z_fold fail k call ret)]; done)
    | (simp only [zf_isA (z_fold fail k call ret), zf_cat1 (z_fold fail k call ret), zf_I1 (z_fold fail k call ret), zf_J1 (z_fold fail k call ret), zf_I2 (z_fold fail k call ret), zf_J2 (z_fold fail k call ret), zf_JI (z_fold fail k call ret), zf_V1 (z_fold fail k call ret), zf_R1 (z_fold fail k call ret), zf_RI (z_fold fail k call ret), zf_cp5 (z_fold fail k call ret), zf_ldI (z_fold fail k call ret), zf_ldJ (z_fold fail k call ret), zf_nul (z_fold fail k call ret), zf_jld (z_fold fail k call ret), zf_qld (z_fold fail k call ret), zf_ast (z_fold fail k call ret), zf_jst (z_fold fail k call ret), zf_qst (z_fold fail k call ret), zf_fset (z_fold fail k call ret), zf_bool (z_fold fail k call ret), zf_obj (z_fold fail k call ret), zf_cpy (z_fold fail k call ret), zf_cln (z_fold fail k call ret), zf_fit (z_fold fail k call ret), zf_ar0 (z_fold fail k call ret), zf_nil (z_fold fail k call ret), zf_sm (z_fold fail k call ret), zf_str (z_fold fail k call ret), zf_isI (z_fold fail k call ret), zf_isJ (z_fold fail k call ret), zf_isR (z_fold fail k call ret), zf_fld (z_fold fail k call ret), zf_ald (z_fold fail k call ret), zf_len (z_fold fail k call ret), zf_ldA (z_fold fail k call ret), zf_pop (z_fold fail k call ret), zf_sw (z_fold fail k call ret), zf_getf (z_fold fail k call ret), zf_putf (z_fold fail k call ret), zf_ite (z_fold fail k call ret)]; rfl)
    | (simp only [zf_I1 (z_fold fail k call ret), zf_nil (z_fold fail k call ret)]; congr 1; funext x r; congr 1; split <;> first | rfl | (rw [zf_bool (z_fold fail k call ret)]; rfl))
theorem z_param.{u} {ρ : Sort u} (fail : ρ) (k : zC → ρ) (call : Nat → List Value → zC → ρ) (ret : Option Value → zM → ρ) (c : zC) : z_stepc X fail k call ret c = z_fold fail k call ret (z_act X c) := by
  obtain ⟨mi, pc, L, st, M⟩ := c
  unfold z_act z_stepc
  dsimp only
  split
  · exact z_step_param _ _ _ _ _ _ _ _ _ _ _ _ _ _
  · rfl
end
/-! more steps, and the limit -/
theorem z_run_succ (X : zX) (n d : Nat) (c : zC) : z_run X (n + 1) d c = z_fold none (z_run X n d) (fun mi as ck => match d with
    | 0 => none
    | d' + 1 => z_call (z_run X n d') (z_run X n d) mi as ck) (fun v M => some (v, M)) (z_act X c) := z_param _ _ _ _ _
theorem z_run_mono (X : zX) : ∀ (n d : Nat) (c : zC) (r : zR), z_run X n d c = some r → z_run X (n + 1) d c = some r := by
  intro n
  induction n with
  | zero => intro d c r h; cases h
  | succ n ih =>
    intro d c r h
    rw [z_run_succ] at h ⊢
    revert h
    match z_act X c with
    | none => intro h; cases h
    | some (.inl c') => intro h; exact ih d c' r h
    | some (.inr (.inr q)) => intro h; exact h
    | some (.inr (.inl q)) =>
      match d with
      | 0 => intro h; cases h
      | d' + 1 =>
        show z_call _ _ q.1 q.2.1 q.2.2 = some r → z_call _ _ q.1 q.2.1 q.2.2 = some r
        unfold z_call
        intro h
        cases h1 : z_run X n d' (z_entry q.1 q.2.1 q.2.2.2.2.2.2) with
        | none => rw [h1] at h; cases h
        | some r1 =>
          rw [h1] at h
          rw [ih d' _ r1 h1]
          exact ih (d' + 1) _ r h
theorem z_run_le (X : zX) {n m d : Nat} {c : zC} {r : zR} (h : n ≤ m) (hr : z_run X n d c = some r) : z_run X m d c = some r := by
  induction m with
  | zero => cases Nat.le_zero.mp h; exact hr
  | succ m ih =>
    rcases Nat.lt_or_ge n (m + 1) with q | q
    · exact z_run_mono X m d c r (ih (Nat.le_of_lt_succ q))
    · cases Nat.le_antisymm h q; exact hr
noncomputable def z_ev (X : zX) (d : Nat) (c : zC) : Option zR := @dite _ (∃ (n : Nat) (r : zR), z_run X n d c = some r) (Classical.propDecidable _) (fun h => some h.choose_spec.choose) (fun _ => none)
theorem z_ev_iff (X : zX) (d : Nat) (c : zC) (r : zR) : z_ev X d c = some r ↔ ∃ n, z_run X n d c = some r := by
  unfold z_ev
  constructor
  · intro h
    split at h
    · next hh =>
      have h2 := hh.choose_spec.choose_spec
      exact ⟨hh.choose, by rw [h2]; exact congrArg some (Option.some.inj h)⟩
    · cases h
  · intro ⟨n, hn⟩
    have hh : ∃ (n : Nat) (r : zR), z_run X n d c = some r := ⟨n, r, hn⟩
    rw [dif_pos hh]
    have h2 := hh.choose_spec.choose_spec
    have h3 := z_run_le X (Nat.le_max_left n hh.choose) hn
    have h4 := z_run_le X (Nat.le_max_right n hh.choose) h2
    rw [h3] at h4
    exact h4.symm
theorem z_opt_ext {α : Type} {a b : Option α} (h : ∀ r, a = some r ↔ b = some r) : a = b := by
  cases a with
  | none =>
    cases b with
    | none => rfl
    | some y => exact absurd ((h y).mpr rfl) (by simp)
  | some x => exact ((h x).mp rfl).symm
/-- a call, over the limit -/
noncomputable def z_evc (X : zX) (d : Nat) (mi : Nat) (as : List Value) (ck : zC) : Option zR := match d with
  | 0 => none
  | d' + 1 => z_call (z_ev X d') (z_ev X d) mi as ck
def z_rt (v : Option Value) (M : zM) : Option zR := some (v, M)
theorem z_ev_step (X : zX) (d : Nat) (c : zC) : z_ev X d c = z_stepc X none (z_ev X d) (z_evc X d) z_rt c := by
  rw [z_param]
  apply z_opt_ext
  intro r
  rw [z_ev_iff]
  constructor
  · intro ⟨n, hn⟩
    cases n with
    | zero => cases hn
    | succ n =>
      rw [z_run_succ] at hn
      revert hn
      match z_act X c with
      | none => intro h; cases h
      | some (.inl c') => intro h; exact (z_ev_iff X d c' r).mpr ⟨n, h⟩
      | some (.inr (.inr q)) => intro h; exact h
      | some (.inr (.inl q)) =>
        match d with
        | 0 => intro h; cases h
        | d' + 1 =>
          show z_call _ _ q.1 q.2.1 q.2.2 = some r → z_call _ _ q.1 q.2.1 q.2.2 = some r
          unfold z_call
          intro h
          cases h1 : z_run X n d' (z_entry q.1 q.2.1 q.2.2.2.2.2.2) with
          | none => rw [h1] at h; cases h
          | some r1 =>
            rw [h1] at h
            rw [(z_ev_iff X d' _ r1).mpr ⟨n, h1⟩]
            exact (z_ev_iff X (d' + 1) _ r).mpr ⟨n, h⟩
  · intro h
    suffices hh : ∃ n, z_run X (n + 1) d c = some r by
      obtain ⟨n, hn⟩ := hh
      exact ⟨n + 1, hn⟩
    have e : ∀ n, z_run X (n + 1) d c = _ := fun n => z_run_succ X n d c
    revert h e
    match z_act X c with
    | none => intro h; cases h
    | some (.inl c') =>
      intro h e
      obtain ⟨n, hn⟩ := (z_ev_iff X d c' r).mp h
      exact ⟨n, (e n).trans hn⟩
    | some (.inr (.inr q)) => intro h e; exact ⟨0, (e 0).trans h⟩
    | some (.inr (.inl q)) =>
      match d with
      | 0 => intro h; cases h
      | d' + 1 =>
        intro h e
        have h : z_call (z_ev X d') (z_ev X (d' + 1)) q.1 q.2.1 q.2.2 = some r := h
        unfold z_call at h
        cases h1 : z_ev X d' (z_entry q.1 q.2.1 q.2.2.2.2.2.2) with
        | none => rw [h1] at h; cases h
        | some r1 =>
          rw [h1] at h
          obtain ⟨n1, hn1⟩ := (z_ev_iff X d' _ r1).mp h1
          obtain ⟨n2, hn2⟩ := (z_ev_iff X (d' + 1) _ r).mp h
          refine ⟨max n1 n2, (e _).trans ?_⟩
          show z_call _ _ q.1 q.2.1 q.2.2 = some r
          unfold z_call
          rw [z_run_le X (Nat.le_max_left n1 n2) hn1]
          exact z_run_le X (Nat.le_max_right n1 n2) hn2
/-- some steps at once -/
noncomputable def z_evs (X : zX) (d : Nat) : Nat → zC → Option zR
  | 0, c => z_ev X d c
  | n + 1, c => z_stepc X none (z_evs X d n) (z_evc X d) z_rt c
theorem z_ev_steps (X : zX) (d n : Nat) (c : zC) : z_ev X d c = z_evs X d n c := by
  induction n generalizing c with
  | zero => rfl
  | succ n ih =>
    rw [z_ev_step]
    show _ = z_stepc X none (z_evs X d n) (z_evc X d) z_rt c
    rw [show z_evs X d n = z_ev X d from funext fun c => (ih c).symm]
