/-! a method whose every return is of a whole number answers one -/
theorem zq_isA (v : Value) : z_isA True v True = True := by
  unfold z_isA
  (repeat' split) <;> first | rfl | contradiction
theorem zq_cat1 (v : Value) : z_cat1 True v True = True := by
  unfold z_cat1
  (repeat' split) <;> first | rfl | contradiction
theorem zq_I1 (st : List Value) : z_I1 True st (fun _ _ => True) = True := by
  unfold z_I1
  (repeat' split) <;> first | rfl | contradiction
theorem zq_J1 (st : List Value) : z_J1 True st (fun _ _ => True) = True := by
  unfold z_J1
  (repeat' split) <;> first | rfl | contradiction
theorem zq_I2 (st : List Value) : z_I2 True st (fun _ _ _ => True) = True := by
  unfold z_I2
  (repeat' split) <;> first | rfl | contradiction
theorem zq_J2 (st : List Value) : z_J2 True st (fun _ _ _ => True) = True := by
  unfold z_J2
  (repeat' split) <;> first | rfl | contradiction
theorem zq_JI (st : List Value) : z_JI True st (fun _ _ _ => True) = True := by
  unfold z_JI
  (repeat' split) <;> first | rfl | contradiction
theorem zq_V1 (st : List Value) : z_V1 True st (fun _ _ => True) = True := by
  unfold z_V1
  (repeat' split) <;> first | rfl | contradiction
theorem zq_R1 (st : List Value) : z_R1 True st (fun _ _ => True) = True := by
  unfold z_R1
  (repeat' split) <;> first | rfl | contradiction
theorem zq_RI (st : List Value) : z_RI True st (fun _ _ _ => True) = True := by
  unfold z_RI
  (repeat' split) <;> first | rfl | contradiction
theorem zq_cp5 (st : List Value) : z_cp5 True st (fun _ _ _ _ _ _ => True) = True := by
  unfold z_cp5
  (repeat' split) <;> first | rfl | contradiction
theorem zq_ldI (L : zL) (a : Nat) : z_ldI True L a (fun _ => True) = True := by
  unfold z_ldI
  (repeat' split) <;> first | rfl | contradiction
theorem zq_ldJ (L : zL) (a : Nat) : z_ldJ True L a (fun _ => True) = True := by
  unfold z_ldJ
  (repeat' split) <;> first | rfl | contradiction
theorem zq_nul (v : Value) : z_nul True v True True = True := by
  unfold z_nul
  (repeat' split) <;> first | rfl | contradiction
theorem zq_jld (M : zM) (a : Nat) (i : Int32) : z_jld True M a i (fun _ => True) = True := by
  unfold z_jld
  (repeat' split) <;> first | rfl | contradiction
theorem zq_qld (M : zM) (a : Nat) (i : Int32) : z_qld True M a i True (fun _ => True) = True := by
  unfold z_qld
  (repeat' split) <;> first | rfl | contradiction
theorem zq_ast (M : zM) (t a : Nat) (i x : Int32) : z_ast True M t a i x (fun _ => True) = True := by
  unfold z_ast
  (repeat' split) <;> first | rfl | contradiction
theorem zq_jst (M : zM) (a : Nat) (i : Int32) (x : Int64) : z_jst True M a i x (fun _ => True) = True := by
  unfold z_jst
  (repeat' split) <;> first | rfl | contradiction
theorem zq_qst (M : zM) (a : Nat) (i : Int32) (v : Value) : z_qst True M a i v (fun _ => True) = True := by
  unfold z_qst
  (repeat' split) <;> first | rfl | contradiction
theorem zq_fset (M : zM) (a ci j : Nat) (v : Value) : z_fset True M a ci j v (fun _ => True) = True := by
  unfold z_fset
  (repeat' split) <;> first | rfl | contradiction
theorem zq_bool (x : Int32) : z_bool True x True = True := by
  unfold z_bool
  (repeat' split) <;> first | rfl | contradiction
theorem zq_obj (M : zM) (v : Value) (ci : Nat) : z_obj True M v ci True = True := by
  unfold z_obj
  (repeat' split) <;> first | rfl | contradiction
theorem zq_cpy (M : zM) (a0 : Nat) (sp : Int32) (a : Nat) (dp n : Int32) : z_cpy True M a0 sp a dp n (fun _ => True) = True := by
  unfold z_cpy
  (repeat' split) <;> first | rfl | contradiction
theorem zq_cln (M : zM) (a : Nat) : z_cln True M a (fun _ => True) = True := by
  unfold z_cln
  (repeat' split) <;> first | rfl | contradiction
theorem zq_fit (a : Nat) (as : List Value) : z_fit True a as True = True := by
  unfold z_fit
  (repeat' split) <;> first | rfl | contradiction
theorem zq_ar0 (M : zM) (a : Nat) : z_ar0 True M a True = True := by
  unfold z_ar0
  (repeat' split) <;> first | rfl | contradiction
theorem zq_nil (r : List Value) : z_nil True r True = True := by
  unfold z_nil
  (repeat' split) <;> first | rfl | contradiction
theorem zq_sm (r : List Value) : z_sm True r True = True := by
  unfold z_sm
  (repeat' split) <;> first | rfl | contradiction
theorem zq_str (a : Nat) : z_str True a True = True := by
  unfold z_str
  (repeat' split) <;> first | rfl | contradiction
theorem zq_isI (v : Value) : z_isI True v (fun _ => True) = True := by
  unfold z_isI
  (repeat' split) <;> first | rfl | contradiction
theorem zq_isJ (v : Value) : z_isJ True v (fun _ => True) = True := by
  unfold z_isJ
  (repeat' split) <;> first | rfl | contradiction
theorem zq_isR (v : Value) : z_isR True v (fun _ => True) = True := by
  unfold z_isR
  (repeat' split) <;> first | rfl | contradiction
theorem zq_fld (M : zM) (a ci j : Nat) : z_fld True M a ci j (fun _ => True) = True := by
  unfold z_fld
  (repeat' split) <;> first | rfl | contradiction
theorem zq_ald (X : zX) (M : zM) (t a : Nat) (i : Int32) : z_ald X True M t a i (fun _ => True) = True := by
  unfold z_ald
  (repeat' split) <;> first | rfl | contradiction
theorem zq_len (X : zX) (M : zM) (a : Nat) : z_len X True M a (fun _ => True) = True := by
  unfold z_len
  (repeat' split) <;> first | rfl | contradiction
theorem zq_ldA (L : zL) (a : Nat) : z_ldA True L a (fun _ => True) = True := by
  unfold z_ldA
  (repeat' split) <;> first | rfl | exact zq_isA _ | contradiction
theorem zq_fldI (M : zM) (a ci j : Nat) : z_fldI True M a ci j (fun _ => True) = True := by
  unfold z_fldI; simp only [zq_isI, zq_fld]
theorem zq_fldJ (M : zM) (a ci j : Nat) : z_fldJ True M a ci j (fun _ => True) = True := by
  unfold z_fldJ; simp only [zq_isJ, zq_fld]
theorem zq_fldA (M : zM) (a ci j : Nat) : z_fldA True M a ci j (fun _ => True) = True := by
  unfold z_fldA; simp only [zq_isR, zq_fld]
theorem zq_pop (n : Nat) : ∀ (st acc : List Value), z_pop True n st acc (fun _ _ => True) = True := by
  induction n with
  | zero => intro st acc; rfl
  | succ n ih =>
    intro st acc
    cases st with
    | nil => rfl
    | cons v st => exact ih st (v :: acc)
theorem zq_sw (x : Int32) (d : Nat) : ∀ sw : List (Int32 × Nat), z_sw x sw d (fun _ => True) = True := by
  intro sw
  induction sw with
  | nil => rfl
  | cons q r ih =>
    obtain ⟨y, t⟩ := q
    show (if x = y then True else z_sw x r d (fun _ => True)) = True
    rw [ih]
    split <;> rfl
theorem zq_getf (M : zM) (val : Value) (o a b : Nat) : z_getf True M val o a b (fun _ => True) = True := by
  unfold z_getf
  split
  · exact zq_fldJ M o a b
  · exact zq_fldA M o a b
  · exact zq_fldI M o a b
theorem zq_putf (M : zM) (val : Value) (o a b : Nat) (v : Value) : z_putf True M val o a b v (fun _ => True) = True := by
  unfold z_putf
  split <;> simp only [zq_isI, zq_bool, zq_fset, zq_isJ, zq_isA]
def isI : Option Value → Prop
  | some (.int _) => True
  | _ => False
def nret : Instr → Bool
  | .lreturn => false
  | .areturn => false
  | .return_ => false
  | _ => true
def kP (mi : Nat) (c : zC) : Prop := c.1 = mi
def cP (mi : Nat) (_ : Nat) (_ : List Value) (c : zC) : Prop := c.1 = mi
def rP (v : Option Value) (_ : zM) : Prop := isI v
theorem kP_t (mi pc : Nat) (L : zL) (st : List Value) (M : zM) : kP mi (mi, pc, L, st, M) = True := eq_true rfl
theorem cP_t (mi a : Nat) (as : List Value) (pc : Nat) (L : zL) (st : List Value) (M : zM) : cP mi a as (mi, pc, L, st, M) = True := eq_true rfl
theorem rP_t (x : Int32) (M : zM) : rP (some (.int x)) M = True := rfl
theorem zq_spec (a npc mi : Nat) (L : zL) (st : List Value) (M : zM) : z_spec True (kP mi) a npc mi L st M = True := by
  unfold z_spec
  split <;> simp only [kP_t, ite_self, zq_isA, zq_cat1, zq_I1, zq_J1, zq_I2, zq_J2, zq_JI, zq_V1, zq_R1, zq_RI, zq_cp5, zq_ldI, zq_ldJ, zq_nul, zq_jld, zq_qld, zq_ast, zq_jst, zq_qst, zq_fset, zq_bool, zq_obj, zq_cpy, zq_cln, zq_fit, zq_ar0, zq_nil, zq_sm, zq_str, zq_isI, zq_isJ, zq_isR, zq_fld, zq_ald, zq_len, zq_ldA, zq_fldI, zq_fldJ, zq_fldA, zq_pop, zq_sw, zq_getf, zq_putf]
theorem zq_inv (kind a b npc mi : Nat) (L : zL) (st : List Value) (M : zM) : z_inv True (kP mi) (cP mi) kind a b npc mi L st M = True := by
  unfold z_inv
  split
  · exact zq_spec a npc mi L st M
  · have hp : ∀ (F : List Value → List Value → Prop), (∀ as r, F as r = True) → z_pop True b st [] F = True := fun F hF => by
      rw [show F = fun _ _ => True from funext fun as => funext fun r => hF as r]; exact zq_pop b st []
    refine hp _ fun as r => ?_
    split <;> simp only [cP_t, zq_isA, zq_cat1, zq_I1, zq_J1, zq_I2, zq_J2, zq_JI, zq_V1, zq_R1, zq_RI, zq_cp5, zq_ldI, zq_ldJ, zq_nul, zq_jld, zq_qld, zq_ast, zq_jst, zq_qst, zq_fset, zq_bool, zq_obj, zq_cpy, zq_cln, zq_fit, zq_ar0, zq_nil, zq_sm, zq_str, zq_isI, zq_isJ, zq_isR, zq_fld, zq_ald, zq_len, zq_ldA, zq_fldI, zq_fldJ, zq_fldA, zq_pop, zq_sw, zq_getf, zq_putf]
set_option maxHeartbeats 4000000 in
theorem zq_step (X : zX) (ins : Instr) (npc a b : Nat) (val : Value) (sw : List (Int32 × Nat)) (mi : Nat) (L : zL) (st : List Value) (M : zM) (h : nret ins = true) : z_step X True (kP mi) (cP mi) rP ins npc a b val sw mi L st M = True := by
  unfold z_step
  split
  all_goals first
    | (cases h; done)
    | exact kP_t _ _ _ _ _
    | exact zq_inv _ _ _ _ _ _ _ _
    | (simp only [kP_t, rP_t, ite_self, zq_isA, zq_cat1, zq_I1, zq_J1, zq_I2, zq_J2, zq_JI, zq_V1, zq_R1, zq_RI, zq_cp5, zq_ldI, zq_ldJ, zq_nul, zq_jld, zq_qld, zq_ast, zq_jst, zq_qst, zq_fset, zq_bool, zq_obj, zq_cpy, zq_cln, zq_fit, zq_ar0, zq_nil, zq_sm, zq_str, zq_isI, zq_isJ, zq_isR, zq_fld, zq_ald, zq_len, zq_ldA, zq_fldI, zq_fldJ, zq_fldA, zq_pop, zq_sw, zq_getf, zq_putf]; done)
    | (have hp : ∀ (F : Int32 → List Value → Prop), (∀ x r, F x r = True) → z_I1 True st F = True := fun F hF => by
        rw [show F = fun _ _ => True from funext fun x => funext fun r => hF x r]; exact zq_I1 st
       refine hp _ fun x r => ?_
       split <;> simp only [rP_t, zq_nil, zq_bool])
    | ((repeat' split) <;> simp only [kP_t, rP_t, ite_self, zq_isA, zq_cat1, zq_I1, zq_J1, zq_I2, zq_J2, zq_JI, zq_V1, zq_R1, zq_RI, zq_cp5, zq_ldI, zq_ldJ, zq_nul, zq_jld, zq_qld, zq_ast, zq_jst, zq_qst, zq_fset, zq_bool, zq_obj, zq_cpy, zq_cln, zq_fit, zq_ar0, zq_nil, zq_sm, zq_str, zq_isI, zq_isJ, zq_isR, zq_fld, zq_ald, zq_len, zq_ldA, zq_fldI, zq_fldJ, zq_fldA, zq_pop, zq_sw, zq_getf, zq_putf])
    | rfl
def okb (mi : Nat) : Bool := match z_get zprog mi with
  | some l => l.all (fun e => nret e.2.1)
  | none => false
theorem look_all {R : zE → Bool} : ∀ (l : List (Nat × zE)) (pc : Nat) (e : zE), l.all (fun e => R e.2) = true → z_look l pc = some e → R e = true := by
  intro l
  induction l with
  | nil => intro pc e _ h; cases h
  | cons q l ih =>
    obtain ⟨p, e0⟩ := q
    intro pc e ha h
    rw [List.all_cons, Bool.and_eq_true] at ha
    unfold z_look at h
    split at h
    · cases h; exact ha.1
    · exact ih pc e ha.2 h
theorem act_ok (X : zX) (c : zC) (h : okb c.1 = true) : z_fold True (kP c.1) (cP c.1) rP (z_act X c) := by
  rw [← z_param]
  obtain ⟨mi, pc, L, st, M⟩ := c
  unfold z_stepc
  dsimp only
  cases hz : zat mi pc with
  | none => exact trivial
  | some e =>
    obtain ⟨ins, npc, a, b, val, sw, w⟩ := e
    dsimp only
    have hn : nret ins = true := by
      unfold okb at h
      unfold zat at hz
      dsimp only at h
      cases hg : z_get zprog mi with
      | none => rw [hg] at hz; cases hz
      | some l =>
        rw [hg] at h hz
        exact look_all (R := fun e => nret e.1) l pc _ h hz
    rw [zq_step X ins npc a b val sw mi L st M hn]
    trivial
theorem int_ret (X : zX) : ∀ (n d : Nat) (c : zC) (r : zR), z_run X n d c = some r → okb c.1 = true → isI r.1 := by
  intro n
  induction n with
  | zero => intro d c r h; cases h
  | succ n ih =>
    intro d c r h hk
    have ha := act_ok X c hk
    rw [z_run_succ] at h
    revert h ha
    match z_act X c with
    | none => intro h; cases h
    | some (.inl c') =>
      intro h ha
      have e : c'.1 = c.1 := ha
      exact ih d c' r h (by rw [e]; exact hk)
    | some (.inr (.inr q)) =>
      intro h ha
      cases h
      exact ha
    | some (.inr (.inl q)) =>
      match d with
      | 0 => intro h; cases h
      | d' + 1 =>
        intro h ha
        have e : q.2.2.1 = c.1 := ha
        have h2 : z_call (z_run X n d') (z_run X n (d' + 1)) q.1 q.2.1 q.2.2 = some r := h
        unfold z_call at h2
        cases h1 : z_run X n d' (z_entry q.1 q.2.1 q.2.2.2.2.2.2) with
        | none => rw [h1] at h2; cases h2
        | some r1 =>
          rw [h1] at h2
          exact ih (d' + 1) _ r h2 (by
            have : (z_ret r1 q.2.2).1 = q.2.2.1 := rfl
            rw [this, e]; exact hk)
