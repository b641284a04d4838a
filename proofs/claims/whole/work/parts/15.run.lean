def zLe (M M' : zM) : Prop := M.1 ≤ M'.1 ∧ M.2.1 ≤ M'.2.1
theorem zLe.rf {M : zM} : zLe M M := ⟨Nat.le_refl _, Nat.le_refl _⟩
theorem zLe.tr {A B C : zM} (h : zLe A B) (h' : zLe B C) : zLe A C := ⟨Nat.le_trans h.1 h'.1, Nat.le_trans h.2 h'.2⟩
theorem zLe_upd {M : zM} {a : Nat} {e : va_E} : zLe M (z_upd M a e) := ⟨Nat.le_refl _, Nat.le_refl _⟩
theorem zLe_new {M : zM} {e : va_E} : zLe M (z_new M e) := ⟨Nat.le_succ _, Nat.le_add_right _ _⟩
theorem zt_isA {v : Value} {g0 : Prop} (h0 : g0) : z_isA True v g0 := by
  unfold z_isA
  (repeat' split) <;> first | trivial | exact h0
theorem zt_cat1 {v : Value} {g0 : Prop} (h0 : g0) : z_cat1 True v g0 := by
  unfold z_cat1
  (repeat' split) <;> first | trivial | exact h0
theorem zt_I1 {st : List Value} {g0 : Int32 → List Value → Prop} (h0 : ∀ x0 x1, g0 x0 x1) : z_I1 True st g0 := by
  unfold z_I1
  (repeat' split) <;> first | trivial | exact h0 _ _
theorem zt_J1 {st : List Value} {g0 : Int64 → List Value → Prop} (h0 : ∀ x0 x1, g0 x0 x1) : z_J1 True st g0 := by
  unfold z_J1
  (repeat' split) <;> first | trivial | exact h0 _ _
theorem zt_I2 {st : List Value} {g0 : Int32 → Int32 → List Value → Prop} (h0 : ∀ x0 x1 x2, g0 x0 x1 x2) : z_I2 True st g0 := by
  unfold z_I2
  (repeat' split) <;> first | trivial | exact h0 _ _ _
theorem zt_J2 {st : List Value} {g0 : Int64 → Int64 → List Value → Prop} (h0 : ∀ x0 x1 x2, g0 x0 x1 x2) : z_J2 True st g0 := by
  unfold z_J2
  (repeat' split) <;> first | trivial | exact h0 _ _ _
theorem zt_JI {st : List Value} {g0 : Int64 → Int32 → List Value → Prop} (h0 : ∀ x0 x1 x2, g0 x0 x1 x2) : z_JI True st g0 := by
  unfold z_JI
  (repeat' split) <;> first | trivial | exact h0 _ _ _
theorem zt_V1 {st : List Value} {g0 : Value → List Value → Prop} (h0 : ∀ x0 x1, g0 x0 x1) : z_V1 True st g0 := by
  unfold z_V1
  (repeat' split) <;> first | trivial | exact h0 _ _
theorem zt_R1 {st : List Value} {g0 : Nat → List Value → Prop} (h0 : ∀ x0 x1, g0 x0 x1) : z_R1 True st g0 := by
  unfold z_R1
  (repeat' split) <;> first | trivial | exact h0 _ _
theorem zt_RI {st : List Value} {g0 : Nat → Int32 → List Value → Prop} (h0 : ∀ x0 x1 x2, g0 x0 x1 x2) : z_RI True st g0 := by
  unfold z_RI
  (repeat' split) <;> first | trivial | exact h0 _ _ _
theorem zt_cp5 {st : List Value} {g0 : Int32 → Int32 → Nat → Int32 → Nat → List Value → Prop} (h0 : ∀ x0 x1 x2 x3 x4 x5, g0 x0 x1 x2 x3 x4 x5) : z_cp5 True st g0 := by
  unfold z_cp5
  (repeat' split) <;> first | trivial | exact h0 _ _ _ _ _ _
theorem zt_ldI {L : zL} {a : Nat} {g0 : Int32 → Prop} (h0 : ∀ x0, g0 x0) : z_ldI True L a g0 := by
  unfold z_ldI
  (repeat' split) <;> first | trivial | exact h0 _
theorem zt_ldJ {L : zL} {a : Nat} {g0 : Int64 → Prop} (h0 : ∀ x0, g0 x0) : z_ldJ True L a g0 := by
  unfold z_ldJ
  (repeat' split) <;> first | trivial | exact h0 _
theorem zt_nul {v : Value} {g0 : Prop} {g1 : Prop} (h0 : g0) (h1 : g1) : z_nul True v g0 g1 := by
  unfold z_nul
  (repeat' split) <;> first | trivial | exact h0 | exact h1
theorem zt_jld {M : zM} {a : Nat} {i : Int32} {g0 : Int64 → Prop} (h0 : ∀ x0, g0 x0) : z_jld True M a i g0 := by
  unfold z_jld
  (repeat' split) <;> first | trivial | exact h0 _
theorem zt_qld {M : zM} {a : Nat} {i : Int32} {g0 : Prop} {g1 : Nat → Prop} (h0 : g0) (h1 : ∀ x0, g1 x0) : z_qld True M a i g0 g1 := by
  unfold z_qld
  (repeat' split) <;> first | trivial | exact h0 | exact h1 _
theorem zt_bool {x : Int32} {g0 : Prop} (h0 : g0) : z_bool True x g0 := by
  unfold z_bool
  (repeat' split) <;> first | trivial | exact h0
theorem zt_obj {M : zM} {v : Value} {ci : Nat} {g0 : Prop} (h0 : g0) : z_obj True M v ci g0 := by
  unfold z_obj
  (repeat' split) <;> first | trivial | exact h0
theorem zt_sm {r : List Value} {g0 : Prop} (h0 : g0) : z_sm True r g0 := by
  unfold z_sm
  (repeat' split) <;> first | trivial | exact h0
theorem zt_nil {r : List Value} {g0 : Prop} (h0 : g0) : z_nil True r g0 := by
  unfold z_nil
  (repeat' split) <;> first | trivial | exact h0
theorem zt_str {a : Nat} {g0 : Prop} (h0 : g0) : z_str True a g0 := by
  unfold z_str
  (repeat' split) <;> first | trivial | exact h0
theorem zt_ar0 {M : zM} {a : Nat} {g0 : Prop} (h0 : g0) : z_ar0 True M a g0 := by
  unfold z_ar0
  (repeat' split) <;> first | trivial | exact h0
theorem zt_isI {v : Value} {g0 : Int32 → Prop} (h0 : ∀ x0, g0 x0) : z_isI True v g0 := by
  unfold z_isI
  (repeat' split) <;> first | trivial | exact h0 _
theorem zt_isJ {v : Value} {g0 : Int64 → Prop} (h0 : ∀ x0, g0 x0) : z_isJ True v g0 := by
  unfold z_isJ
  (repeat' split) <;> first | trivial | exact h0 _
theorem zt_isR {v : Value} {g0 : Nat → Prop} (h0 : ∀ x0, g0 x0) : z_isR True v g0 := by
  unfold z_isR
  (repeat' split) <;> first | trivial | exact h0 _
theorem zt_fld {M : zM} {a ci j : Nat} {g0 : Value → Prop} (h0 : ∀ x0, g0 x0) : z_fld True M a ci j g0 := by
  unfold z_fld
  (repeat' split) <;> first | trivial | exact h0 _
theorem zt_ast {M : zM} {t a : Nat} {i x : Int32} {g : zM → Prop} (h : ∀ M', zLe M M' → g M') : z_ast True M t a i x g := by
  unfold z_ast
  (repeat' split) <;> first | trivial | exact h _ zLe_upd | exact h _ zLe_new
theorem zt_jst {M : zM} {a : Nat} {i : Int32} {x : Int64} {g : zM → Prop} (h : ∀ M', zLe M M' → g M') : z_jst True M a i x g := by
  unfold z_jst
  (repeat' split) <;> first | trivial | exact h _ zLe_upd | exact h _ zLe_new
theorem zt_qst {M : zM} {a : Nat} {i : Int32} {v : Value} {g : zM → Prop} (h : ∀ M', zLe M M' → g M') : z_qst True M a i v g := by
  unfold z_qst
  (repeat' split) <;> first | trivial | exact h _ zLe_upd | exact h _ zLe_new
theorem zt_fset {M : zM} {a ci j : Nat} {v : Value} {g : zM → Prop} (h : ∀ M', zLe M M' → g M') : z_fset True M a ci j v g := by
  unfold z_fset
  (repeat' split) <;> first | trivial | exact h _ zLe_upd | exact h _ zLe_new
theorem zt_cpy {M : zM} {a0 : Nat} {sp : Int32} {a : Nat} {dp n : Int32} {g : zM → Prop} (h : ∀ M', zLe M M' → g M') : z_cpy True M a0 sp a dp n g := by
  unfold z_cpy
  (repeat' split) <;> first | trivial | exact h _ zLe_upd | exact h _ zLe_new
theorem zt_cln {M : zM} {a : Nat} {g : zM → Prop} (h : ∀ M', zLe M M' → g M') : z_cln True M a g := by
  unfold z_cln
  (repeat' split) <;> first | trivial | exact h _ zLe_upd | exact h _ zLe_new
theorem zt_ald {X : zX} {M : zM} {t a : Nat} {i : Int32} {g : Int32 → Prop} (h : ∀ x, g x) : z_ald X True M t a i g := by
  unfold z_ald
  (repeat' split) <;> first | trivial | exact h _
theorem zt_len {X : zX} {M : zM} {a : Nat} {g : Int32 → Prop} (h : ∀ x, g x) : z_len X True M a g := by
  unfold z_len
  (repeat' split) <;> first | trivial | exact h _
theorem zt_ldA {L : zL} {a : Nat} {g : Value → Prop} (h : ∀ x, g x) : z_ldA True L a g := by
  unfold z_ldA
  split
  · exact zt_isA (h _)
  · trivial
theorem zt_getf {M : zM} {val : Value} {o a b : Nat} {g : Value → Prop} (h : ∀ x, g x) : z_getf True M val o a b g := by
  unfold z_getf
  split
  · exact zt_fld fun _ => zt_isJ fun _ => h _
  · exact zt_fld fun _ => zt_isR fun _ => h _
  · exact zt_fld fun _ => zt_isI fun _ => h _
theorem zt_putf {M : zM} {val : Value} {o a b : Nat} {v : Value} {g : zM → Prop} (h : ∀ M', zLe M M' → g M') : z_putf True M val o a b v g := by
  unfold z_putf
  split
  · exact zt_isI fun _ => zt_fset h
  · exact zt_isI fun _ => zt_bool (zt_fset h)
  · exact zt_isJ fun _ => zt_fset h
  · exact zt_isA (zt_fset h)
theorem zt_pop {g : List Value → List Value → Prop} (h : ∀ x r, g x r) : ∀ (n : Nat) (st acc : List Value), z_pop True n st acc g := by
  intro n
  induction n with
  | zero => intro st acc; exact h _ _
  | succ n ih =>
    intro st acc
    cases st with
    | nil => trivial
    | cons v st => exact ih st (v :: acc)
theorem zt_sw {x : Int32} {d : Nat} {g : Nat → Prop} (h : ∀ t, g t) : ∀ sw : List (Int32 × Nat), z_sw x sw d g := by
  intro sw
  induction sw with
  | nil => exact h _
  | cons q r ih =>
    obtain ⟨y, t⟩ := q
    show if x = y then g t else z_sw x r d g
    split
    · exact h _
    · exact ih
theorem zt_fit {a : Nat} {as : List Value} {g : Prop} (h : (z_ent as).length ≤ z_maxL a → g) : z_fit True a as g := by
  unfold z_fit
  split
  · next q => exact h (Nat.le_of_ble_eq_true q)
  · trivial
theorem zt_ite {c : Prop} [Decidable c] {a b : Prop} (h1 : a) (h2 : b) : if c then a else b := by
  split
  · exact h1
  · exact h2
def zGk (mi : Nat) (M : zM) (q : zC) : Prop := zLe M q.2.2.2.2 ∧ q.1 = mi
def zGc (mi : Nat) (M : zM) (a : Nat) (as : List Value) (q : zC) : Prop := zLe M q.2.2.2.2 ∧ q.1 = mi ∧ (z_ent as).length ≤ z_maxL a
def zGr (M : zM) (_ : Option Value) (M' : zM) : Prop := zLe M M'
section
variable {X : zX} {mi : Nat} {L : zL} {st : List Value} {M : zM}
theorem zg_spec {a npc : Nat} : z_spec True (zGk mi M) a npc mi L st M := by
  unfold z_spec
  split
  · exact zt_R1 fun _ _ => zt_sm ⟨zLe.rf, rfl⟩
  · exact zt_cp5 fun _ _ _ _ _ _ => zt_sm (zt_cpy fun _ h => ⟨h, rfl⟩)
  · exact zt_R1 fun _ _ => zt_sm (zt_str ⟨zLe.rf, rfl⟩)
  · exact zt_RI fun _ _ _ => zt_sm (zt_str (zt_ite ⟨zLe.rf, rfl⟩ trivial))
  · exact zt_R1 fun _ _ => zt_sm (zt_cln fun _ h => ⟨h, rfl⟩)
  · trivial
set_option maxRecDepth 40000 in
theorem zg_inv {kind a b npc : Nat} : z_inv True (zGk mi M) (zGc mi M) kind a b npc mi L st M := by
  unfold z_inv
  split
  · exact zg_spec
  · refine zt_pop (fun as r => ?_) _ _ _
    split
    · exact zt_sm (zt_fit fun h => ⟨zLe.rf, rfl, h⟩)
    · exact zt_V1 fun _ _ => zt_sm (zt_obj (zt_fit fun h => ⟨zLe.rf, rfl, h⟩))
theorem zg_step {ins : Instr} {npc a b : Nat} {val : Value} {sw : List (Int32 × Nat)} : z_step X True (zGk mi M) (zGc mi M) (zGr M) ins npc a b val sw mi L st M := by
  have k0 : ∀ (pc : Nat) (L : zL) (st : List Value), zGk mi M (mi, pc, L, st, M) := fun _ _ _ => ⟨zLe.rf, rfl⟩
  have k1 : ∀ (pc : Nat) (L : zL) (st : List Value) (M' : zM), zLe M M' → zGk mi M (mi, pc, L, st, M') := fun _ _ _ _ h => ⟨h, rfl⟩
  have r0 : ∀ v, zGr M v M := fun _ => zLe.rf
  unfold z_step
  split
  all_goals first
    | trivial
    | exact k0 _ _ _
    | exact k1 _ _ _ _ zLe_new
    | exact zt_ldI fun _ => k0 _ _ _
    | exact zt_ldJ fun _ => k0 _ _ _
    | exact zt_ldA fun _ => k0 _ _ _
    | exact zt_I1 fun _ _ => k0 _ _ _
    | exact zt_J1 fun _ _ => k0 _ _ _
    | exact zt_V1 fun _ _ => zt_isA (k0 _ _ _)
    | exact zt_ldI fun _ => zt_isI fun _ => k0 _ _ _
    | exact zt_I2 fun _ _ _ => k0 _ _ _
    | exact zt_I2 fun _ _ _ => zt_ite trivial (k0 _ _ _)
    | exact zt_J2 fun _ _ _ => k0 _ _ _
    | exact zt_J2 fun _ _ _ => zt_ite trivial (k0 _ _ _)
    | exact zt_JI fun _ _ _ => k0 _ _ _
    | exact zt_V1 fun _ _ => zt_cat1 (k0 _ _ _)
    | exact zt_RI fun _ _ _ => k0 _ _ _
    | exact zt_I1 fun _ _ => zt_ite (k0 _ _ _) (k0 _ _ _)
    | exact zt_I2 fun _ _ _ => zt_ite (k0 _ _ _) (k0 _ _ _)
    | exact zt_V1 fun _ _ => zt_nul (k0 _ _ _) (k0 _ _ _)
    | exact zt_I1 fun _ _ => zt_sw (fun _ => k0 _ _ _) _
    | exact zt_R1 fun _ _ => zt_getf fun _ => k0 _ _ _
    | exact zt_V1 fun _ _ => zt_R1 fun _ _ => zt_putf fun _ h => k1 _ _ _ _ h
    | exact zt_RI fun _ _ _ => zt_ald fun _ => k0 _ _ _
    | exact zt_RI fun _ _ _ => zt_jld fun _ => k0 _ _ _
    | exact zt_RI fun _ _ _ => zt_qld (k0 _ _ _) fun _ => k0 _ _ _
    | exact zt_I1 fun _ _ => zt_RI fun _ _ _ => zt_ast fun _ h => k1 _ _ _ _ h
    | exact zt_J1 fun _ _ => zt_RI fun _ _ _ => zt_jst fun _ h => k1 _ _ _ _ h
    | exact zt_V1 fun _ _ => zt_RI fun _ _ _ => zt_qst fun _ h => k1 _ _ _ _ h
    | exact zt_R1 fun _ _ => zt_len fun _ => k0 _ _ _
    | exact zt_I1 fun _ _ => zt_ite (k1 _ _ _ _ zLe_new) trivial
    | exact zt_R1 fun _ _ => zt_ar0 (k0 _ _ _)
    | exact zg_inv
    | exact zt_J1 fun _ _ => zt_nil (r0 _)
    | exact zt_V1 fun _ _ => zt_nil (zt_isA (r0 _))
    | exact zt_nil (r0 _)
    | (refine zt_I1 fun _ _ => zt_nil ?_; split; exact r0 _; exact zt_bool (r0 _))
end
theorem z_grow (X : zX) (q : zC) : z_fold True (zGk q.1 q.2.2.2.2) (zGc q.1 q.2.2.2.2) (zGr q.2.2.2.2) (z_act X q) := by
  rw [← z_param]
  obtain ⟨mi, pc, L, st, M⟩ := q
  unfold z_stepc
  dsimp only
  split
  · exact zg_step
  · trivial
theorem z_run_grow (X : zX) : ∀ (n d : Nat) (q : zC) (v : Option Value) (M' : zM), z_run X n d q = some (v, M') → zLe q.2.2.2.2 M' := by
  intro n
  induction n with
  | zero => intro d q v M' h; cases h
  | succ n ih =>
    intro d q v M' h
    rw [z_run_succ] at h
    have hg := z_grow X q
    revert h hg
    match z_act X q with
    | none => intro h; cases h
    | some (.inl c') => intro h hg; exact hg.1.tr (ih d c' v M' h)
    | some (.inr (.inr r)) =>
      intro h hg
      have h : (some (r.1, r.2) : Option zR) = some (v, M') := h
      cases h
      exact hg
    | some (.inr (.inl r)) =>
      match d with
      | 0 => intro h; cases h
      | d' + 1 =>
        intro h hg
        have h : z_call (z_run X n d') (z_run X n (d' + 1)) r.1 r.2.1 r.2.2 = some (v, M') := h
        unfold z_call at h
        cases h1 : z_run X n d' (z_entry r.1 r.2.1 r.2.2.2.2.2.2) with
        | none => rw [h1] at h; cases h
        | some r1 =>
          rw [h1] at h
          have a1 := ih d' _ r1.1 r1.2 h1
          have a2 := ih (d' + 1) _ v M' h
          exact hg.1.tr (zLe.tr a1 a2)
theorem zprog_len : zprog.length = 284 := by decide +kernel
theorem z_get_none {α : Type} {l : List α} {i : Nat} (h : l.length ≤ i) : z_get l i = none := by
  rw [z_get_eq, List.getElem?_eq_none h]
theorem z_run_lt (X : zX) {n d : Nat} {q : zC} {r : zR} (h : z_run X n d q = some r) : q.1 < 284 := by
  rcases Nat.lt_or_ge q.1 284 with h1 | h1
  · exact h1
  · cases n with
    | zero => cases h
    | succ n =>
      obtain ⟨mi, pc, L, st, M⟩ := q
      have h2 : zat mi pc = none := by unfold zat; rw [z_get_none (by rw [zprog_len]; exact h1)]
      have h3 : z_run X (n + 1) d (mi, pc, L, st, M) = none := by
        show z_stepc X none _ _ _ _ = none
        unfold z_stepc
        dsimp only
        rw [h2]
      rw [h3] at h
      cases h
def zAll : Nat → List (List (Nat × zE)) → Prop
  | _, [] => True
  | i, l :: r => z_chkL (z_meth i) l = true ∧ zAll (i + 1) r
theorem zAll_get : ∀ (l : List (List (Nat × zE))) (k i : Nat) (x : List (Nat × zE)), zAll k l → z_get l i = some x → z_chkL (z_meth (k + i)) x = true := by
  intro l
  induction l with
  | nil => intro k i x h1 h2; cases h2
  | cons y r ih =>
    intro k i x h1 h2
    cases i with
    | zero => cases h2; exact h1.1
    | succ i =>
      have := ih (k + 1) i x h1.2 h2
      rwa [show k + 1 + i = k + (i + 1) by omega] at this
theorem z_look_mem : ∀ (l : List (Nat × zE)) (pc : Nat) (e : zE), z_look l pc = some e → (pc, e) ∈ l := by
  intro l
  induction l with
  | nil => intro pc e h; cases h
  | cons y r ih =>
    intro pc e h
    obtain ⟨p, e'⟩ := y
    unfold z_look at h
    split at h
    · next q =>
      cases h
      rw [Nat.eq_of_beq_eq_true q]
      exact List.mem_cons_self
    · exact List.mem_cons_of_mem _ (ih pc e h)
theorem z_chkL_app {y : zY} {a b : List (Nat × zE)} (h1 : z_chkL y a = true) (h2 : z_chkL y b = true) : z_chkL y (a ++ b) = true := by
  unfold z_chkL at *
  rw [List.all_append, h1, h2]
  rfl
set_option maxRecDepth 100000 in
theorem zprog_ok : zAll 0 zprog := ⟨zk_0, zk_1, (show z_chkL (z_meth 2) zc_2 = true from z_chkL_app (zk_2_0) zk_2_1), zk_3, zk_4, zk_5, zk_6, zk_7, zk_8, zk_9, zk_10, zk_11, zk_12, zk_13, zk_14, zk_15, zk_16, zk_17, zk_18, zk_19, zk_20, zk_21, zk_22, zk_23, zk_24, zk_25, zk_26, zk_27, zk_28, zk_29, zk_30, zk_31, zk_32, zk_33, zk_34, zk_35, zk_36, zk_37, zk_38, zk_39, zk_40, (show z_chkL (z_meth 41) zc_41 = true from z_chkL_app (zk_41_0) zk_41_1), zk_42, zk_43, zk_44, (show z_chkL (z_meth 45) zc_45 = true from z_chkL_app (zk_45_0) zk_45_1), zk_46, zk_47, zk_48, zk_49, zk_50, zk_51, zk_52, zk_53, zk_54, zk_55, zk_56, zk_57, zk_58, zk_59, zk_60, zk_61, zk_62, zk_63, zk_64, zk_65, zk_66, zk_67, zk_68, zk_69, zk_70, zk_71, zk_72, zk_73, zk_74, zk_75, zk_76, zk_77, zk_78, zk_79, zk_80, zk_81, zk_82, zk_83, zk_84, zk_85, zk_86, zk_87, zk_88, zk_89, zk_90, zk_91, zk_92, zk_93, zk_94, zk_95, zk_96, zk_97, zk_98, zk_99, zk_100, zk_101, zk_102, zk_103, zk_104, zk_105, zk_106, zk_107, zk_108, zk_109, zk_110, zk_111, zk_112, zk_113, zk_114, zk_115, zk_116, zk_117, zk_118, zk_119, zk_120, zk_121, zk_122, zk_123, zk_124, zk_125, zk_126, zk_127, zk_128, zk_129, zk_130, zk_131, zk_132, zk_133, zk_134, zk_135, zk_136, zk_137, zk_138, zk_139, zk_140, zk_141, zk_142, zk_143, zk_144, zk_145, zk_146, zk_147, zk_148, (show z_chkL (z_meth 149) zc_149 = true from z_chkL_app (z_chkL_app (zk_149_0) zk_149_1) zk_149_2), zk_150, zk_151, zk_152, zk_153, zk_154, zk_155, zk_156, zk_157, zk_158, zk_159, zk_160, zk_161, zk_162, zk_163, zk_164, zk_165, zk_166, zk_167, zk_168, zk_169, zk_170, zk_171, zk_172, zk_173, zk_174, zk_175, (show z_chkL (z_meth 176) zc_176 = true from z_chkL_app (zk_176_0) zk_176_1), zk_177, zk_178, zk_179, zk_180, zk_181, zk_182, zk_183, zk_184, zk_185, zk_186, zk_187, zk_188, zk_189, zk_190, zk_191, zk_192, zk_193, (show z_chkL (z_meth 194) zc_194 = true from z_chkL_app (zk_194_0) zk_194_1), zk_195, zk_196, zk_197, zk_198, zk_199, (show z_chkL (z_meth 200) zc_200 = true from z_chkL_app (zk_200_0) zk_200_1), zk_201, zk_202, zk_203, (show z_chkL (z_meth 204) zc_204 = true from z_chkL_app (zk_204_0) zk_204_1), zk_205, (show z_chkL (z_meth 206) zc_206 = true from z_chkL_app (zk_206_0) zk_206_1), zk_207, zk_208, zk_209, zk_210, zk_211, zk_212, zk_213, zk_214, zk_215, zk_216, zk_217, zk_218, zk_219, zk_220, zk_221, zk_222, zk_223, zk_224, zk_225, zk_226, zk_227, zk_228, zk_229, zk_230, zk_231, zk_232, zk_233, zk_234, zk_235, zk_236, zk_237, zk_238, zk_239, zk_240, zk_241, zk_242, zk_243, zk_244, zk_245, zk_246, zk_247, zk_248, zk_249, zk_250, zk_251, zk_252, zk_253, zk_254, zk_255, zk_256, zk_257, zk_258, zk_259, (show z_chkL (z_meth 260) zc_260 = true from z_chkL_app (zk_260_0) zk_260_1), zk_261, zk_262, zk_263, zk_264, zk_265, zk_266, zk_267, (show z_chkL (z_meth 268) zc_268 = true from z_chkL_app (zk_268_0) zk_268_1), zk_269, zk_270, zk_271, zk_272, zk_273, zk_274, zk_275, zk_276, zk_277, zk_278, zk_279, zk_280, zk_281, zk_282, (show z_chkL (z_meth 283) zc_283 = true from z_chkL_app (z_chkL_app (z_chkL_app (z_chkL_app (z_chkL_app (zk_283_0) zk_283_1) zk_283_2) zk_283_3) zk_283_4) zk_283_5), trivial⟩
theorem z_table {mi pc : Nat} {e : zE} (h : zat mi pc = some e) : z_chk (z_meth mi).1 (z_meth mi).2.1.name (z_meth mi).2.2.1 (z_meth mi).2.2.2.1 (z_meth mi).2.2.2.2 pc e = true := by
  unfold zat at h
  split at h
  · cases h
  · next l hl =>
    have h1 := zAll_get zprog 0 mi l zprog_ok hl
    rw [Nat.zero_add] at h1
    exact List.all_eq_true.mp h1 (pc, e) (z_look_mem l pc e h)
theorem z_ent_len {b : Nat} {sa : Nat → Nat} : ∀ as : List Value, (lg_sl (as.map (z_tv b sa))).length = (z_ent as).length := by
  intro as
  induction as with
  | nil => rfl
  | cons v r ih =>
    have h0 : lg_sl ((v :: r).map (z_tv b sa)) = (if (z_tv b sa v).category = 2 then [.val (z_tv b sa v), .second] else [.val (z_tv b sa v)]) ++ lg_sl (r.map (z_tv b sa)) := rfl
    rw [h0, List.length_append, ih, z_tv_cat]
    cases v <;> simp [z_ent, Value.category] <;> omega
theorem z_get_pad : ∀ (n : Nat) (l : zL) (i : Nat) (v : Value), z_get (z_pad n l) i = some (some v) → z_get l i = some (some v) := by
  intro n
  induction n with
  | zero =>
    intro l i v h
    cases l with
    | nil => cases h
    | cons x r => exact h
  | succ n ih =>
    intro l i v h
    cases l with
    | nil =>
      exfalso
      have h : z_get (List.replicate (n + 1) (none : Option Value)) i = some (some v) := h
      rw [z_get_eq, List.getElem?_replicate] at h
      split at h <;> cases h
    | cons x r =>
      cases i with
      | zero => exact h
      | succ i => exact ih r i v h
theorem z_ent_get {b : Nat} {sa : Nat → Nat} : ∀ (as : List Value) (k i : Nat) (v : Value), z_get (z_ent as) i = some (some v) → (k + i, z_tv b sa v) ∈ lv_args k (as.map (z_tv b sa)) := by
  intro as
  induction as with
  | nil => intro k i v h; cases h
  | cons w r ih =>
    intro k i v h
    have two : (w.category = 2) → z_ent (w :: r) = some w :: none :: z_ent r → (k + i, z_tv b sa v) ∈ lv_args k ((w :: r).map (z_tv b sa)) := by
      intro hc he
      rw [he] at h
      show _ ∈ (k, z_tv b sa w) :: lv_args (if (z_tv b sa w).category = 2 then k + 2 else k + 1) (r.map (z_tv b sa))
      rw [z_tv_cat, if_pos hc]
      cases i with
      | zero => cases h; exact List.mem_cons_self
      | succ i =>
        cases i with
        | zero => cases h
        | succ i =>
          have := ih (k + 2) i v h
          rw [show k + 2 + i = k + (i + 1 + 1) by omega] at this
          exact List.mem_cons_of_mem _ this
    have one : ¬ (w.category = 2) → z_ent (w :: r) = some w :: z_ent r → (k + i, z_tv b sa v) ∈ lv_args k ((w :: r).map (z_tv b sa)) := by
      intro hc he
      rw [he] at h
      show _ ∈ (k, z_tv b sa w) :: lv_args (if (z_tv b sa w).category = 2 then k + 2 else k + 1) (r.map (z_tv b sa))
      rw [z_tv_cat, if_neg hc]
      cases i with
      | zero => cases h; exact List.mem_cons_self
      | succ i =>
        have := ih (k + 1) i v h
        rw [show k + 1 + i = k + (i + 1) by omega] at this
        exact List.mem_cons_of_mem _ this
    cases w with
    | long x => exact two rfl rfl
    | double x => exact two rfl rfl
    | int x => exact one (by simp [Value.category]) rfl
    | float x => exact one (by simp [Value.category]) rfl
    | null => exact one (by simp [Value.category]) rfl
    | ref x => exact one (by simp [Value.category]) rfl
    | retAddr x => exact one (by simp [Value.category]) rfl
theorem z_entry_ls {b : Nat} {sa : Nat → Nat} {n : Nat} {as : List Value} {ls : Array Slot} (h : lv_has ls n (lv_args 0 (as.map (z_tv b sa)))) : zLs b sa n (z_pad n (z_ent as)) ls := by
  refine ⟨h.1, h.2.1, fun i v hi => ?_⟩
  have h1 := z_ent_get (b := b) (sa := sa) as 0 i v (z_get_pad n _ i v hi)
  rw [Nat.zero_add] at h1
  exact h.2.2 _ h1
theorem z_meth_maxL {mi : Nat} (h : mi < 284) : z_maxL mi = (z_meth mi).2.2.2.1 := by
  have h1 : z_get zmeth mi = some (z_meth mi) := by
    have h2 : mi < zmeth.length := by rw [zmeth_len]; exact h
    unfold z_meth
    rw [z_get_eq, List.getElem?_eq_getElem h2]
  unfold z_maxL
  rw [h1]
set_option maxRecDepth 20000 in
theorem z_depth_le {d n : Nat} (h : 64 * (d + 1) + 400 ≤ n) : 64 * (d + 1 - 1) + 464 ≤ n := by omega
set_option maxRecDepth 20000 in
theorem z_le400 {d n : Nat} (h : 64 * d + 400 ≤ n) : 400 ≤ n := by omega
/-- what is due of a run, in any frame -/
def zSound (l : Launch) (D : va_G) (b : Nat) (sa : Nat → Nat) (X : zX) (n : Nat) : Prop := ∀ (d : Nat) (q : zC) (v : Option Value) (M' : zM), z_run X n d q = some (v, M') → ∀ (p : Program) (e : Env) (R : Room) (s : State) (m : MethodId) (args : Array Value) (below : List Frame) (meth : Method) (c : Code) (Q : State → Prop) (n0 k0 : Nat),
  p.tables.exec = Jvm.exec → c.code = (z_meth q.1).2.2.1 → c.maxLocals = (z_meth q.1).2.2.2.1 → (∀ w ∈ zG, w.before args s = true) → zSt b sa X s → s.vm.findClass (z_meth q.1).1 = some m.cls → s.heap.size = b + (n0 - 4) → 4 ≤ n0 → zB R n0 k0 q.2.2.2.2 → M'.1 ≤ n0 + R.cells → M'.2.1 ≤ k0 + R.slots → d + 10 ≤ R.frames → 64 * d + 400 ≤ R.locals → ((z_meth q.1).2.1.name = "<init>" → meth.name = "<init>") →
  (∀ (H : Heap) (locs : List Loc) (ls : Array Slot) (pc : Nat) (ins : Instr), zH D b sa s M' H locs → decode (z_meth q.1).2.2.1 pc = .ok (ins, 1) → z_rok (z_meth q.1).2.2.2.2 ins v → W p l e R s m args below meth c H locs (M'.1 - n0) (M'.2.1 - k0) Q (F0 m pc ls (v.toList.map (z_tv b sa)))) →
  zW p l e R s m args below meth c Q D b sa (z_meth q.1).2.2.2.1 n0 k0 q
theorem z_met_of {l : Launch} {D : va_G} {b : Nat} {sa : Nat → Nat} {X : zX} {n d mi : Nat} {as : List Value} {M M' : zM} {v : Option Value} (IH : zSound l D b sa X n) (h : z_run X n d (z_entry mi as M) = some (v, M')) (hfit : (z_ent as).length ≤ z_maxL mi) (h4 : 4 ≤ M.1) : zMet l D b sa X d mi as M v M' := by
  have hlt : mi < 284 := z_run_lt X h
  obtain ⟨-, -, hpl, hcls⟩ := z_meth_ok hlt
  have hle : zLe M M' := z_run_grow X n d _ v M' h
  refine va_MetF (cc := (z_meth mi).2.2.1) (maxL := (z_meth mi).2.2.2.1) (ret := (z_meth mi).2.2.2.2) hpl rfl ?_
  intro p e s m args below meth c s₁ B hml hv
  obtain ⟨rfl, hsz, hH, hS0⟩ := hv
  have hts := atoms_spec (ws := zwsY (z_meth mi)) B.pre
  have hown : s.vm.findClass (z_meth mi).1 = some m.cls := by rw [← hcls]; exact findClass_of_methodNamed B.named
  have hlocks := B.notSynchronized
  have hr := B.returns
  have hl := lv_entry (as.map (z_tv b sa)) (n := (z_meth mi).2.2.2.1) (by rw [z_ent_len, ← z_meth_maxL hlt]; exact hfit)
  rw [lg_entry_eq]
  generalize (lg_sl (as.map (z_tv b sa)) ++ List.replicate ((z_meth mi).2.2.2.1 - (lg_sl (as.map (z_tv b sa))).length) Slot.unset).toArray = ls at hl ⊢
  have hL : zLs b sa (z_meth mi).2.2.2.1 (z_pad (z_maxL mi) (z_ent as)) ls := by rw [z_meth_maxL hlt]; exact z_entry_ls hl
  have key := IH d (z_entry mi as M) v M' h p e (headSpec (zwsY (z_meth mi)) (zroom d (M'.1 - M.1) (M'.2.1 - M.2.1))).room s m (as.map (z_tv b sa)).toArray below meth c (MQ below (zQc D b sa v M') (as.map (z_tv b sa)).toArray s (M'.1 - M.1) (M'.2.1 - M.2.1) (zA b)) M.1 M.2.1 B.exec B.bytes hml (fun w hw => hts w (List.mem_cons_of_mem _ hw)) hS0 hown hsz h4 ⟨Nat.le_refl _, Nat.le_refl _, Nat.le_add_right _ _, Nat.le_add_right _ _⟩ (by show M'.1 ≤ M.1 + (M'.1 - M.1); have := hle.1; omega) (by show M'.2.1 ≤ M.2.1 + (M'.2.1 - M.2.1); have := hle.2; omega) (Nat.le_refl _) (Nat.le_refl _) (fun hh => (name_of_methodNamed B.named B.method).1.trans hh) ?_
  · have k2 := key s.heap [] ls hH hL
    have e1 : M.1 - M.1 = 0 := Nat.sub_self _
    have e2 : M.2.1 - M.2.1 = 0 := Nat.sub_self _
    have k3 : W p l e (headSpec (zwsY (z_meth mi)) (zroom d (M'.1 - M.1) (M'.2.1 - M.2.1))).room s m (as.map (z_tv b sa)).toArray below meth c s.heap [] (M.1 - M.1) (M.2.1 - M.2.1) (MQ below (zQc D b sa v M') (as.map (z_tv b sa)).toArray s (M'.1 - M.1) (M'.2.1 - M.2.1) (zA b)) (F0 m 0 ls []) := k2
    rw [e1, e2] at k3
    exact k3
  · intro H locs ls2 pc ins hH2 hd hrok
    intro T hT XT
    have hB2 : zB (headSpec (zwsY (z_meth mi)) (zroom d (M'.1 - M.1) (M'.2.1 - M.2.1))).room M.1 M.2.1 M' := ⟨hle.1, hle.2, by show M'.1 ≤ M.1 + (M'.1 - M.1); have := hle.1; omega, by show M'.2.1 ≤ M.2.1 + (M'.2.1 - M.2.1); have := hle.2; omega⟩
    have hsize := z_size XT hT hsz h4 hB2 hH2
    have hq : ∀ t : State, t.heap = H → s.WarmedH t.vm → zQc D b sa v M' (as.map (z_tv b sa)).toArray s (.returned (v.map (z_tv b sa))) t := by
      intro t ht hW
      refine ⟨rfl, by rw [ht]; exact hsize, fun q hq => ?_, hH2.at' ht hW.alike⟩
      obtain ⟨hwf, cs, tys, hK, hP, hD, hS, ht2⟩ := hH2
      rw [ht]
      exact hS.2.1 q (by rw [hsz]; omega) (Nat.not_le.mpr hq)
    have hf : ∀ q ∈ locs, zA b q.base := by
      obtain ⟨hwf, cs, tys, hK, hP, hD, hS, ht2⟩ := hH2
      exact hS.2.2
    have hx := B.exec
    have hb := B.bytes
    rcases hrok with ⟨x, rfl, rfl, hret | ⟨hret, hx2⟩⟩ | ⟨x, rfl, rfl, hret⟩ | ⟨rfl, hret, hv⟩ | ⟨rfl, rfl, hret⟩
    · exact W.iret hx hb (hr.trans hret) hq hf hd hlocks T hT XT
    · exact W.zret hx hb (hr.trans hret) (by rcases hx2 with rfl | rfl <;> rfl) hq hf hd hlocks T hT XT
    · exact W.lret hx hb (hr.trans hret) hq hf hd hlocks T hT XT
    · rcases hret with ⟨nn, hret⟩ | ⟨tt, hret⟩
      · rcases hv with rfl | ⟨a, rfl⟩
        · exact W.aret hx hb (hr.trans hret) (Or.inl ⟨_, rfl⟩) (Or.inl rfl) hq hf hd hlocks T hT XT
        · exact W.aret hx hb (hr.trans hret) (Or.inl ⟨_, rfl⟩) (Or.inr ⟨_, rfl⟩) hq hf hd hlocks T hT XT
      · rcases hv with rfl | ⟨a, rfl⟩
        · exact W.aret hx hb (hr.trans hret) (Or.inr ⟨_, rfl⟩) (Or.inl rfl) hq hf hd hlocks T hT XT
        · exact W.aret hx hb (hr.trans hret) (Or.inr ⟨_, rfl⟩) (Or.inr ⟨_, rfl⟩) hq hf hd hlocks T hT XT
    · exact W.vret hx hb (hr.trans hret) hq hf hd hlocks T hT XT
theorem z_sound (l : Launch) (D : va_G) (b : Nat) (sa : Nat → Nat) (X : zX) : ∀ n, zSound l D b sa X n := by
  intro n
  induction n with
  | zero => intro d q v M' h; cases h
  | succ n IH =>
    intro d q v M' h p e R s m args below meth c Q n0 k0 hx hb hml hts hS0 hown hsz h4 hB hM1 hM2 hR1 hR2 hnm hret
    have hlt := z_run_lt X h
    have hgrow := z_run_grow X (n + 1) d q v M' h
    rw [z_run_succ] at h
    have hg := z_grow X q
    -- what is known at the next places
    have hstep : z_stepc X False (zK p l e R s m args below meth c Q D b sa (z_meth q.1).2.2.2.1 n0 k0) (zCk p l e R s m args below meth c Q D b sa (z_meth q.1).2.2.2.1 n0 k0 X (d - 1)) (fun v1 M1 => v1 = v ∧ M1 = M') q := by
      rw [z_param]
      revert h hg
      match z_act X q with
      | none => intro h; cases h
      | some (.inl c') =>
        intro h hg
        have hg : zLe q.2.2.2.2 c'.2.2.2.2 ∧ c'.1 = q.1 := hg
        have h : z_run X n d c' = some (v, M') := h
        have hl2 := z_run_grow X n d c' v M' h
        have hB' : zB R n0 k0 c'.2.2.2.2 := ⟨Nat.le_trans hB.1 hg.1.1, Nat.le_trans hB.2.1 hg.1.2, Nat.le_trans hl2.1 hM1, Nat.le_trans hl2.2 hM2⟩
        have := IH d c' v M' h p e R s m args below meth c Q n0 k0 hx (by rw [hg.2]; exact hb) (by rw [hg.2]; exact hml) hts hS0 (by rw [hg.2]; exact hown) hsz h4 hB' hM1 hM2 hR1 hR2 (by rw [hg.2]; exact hnm) (by rw [hg.2]; exact hret)
        rw [hg.2] at this
        exact ⟨hB', this⟩
      | some (.inr (.inr r)) =>
        intro h hg
        have h : (some (r.1, r.2) : Option zR) = some (v, M') := h
        cases h
        exact ⟨rfl, rfl⟩
      | some (.inr (.inl r)) =>
        match d, hR1, hR2 with
        | 0, _, _ => intro h; cases h
        | d' + 1, hR1, hR2 =>
          intro h hg
          have hg : zLe q.2.2.2.2 r.2.2.2.2.2.2 ∧ r.2.2.1 = q.1 ∧ (z_ent r.2.1).length ≤ z_maxL r.1 := hg
          have h : z_call (z_run X n d') (z_run X n (d' + 1)) r.1 r.2.1 r.2.2 = some (v, M') := h
          unfold z_call at h
          cases h1 : z_run X n d' (z_entry r.1 r.2.1 r.2.2.2.2.2.2) with
          | none => rw [h1] at h; cases h
          | some r1 =>
            rw [h1] at h
            obtain ⟨v1, M1⟩ := r1
            have h : z_run X n (d' + 1) (z_ret (v1, M1) r.2.2) = some (v, M') := h
            have hl1 : zLe r.2.2.2.2.2.2 M1 := z_run_grow X n d' (z_entry r.1 r.2.1 r.2.2.2.2.2.2) v1 M1 h1
            have hl2 : zLe M1 M' := z_run_grow X n (d' + 1) (z_ret (v1, M1) r.2.2) v M' h
            have hB' : zB R n0 k0 M1 := ⟨Nat.le_trans hB.1 (Nat.le_trans hg.1.1 hl1.1), Nat.le_trans hB.2.1 (Nat.le_trans hg.1.2 hl1.2), Nat.le_trans hl2.1 hM1, Nat.le_trans hl2.2 hM2⟩
            have h4r : 4 ≤ r.2.2.2.2.2.2.1 := Nat.le_trans h4 (Nat.le_trans hB.1 hg.1.1)
            have hrr : (z_ret (v1, M1) r.2.2).1 = q.1 := hg.2.1
            have hW := IH (d' + 1) (z_ret (v1, M1) r.2.2) v M' h p e R s m args below meth c Q n0 k0 hx (by rw [hrr]; exact hb) (by rw [hrr]; exact hml) hts hS0 (by rw [hrr]; exact hown) hsz h4 hB' hM1 hM2 hR1 hR2 (by rw [hrr]; exact hnm) (by rw [hrr]; exact hret)
            rw [hrr] at hW
            exact ⟨by show d' + 1 - 1 + 11 ≤ R.frames; omega, z_depth_le hR2, v1, M1, z_met_of IH h1 hg.2.2 h4r, hl1.1, hl1.2, hB', hW⟩
    -- one instruction
    obtain ⟨mi, pc, L, st, M⟩ := q
    unfold z_stepc at hstep
    dsimp only at hstep
    split at hstep
    · next ins npc a b' val sw ws hat =>
      exact z_sound_step (b' := b') (ws := ws) (RT := fun v1 M1 => v1 = v ∧ M1 = M') hx hb hml hts hS0 hown hsz h4 hB (by omega) (z_le400 hR2) hnm (fun v1 M1 hh H locs ls pc ins hH hd hrok => by
        obtain ⟨rfl, rfl⟩ := hh
        exact hret H locs ls pc ins hH hd hrok) (z_table hat) hstep
    · exact hstep.elim
