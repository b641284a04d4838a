/-! AN INTERPRETER over the program as data: values, cells and locals as the worlds have them, addresses as places in one list of cells -/
/-- the next free number, the slots made so far, the cells -/
abbrev zM : Type := Nat × Nat × (Nat → Option va_E)
def z_esz (e : va_E) : Nat := match e with
  | .inl (_, n, _) => n
  | .inr (_, fs) => fs.length
def z_upd (M : zM) (a : Nat) (e : va_E) : zM := (M.1, M.2.1, va_up M.2.2 a (some e))
def z_new (M : zM) (e : va_E) : zM := (M.1 + 1, M.2.1 + z_esz e, va_up M.2.2 M.1 (some e))
abbrev zL : Type := List (Option Value)
abbrev zC : Type := Nat × Nat × zL × List Value × zM
abbrev zR : Type := Option Value × zM
abbrev zX : Type := Nat × (Nat → Int32)
def z_look : List (Nat × zE) → Nat → Option zE
  | [], _ => none
  | (p, e) :: r, pc => match Nat.beq p pc with
    | true => some e
    | false => z_look r pc
def zat (mi pc : Nat) : Option zE := match z_get zprog mi with
  | none => none
  | some l => z_look l pc
def z_lset : zL → Nat → Option Value → zL
  | [], _, _ => []
  | _ :: r, 0, v => v :: r
  | x :: r, n + 1, v => x :: z_lset r n v
/-- a store at place i makes a long that stands at i - 1 unknown -/
def z_kill (L : zL) (i : Nat) : zL := match i with
  | 0 => L
  | j + 1 => match z_get L j with
    | some (some (.long _)) => z_lset L j none
    | some (some (.double _)) => z_lset L j none
    | _ => L
def z_st1 (L : zL) (i : Nat) (v : Value) : zL := z_lset (z_kill L i) i (some v)
def z_st2 (L : zL) (i : Nat) (v : Value) : zL := z_lset (z_lset (z_kill L i) i (some v)) (i + 1) none
def z_isA.{u} {ρ : Sort u} (fail : ρ) (v : Value) (k : ρ) : ρ := match v with
  | .ref _ => k
  | .null => k
  | _ => fail
def z_ldI.{u} {ρ : Sort u} (fail : ρ) (L : zL) (a : Nat) (k : Int32 → ρ) : ρ := match z_get L a with
  | some (some (.int x)) => k x
  | _ => fail
def z_ldJ.{u} {ρ : Sort u} (fail : ρ) (L : zL) (a : Nat) (k : Int64 → ρ) : ρ := match z_get L a with
  | some (some (.long x)) => k x
  | _ => fail
def z_ldA.{u} {ρ : Sort u} (fail : ρ) (L : zL) (a : Nat) (k : Value → ρ) : ρ := match z_get L a with
  | some (some v) => z_isA fail v (k v)
  | _ => fail
def z_I1.{u} {ρ : Sort u} (fail : ρ) (st : List Value) (k : Int32 → List Value → ρ) : ρ := match st with
  | .int x :: r => k x r
  | _ => fail
def z_I2.{u} {ρ : Sort u} (fail : ρ) (st : List Value) (k : Int32 → Int32 → List Value → ρ) : ρ := match st with
  | .int y :: .int x :: r => k x y r
  | _ => fail
def z_J1.{u} {ρ : Sort u} (fail : ρ) (st : List Value) (k : Int64 → List Value → ρ) : ρ := match st with
  | .long x :: r => k x r
  | _ => fail
def z_J2.{u} {ρ : Sort u} (fail : ρ) (st : List Value) (k : Int64 → Int64 → List Value → ρ) : ρ := match st with
  | .long y :: .long x :: r => k x y r
  | _ => fail
def z_JI.{u} {ρ : Sort u} (fail : ρ) (st : List Value) (k : Int64 → Int32 → List Value → ρ) : ρ := match st with
  | .int y :: .long x :: r => k x y r
  | _ => fail
def z_V1.{u} {ρ : Sort u} (fail : ρ) (st : List Value) (k : Value → List Value → ρ) : ρ := match st with
  | v :: r => k v r
  | _ => fail
def z_nil.{u} {ρ : Sort u} (fail : ρ) (st : List Value) (k : ρ) : ρ := match st with
  | [] => k
  | _ => fail
def z_R1.{u} {ρ : Sort u} (fail : ρ) (st : List Value) (k : Nat → List Value → ρ) : ρ := match st with
  | .ref a :: r => k a r
  | _ => fail
def z_RI.{u} {ρ : Sort u} (fail : ρ) (st : List Value) (k : Nat → Int32 → List Value → ρ) : ρ := match st with
  | .int i :: .ref a :: r => k a i r
  | _ => fail
def z_cat1.{u} {ρ : Sort u} (fail : ρ) (v : Value) (k : ρ) : ρ := match v with
  | .int _ => k
  | .ref _ => k
  | .null => k
  | _ => fail
def z_nul.{u} {ρ : Sort u} (fail : ρ) (v : Value) (kn kr : ρ) : ρ := match v with
  | .null => kn
  | .ref _ => kr
  | _ => fail
def z_ite.{u} {ρ : Sort u} (c : Prop) (_ : Decidable c) (a b : ρ) : ρ := if c then a else b
/-- a whole number within a row -/
abbrev z_in (i : Int32) (n : Nat) : Prop := 0 ≤ i ∧ i.toNatClampNeg < n
def z_rcf (i : Nat) : Int32 := match i with
  | 0 => -1
  | 1 => -2
  | 2 => -3
  | 3 => -5
  | _ => -6
def z_htf (i : Nat) : Int32 := match i with
  | 0 => 999
  | 1 => 10
  | _ => 9
/-- static rows: 0 REFUSAL_CODES, 1 HIGHEST_TERMS, 2 the script (3: the text of all words); cells begin at 4 -/
def z_stat (X : zX) (a : Nat) : Option zX := match a with
  | 0 => some (5, z_rcf)
  | 1 => some (3, z_htf)
  | 2 => some X
  | _ => none
def z_words : List Nat := [108, 111, 110, 103, 32, 115, 104, 111, 114, 116, 32, 97, 110, 121, 32, 99, 117, 116, 32, 111, 114, 32, 116, 105, 109, 101, 115, 32, 99, 111, 115, 116, 115, 32, 97, 108, 108, 111, 119, 115, 32, 98, 97, 114, 115, 32, 105, 102, 32, 97, 110, 100, 32, 110, 111, 116, 32, 112, 108, 97, 99, 101, 32, 119, 101, 105, 103, 104, 116, 32, 97, 115, 32, 101, 110, 100, 115, 32, 109, 101, 101, 116, 115, 32, 99, 111, 117, 110, 116, 32, 100, 97, 121, 32, 109, 111, 111, 100, 32, 119, 101, 105, 103, 104, 32, 116, 111, 32, 101, 110, 100, 32, 109, 101, 101, 116, 32, 112, 97, 115, 115, 32, 100, 111, 110, 101, 32, 108, 97, 116, 101, 115, 116, 32, 115, 99, 97, 110, 115, 32]
def z_ald.{u} {ρ : Sort u} (X : zX) (fail : ρ) (M : zM) (t a : Nat) (i : Int32) (k : Int32 → ρ) : ρ := match z_stat X a with
  | some q => if t = 0 ∧ z_in i q.1 then k (q.2 i.toNatClampNeg) else fail
  | none => match M.2.2 a with
    | some (.inl (t', n, .inl f)) => if t' = t ∧ z_in i n then k (f i.toNatClampNeg) else fail
    | _ => fail
def z_jld.{u} {ρ : Sort u} (fail : ρ) (M : zM) (a : Nat) (i : Int32) (k : Int64 → ρ) : ρ := match M.2.2 a with
  | some (.inl (t', n, .inr (.inl f))) => if t' = 1 ∧ z_in i n then k (f i.toNatClampNeg) else fail
  | _ => fail
def z_qld.{u} {ρ : Sort u} (fail : ρ) (M : zM) (a : Nat) (i : Int32) (kn : ρ) (k : Nat → ρ) : ρ := match M.2.2 a with
  | some (.inl (t', n, .inr (.inr (.inr (.inr f))))) => if 3 ≤ t' ∧ t' < 6 ∧ z_in i n then (match f i.toNatClampNeg with
    | none => kn
    | some q => k q) else fail
  | _ => fail
def z_ast.{u} {ρ : Sort u} (fail : ρ) (M : zM) (t a : Nat) (i x : Int32) (k : zM → ρ) : ρ := match M.2.2 a with
  | some (.inl (t', n, .inl f)) => if t' = t ∧ z_in i n ∧ (t = 2 → x = 0 ∨ x = 1) then k (z_upd M a (.inl (t', n, .inl (upd f i.toNatClampNeg x)))) else fail
  | _ => fail
def z_jst.{u} {ρ : Sort u} (fail : ρ) (M : zM) (a : Nat) (i : Int32) (x : Int64) (k : zM → ρ) : ρ := match M.2.2 a with
  | some (.inl (t', n, .inr (.inl f))) => if t' = 1 ∧ z_in i n then k (z_upd M a (.inl (t', n, .inr (.inl (vp_updL f i.toNatClampNeg x))))) else fail
  | _ => fail
def z_qst.{u} {ρ : Sort u} (fail : ρ) (M : zM) (a : Nat) (i : Int32) (v : Value) (k : zM → ρ) : ρ := match M.2.2 a with
  | some (.inl (t', n, .inr (.inr (.inr (.inr f))))) => (match v with
    | .null => if 3 ≤ t' ∧ t' < 6 ∧ z_in i n then k (z_upd M a (.inl (t', n, .inr (.inr (.inr (.inr (va_up f i.toNatClampNeg none))))))) else fail
    | .ref q => (match M.2.2 q with
      | some (.inr (ci, _)) => if 3 ≤ t' ∧ t' < 6 ∧ z_in i n ∧ ci = z_elem t' then k (z_upd M a (.inl (t', n, .inr (.inr (.inr (.inr (va_up f i.toNatClampNeg (some q)))))))) else fail
      | _ => fail)
    | _ => fail)
  | _ => fail
def z_len.{u} {ρ : Sort u} (X : zX) (fail : ρ) (M : zM) (a : Nat) (k : Int32 → ρ) : ρ := match z_stat X a with
  | some q => k (Int32.ofNat q.1)
  | none => match M.2.2 a with
    | some (.inl (t, n, _)) => if t < 6 then k (Int32.ofNat n) else fail
    | _ => fail
def z_ar0.{u} {ρ : Sort u} (fail : ρ) (M : zM) (a : Nat) (k : ρ) : ρ := match M.2.2 a with
  | some (.inl (t, _, _)) => if t = 0 then k else fail
  | _ => fail
def z_fld.{u} {ρ : Sort u} (fail : ρ) (M : zM) (a ci j : Nat) (k : Value → ρ) : ρ := match M.2.2 a with
  | some (.inr (ci', fs)) => if ci' = ci then (match fs[j]? with
    | some v => k v
    | none => fail) else fail
  | _ => fail
def z_isI.{u} {ρ : Sort u} (fail : ρ) (v : Value) (k : Int32 → ρ) : ρ := match v with
  | .int x => k x
  | _ => fail
def z_isJ.{u} {ρ : Sort u} (fail : ρ) (v : Value) (k : Int64 → ρ) : ρ := match v with
  | .long x => k x
  | _ => fail
def z_isR.{u} {ρ : Sort u} (fail : ρ) (v : Value) (k : Nat → ρ) : ρ := match v with
  | .ref x => k x
  | _ => fail
def z_fldI.{u} {ρ : Sort u} (fail : ρ) (M : zM) (a ci j : Nat) (k : Int32 → ρ) : ρ := z_fld fail M a ci j (fun v => z_isI fail v k)
def z_fldJ.{u} {ρ : Sort u} (fail : ρ) (M : zM) (a ci j : Nat) (k : Int64 → ρ) : ρ := z_fld fail M a ci j (fun v => z_isJ fail v k)
def z_fldA.{u} {ρ : Sort u} (fail : ρ) (M : zM) (a ci j : Nat) (k : Nat → ρ) : ρ := z_fld fail M a ci j (fun v => z_isR fail v k)
def z_fset.{u} {ρ : Sort u} (fail : ρ) (M : zM) (a ci j : Nat) (v : Value) (k : zM → ρ) : ρ := match M.2.2 a with
  | some (.inr (ci', fs)) => if ci' = ci ∧ j < fs.length then k (z_upd M a (.inr (ci', fs.set j v))) else fail
  | _ => fail
def z_bool.{u} {ρ : Sort u} (fail : ρ) (x : Int32) (k : ρ) : ρ := if x = 0 ∨ x = 1 then k else fail
def z_defs (ci : Nat) : List Value := match ci with
  | 0 => [.null, .int 0, .int 0]
  | 1 => [.null, .null, .int 0, .int 0, .int 0]
  | 2 => [.null, .null, .null, .int 0]
  | 3 => [.null, .null, .null, .int 0, .int 0, .int 0]
  | 4 => [.null, .null, .null, .null, .null, .null, .null, .null, .null, .null, .int 0]
  | 5 => [.null]
  | 6 => [.null, .null, .null, .null, .null, .null, .null, .null, .int 0, .int 0, .int 0]
  | 7 => [.null, .null, .null, .null, .null, .null, .int 0, .int 0, .int 0, .int 0, .int 0]
  | 8 => [.null, .int 0]
  | 9 => [.null, .null, .null, .int 0, .int 0, .int 0]
  | 10 => [.null, .null, .null, .null, .null, .null, .null, .null, .null, .null, .null, .null, .null, .null, .null, .null, .int 0, .int 0, .int 0, .int 0]
  | 11 => [.int 0, .int 0, .null, .null, .null, .null, .null, .null, .int 0, .null, .null, .int 0, .null, .int 0, .int 0, .int 0, .int 0, .long 0, .int 0, .int 0, .int 0, .int 0, .null, .int 0, .null, .null, .int 0, .null, .null, .int 0, .int 0, .null, .null, .null, .int 0, .null, .null, .null, .int 0, .long 0, .int 0, .long 0, .null, .null, .int 0, .null, .null, .int 0, .null, .null, .null, .int 0, .null, .null, .null, .null, .null, .null, .null, .null, .null, .null, .null, .null, .null, .int 0, .int 0, .int 0, .int 0, .long 0, .null, .int 0]
  | _ => []
def z_catS (st : List Value) : Nat := (st.map fun v => v.category).sum
def z_pop.{u} {ρ : Sort u} (fail : ρ) : Nat → List Value → List Value → (List Value → List Value → ρ) → ρ
  | 0, st, acc, k => k acc st
  | n + 1, v :: st, acc, k => z_pop fail n st (v :: acc) k
  | _ + 1, [], _, _ => fail
/-- the receiver of a virtual call is an object of the method's own class -/
def z_obj.{u} {ρ : Sort u} (fail : ρ) (M : zM) (v : Value) (ci : Nat) (k : ρ) : ρ := match v with
  | .ref a => (match M.2.2 a with
    | some (.inr (ci', _)) => if ci' = ci then k else fail
    | _ => fail)
  | _ => fail
def z_sw.{u} {ρ : Sort u} (x : Int32) : List (Int32 × Nat) → Nat → (Nat → ρ) → ρ
  | [], d, k => k d
  | (y, t) :: r, d, k => if x = y then k t else z_sw x r d k
def z_cpy.{u} {ρ : Sort u} (fail : ρ) (M : zM) (a0 : Nat) (sp : Int32) (a : Nat) (dp n : Int32) (k : zM → ρ) : ρ := match M.2.2 a0 with
  | some (.inl (t0, n0, .inl f)) => (match M.2.2 a with
    | some (.inl (t1, n1, .inl g)) => if t0 = 0 ∧ t1 = 0 ∧ 0 ≤ sp ∧ 0 ≤ dp ∧ 0 ≤ n ∧ sp.toNatClampNeg + n.toNatClampNeg ≤ n0 ∧ dp.toNatClampNeg + n.toNatClampNeg ≤ n1 then k (z_upd M a (.inl (t1, n1, .inl (va_cpy f g sp.toNatClampNeg dp.toNatClampNeg n.toNatClampNeg)))) else fail
    | _ => fail)
  | _ => fail
def z_cln.{u} {ρ : Sort u} (fail : ρ) (M : zM) (a : Nat) (k : zM → ρ) : ρ := match M.2.2 a with
  | some (.inl (t, n, .inl f)) => if t = 0 then k (z_new M (.inl (t, n, .inl f))) else fail
  | _ => fail
def z_sm.{u} {ρ : Sort u} (fail : ρ) (r : List Value) (k : ρ) : ρ := match Nat.ble (z_catS r) 8 with
  | true => k
  | false => fail
def z_cp5.{u} {ρ : Sort u} (fail : ρ) (st : List Value) (k : Int32 → Int32 → Nat → Int32 → Nat → List Value → ρ) : ρ := match st with
  | .int n :: .int dp :: .ref a :: .int sp :: .ref a0 :: r => k n dp a sp a0 r
  | _ => fail
def z_str.{u} {ρ : Sort u} (fail : ρ) (a : Nat) (k : ρ) : ρ := match Nat.beq a 3 with
  | true => k
  | false => fail
def z_spec.{u} {ρ : Sort u} (fail : ρ) (k : zC → ρ) (a npc mi : Nat) (L : zL) (st : List Value) (M : zM) : ρ := match a - 9000 with
  | 0 => z_R1 fail st (fun _ r => z_sm fail r (k (mi, npc, L, r, M)))
  | 1 => z_cp5 fail st (fun n dp a sp a0 r => z_sm fail r (z_cpy fail M a0 sp a dp n (fun M' => k (mi, npc, L, r, M'))))
  | 2 => z_R1 fail st (fun a r => z_sm fail r (z_str fail a (k (mi, npc, L, .int (Int32.ofNat z_words.length) :: r, M))))
  | 3 => z_RI fail st (fun a i r => z_sm fail r (z_str fail a (if z_in i z_words.length then k (mi, npc, L, .int (Int32.ofNat (z_words.getD i.toNatClampNeg 0)) :: r, M) else fail)))
  | 4 => z_R1 fail st (fun a r => z_sm fail r (z_cln fail M a (fun M' => k (mi, npc, L, .ref M.1 :: r, M'))))
  | _ => fail
def z_ent : List Value → zL
  | [] => []
  | .long x :: r => some (.long x) :: none :: z_ent r
  | .double x :: r => some (.double x) :: none :: z_ent r
  | v :: r => some v :: z_ent r
def z_maxL (mi : Nat) : Nat := match z_get zmeth mi with
  | some y => y.2.2.2.1
  | none => 0
/-- the arguments fit the method's locals -/
def z_fit.{u} {ρ : Sort u} (fail : ρ) (a : Nat) (as : List Value) (k : ρ) : ρ := match Nat.ble (z_ent as).length (z_maxL a) with
  | true => k
  | false => fail
/-- kind 0: static; 1: virtual; 2: special (a constructor) -/
def z_inv.{u} {ρ : Sort u} (fail : ρ) (k : zC → ρ) (call : Nat → List Value → zC → ρ) (kind a b npc mi : Nat) (L : zL) (st : List Value) (M : zM) : ρ :=
  match Nat.ble 9000 a with
  | true => z_spec fail k a npc mi L st M
  | false => z_pop fail b st [] (fun as r => match kind with
    | 0 => z_sm fail r (z_fit fail a as (call a as (mi, npc, L, r, M)))
    | _ => z_V1 fail r (fun v r => z_sm fail r (z_obj fail M v (z_cls a) (z_fit fail a (v :: as) (call a (v :: as) (mi, npc, L, r, M))))))
def z_getf.{u} {ρ : Sort u} (fail : ρ) (M : zM) (val : Value) (o a b : Nat) (k : Value → ρ) : ρ := match val with
  | .int 2 => z_fldJ fail M o a b (fun x => k (.long x))
  | .int 3 => z_fldA fail M o a b (fun x => k (.ref x))
  | _ => z_fldI fail M o a b (fun x => k (.int x))
def z_putf.{u} {ρ : Sort u} (fail : ρ) (M : zM) (val : Value) (o a b : Nat) (v : Value) (k : zM → ρ) : ρ := match val with
  | .int 0 => z_isI fail v (fun x => z_fset fail M o a b (.int x) k)
  | .int 1 => z_isI fail v (fun x => z_bool fail x (z_fset fail M o a b (.int x) k))
  | .int 2 => z_isJ fail v (fun x => z_fset fail M o a b (.long x) k)
  | _ => z_isA fail v (z_fset fail M o a b v k)
/-- one instruction: what comes next -/
def z_step.{u} {ρ : Sort u} (X : zX) (fail : ρ) (k : zC → ρ) (call : Nat → List Value → zC → ρ) (ret : Option Value → zM → ρ) (ins : Instr) (npc a b : Nat) (val : Value) (sw : List (Int32 × Nat)) (mi : Nat) (L : zL) (st : List Value) (M : zM) : ρ :=
  match ins with
  | .iload _ => z_ldI fail L a (fun x => k (mi, npc, L, .int x :: st, M))
  | .iload_n _ => z_ldI fail L a (fun x => k (mi, npc, L, .int x :: st, M))
  | .lload _ => z_ldJ fail L a (fun x => k (mi, npc, L, .long x :: st, M))
  | .lload_n _ => z_ldJ fail L a (fun x => k (mi, npc, L, .long x :: st, M))
  | .aload _ => z_ldA fail L a (fun v => k (mi, npc, L, v :: st, M))
  | .aload_n _ => z_ldA fail L a (fun v => k (mi, npc, L, v :: st, M))
  | .istore _ => z_I1 fail st (fun x r => k (mi, npc, z_st1 L a (.int x), r, M))
  | .istore_n _ => z_I1 fail st (fun x r => k (mi, npc, z_st1 L a (.int x), r, M))
  | .lstore _ => z_J1 fail st (fun x r => k (mi, npc, z_st2 L a (.long x), r, M))
  | .lstore_n _ => z_J1 fail st (fun x r => k (mi, npc, z_st2 L a (.long x), r, M))
  | .astore _ => z_V1 fail st (fun v r => z_isA fail v (k (mi, npc, z_st1 L a v, r, M)))
  | .astore_n _ => z_V1 fail st (fun v r => z_isA fail v (k (mi, npc, z_st1 L a v, r, M)))
  | .iinc _ _ => z_ldI fail L a (fun x => z_isI fail val (fun n => k (mi, npc, z_st1 L a (.int (x + n)), st, M)))
  | .iconst _ => k (mi, npc, L, val :: st, M)
  | .bipush _ => k (mi, npc, L, val :: st, M)
  | .sipush _ => k (mi, npc, L, val :: st, M)
  | .ldc _ => k (mi, npc, L, val :: st, M)
  | .ldc_w _ => k (mi, npc, L, val :: st, M)
  | .lconst _ => k (mi, npc, L, val :: st, M)
  | .ldc2_w _ => k (mi, npc, L, val :: st, M)
  | .aconst_null => k (mi, npc, L, val :: st, M)
  | .getstatic _ => k (mi, npc, L, val :: st, M)
  | .iadd => z_I2 fail st (fun x y r => k (mi, npc, L, .int (x + y) :: r, M))
  | .isub => z_I2 fail st (fun x y r => k (mi, npc, L, .int (x - y) :: r, M))
  | .imul => z_I2 fail st (fun x y r => k (mi, npc, L, .int (x * y) :: r, M))
  | .iand => z_I2 fail st (fun x y r => k (mi, npc, L, .int (x &&& y) :: r, M))
  | .ior => z_I2 fail st (fun x y r => k (mi, npc, L, .int (x ||| y) :: r, M))
  | .ixor => z_I2 fail st (fun x y r => k (mi, npc, L, .int (x ^^^ y) :: r, M))
  | .ishl => z_I2 fail st (fun x y r => k (mi, npc, L, .int (x <<< (y &&& 31)) :: r, M))
  | .ishr => z_I2 fail st (fun x y r => k (mi, npc, L, .int (x >>> (y &&& 31)) :: r, M))
  | .iushr => z_I2 fail st (fun x y r => k (mi, npc, L, .int ((x.toUInt32 >>> (y.toUInt32 &&& Int32.toUInt32 31)).toInt32) :: r, M))
  | .idiv => z_I2 fail st (fun x y r => if y = 0 then fail else k (mi, npc, L, .int (x / y) :: r, M))
  | .irem => z_I2 fail st (fun x y r => if y = 0 then fail else k (mi, npc, L, .int (x - x / y * y) :: r, M))
  | .ineg => z_I1 fail st (fun x r => k (mi, npc, L, .int (-x) :: r, M))
  | .ladd => z_J2 fail st (fun x y r => k (mi, npc, L, .long (x + y) :: r, M))
  | .lsub => z_J2 fail st (fun x y r => k (mi, npc, L, .long (x - y) :: r, M))
  | .lmul => z_J2 fail st (fun x y r => k (mi, npc, L, .long (x * y) :: r, M))
  | .ldiv => z_J2 fail st (fun x y r => if y = 0 then fail else k (mi, npc, L, .long (x / y) :: r, M))
  | .lrem => z_J2 fail st (fun x y r => if y = 0 then fail else k (mi, npc, L, .long (x - x / y * y) :: r, M))
  | .lshl => z_JI fail st (fun x y r => k (mi, npc, L, .long (x <<< (y.toInt64 &&& 63)) :: r, M))
  | .lshr => z_JI fail st (fun x y r => k (mi, npc, L, .long (x >>> (y.toInt64 &&& 63)) :: r, M))
  | .lcmp => z_J2 fail st (fun x y r => k (mi, npc, L, .int (lg_cmp x y) :: r, M))
  | .i2l => z_I1 fail st (fun x r => k (mi, npc, L, .long x.toInt64 :: r, M))
  | .l2i => z_J1 fail st (fun x r => k (mi, npc, L, .int x.toInt32 :: r, M))
  | .dup => z_V1 fail st (fun v r => z_cat1 fail v (k (mi, npc, L, v :: v :: r, M)))
  | .pop => z_V1 fail st (fun v r => z_cat1 fail v (k (mi, npc, L, r, M)))
  | .dup2 => z_RI fail st (fun o i r => k (mi, npc, L, .int i :: .ref o :: .int i :: .ref o :: r, M))
  | .ifCond .eq _ => z_I1 fail st (fun x r => if x = 0 then k (mi, a, L, r, M) else k (mi, npc, L, r, M))
  | .if_icmp .eq _ => z_I2 fail st (fun x y r => if x = y then k (mi, a, L, r, M) else k (mi, npc, L, r, M))
  | .ifCond .lt _ => z_I1 fail st (fun x r => if x < 0 then k (mi, a, L, r, M) else k (mi, npc, L, r, M))
  | .if_icmp .lt _ => z_I2 fail st (fun x y r => if x < y then k (mi, a, L, r, M) else k (mi, npc, L, r, M))
  | .ifCond .ge _ => z_I1 fail st (fun x r => if 0 ≤ x then k (mi, a, L, r, M) else k (mi, npc, L, r, M))
  | .if_icmp .ge _ => z_I2 fail st (fun x y r => if y ≤ x then k (mi, a, L, r, M) else k (mi, npc, L, r, M))
  | .ifCond .gt _ => z_I1 fail st (fun x r => if 0 < x then k (mi, a, L, r, M) else k (mi, npc, L, r, M))
  | .if_icmp .gt _ => z_I2 fail st (fun x y r => if y < x then k (mi, a, L, r, M) else k (mi, npc, L, r, M))
  | .ifCond .le _ => z_I1 fail st (fun x r => if x ≤ 0 then k (mi, a, L, r, M) else k (mi, npc, L, r, M))
  | .if_icmp .le _ => z_I2 fail st (fun x y r => if x ≤ y then k (mi, a, L, r, M) else k (mi, npc, L, r, M))
  | .ifCond .ne _ => z_I1 fail st (fun x r => if x = 0 then k (mi, npc, L, r, M) else k (mi, a, L, r, M))
  | .if_icmp .ne _ => z_I2 fail st (fun x y r => if x = y then k (mi, npc, L, r, M) else k (mi, a, L, r, M))
  | .goto _ => k (mi, a, L, st, M)
  | .ifnull _ => z_V1 fail st (fun v r => z_nul fail v (k (mi, a, L, r, M)) (k (mi, npc, L, r, M)))
  | .ifnonnull _ => z_V1 fail st (fun v r => z_nul fail v (k (mi, npc, L, r, M)) (k (mi, a, L, r, M)))
  | .tableswitch _ _ _ _ => z_I1 fail st (fun x r => z_sw x sw a (fun t => k (mi, t, L, r, M)))
  | .lookupswitch _ _ => z_I1 fail st (fun x r => z_sw x sw a (fun t => k (mi, t, L, r, M)))
  | .getfield _ => z_R1 fail st (fun o r => z_getf fail M val o a b (fun v => k (mi, npc, L, v :: r, M)))
  | .putfield _ => z_V1 fail st (fun v r => z_R1 fail r (fun o r => z_putf fail M val o a b v (fun M => k (mi, npc, L, r, M))))
  | .iaload => z_RI fail st (fun o i r => z_ald X fail M 0 o i (fun x => k (mi, npc, L, .int x :: r, M)))
  | .baload => z_RI fail st (fun o i r => z_ald X fail M 2 o i (fun x => k (mi, npc, L, .int x :: r, M)))
  | .laload => z_RI fail st (fun o i r => z_jld fail M o i (fun x => k (mi, npc, L, .long x :: r, M)))
  | .aaload => z_RI fail st (fun o i r => z_qld fail M o i (k (mi, npc, L, .null :: r, M)) (fun q => k (mi, npc, L, .ref q :: r, M)))
  | .iastore => z_I1 fail st (fun x r => z_RI fail r (fun o i r => z_ast fail M 0 o i x (fun M => k (mi, npc, L, r, M))))
  | .bastore => z_I1 fail st (fun x r => z_RI fail r (fun o i r => z_ast fail M 2 o i x (fun M => k (mi, npc, L, r, M))))
  | .lastore => z_J1 fail st (fun x r => z_RI fail r (fun o i r => z_jst fail M o i x (fun M => k (mi, npc, L, r, M))))
  | .aastore => z_V1 fail st (fun v r => z_RI fail r (fun o i r => z_qst fail M o i v (fun M => k (mi, npc, L, r, M))))
  | .arraylength => z_R1 fail st (fun o r => z_len X fail M o (fun x => k (mi, npc, L, .int x :: r, M)))
  | .new _ => k (mi, npc, L, .ref M.1 :: st, z_new M (.inr (a, z_defs a)))
  | .newarray .int => z_I1 fail st (fun n r => if 0 ≤ n ∧ n ≤ 100000 then k (mi, npc, L, .ref M.1 :: r, z_new M (.inl (0, n.toNatClampNeg, .inl (fun _ => 0)))) else fail)
  | .newarray .boolean => z_I1 fail st (fun n r => if 0 ≤ n ∧ n ≤ 100000 then k (mi, npc, L, .ref M.1 :: r, z_new M (.inl (2, n.toNatClampNeg, .inl (fun _ => 0)))) else fail)
  | .newarray .long => z_I1 fail st (fun n r => if 0 ≤ n ∧ n ≤ 100000 then k (mi, npc, L, .ref M.1 :: r, z_new M (.inl (1, n.toNatClampNeg, .inr (.inl (fun _ => 0))))) else fail)
  | .anewarray _ => z_I1 fail st (fun n r => if 0 ≤ n ∧ n ≤ 100000 then k (mi, npc, L, .ref M.1 :: r, z_new M (.inl (a, n.toNatClampNeg, .inr (.inr (.inr (.inr (fun _ => none))))))) else fail)
  | .checkcast _ => z_R1 fail st (fun o r => z_ar0 fail M o (k (mi, npc, L, .ref o :: r, M)))
  | .invokestatic _ => z_inv fail k call 0 a b npc mi L st M
  | .invokevirtual _ => z_inv fail k call 1 a b npc mi L st M
  | .invokespecial _ => z_inv fail k call 2 a b npc mi L st M
  | .ireturn => z_I1 fail st (fun x r => z_nil fail r (match a with
    | 0 => ret (some (.int x)) M
    | _ => z_bool fail x (ret (some (.int x)) M)))
  | .lreturn => z_J1 fail st (fun x r => z_nil fail r (ret (some (.long x)) M))
  | .areturn => z_V1 fail st (fun v r => z_nil fail r (z_isA fail v (ret (some v) M)))
  | .return_ => z_nil fail st (ret none M)
  | _ => fail
def z_stepc.{u} {ρ : Sort u} (X : zX) (fail : ρ) (k : zC → ρ) (call : Nat → List Value → zC → ρ) (ret : Option Value → zM → ρ) (c : zC) : ρ :=
  match c with
  | (mi, pc, L, st, M) => match zat mi pc with
    | some (ins, npc, a, b, val, sw, _) => z_step X fail k call ret ins npc a b val sw mi L st M
    | none => fail
def z_pad : Nat → zL → zL
  | n, [] => List.replicate n none
  | 0, l => l
  | n + 1, x :: r => x :: z_pad n r
def z_entry (mi : Nat) (as : List Value) (M : zM) : zC := (mi, 0, z_pad (z_maxL mi) (z_ent as), [], M)
def z_ret (r : zR) (c : zC) : zC := match c with
  | (mi, pc, L, st, _) => (mi, pc, L, r.1.toList ++ st, r.2)
def z_call (f g : zC → Option zR) (mi : Nat) (as : List Value) (c : zC) : Option zR := match f (z_entry mi as c.2.2.2.2) with
  | none => none
  | some r => g (z_ret r c)
def z_run (X : zX) : Nat → Nat → zC → Option zR
  | 0, _, _ => none
  | n + 1, d, c => z_stepc X none (z_run X n d) (fun mi as ck => match d with
    | 0 => none
    | d' + 1 => z_call (z_run X n d') (z_run X n d) mi as ck) (fun v M => some (v, M)) c
