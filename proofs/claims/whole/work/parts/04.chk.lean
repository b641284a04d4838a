def zw (n : Nat) : Option Cond := match z_get zchunks (n / 100) with
  | some l => z_get l (n % 100)
  | none => none
theorem z_get_mem {α : Type} : ∀ (l : List α) (i : Nat) (x : α), z_get l i = some x → x ∈ l := by
  intro l
  induction l with
  | nil => intro i x h; cases h
  | cons y r ih =>
    intro i x h
    cases i with
    | zero => cases h; exact List.mem_cons_self
    | succ i => exact List.mem_cons_of_mem _ (ih i x h)
theorem zw_in {n : Nat} {w : Cond} (h : zw n = some w) : w ∈ zG := by
  unfold zw at h
  split at h
  · next l hl => exact List.mem_flatten.mpr ⟨l, z_get_mem _ _ _ hl, z_get_mem _ _ _ h⟩
  · cases h
/-- word number j of an entry is w -/
def z_hw (ws : List Nat) (j : Nat) (w : Cond) : Bool := match z_get ws j with
  | some n => decide (zw n = some w)
  | none => false
theorem z_hw_in {ws : List Nat} {j : Nat} {w : Cond} (h : z_hw ws j w = true) : w ∈ zG := by
  unfold z_hw at h
  split at h
  · exact zw_in (of_decide_eq_true h)
  · cases h
def z_meth (mi : Nat) : zY := match z_get zmeth mi with
  | some y => y
  | none => ("", ⟨"", "", ""⟩, ⟨#[]⟩, 0, none)
def z_cl (ci : Nat) : vw_C := match z_get vwCl ci with
  | some q => q
  | none => ("", fun _ => ("", "", "", false), 0)
/-- what a field's type is, as the entry says it -/
def z_ft (val : Value) (d : String) : Bool := match val with
  | .int 0 => decide (d = "I")
  | .int 1 => decide (d = "Z")
  | .int 2 => decide (d = "J")
  | .int 3 => match parseFieldDescriptor d with
    | some (.object _) => true
    | some (.array _) => true
    | _ => false
  | _ => false
def z_fld1 (own : String) (i a b : Nat) (val : Value) (ws : List Nat) : Bool := decide (a < 12) && decide (b < (z_cl a).2.2) && z_hw ws 0 (.fieldLink own i ((z_cl a).2.1 b).1 ((z_cl a).2.1 b).2.1 ((z_cl a).2.1 b).2.2.1) && z_ft val ((z_cl a).2.1 b).2.2.1
def z_nests : List (String × Nat × MethodName × String) := [("ScansionDesk", 11, ⟨"ScansionDesk$State", "<init>", "()V"⟩, "ScansionDesk"), ("ScansionDesk", 28, ⟨"ScansionDesk$History", "<init>", "()V"⟩, "ScansionDesk"), ("ScansionDesk", 38, ⟨"ScansionDesk$Tape", "<init>", "()V"⟩, "ScansionDesk"), ("ScansionDesk", 45, ⟨"ScansionDesk$Tokens", "<init>", "()V"⟩, "ScansionDesk"), ("ScansionDesk", 52, ⟨"ScansionDesk$MetreReader", "<init>", "()V"⟩, "ScansionDesk"), ("ScansionDesk", 59, ⟨"ScansionDesk$ClauseReader", "<init>", "()V"⟩, "ScansionDesk"), ("ScansionDesk", 66, ⟨"ScansionDesk$Reckoner", "<init>", "()V"⟩, "ScansionDesk"), ("ScansionDesk", 73, ⟨"ScansionDesk$Scansion", "<init>", "()V"⟩, "ScansionDesk"), ("ScansionDesk$Scansion", 11, ⟨"ScansionDesk$Reckoner", "<init>", "()V"⟩, "ScansionDesk")]
def z_cal1 (kind : Nat) (own : String) (i a b : Nat) (ws : List Nat) : Bool :=
  if 9000 ≤ a then decide (kind = 2 → a = 9000) && decide (a = 9000 → kind = 2) && (match a - 9000 with
    | 0 => z_hw ws 0 (.methodLink own i objectInit)
    | 1 => decide (kind = 0) && z_hw ws 0 (.methodLink own i arraycopyName)
    | 2 => decide (kind = 1) && z_hw ws 0 (.methodLink own i yJ0_length_8abf5)
    | 3 => decide (kind = 1) && z_hw ws 0 (.methodLink own i yJ0_charAt_5068e)
    | 4 => decide (kind = 1) && z_hw ws 0 (.methodLink own i ⟨"[I", "clone", "()Ljava/lang/Object;"⟩)
    | _ => false)
  else decide (a < 283) && decide ((parseMethodDescriptor (z_meth a).2.1.desc).map (fun d => d.parameters.length) = some b) && decide ((z_meth a).2.1.cls = (z_meth a).1) && (match kind with
    | 0 => z_hw ws 0 (.methodLink own i (z_meth a).2.1) && z_hw ws 1 (.static (z_meth a).2.1) && z_hw ws 2 (.initialized (z_meth a).1)
    | 1 => z_hw ws 0 (.methodLink own i (z_meth a).2.1) && z_hw ws 1 (.instanceMethod (z_meth a).2.1) && z_hw ws 2 (.selects (z_meth a).1 (z_meth a).2.1 (z_meth a).2.1) && z_hw ws 3 (.initialized (z_meth a).1) && decide (z_cls a < 12) && decide ((z_cl (z_cls a)).1 = (z_meth a).1)
    | _ => decide ((z_meth a).2.1.name = "<init>") && decide ((z_meth a).2.2.2.2 = none) && (z_hw ws 0 (.methodLink own i (z_meth a).2.1) || z_nests.contains (own, i, (z_meth a).2.1, "ScansionDesk")) && z_hw ws 1 (.instanceMethod (z_meth a).2.1) && z_hw ws 2 (.initialized (z_meth a).1))
def z_jmp (pc a npc : Nat) (off : Int) : Bool := decide ((pc : Int) + off = (a : Int)) && decide (npc = pc + 3)
def z_sws (pc : Nat) : Int → List Int → List (Int32 × Nat) → Bool
  | _, [], [] => true
  | lo, off :: r, (x, t) :: q => decide (x.toInt = lo) && decide ((pc : Int) + off = (t : Int)) && z_sws pc (lo + 1) r q
  | _, _, _ => false
def z_lws (pc : Nat) : List (Int × Int) → List (Int32 × Nat) → Bool
  | [], [] => true
  | (k, off) :: r, (x, t) :: q => decide (x.toInt = k) && decide ((pc : Int) + off = (t : Int)) && z_lws pc r q
  | _, _ => false
def z_arg (own nm : String) (nL : Nat) (ret : Option FieldType) (pc : Nat) (ins : Instr) (npc a b : Nat) (val : Value) (sw : List (Int32 × Nat)) (ws : List Nat) : Bool := match ins with
  | .iload i => decide (a = i) && decide (npc = pc + 2)
  | .lload i => decide (a = i) && decide (npc = pc + 2)
  | .aload i => decide (a = i) && decide (npc = pc + 2)
  | .iload_n i => decide (i.val = a) && decide (npc = pc + 1)
  | .lload_n i => decide (i.val = a) && decide (npc = pc + 1)
  | .aload_n i => decide (i.val = a) && decide (npc = pc + 1)
  | .istore i => decide (a = i) && decide (npc = pc + 2) && decide (a < nL)
  | .lstore i => decide (a = i) && decide (npc = pc + 2) && decide (a + 1 < nL)
  | .astore i => decide (a = i) && decide (npc = pc + 2) && decide (a < nL)
  | .istore_n i => decide (i.val = a) && decide (npc = pc + 1) && decide (a < nL)
  | .lstore_n i => decide (i.val = a) && decide (npc = pc + 1) && decide (a + 1 < nL)
  | .astore_n i => decide (i.val = a) && decide (npc = pc + 1) && decide (a < nL)
  | .iinc i n => decide (a = i) && decide (npc = pc + 3) && decide (a < nL) && decide (val = .int (Int32.ofInt n))
  | .iconst n => decide (npc = pc + 1) && decide (val = .int (Int32.ofInt n))
  | .bipush n => decide (npc = pc + 2) && decide (val = .int (Int8.ofInt n).toInt32)
  | .sipush n => decide (npc = pc + 3) && decide (val = .int (Int16.ofInt n).toInt32)
  | .lconst n => decide (npc = pc + 1) && decide (val = .long (Int64.ofNat n.val))
  | .ldc i => decide (npc = pc + 2) && (match val with
    | .int v => z_hw ws 0 (.constant own i v)
    | .ref q => decide (q = 3) && decide (own = RX9) && decide (i = 66)
    | _ => false)
  | .ldc_w i => decide (npc = pc + 3) && (match val with
    | .int v => z_hw ws 0 (.constant own i v)
    | _ => false)
  | .ldc2_w i => decide (npc = pc + 3) && (match val with
    | .long v => z_hw ws 0 (.constantLong own i v)
    | _ => false)
  | .aconst_null => decide (npc = pc + 1) && decide (val = .null)
  | .getstatic i => decide (npc = pc + 3) && ((decide (val = .ref 0) && z_hw ws 0 (.fieldLink own i "ScansionDesk" "REFUSAL_CODES" "[I")) || (decide (val = .ref 1) && (z_hw ws 0 (.fieldLink own i "ScansionDesk" "HIGHEST_TERMS" "[I") || (decide (own = RX7) && decide (i = 46)))))
  | .goto off => z_jmp pc a npc off
  | .ifCond _ off => z_jmp pc a npc off
  | .if_icmp _ off => z_jmp pc a npc off
  | .ifnull off => z_jmp pc a npc off
  | .ifnonnull off => z_jmp pc a npc off
  | .tableswitch d lo hi offs => decide ((pc : Int) + d = (a : Int)) && z_sws pc lo offs.toList sw && decide (hi = lo + offs.size - 1)
  | .lookupswitch d ps => decide ((pc : Int) + d = (a : Int)) && z_lws pc ps.toList sw && (ps.toList.zip (ps.toList.drop 1)).all (fun (a, next) => a.1 < next.1)
  | .getfield i => decide (npc = pc + 3) && z_fld1 own i a b val ws
  | .putfield i => decide (npc = pc + 3) && z_fld1 own i a b val ws && decide (((z_cl a).2.1 b).2.2.2 = true → nm = "<init>" ∧ ((z_cl a).2.1 b).1 = own)
  | .new i => decide (npc = pc + 3) && decide (a < 12) && z_hw ws 0 (.classLink own i (z_cl a).1) && z_hw ws 1 (.instantiable (z_cl a).1 (z_cl a).2.2) && z_hw ws 2 (.initialized (z_cl a).1)
  | .newarray .int => decide (npc = pc + 2) && z_hw ws 0 (.arrayClass .int)
  | .newarray .long => decide (npc = pc + 2) && z_hw ws 0 (.arrayClass .long)
  | .newarray .boolean => decide (npc = pc + 2) && z_hw ws 0 (.arrayClass .boolean)
  | .anewarray i => decide (npc = pc + 3) && decide (3 ≤ a) && decide (a < 6) && z_hw ws 0 (.classLink own i (z_cl (z_elem a)).1)
  | .checkcast i => decide (npc = pc + 3) && z_hw ws 0 (.classLink own i "[I")
  | .invokestatic i => decide (npc = pc + 3) && z_cal1 0 own i a b ws
  | .invokevirtual i => decide (npc = pc + 3) && z_cal1 1 own i a b ws
  | .invokespecial i => decide (npc = pc + 3) && z_cal1 2 own i a b ws
  | .ireturn => decide (npc = pc + 1) && decide (a = 0 → ret = some .int) && decide (a ≠ 0 → ret = some .boolean)
  | .lreturn => decide (npc = pc + 1) && decide (ret = some .long)
  | .areturn => decide (npc = pc + 1) && (match ret with
    | some (.object _) => true
    | some (.array _) => true
    | _ => false)
  | .return_ => decide (npc = pc + 1) && decide (ret = none)
  | _ => decide (npc = pc + 1)
def z_chk (own nm : String) (bytes : ByteArray) (nL : Nat) (ret : Option FieldType) (pc : Nat) (e : zE) : Bool :=
  decide (decode bytes pc = .ok (e.1, e.2.1 - pc)) && z_arg own nm nL ret pc e.1 e.2.1 e.2.2.1 e.2.2.2.1 e.2.2.2.2.1 e.2.2.2.2.2.1 e.2.2.2.2.2.2
def z_chkL (y : zY) (l : List (Nat × zE)) : Bool := l.all (fun q => z_chk y.1 y.2.1.name y.2.2.1 y.2.2.2.1 y.2.2.2.2 q.1 q.2)
