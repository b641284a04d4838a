/-! the interpreter's memory and the machine's heap -/
def z_ad (b : Nat) (sa : Nat → Nat) (i : Nat) : Nat := if i < 4 then sa i else b + (i - 4)
def z_tv (b : Nat) (sa : Nat → Nat) (v : Value) : Value := match v with
  | .ref i => .ref (z_ad b sa i)
  | v => v
def z_ta (b : Nat) (sa : Nat → Nat) (x : (Nat → Int32) ⊕ (Nat → Int64) ⊕ (Nat → UInt32) ⊕ (Nat → UInt64) ⊕ (Nat → Option Nat)) : (Nat → Int32) ⊕ (Nat → Int64) ⊕ (Nat → UInt32) ⊕ (Nat → UInt64) ⊕ (Nat → Option Nat) := match x with
  | .inr (.inr (.inr (.inr f))) => .inr (.inr (.inr (.inr (fun i => (f i).map (z_ad b sa)))))
  | x => x
def z_te (b : Nat) (sa : Nat → Nat) (cA : ClassId) (e : va_E) : va_E := match e with
  | .inl (_, n, x) => .inl (cA, n, z_ta b sa x)
  | .inr (ci, fs) => .inr (ci, fs.map (z_tv b sa))
def z_tc (b : Nat) (sa : Nat → Nat) (cs : Nat → ClassId) (M : zM) (i : Nat) : va_E := match M.2.2 i with
  | some e => z_te b sa (cs i) e
  | none => .inr (0, [])
def z_ws (b : Nat) (sa : Nat → Nat) (cs : Nat → ClassId) (M : zM) : va_W := (List.range (M.1 - 4)).map (fun j => (b + j, z_tc b sa cs M (j + 4)))
def z_fty (t : Nat) : FieldType := match t with
  | 0 => .int
  | 1 => .long
  | 2 => .boolean
  | 3 => .object "ScansionDesk$Metre"
  | 4 => .object "ScansionDesk$Clauses"
  | _ => .object "ScansionDesk$State"
def z_wf (M : zM) : Prop := 4 ≤ M.1 ∧ ∀ i, (M.2.2 i).isSome = true ↔ 4 ≤ i ∧ i < M.1
theorem z_ad_ge {b : Nat} {sa : Nat → Nat} {i : Nat} (h : 4 ≤ i) : z_ad b sa i = b + (i - 4) := if_neg (by omega)
theorem z_ws_len (b : Nat) (sa : Nat → Nat) (cs : Nat → ClassId) (M : zM) : (z_ws b sa cs M).length = M.1 - 4 := by simp [z_ws]
theorem z_ws_at (b : Nat) (sa : Nat → Nat) (cs : Nat → ClassId) (M : zM) (j : Nat) : (z_ws b sa cs M)[j]? = if j < M.1 - 4 then some (b + j, z_tc b sa cs M (j + 4)) else none := by
  unfold z_ws
  rw [List.getElem?_map]
  split
  · next h => rw [List.getElem?_range h]; rfl
  · next h => rw [List.getElem?_eq_none (by simpa using h)]; rfl
theorem z_wf.lt {M : zM} (h : z_wf M) {i : Nat} {e : va_E} (hi : M.2.2 i = some e) : 4 ≤ i ∧ i < M.1 := (h.2 i).mp (by rw [hi]; rfl)
theorem z_ws_get {b : Nat} {sa : Nat → Nat} {cs : Nat → ClassId} {M : zM} (h : z_wf M) {i : Nat} {e : va_E} (hi : M.2.2 i = some e) : (z_ws b sa cs M)[i - 4]? = some (z_ad b sa i, z_te b sa (cs i) e) := by
  obtain ⟨h1, h2⟩ := h.lt hi
  rw [z_ws_at, if_pos (by omega), z_ad_ge h1]
  have : i - 4 + 4 = i := by omega
  rw [this, z_tc, hi]
theorem z_wf.upd {M : zM} (h : z_wf M) {i : Nat} {e e' : va_E} (hi : M.2.2 i = some e) : z_wf (z_upd M i e') := by
  obtain ⟨h1, h2⟩ := h.lt hi
  refine ⟨h.1, fun j => ?_⟩
  show ((va_up M.2.2 i (some e')) j).isSome = true ↔ _
  unfold va_up
  split
  · next q => subst q; exact ⟨fun _ => ⟨h1, h2⟩, fun _ => rfl⟩
  · exact h.2 j
theorem z_wf.new {M : zM} (h : z_wf M) (e : va_E) : z_wf (z_new M e) := by
  refine ⟨Nat.le_succ_of_le h.1, fun j => ?_⟩
  have := h.1
  show ((va_up M.2.2 M.1 (some e)) j).isSome = true ↔ 4 ≤ j ∧ j < M.1 + 1
  unfold va_up
  split
  · next q => subst q; exact ⟨fun _ => ⟨h.1, Nat.lt_succ_self _⟩, fun _ => rfl⟩
  · next q => rw [h.2 j]; constructor <;> intro ⟨a1, a2⟩ <;> exact ⟨a1, by omega⟩
theorem z_ws_upd {b : Nat} {sa : Nat → Nat} {cs : Nat → ClassId} {M : zM} (h : z_wf M) {i : Nat} {e e' : va_E} (hi : M.2.2 i = some e) : z_ws b sa cs (z_upd M i e') = (z_ws b sa cs M).set (i - 4) (z_ad b sa i, z_te b sa (cs i) e') := by
  obtain ⟨h1, h2⟩ := h.lt hi
  apply List.ext_getElem?
  intro j
  rw [z_ws_at, List.getElem?_set, z_ws_len, z_ws_at]
  show (if j < M.1 - 4 then _ else _) = _
  by_cases hj : i - 4 = j
  · subst hj
    rw [if_pos (by omega), if_pos rfl, if_pos (by omega), z_ad_ge h1]
    have : i - 4 + 4 = i := by omega
    rw [this, z_tc]
    show some (b + (i - 4), match va_up M.2.2 i (some e') i with | some e => _ | none => _) = _
    rw [va_up, if_pos rfl]
  · rw [if_neg hj]
    split
    · congr 2
      show (match va_up M.2.2 i (some e') (j + 4) with | some e => _ | none => _) = z_tc b sa cs M (j + 4)
      rw [va_up, if_neg (by omega)]
      rfl
    · rfl
theorem z_ws_new {b : Nat} {sa : Nat → Nat} {cs : Nat → ClassId} {M : zM} (h : z_wf M) (e : va_E) (cA : ClassId) : z_ws b sa (va_up cs M.1 cA) (z_new M e) = z_ws b sa cs M ++ [(z_ad b sa M.1, z_te b sa cA e)] := by
  have h0 := h.1
  apply List.ext_getElem?
  intro j
  rw [z_ws_at, List.getElem?_append, z_ws_len, z_ws_at]
  show (if j < M.1 + 1 - 4 then _ else _) = _
  by_cases hj : j < M.1 - 4
  · rw [if_pos (by omega), if_pos hj, if_pos hj]
    congr 2
    show (match va_up M.2.2 M.1 (some e) (j + 4) with | some e => z_te b sa (va_up cs M.1 cA (j + 4)) e | none => _) = z_tc b sa cs M (j + 4)
    rw [va_up, if_neg (by omega), va_up, if_neg (by omega)]
    rfl
  · rw [if_neg hj]
    by_cases hj2 : j = M.1 - 4
    · subst hj2
      rw [if_pos (by omega), z_ad_ge h0]
      have : M.1 - 4 + 4 = M.1 := by omega
      rw [this, z_tc]
      show some (b + (M.1 - 4), match va_up M.2.2 M.1 (some e) M.1 with | some e => z_te b sa (va_up cs M.1 cA M.1) e | none => _) = _
      rw [va_up, if_pos rfl, va_up, if_pos rfl]
      simp
    · rw [if_neg (by omega)]
      rw [List.getElem?_eq_none (by simp; omega)]
theorem z_ws_cs {b : Nat} {sa : Nat → Nat} {cs cs' : Nat → ClassId} {M : zM} (h : ∀ i, i < M.1 → cs' i = cs i) : z_ws b sa cs' M = z_ws b sa cs M := by
  apply List.ext_getElem?
  intro j
  rw [z_ws_at, z_ws_at]
  split
  · next q => rw [z_tc, z_tc, h (j + 4) (by omega)]
  · rfl
/-- what the machine's heap is, of a method that began at s -/
def zH (D : va_G) (b : Nat) (sa : Nat → Nat) (s : State) (M : zM) (H : Heap) (locs : List Loc) : Prop :=
  z_wf M ∧ ∃ (cs : Nat → ClassId) (tys : List (ClassId × FieldType)), va_K D vwCl tys s ∧ va_P D vwCl (z_ws b sa cs M) H ∧ va_D (fun q => b ≤ q) (z_ws b sa cs M) ∧ va_S (fun q => b ≤ q) s.heap H locs ∧ ∀ i t n x, M.2.2 i = some (.inl (t, n, x)) → ∃ t0 : Nat, tys[t0]? = some (cs i, z_fty t)
/-- the locals -/
def zLs (b : Nat) (sa : Nat → Nat) (nL : Nat) (L : zL) (ls : Array Slot) : Prop := ls.size = nL ∧ lv_wf ls ∧ ∀ i v, z_get L i = some (some v) → ls[i]? = some (.val (z_tv b sa v))
/-- the locals as the kit lists them -/
def z_lv (b : Nat) (sa : Nat → Nat) : Nat → zL → List (Nat × Value)
  | _, [] => []
  | i, some v :: r => (i, z_tv b sa v) :: z_lv b sa (i + 1) r
  | i, none :: r => z_lv b sa (i + 1) r
theorem z_lv_mem {b : Nat} {sa : Nat → Nat} : ∀ (L : zL) (k : Nat) (q : Nat × Value), q ∈ z_lv b sa k L ↔ ∃ i v, z_get L i = some (some v) ∧ q = (k + i, z_tv b sa v) := by
  intro L
  induction L with
  | nil => intro k q; constructor
           · intro h; cases h
           · rintro ⟨i, v, h, -⟩; cases h
  | cons x r ih =>
    intro k q
    have key : (∃ i v, z_get r i = some (some v) ∧ q = (k + 1 + i, z_tv b sa v)) → ∃ i v, z_get (x :: r) i = some (some v) ∧ q = (k + i, z_tv b sa v) := by
      rintro ⟨i, v, h, e⟩
      exact ⟨i + 1, v, h, by rw [e]; congr 1; omega⟩
    cases x with
    | none =>
      show q ∈ z_lv b sa (k + 1) r ↔ _
      rw [ih]
      refine ⟨key, ?_⟩
      rintro ⟨i, v, h, e⟩
      cases i with
      | zero => cases h
      | succ i => exact ⟨i, v, h, by rw [e]; congr 1; omega⟩
    | some w =>
      show q ∈ (k, z_tv b sa w) :: z_lv b sa (k + 1) r ↔ _
      rw [List.mem_cons, ih]
      constructor
      · rintro (h | h)
        · exact ⟨0, w, rfl, h⟩
        · exact key h
      · rintro ⟨i, v, h, e⟩
        cases i with
        | zero => cases h; exact Or.inl e
        | succ i => exact Or.inr ⟨i, v, h, by rw [e]; congr 1; omega⟩
theorem zLs.has {b : Nat} {sa : Nat → Nat} {nL : Nat} {L : zL} {ls : Array Slot} (h : zLs b sa nL L ls) : lv_has ls nL (z_lv b sa 0 L) := by
  refine ⟨h.1, h.2.1, fun q hq => ?_⟩
  obtain ⟨i, v, h1, rfl⟩ := (z_lv_mem L 0 q).mp hq
  rw [Nat.zero_add]
  exact h.2.2 i v h1
theorem z_get_lset : ∀ (L : zL) (i j : Nat) (v : Option Value), z_get (z_lset L i v) j = if j = i ∧ j < L.length then some v else z_get L j := by
  intro L
  induction L with
  | nil => intro i j v; simp [z_lset, z_get]
  | cons x r ih =>
    intro i j v
    cases i with
    | zero =>
      cases j with
      | zero => simp [z_lset, z_get]
      | succ j => simp [z_lset, z_get]
    | succ i =>
      cases j with
      | zero => simp [z_lset, z_get]
      | succ j => simp only [z_lset, z_get, ih, List.length_cons]; congr 1; simp
theorem z_get_lt : ∀ (L : zL) (i : Nat) (x : Option Value), z_get L i = some x → i < L.length := by
  intro L
  induction L with
  | nil => intro i x h; cases h
  | cons y r ih =>
    intro i x h
    cases i with
    | zero => simp
    | succ i => have := ih i x h; simp; omega
theorem z_tv_cat (b : Nat) (sa : Nat → Nat) (v : Value) : (z_tv b sa v).category = v.category := by cases v <;> rfl
