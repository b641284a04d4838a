section ZX
variable {p : Program} {l : Launch} {e : Env} {R : Room} {s : State} {m : MethodId} {args : Array Value} {below : List Frame} {meth : Method} {c : Code} {Q : State → Prop} {D : va_G} {b : Nat} {sa : Nat → Nat} {nL n0 k0 : Nat}
/-- the machine goes on from this place to Q -/
def zW (p : Program) (l : Launch) (e : Env) (R : Room) (s : State) (m : MethodId) (args : Array Value) (below : List Frame) (meth : Method) (c : Code) (Q : State → Prop) (D : va_G) (b : Nat) (sa : Nat → Nat) (nL n0 k0 : Nat) (q : zC) : Prop :=
  ∀ (H : Heap) (locs : List Loc) (ls : Array Slot), zH D b sa s q.2.2.2.2 H locs → zLs b sa nL q.2.2.1 ls → W p l e R s m args below meth c H locs (q.2.2.2.2.1 - n0) (q.2.2.2.2.2.1 - k0) Q (F0 m q.2.1 ls (q.2.2.2.1.map (z_tv b sa)))
def zB (R : Room) (n0 k0 : Nat) (M : zM) : Prop := n0 ≤ M.1 ∧ k0 ≤ M.2.1 ∧ M.1 ≤ n0 + R.cells ∧ M.2.1 ≤ k0 + R.slots
def zK (p : Program) (l : Launch) (e : Env) (R : Room) (s : State) (m : MethodId) (args : Array Value) (below : List Frame) (meth : Method) (c : Code) (Q : State → Prop) (D : va_G) (b : Nat) (sa : Nat → Nat) (nL n0 k0 : Nat) (q : zC) : Prop :=
  zB R n0 k0 q.2.2.2.2 ∧ zW p l e R s m args below meth c Q D b sa nL n0 k0 q
theorem z_lset_len : ∀ (K : zL) (i : Nat) (z : Option Value), (z_lset K i z).length = K.length := by
  intro K
  induction K with
  | nil => intro i z; rfl
  | cons x r ih =>
    intro i z
    cases i with
    | zero => rfl
    | succ i => simp only [z_lset, List.length_cons, ih]
theorem z_kill_get {L : zL} {i j : Nat} {w : Value} (h : z_get (z_kill L i) j = some (some w)) : z_get L j = some (some w) ∧ ¬ (j + 1 = i ∧ w.category = 2) := by
  unfold z_kill at h
  cases i with
  | zero => exact ⟨h, fun q => by omega⟩
  | succ i =>
    dsimp only at h
    split at h
    · next x hx =>
      rw [z_get_lset] at h
      split at h
      · cases h
      · next q =>
        refine ⟨h, fun hh => q ⟨by omega, ?_⟩⟩
        exact z_get_lt L j _ h
    · next x hx =>
      rw [z_get_lset] at h
      split at h
      · cases h
      · next q =>
        refine ⟨h, fun hh => q ⟨by omega, ?_⟩⟩
        exact z_get_lt L j _ h
    · next q1 q2 =>
      refine ⟨h, fun hh => ?_⟩
      obtain ⟨h1, h2⟩ := hh
      have : j = i := by omega
      subst this
      cases w with
      | long x => exact q1 x h
      | double x => exact q2 x h
      | _ => cases h2
theorem z_st1_ls {L : zL} {i : Nat} {v : Value} {ls' : Array Slot} (h : lv_has ls' nL ((i, z_tv b sa v) :: (z_lv b sa 0 L).filter (fun q => !(q.1 == i) && !(q.1 + 1 == i && q.2.category == 2)))) : zLs b sa nL (z_st1 L i v) ls' := by
  refine ⟨h.1, h.2.1, fun j w hj => ?_⟩
  unfold z_st1 at hj
  rw [z_get_lset] at hj
  split at hj
  · next q =>
    obtain ⟨rfl, -⟩ := q
    cases hj
    exact h.2.2 _ List.mem_cons_self
  · next q =>
    obtain ⟨h1, h2⟩ := z_kill_get hj
    have hji : j ≠ i := fun hh => q ⟨hh, z_get_lt _ _ _ hj⟩
    refine h.2.2 (j, z_tv b sa w) (List.mem_cons_of_mem _ (List.mem_filter.mpr ⟨(z_lv_mem L 0 _).mpr ⟨j, w, h1, by rw [Nat.zero_add]⟩, ?_⟩))
    simp only [Bool.and_eq_true, Bool.not_eq_true', beq_eq_false_iff_ne, Bool.and_eq_false_iff, ne_eq, z_tv_cat]
    refine ⟨hji, ?_⟩
    by_cases q1 : j + 1 = i
    · exact Or.inr fun q2 => h2 ⟨q1, q2⟩
    · exact Or.inl q1
theorem z_st2_ls {L : zL} {i : Nat} {v : Value} {ls' : Array Slot} (h : lv_has ls' nL ((i, z_tv b sa v) :: (z_lv b sa 0 L).filter (fun q => !(q.1 == i) && (!(q.1 == i + 1) && !(q.1 + 1 == i && q.2.category == 2))))) : zLs b sa nL (z_st2 L i v) ls' := by
  refine ⟨h.1, h.2.1, fun j w hj => ?_⟩
  unfold z_st2 at hj
  rw [z_get_lset] at hj
  split at hj
  · cases hj
  · next q0 =>
    rw [z_get_lset] at hj
    split at hj
    · next q =>
      obtain ⟨rfl, -⟩ := q
      cases hj
      exact h.2.2 _ List.mem_cons_self
    · next q =>
      obtain ⟨h1, h2⟩ := z_kill_get hj
      have hlt := z_get_lt _ _ _ hj
      have hlen : (z_lset (z_kill L i) i (some v)).length = (z_kill L i).length := z_lset_len _ _ _
      have hji : j ≠ i := fun hh => q ⟨hh, hlt⟩
      have hji1 : j ≠ i + 1 := fun hh => q0 ⟨hh, by rw [hlen]; exact hlt⟩
      refine h.2.2 (j, z_tv b sa w) (List.mem_cons_of_mem _ (List.mem_filter.mpr ⟨(z_lv_mem L 0 _).mpr ⟨j, w, h1, by rw [Nat.zero_add]⟩, ?_⟩))
      simp only [Bool.and_eq_true, Bool.not_eq_true', beq_eq_false_iff_ne, Bool.and_eq_false_iff, ne_eq, z_tv_cat]
      refine ⟨hji, hji1, ?_⟩
      by_cases q1 : j + 1 = i
      · exact Or.inr fun q2 => h2 ⟨q1, q2⟩
      · exact Or.inl q1
variable {cc : ByteArray} {pc a mi : Nat} {L : zL} {st : List Value} {M : zM} {val : Value}
theorem zs_iload (hx : p.tables.exec = Jvm.exec) (hb : c.code = cc) (hd : decode cc pc = .ok (.iload a, 2)) (h : z_ldI False L a (fun x => zK p l e R s m args below meth c Q D b sa nL n0 k0 (mi, pc + 2, L, .int x :: st, M))) : zW p l e R s m args below meth c Q D b sa nL n0 k0 (mi, pc, L, st, M) := by
  obtain ⟨x, h1, h2⟩ := p_ldI h
  intro H locs ls hH hL
  exact lv_iload hx hb hd (hL.2.2 a _ h1) (h2.2 H locs ls hH hL)
theorem zs_iload_n {k : Fin 4} (hx : p.tables.exec = Jvm.exec) (hb : c.code = cc) (hd : decode cc pc = .ok (.iload_n k, 1)) (hk : k.val = a) (h : z_ldI False L a (fun x => zK p l e R s m args below meth c Q D b sa nL n0 k0 (mi, pc + 1, L, .int x :: st, M))) : zW p l e R s m args below meth c Q D b sa nL n0 k0 (mi, pc, L, st, M) := by
  obtain ⟨x, h1, h2⟩ := p_ldI h
  intro H locs ls hH hL
  exact lv_iload_n hx hb hd hk (hL.2.2 a _ h1) (h2.2 H locs ls hH hL)
theorem zs_lload (hx : p.tables.exec = Jvm.exec) (hb : c.code = cc) (hd : decode cc pc = .ok (.lload a, 2)) (h : z_ldJ False L a (fun x => zK p l e R s m args below meth c Q D b sa nL n0 k0 (mi, pc + 2, L, .long x :: st, M))) : zW p l e R s m args below meth c Q D b sa nL n0 k0 (mi, pc, L, st, M) := by
  obtain ⟨x, h1, h2⟩ := p_ldJ h
  intro H locs ls hH hL
  exact lv_lload hx hb hd (hL.2.2 a _ h1) (h2.2 H locs ls hH hL)
theorem zs_lload_n {k : Fin 4} (hx : p.tables.exec = Jvm.exec) (hb : c.code = cc) (hd : decode cc pc = .ok (.lload_n k, 1)) (hk : k.val = a) (h : z_ldJ False L a (fun x => zK p l e R s m args below meth c Q D b sa nL n0 k0 (mi, pc + 1, L, .long x :: st, M))) : zW p l e R s m args below meth c Q D b sa nL n0 k0 (mi, pc, L, st, M) := by
  obtain ⟨x, h1, h2⟩ := p_ldJ h
  intro H locs ls hH hL
  exact lv_lload_n hx hb hd hk (hL.2.2 a _ h1) (h2.2 H locs ls hH hL)
theorem zs_aload (hx : p.tables.exec = Jvm.exec) (hb : c.code = cc) (hd : decode cc pc = .ok (.aload a, 2)) (h : z_ldA False L a (fun v => zK p l e R s m args below meth c Q D b sa nL n0 k0 (mi, pc + 2, L, v :: st, M))) : zW p l e R s m args below meth c Q D b sa nL n0 k0 (mi, pc, L, st, M) := by
  obtain ⟨v, h1, hv, h2⟩ := p_ldA h
  intro H locs ls hH hL
  rcases hv with ⟨q, rfl⟩ | rfl
  · exact lv_aload hx hb hd (hL.2.2 a _ h1) (h2.2 H locs ls hH hL)
  · exact lv_aloadN hx hb hd (hL.2.2 a _ h1) (h2.2 H locs ls hH hL)
theorem zs_aload_n {k : Fin 4} (hx : p.tables.exec = Jvm.exec) (hb : c.code = cc) (hd : decode cc pc = .ok (.aload_n k, 1)) (hk : k.val = a) (h : z_ldA False L a (fun v => zK p l e R s m args below meth c Q D b sa nL n0 k0 (mi, pc + 1, L, v :: st, M))) : zW p l e R s m args below meth c Q D b sa nL n0 k0 (mi, pc, L, st, M) := by
  obtain ⟨v, h1, hv, h2⟩ := p_ldA h
  intro H locs ls hH hL
  rcases hv with ⟨q, rfl⟩ | rfl
  · exact lv_aload_n hx hb hd hk (hL.2.2 a _ h1) (h2.2 H locs ls hH hL)
  · exact lv_aload_nN hx hb hd hk (hL.2.2 a _ h1) (h2.2 H locs ls hH hL)
theorem zs_istore (hx : p.tables.exec = Jvm.exec) (hb : c.code = cc) (hd : decode cc pc = .ok (.istore a, 2)) (hn : a < nL) (h : z_I1 False st (fun x r => zK p l e R s m args below meth c Q D b sa nL n0 k0 (mi, pc + 2, z_st1 L a (.int x), r, M))) : zW p l e R s m args below meth c Q D b sa nL n0 k0 (mi, pc, L, st, M) := by
  obtain ⟨x, r, rfl, h2⟩ := p_I1 h
  intro H locs ls hH hL
  exact lv_istore hx hb hd hL.has hn rfl (fun ls1 h1 => h2.2 H locs ls1 hH (z_st1_ls (v := .int x) h1))
theorem zs_lstore (hx : p.tables.exec = Jvm.exec) (hb : c.code = cc) (hd : decode cc pc = .ok (.lstore a, 2)) (hn : a + 1 < nL) (h : z_J1 False st (fun x r => zK p l e R s m args below meth c Q D b sa nL n0 k0 (mi, pc + 2, z_st2 L a (.long x), r, M))) : zW p l e R s m args below meth c Q D b sa nL n0 k0 (mi, pc, L, st, M) := by
  obtain ⟨x, r, rfl, h2⟩ := p_J1 h
  intro H locs ls hH hL
  exact lv_lstore hx hb hd hL.has hn rfl (fun ls1 h1 => h2.2 H locs ls1 hH (z_st2_ls (v := .long x) h1))
theorem zs_astore (hx : p.tables.exec = Jvm.exec) (hb : c.code = cc) (hd : decode cc pc = .ok (.astore a, 2)) (hn : a < nL) (h : z_V1 False st (fun v r => z_isA False v (zK p l e R s m args below meth c Q D b sa nL n0 k0 (mi, pc + 2, z_st1 L a v, r, M)))) : zW p l e R s m args below meth c Q D b sa nL n0 k0 (mi, pc, L, st, M) := by
  obtain ⟨v, r, rfl, h1⟩ := p_V1 h
  obtain ⟨hv, h2⟩ := p_isA h1
  intro H locs ls hH hL
  rcases hv with ⟨q, rfl⟩ | rfl
  · exact lv_astore hx hb hd hL.has hn rfl (fun ls1 h1 => h2.2 H locs ls1 hH (z_st1_ls (v := .ref q) h1))
  · exact lv_astoreN hx hb hd hL.has hn rfl (fun ls1 h1 => h2.2 H locs ls1 hH (z_st1_ls (v := .null) h1))
theorem zs_istore_n {k : Fin 4} (hx : p.tables.exec = Jvm.exec) (hb : c.code = cc) (hd : decode cc pc = .ok (.istore_n k, 1)) (hk : k.val = a) (hn : a < nL) (h : z_I1 False st (fun x r => zK p l e R s m args below meth c Q D b sa nL n0 k0 (mi, pc + 1, z_st1 L a (.int x), r, M))) : zW p l e R s m args below meth c Q D b sa nL n0 k0 (mi, pc, L, st, M) := by
  obtain ⟨x, r, rfl, h2⟩ := p_I1 h
  intro H locs ls hH hL
  exact lv_istore_n hx hb hd hk hL.has hn rfl (fun ls1 h1 => h2.2 H locs ls1 hH (z_st1_ls (v := .int x) h1))
theorem zs_lstore_n {k : Fin 4} (hx : p.tables.exec = Jvm.exec) (hb : c.code = cc) (hd : decode cc pc = .ok (.lstore_n k, 1)) (hk : k.val = a) (hn : a + 1 < nL) (h : z_J1 False st (fun x r => zK p l e R s m args below meth c Q D b sa nL n0 k0 (mi, pc + 1, z_st2 L a (.long x), r, M))) : zW p l e R s m args below meth c Q D b sa nL n0 k0 (mi, pc, L, st, M) := by
  obtain ⟨x, r, rfl, h2⟩ := p_J1 h
  intro H locs ls hH hL
  exact lv_lstore_n hx hb hd hk hL.has hn rfl (fun ls1 h1 => h2.2 H locs ls1 hH (z_st2_ls (v := .long x) h1))
theorem zs_astore_n {k : Fin 4} (hx : p.tables.exec = Jvm.exec) (hb : c.code = cc) (hd : decode cc pc = .ok (.astore_n k, 1)) (hk : k.val = a) (hn : a < nL) (h : z_V1 False st (fun v r => z_isA False v (zK p l e R s m args below meth c Q D b sa nL n0 k0 (mi, pc + 1, z_st1 L a v, r, M)))) : zW p l e R s m args below meth c Q D b sa nL n0 k0 (mi, pc, L, st, M) := by
  obtain ⟨v, r, rfl, h1⟩ := p_V1 h
  obtain ⟨hv, h2⟩ := p_isA h1
  intro H locs ls hH hL
  rcases hv with ⟨q, rfl⟩ | rfl
  · exact lv_astore_n hx hb hd hk hL.has hn rfl (fun ls1 h1 => h2.2 H locs ls1 hH (z_st1_ls (v := .ref q) h1))
  · exact lv_astore_nN hx hb hd hk hL.has hn rfl (fun ls1 h1 => h2.2 H locs ls1 hH (z_st1_ls (v := .null) h1))
theorem zs_iinc {n : Int} (hx : p.tables.exec = Jvm.exec) (hb : c.code = cc) (hd : decode cc pc = .ok (.iinc a n, 3)) (hn : a < nL) (h : z_ldI False L a (fun x => zK p l e R s m args below meth c Q D b sa nL n0 k0 (mi, pc + 3, z_st1 L a (.int (x + Int32.ofInt n)), st, M))) : zW p l e R s m args below meth c Q D b sa nL n0 k0 (mi, pc, L, st, M) := by
  obtain ⟨x, h1, h2⟩ := p_ldI h
  intro H locs ls hH hL
  obtain ⟨k, hk⟩ := List.getElem?_of_mem ((z_lv_mem (b := b) (sa := sa) L 0 (a, .int x)).mpr ⟨a, .int x, h1, by rw [Nat.zero_add]; rfl⟩)
  exact lv_iinc hx hb hd hL.has hk rfl hn rfl (fun ls1 h1 => h2.2 H locs ls1 hH (z_st1_ls (v := .int (x + Int32.ofInt n)) h1))
theorem zs_iconst {n : Int} (hx : p.tables.exec = Jvm.exec) (hb : c.code = cc) (hd : decode cc pc = .ok (.iconst n, 1)) (h : zK p l e R s m args below meth c Q D b sa nL n0 k0 (mi, pc + 1, L, .int (Int32.ofInt n) :: st, M)) : zW p l e R s m args below meth c Q D b sa nL n0 k0 (mi, pc, L, st, M) := by
  intro H locs ls hH hL
  exact lv_iconst hx hb hd rfl (h.2 H locs ls hH hL)
theorem zs_bipush {n : Int} (hx : p.tables.exec = Jvm.exec) (hb : c.code = cc) (hd : decode cc pc = .ok (.bipush n, 2)) (h : zK p l e R s m args below meth c Q D b sa nL n0 k0 (mi, pc + 2, L, .int (Int8.ofInt n).toInt32 :: st, M)) : zW p l e R s m args below meth c Q D b sa nL n0 k0 (mi, pc, L, st, M) := by
  intro H locs ls hH hL
  exact lv_bipush hx hb hd rfl (h.2 H locs ls hH hL)
theorem zs_sipush {n : Int} (hx : p.tables.exec = Jvm.exec) (hb : c.code = cc) (hd : decode cc pc = .ok (.sipush n, 3)) (h : zK p l e R s m args below meth c Q D b sa nL n0 k0 (mi, pc + 3, L, .int (Int16.ofInt n).toInt32 :: st, M)) : zW p l e R s m args below meth c Q D b sa nL n0 k0 (mi, pc, L, st, M) := by
  intro H locs ls hH hL
  exact lv_sipush hx hb hd rfl (h.2 H locs ls hH hL)
theorem zs_lconst {n : Fin 2} (hx : p.tables.exec = Jvm.exec) (hb : c.code = cc) (hd : decode cc pc = .ok (.lconst n, 1)) (h : zK p l e R s m args below meth c Q D b sa nL n0 k0 (mi, pc + 1, L, .long (Int64.ofNat n.val) :: st, M)) : zW p l e R s m args below meth c Q D b sa nL n0 k0 (mi, pc, L, st, M) := by
  intro H locs ls hH hL
  exact lv_lconst hx hb hd rfl (h.2 H locs ls hH hL)
theorem zs_null (hx : p.tables.exec = Jvm.exec) (hb : c.code = cc) (hd : decode cc pc = .ok (.aconst_null, 1)) (h : zK p l e R s m args below meth c Q D b sa nL n0 k0 (mi, pc + 1, L, .null :: st, M)) : zW p l e R s m args below meth c Q D b sa nL n0 k0 (mi, pc, L, st, M) := by
  intro H locs ls hH hL
  exact lv_null hx hb hd (h.2 H locs ls hH hL)
theorem zs_ldc {own : String} {i : Nat} {v : Int32} (hx : p.tables.exec = Jvm.exec) (hb : c.code = cc) (hd : decode cc pc = .ok (.ldc i, 2)) (hown : s.vm.findClass own = some m.cls) (hw : (Cond.constant own i v).before args s = true) (h : zK p l e R s m args below meth c Q D b sa nL n0 k0 (mi, pc + 2, L, .int v :: st, M)) : zW p l e R s m args below meth c Q D b sa nL n0 k0 (mi, pc, L, st, M) := by
  intro H locs ls hH hL
  exact lv_ldc hx hb hown hw hd (h.2 H locs ls hH hL)
theorem zs_ldcw {own : String} {i : Nat} {v : Int32} (hx : p.tables.exec = Jvm.exec) (hb : c.code = cc) (hd : decode cc pc = .ok (.ldc_w i, 3)) (hown : s.vm.findClass own = some m.cls) (hw : (Cond.constant own i v).before args s = true) (h : zK p l e R s m args below meth c Q D b sa nL n0 k0 (mi, pc + 3, L, .int v :: st, M)) : zW p l e R s m args below meth c Q D b sa nL n0 k0 (mi, pc, L, st, M) := by
  intro H locs ls hH hL
  exact lv_ldcw hx hb hown hw hd (h.2 H locs ls hH hL)
theorem zs_ldc2 {own : String} {i : Nat} {v : Int64} (hx : p.tables.exec = Jvm.exec) (hb : c.code = cc) (hd : decode cc pc = .ok (.ldc2_w i, 3)) (hown : s.vm.findClass own = some m.cls) (hw : (Cond.constantLong own i v).before args s = true) (h : zK p l e R s m args below meth c Q D b sa nL n0 k0 (mi, pc + 3, L, .long v :: st, M)) : zW p l e R s m args below meth c Q D b sa nL n0 k0 (mi, pc, L, st, M) := by
  intro H locs ls hH hL
  exact lv_ldc2 hx hb hown hw hd (h.2 H locs ls hH hL)
theorem zs_iadd (hx : p.tables.exec = Jvm.exec) (hb : c.code = cc) (hd : decode cc pc = .ok (.iadd, 1)) (h : z_I2 False st (fun x y r => zK p l e R s m args below meth c Q D b sa nL n0 k0 (mi, pc + 1, L, .int (x + y) :: r, M))) : zW p l e R s m args below meth c Q D b sa nL n0 k0 (mi, pc, L, st, M) := by
  obtain ⟨x, y, r, rfl, h2⟩ := p_I2 h
  intro H locs ls hH hL
  exact lv_iadd hx hb hd (h2.2 H locs ls hH hL)
theorem zs_isub (hx : p.tables.exec = Jvm.exec) (hb : c.code = cc) (hd : decode cc pc = .ok (.isub, 1)) (h : z_I2 False st (fun x y r => zK p l e R s m args below meth c Q D b sa nL n0 k0 (mi, pc + 1, L, .int (x - y) :: r, M))) : zW p l e R s m args below meth c Q D b sa nL n0 k0 (mi, pc, L, st, M) := by
  obtain ⟨x, y, r, rfl, h2⟩ := p_I2 h
  intro H locs ls hH hL
  exact lv_isub hx hb hd (h2.2 H locs ls hH hL)
theorem zs_imul (hx : p.tables.exec = Jvm.exec) (hb : c.code = cc) (hd : decode cc pc = .ok (.imul, 1)) (h : z_I2 False st (fun x y r => zK p l e R s m args below meth c Q D b sa nL n0 k0 (mi, pc + 1, L, .int (x * y) :: r, M))) : zW p l e R s m args below meth c Q D b sa nL n0 k0 (mi, pc, L, st, M) := by
  obtain ⟨x, y, r, rfl, h2⟩ := p_I2 h
  intro H locs ls hH hL
  exact lv_imul hx hb hd (h2.2 H locs ls hH hL)
theorem zs_iand (hx : p.tables.exec = Jvm.exec) (hb : c.code = cc) (hd : decode cc pc = .ok (.iand, 1)) (h : z_I2 False st (fun x y r => zK p l e R s m args below meth c Q D b sa nL n0 k0 (mi, pc + 1, L, .int (x &&& y) :: r, M))) : zW p l e R s m args below meth c Q D b sa nL n0 k0 (mi, pc, L, st, M) := by
  obtain ⟨x, y, r, rfl, h2⟩ := p_I2 h
  intro H locs ls hH hL
  exact lv_iand hx hb hd (h2.2 H locs ls hH hL)
theorem zs_ior (hx : p.tables.exec = Jvm.exec) (hb : c.code = cc) (hd : decode cc pc = .ok (.ior, 1)) (h : z_I2 False st (fun x y r => zK p l e R s m args below meth c Q D b sa nL n0 k0 (mi, pc + 1, L, .int (x ||| y) :: r, M))) : zW p l e R s m args below meth c Q D b sa nL n0 k0 (mi, pc, L, st, M) := by
  obtain ⟨x, y, r, rfl, h2⟩ := p_I2 h
  intro H locs ls hH hL
  exact lv_ior hx hb hd (h2.2 H locs ls hH hL)
theorem zs_ixor (hx : p.tables.exec = Jvm.exec) (hb : c.code = cc) (hd : decode cc pc = .ok (.ixor, 1)) (h : z_I2 False st (fun x y r => zK p l e R s m args below meth c Q D b sa nL n0 k0 (mi, pc + 1, L, .int (x ^^^ y) :: r, M))) : zW p l e R s m args below meth c Q D b sa nL n0 k0 (mi, pc, L, st, M) := by
  obtain ⟨x, y, r, rfl, h2⟩ := p_I2 h
  intro H locs ls hH hL
  exact lv_ixor hx hb hd (h2.2 H locs ls hH hL)
theorem zs_ishl (hx : p.tables.exec = Jvm.exec) (hb : c.code = cc) (hd : decode cc pc = .ok (.ishl, 1)) (h : z_I2 False st (fun x y r => zK p l e R s m args below meth c Q D b sa nL n0 k0 (mi, pc + 1, L, .int (x <<< (y &&& 31)) :: r, M))) : zW p l e R s m args below meth c Q D b sa nL n0 k0 (mi, pc, L, st, M) := by
  obtain ⟨x, y, r, rfl, h2⟩ := p_I2 h
  intro H locs ls hH hL
  exact lv_ishl hx hb hd (h2.2 H locs ls hH hL)
theorem zs_ishr (hx : p.tables.exec = Jvm.exec) (hb : c.code = cc) (hd : decode cc pc = .ok (.ishr, 1)) (h : z_I2 False st (fun x y r => zK p l e R s m args below meth c Q D b sa nL n0 k0 (mi, pc + 1, L, .int (x >>> (y &&& 31)) :: r, M))) : zW p l e R s m args below meth c Q D b sa nL n0 k0 (mi, pc, L, st, M) := by
  obtain ⟨x, y, r, rfl, h2⟩ := p_I2 h
  intro H locs ls hH hL
  exact lv_ishr hx hb hd (h2.2 H locs ls hH hL)
theorem zs_iushr (hx : p.tables.exec = Jvm.exec) (hb : c.code = cc) (hd : decode cc pc = .ok (.iushr, 1)) (h : z_I2 False st (fun x y r => zK p l e R s m args below meth c Q D b sa nL n0 k0 (mi, pc + 1, L, .int ((x.toUInt32 >>> (y.toUInt32 &&& Int32.toUInt32 31)).toInt32) :: r, M))) : zW p l e R s m args below meth c Q D b sa nL n0 k0 (mi, pc, L, st, M) := by
  obtain ⟨x, y, r, rfl, h2⟩ := p_I2 h
  intro H locs ls hH hL
  exact lv_iushr hx hb hd rfl (h2.2 H locs ls hH hL)
theorem zs_idiv (hx : p.tables.exec = Jvm.exec) (hb : c.code = cc) (hd : decode cc pc = .ok (.idiv, 1)) (h : z_I2 False st (fun x y r => if y = 0 then False else zK p l e R s m args below meth c Q D b sa nL n0 k0 (mi, pc + 1, L, .int (x / y) :: r, M))) : zW p l e R s m args below meth c Q D b sa nL n0 k0 (mi, pc, L, st, M) := by
  obtain ⟨x, y, r, rfl, h2⟩ := p_I2 h
  obtain ⟨h3, h4⟩ := p_ite h2
  intro H locs ls hH hL
  exact lv_idiv hx hb hd (fun q => h3 q) ((h4 (fun q => h3 q)).2 H locs ls hH hL)
theorem zs_irem (hx : p.tables.exec = Jvm.exec) (hb : c.code = cc) (hd : decode cc pc = .ok (.irem, 1)) (h : z_I2 False st (fun x y r => if y = 0 then False else zK p l e R s m args below meth c Q D b sa nL n0 k0 (mi, pc + 1, L, .int (x - x / y * y) :: r, M))) : zW p l e R s m args below meth c Q D b sa nL n0 k0 (mi, pc, L, st, M) := by
  obtain ⟨x, y, r, rfl, h2⟩ := p_I2 h
  obtain ⟨h3, h4⟩ := p_ite h2
  intro H locs ls hH hL
  exact lv_irem hx hb hd (fun q => h3 q) ((h4 (fun q => h3 q)).2 H locs ls hH hL)
theorem zs_ldiv (hx : p.tables.exec = Jvm.exec) (hb : c.code = cc) (hd : decode cc pc = .ok (.ldiv, 1)) (h : z_J2 False st (fun x y r => if y = 0 then False else zK p l e R s m args below meth c Q D b sa nL n0 k0 (mi, pc + 1, L, .long (x / y) :: r, M))) : zW p l e R s m args below meth c Q D b sa nL n0 k0 (mi, pc, L, st, M) := by
  obtain ⟨x, y, r, rfl, h2⟩ := p_J2 h
  obtain ⟨h3, h4⟩ := p_ite h2
  intro H locs ls hH hL
  exact lv_ldiv hx hb hd (fun q => h3 q) ((h4 (fun q => h3 q)).2 H locs ls hH hL)
theorem zs_lrem (hx : p.tables.exec = Jvm.exec) (hb : c.code = cc) (hd : decode cc pc = .ok (.lrem, 1)) (h : z_J2 False st (fun x y r => if y = 0 then False else zK p l e R s m args below meth c Q D b sa nL n0 k0 (mi, pc + 1, L, .long (x - x / y * y) :: r, M))) : zW p l e R s m args below meth c Q D b sa nL n0 k0 (mi, pc, L, st, M) := by
  obtain ⟨x, y, r, rfl, h2⟩ := p_J2 h
  obtain ⟨h3, h4⟩ := p_ite h2
  intro H locs ls hH hL
  exact lv_lrem hx hb hd (fun q => h3 q) ((h4 (fun q => h3 q)).2 H locs ls hH hL)
theorem zs_ineg (hx : p.tables.exec = Jvm.exec) (hb : c.code = cc) (hd : decode cc pc = .ok (.ineg, 1)) (h : z_I1 False st (fun x r => zK p l e R s m args below meth c Q D b sa nL n0 k0 (mi, pc + 1, L, .int (-x) :: r, M))) : zW p l e R s m args below meth c Q D b sa nL n0 k0 (mi, pc, L, st, M) := by
  obtain ⟨x, r, rfl, h2⟩ := p_I1 h
  intro H locs ls hH hL
  exact lv_ineg hx hb hd (h2.2 H locs ls hH hL)
theorem zs_ladd (hx : p.tables.exec = Jvm.exec) (hb : c.code = cc) (hd : decode cc pc = .ok (.ladd, 1)) (h : z_J2 False st (fun x y r => zK p l e R s m args below meth c Q D b sa nL n0 k0 (mi, pc + 1, L, .long (x + y) :: r, M))) : zW p l e R s m args below meth c Q D b sa nL n0 k0 (mi, pc, L, st, M) := by
  obtain ⟨x, y, r, rfl, h2⟩ := p_J2 h
  intro H locs ls hH hL
  exact lv_ladd hx hb hd (h2.2 H locs ls hH hL)
theorem zs_lsub (hx : p.tables.exec = Jvm.exec) (hb : c.code = cc) (hd : decode cc pc = .ok (.lsub, 1)) (h : z_J2 False st (fun x y r => zK p l e R s m args below meth c Q D b sa nL n0 k0 (mi, pc + 1, L, .long (x - y) :: r, M))) : zW p l e R s m args below meth c Q D b sa nL n0 k0 (mi, pc, L, st, M) := by
  obtain ⟨x, y, r, rfl, h2⟩ := p_J2 h
  intro H locs ls hH hL
  exact lv_lsub hx hb hd (h2.2 H locs ls hH hL)
theorem zs_lmul (hx : p.tables.exec = Jvm.exec) (hb : c.code = cc) (hd : decode cc pc = .ok (.lmul, 1)) (h : z_J2 False st (fun x y r => zK p l e R s m args below meth c Q D b sa nL n0 k0 (mi, pc + 1, L, .long (x * y) :: r, M))) : zW p l e R s m args below meth c Q D b sa nL n0 k0 (mi, pc, L, st, M) := by
  obtain ⟨x, y, r, rfl, h2⟩ := p_J2 h
  intro H locs ls hH hL
  exact lv_lmul hx hb hd (h2.2 H locs ls hH hL)
theorem zs_lshl (hx : p.tables.exec = Jvm.exec) (hb : c.code = cc) (hd : decode cc pc = .ok (.lshl, 1)) (h : z_JI False st (fun x y r => zK p l e R s m args below meth c Q D b sa nL n0 k0 (mi, pc + 1, L, .long (x <<< (y.toInt64 &&& 63)) :: r, M))) : zW p l e R s m args below meth c Q D b sa nL n0 k0 (mi, pc, L, st, M) := by
  obtain ⟨x, y, r, rfl, h2⟩ := p_JI h
  intro H locs ls hH hL
  exact lv_lshl hx hb hd rfl (h2.2 H locs ls hH hL)
theorem zs_lshr (hx : p.tables.exec = Jvm.exec) (hb : c.code = cc) (hd : decode cc pc = .ok (.lshr, 1)) (h : z_JI False st (fun x y r => zK p l e R s m args below meth c Q D b sa nL n0 k0 (mi, pc + 1, L, .long (x >>> (y.toInt64 &&& 63)) :: r, M))) : zW p l e R s m args below meth c Q D b sa nL n0 k0 (mi, pc, L, st, M) := by
  obtain ⟨x, y, r, rfl, h2⟩ := p_JI h
  intro H locs ls hH hL
  exact lv_lshr hx hb hd rfl (h2.2 H locs ls hH hL)
theorem zs_lcmp (hx : p.tables.exec = Jvm.exec) (hb : c.code = cc) (hd : decode cc pc = .ok (.lcmp, 1)) (h : z_J2 False st (fun x y r => zK p l e R s m args below meth c Q D b sa nL n0 k0 (mi, pc + 1, L, .int (lg_cmp x y) :: r, M))) : zW p l e R s m args below meth c Q D b sa nL n0 k0 (mi, pc, L, st, M) := by
  obtain ⟨x, y, r, rfl, h2⟩ := p_J2 h
  intro H locs ls hH hL
  exact W.lcmp hx hb hd (h2.2 H locs ls hH hL)
theorem zs_i2l (hx : p.tables.exec = Jvm.exec) (hb : c.code = cc) (hd : decode cc pc = .ok (.i2l, 1)) (h : z_I1 False st (fun x r => zK p l e R s m args below meth c Q D b sa nL n0 k0 (mi, pc + 1, L, .long x.toInt64 :: r, M))) : zW p l e R s m args below meth c Q D b sa nL n0 k0 (mi, pc, L, st, M) := by
  obtain ⟨x, r, rfl, h2⟩ := p_I1 h
  intro H locs ls hH hL
  exact lv_i2l hx hb hd rfl (h2.2 H locs ls hH hL)
theorem zs_l2i (hx : p.tables.exec = Jvm.exec) (hb : c.code = cc) (hd : decode cc pc = .ok (.l2i, 1)) (h : z_J1 False st (fun x r => zK p l e R s m args below meth c Q D b sa nL n0 k0 (mi, pc + 1, L, .int x.toInt32 :: r, M))) : zW p l e R s m args below meth c Q D b sa nL n0 k0 (mi, pc, L, st, M) := by
  obtain ⟨x, r, rfl, h2⟩ := p_J1 h
  intro H locs ls hH hL
  exact lv_l2i hx hb hd rfl (h2.2 H locs ls hH hL)
theorem zs_dup (hx : p.tables.exec = Jvm.exec) (hb : c.code = cc) (hd : decode cc pc = .ok (.dup, 1)) (h : z_V1 False st (fun v r => z_cat1 False v (zK p l e R s m args below meth c Q D b sa nL n0 k0 (mi, pc + 1, L, v :: v :: r, M)))) : zW p l e R s m args below meth c Q D b sa nL n0 k0 (mi, pc, L, st, M) := by
  obtain ⟨v, r, rfl, h1⟩ := p_V1 h
  obtain ⟨hv, h2⟩ := p_cat1 h1
  intro H locs ls hH hL
  exact lv_dup hx hb hd (by rw [z_tv_cat]; exact hv) (h2.2 H locs ls hH hL)
theorem zs_pop (hx : p.tables.exec = Jvm.exec) (hb : c.code = cc) (hd : decode cc pc = .ok (.pop, 1)) (h : z_V1 False st (fun v r => z_cat1 False v (zK p l e R s m args below meth c Q D b sa nL n0 k0 (mi, pc + 1, L, r, M)))) : zW p l e R s m args below meth c Q D b sa nL n0 k0 (mi, pc, L, st, M) := by
  obtain ⟨v, r, rfl, h1⟩ := p_V1 h
  obtain ⟨hv, h2⟩ := p_cat1 h1
  intro H locs ls hH hL
  exact lv_pop hx hb hd (by rw [z_tv_cat]; exact hv) (h2.2 H locs ls hH hL)
theorem zs_dup2 (hx : p.tables.exec = Jvm.exec) (hb : c.code = cc) (hd : decode cc pc = .ok (.dup2, 1)) (h : z_RI False st (fun o i r => zK p l e R s m args below meth c Q D b sa nL n0 k0 (mi, pc + 1, L, .int i :: .ref o :: .int i :: .ref o :: r, M))) : zW p l e R s m args below meth c Q D b sa nL n0 k0 (mi, pc, L, st, M) := by
  obtain ⟨x, y, r, rfl, h2⟩ := p_RI h
  intro H locs ls hH hL
  exact lv_dup2_11 hx hb hd rfl rfl (h2.2 H locs ls hH hL)
theorem zs_if_eq {off : Int} (hx : p.tables.exec = Jvm.exec) (hb : c.code = cc) (hd : decode cc pc = .ok (.ifCond .eq off, 3)) (ht : (pc : Int) + off = (a : Int)) (h : z_I1 False st (fun x r => if x = 0 then zK p l e R s m args below meth c Q D b sa nL n0 k0 (mi, a, L, r, M) else zK p l e R s m args below meth c Q D b sa nL n0 k0 (mi, pc + 3, L, r, M))) : zW p l e R s m args below meth c Q D b sa nL n0 k0 (mi, pc, L, st, M) := by
  obtain ⟨x, r, rfl, h2⟩ := p_I1 h
  obtain ⟨h3, h4⟩ := p_ite h2
  intro H locs ls hH hL
  exact lv_if_eq hx hb hd ht (fun q => (h3 q).2 H locs ls hH hL) (fun q => (h4 q).2 H locs ls hH hL)
theorem zs_icmp_eq {off : Int} (hx : p.tables.exec = Jvm.exec) (hb : c.code = cc) (hd : decode cc pc = .ok (.if_icmp .eq off, 3)) (ht : (pc : Int) + off = (a : Int)) (h : z_I2 False st (fun x y r => if x = y then zK p l e R s m args below meth c Q D b sa nL n0 k0 (mi, a, L, r, M) else zK p l e R s m args below meth c Q D b sa nL n0 k0 (mi, pc + 3, L, r, M))) : zW p l e R s m args below meth c Q D b sa nL n0 k0 (mi, pc, L, st, M) := by
  obtain ⟨x, y, r, rfl, h2⟩ := p_I2 h
  obtain ⟨h3, h4⟩ := p_ite h2
  intro H locs ls hH hL
  exact lv_icmp_eq hx hb hd ht (fun q => (h3 q).2 H locs ls hH hL) (fun q => (h4 q).2 H locs ls hH hL)
theorem zs_if_lt {off : Int} (hx : p.tables.exec = Jvm.exec) (hb : c.code = cc) (hd : decode cc pc = .ok (.ifCond .lt off, 3)) (ht : (pc : Int) + off = (a : Int)) (h : z_I1 False st (fun x r => if x < 0 then zK p l e R s m args below meth c Q D b sa nL n0 k0 (mi, a, L, r, M) else zK p l e R s m args below meth c Q D b sa nL n0 k0 (mi, pc + 3, L, r, M))) : zW p l e R s m args below meth c Q D b sa nL n0 k0 (mi, pc, L, st, M) := by
  obtain ⟨x, r, rfl, h2⟩ := p_I1 h
  obtain ⟨h3, h4⟩ := p_ite h2
  intro H locs ls hH hL
  exact lv_if_lt hx hb hd ht (fun q => (h3 q).2 H locs ls hH hL) (fun q => (h4 q).2 H locs ls hH hL)
theorem zs_icmp_lt {off : Int} (hx : p.tables.exec = Jvm.exec) (hb : c.code = cc) (hd : decode cc pc = .ok (.if_icmp .lt off, 3)) (ht : (pc : Int) + off = (a : Int)) (h : z_I2 False st (fun x y r => if x < y then zK p l e R s m args below meth c Q D b sa nL n0 k0 (mi, a, L, r, M) else zK p l e R s m args below meth c Q D b sa nL n0 k0 (mi, pc + 3, L, r, M))) : zW p l e R s m args below meth c Q D b sa nL n0 k0 (mi, pc, L, st, M) := by
  obtain ⟨x, y, r, rfl, h2⟩ := p_I2 h
  obtain ⟨h3, h4⟩ := p_ite h2
  intro H locs ls hH hL
  exact lv_icmp_lt hx hb hd ht (fun q => (h3 q).2 H locs ls hH hL) (fun q => (h4 q).2 H locs ls hH hL)
theorem zs_if_ge {off : Int} (hx : p.tables.exec = Jvm.exec) (hb : c.code = cc) (hd : decode cc pc = .ok (.ifCond .ge off, 3)) (ht : (pc : Int) + off = (a : Int)) (h : z_I1 False st (fun x r => if 0 ≤ x then zK p l e R s m args below meth c Q D b sa nL n0 k0 (mi, a, L, r, M) else zK p l e R s m args below meth c Q D b sa nL n0 k0 (mi, pc + 3, L, r, M))) : zW p l e R s m args below meth c Q D b sa nL n0 k0 (mi, pc, L, st, M) := by
  obtain ⟨x, r, rfl, h2⟩ := p_I1 h
  obtain ⟨h3, h4⟩ := p_ite h2
  intro H locs ls hH hL
  exact lv_if_ge hx hb hd ht (fun q => (h3 q).2 H locs ls hH hL) (fun q => (h4 q).2 H locs ls hH hL)
theorem zs_icmp_ge {off : Int} (hx : p.tables.exec = Jvm.exec) (hb : c.code = cc) (hd : decode cc pc = .ok (.if_icmp .ge off, 3)) (ht : (pc : Int) + off = (a : Int)) (h : z_I2 False st (fun x y r => if y ≤ x then zK p l e R s m args below meth c Q D b sa nL n0 k0 (mi, a, L, r, M) else zK p l e R s m args below meth c Q D b sa nL n0 k0 (mi, pc + 3, L, r, M))) : zW p l e R s m args below meth c Q D b sa nL n0 k0 (mi, pc, L, st, M) := by
  obtain ⟨x, y, r, rfl, h2⟩ := p_I2 h
  obtain ⟨h3, h4⟩ := p_ite h2
  intro H locs ls hH hL
  exact lv_icmp_ge hx hb hd ht (fun q => (h3 q).2 H locs ls hH hL) (fun q => (h4 q).2 H locs ls hH hL)
theorem zs_if_gt {off : Int} (hx : p.tables.exec = Jvm.exec) (hb : c.code = cc) (hd : decode cc pc = .ok (.ifCond .gt off, 3)) (ht : (pc : Int) + off = (a : Int)) (h : z_I1 False st (fun x r => if 0 < x then zK p l e R s m args below meth c Q D b sa nL n0 k0 (mi, a, L, r, M) else zK p l e R s m args below meth c Q D b sa nL n0 k0 (mi, pc + 3, L, r, M))) : zW p l e R s m args below meth c Q D b sa nL n0 k0 (mi, pc, L, st, M) := by
  obtain ⟨x, r, rfl, h2⟩ := p_I1 h
  obtain ⟨h3, h4⟩ := p_ite h2
  intro H locs ls hH hL
  exact lv_if_gt hx hb hd ht (fun q => (h3 q).2 H locs ls hH hL) (fun q => (h4 q).2 H locs ls hH hL)
theorem zs_icmp_gt {off : Int} (hx : p.tables.exec = Jvm.exec) (hb : c.code = cc) (hd : decode cc pc = .ok (.if_icmp .gt off, 3)) (ht : (pc : Int) + off = (a : Int)) (h : z_I2 False st (fun x y r => if y < x then zK p l e R s m args below meth c Q D b sa nL n0 k0 (mi, a, L, r, M) else zK p l e R s m args below meth c Q D b sa nL n0 k0 (mi, pc + 3, L, r, M))) : zW p l e R s m args below meth c Q D b sa nL n0 k0 (mi, pc, L, st, M) := by
  obtain ⟨x, y, r, rfl, h2⟩ := p_I2 h
  obtain ⟨h3, h4⟩ := p_ite h2
  intro H locs ls hH hL
  exact lv_icmp_gt hx hb hd ht (fun q => (h3 q).2 H locs ls hH hL) (fun q => (h4 q).2 H locs ls hH hL)
theorem zs_if_le {off : Int} (hx : p.tables.exec = Jvm.exec) (hb : c.code = cc) (hd : decode cc pc = .ok (.ifCond .le off, 3)) (ht : (pc : Int) + off = (a : Int)) (h : z_I1 False st (fun x r => if x ≤ 0 then zK p l e R s m args below meth c Q D b sa nL n0 k0 (mi, a, L, r, M) else zK p l e R s m args below meth c Q D b sa nL n0 k0 (mi, pc + 3, L, r, M))) : zW p l e R s m args below meth c Q D b sa nL n0 k0 (mi, pc, L, st, M) := by
  obtain ⟨x, r, rfl, h2⟩ := p_I1 h
  obtain ⟨h3, h4⟩ := p_ite h2
  intro H locs ls hH hL
  exact lv_if_le hx hb hd ht (fun q => (h3 q).2 H locs ls hH hL) (fun q => (h4 q).2 H locs ls hH hL)
theorem zs_icmp_le {off : Int} (hx : p.tables.exec = Jvm.exec) (hb : c.code = cc) (hd : decode cc pc = .ok (.if_icmp .le off, 3)) (ht : (pc : Int) + off = (a : Int)) (h : z_I2 False st (fun x y r => if x ≤ y then zK p l e R s m args below meth c Q D b sa nL n0 k0 (mi, a, L, r, M) else zK p l e R s m args below meth c Q D b sa nL n0 k0 (mi, pc + 3, L, r, M))) : zW p l e R s m args below meth c Q D b sa nL n0 k0 (mi, pc, L, st, M) := by
  obtain ⟨x, y, r, rfl, h2⟩ := p_I2 h
  obtain ⟨h3, h4⟩ := p_ite h2
  intro H locs ls hH hL
  exact lv_icmp_le hx hb hd ht (fun q => (h3 q).2 H locs ls hH hL) (fun q => (h4 q).2 H locs ls hH hL)
theorem zs_if_ne {off : Int} (hx : p.tables.exec = Jvm.exec) (hb : c.code = cc) (hd : decode cc pc = .ok (.ifCond .ne off, 3)) (ht : (pc : Int) + off = (a : Int)) (h : z_I1 False st (fun x r => if x = 0 then zK p l e R s m args below meth c Q D b sa nL n0 k0 (mi, pc + 3, L, r, M) else zK p l e R s m args below meth c Q D b sa nL n0 k0 (mi, a, L, r, M))) : zW p l e R s m args below meth c Q D b sa nL n0 k0 (mi, pc, L, st, M) := by
  obtain ⟨x, r, rfl, h2⟩ := p_I1 h
  obtain ⟨h3, h4⟩ := p_ite h2
  intro H locs ls hH hL
  exact lv_if_ne hx hb hd ht (fun q => (h4 q).2 H locs ls hH hL) (fun q => (h3 q).2 H locs ls hH hL)
theorem zs_icmp_ne {off : Int} (hx : p.tables.exec = Jvm.exec) (hb : c.code = cc) (hd : decode cc pc = .ok (.if_icmp .ne off, 3)) (ht : (pc : Int) + off = (a : Int)) (h : z_I2 False st (fun x y r => if x = y then zK p l e R s m args below meth c Q D b sa nL n0 k0 (mi, pc + 3, L, r, M) else zK p l e R s m args below meth c Q D b sa nL n0 k0 (mi, a, L, r, M))) : zW p l e R s m args below meth c Q D b sa nL n0 k0 (mi, pc, L, st, M) := by
  obtain ⟨x, y, r, rfl, h2⟩ := p_I2 h
  obtain ⟨h3, h4⟩ := p_ite h2
  intro H locs ls hH hL
  exact lv_icmp_ne hx hb hd ht (fun q => (h4 q).2 H locs ls hH hL) (fun q => (h3 q).2 H locs ls hH hL)
theorem zs_goto {off : Int} (hx : p.tables.exec = Jvm.exec) (hb : c.code = cc) (hd : decode cc pc = .ok (.goto off, 3)) (ht : (pc : Int) + off = (a : Int)) (h : zK p l e R s m args below meth c Q D b sa nL n0 k0 (mi, a, L, st, M)) : zW p l e R s m args below meth c Q D b sa nL n0 k0 (mi, pc, L, st, M) := by
  intro H locs ls hH hL
  exact lv_goto hx hb hd ht (h.2 H locs ls hH hL)
theorem zs_ifnull {off : Int} (hx : p.tables.exec = Jvm.exec) (hb : c.code = cc) (hd : decode cc pc = .ok (.ifnull off, 3)) (ht : (pc : Int) + off = (a : Int)) (h : z_V1 False st (fun v r => z_nul False v (zK p l e R s m args below meth c Q D b sa nL n0 k0 (mi, a, L, r, M)) (zK p l e R s m args below meth c Q D b sa nL n0 k0 (mi, pc + 3, L, r, M)))) : zW p l e R s m args below meth c Q D b sa nL n0 k0 (mi, pc, L, st, M) := by
  obtain ⟨v, r, rfl, h1⟩ := p_V1 h
  intro H locs ls hH hL
  rcases p_nul h1 with ⟨rfl, h2⟩ | ⟨q, rfl, h2⟩
  · exact lv_ifnullN hx hb hd ht (h2.2 H locs ls hH hL)
  · exact lv_ifnull hx hb hd (h2.2 H locs ls hH hL)
theorem zs_ifnonnull {off : Int} (hx : p.tables.exec = Jvm.exec) (hb : c.code = cc) (hd : decode cc pc = .ok (.ifnonnull off, 3)) (ht : (pc : Int) + off = (a : Int)) (h : z_V1 False st (fun v r => z_nul False v (zK p l e R s m args below meth c Q D b sa nL n0 k0 (mi, pc + 3, L, r, M)) (zK p l e R s m args below meth c Q D b sa nL n0 k0 (mi, a, L, r, M)))) : zW p l e R s m args below meth c Q D b sa nL n0 k0 (mi, pc, L, st, M) := by
  obtain ⟨v, r, rfl, h1⟩ := p_V1 h
  intro H locs ls hH hL
  rcases p_nul h1 with ⟨rfl, h2⟩ | ⟨q, rfl, h2⟩
  · exact lv_ifnonnullN hx hb hd (h2.2 H locs ls hH hL)
  · exact lv_ifnonnull hx hb hd ht (h2.2 H locs ls hH hL)
theorem z_sws_ok {x : Int32} {d : Nat} {g : Nat → Prop} : ∀ (offs : List Int) (sw : List (Int32 × Nat)) (lo : Int), z_sws pc lo offs sw = true → z_sw x sw d g → (lo ≤ x.toInt ∧ x.toInt < lo + offs.length ∧ ∃ (off : Int) (t : Nat), offs[(x.toInt - lo).toNat]? = some off ∧ (pc : Int) + off = (t : Int) ∧ g t) ∨ ((x.toInt < lo ∨ lo + offs.length ≤ x.toInt) ∧ g d) := by
  intro offs
  induction offs with
  | nil =>
    intro sw lo h1 h2
    cases sw with
    | nil => exact Or.inr ⟨by simp; omega, h2⟩
    | cons q r => cases h1
  | cons off r ih =>
    intro sw lo h1 h2
    cases sw with
    | nil => cases h1
    | cons q sw =>
      obtain ⟨y, t⟩ := q
      simp only [z_sws, Bool.and_eq_true, decide_eq_true_eq] at h1
      obtain ⟨⟨hy, ht⟩, h1⟩ := h1
      have h2 : if x = y then g t else z_sw x sw d g := h2
      obtain ⟨h3, h4⟩ := p_ite h2
      by_cases hxy : x = y
      · subst hxy
        refine Or.inl ⟨by omega, by simp; omega, off, t, ?_, ht, h3 rfl⟩
        rw [show (x.toInt - lo).toNat = 0 by omega]
        rfl
      · have hne : x.toInt ≠ lo := fun hh => hxy (Int32.toInt_inj.mp (by omega))
        rcases ih sw (lo + 1) h1 (h4 hxy) with ⟨a1, a2, off', t', a3, a4, a5⟩ | ⟨a1, a2⟩
        · refine Or.inl ⟨by omega, by simp; omega, off', t', ?_, a4, a5⟩
          rw [show (x.toInt - lo).toNat = (x.toInt - (lo + 1)).toNat + 1 by omega]
          exact a3
        · exact Or.inr ⟨by simp; omega, a2⟩
theorem z_lws_ok {x : Int32} {d : Nat} {dflt : Int} {g : Nat → Prop} (hd : (pc : Int) + dflt = (d : Int)) : ∀ (ps : List (Int × Int)) (sw : List (Int32 × Nat)), z_lws pc ps sw = true → z_sw x sw d g → ∃ t : Nat, (pc : Int) + Op.lookupswitch.offset ps dflt x.toInt = (t : Int) ∧ g t := by
  intro ps
  induction ps with
  | nil =>
    intro sw h1 h2
    cases sw with
    | nil => exact ⟨d, hd, h2⟩
    | cons q r => cases h1
  | cons q ps ih =>
    intro sw h1 h2
    cases sw with
    | nil => obtain ⟨k, off⟩ := q; cases h1
    | cons q' sw =>
      obtain ⟨k, off⟩ := q
      obtain ⟨y, t⟩ := q'
      simp only [z_lws, Bool.and_eq_true, decide_eq_true_eq] at h1
      obtain ⟨⟨hy, ht⟩, h1⟩ := h1
      have h2 : if x = y then g t else z_sw x sw d g := h2
      obtain ⟨h3, h4⟩ := p_ite h2
      by_cases hxy : x = y
      · subst hxy
        refine ⟨t, ?_, h3 rfl⟩
        rw [← hy]
        simp only [Op.lookupswitch.offset, if_pos]
        exact ht
      · rw [lv_osw hxy hy]
        exact ih sw h1 (h4 hxy)
theorem zs_tsw {dflt lo hi : Int} {offs : Array Int} {len : Nat} {sw : List (Int32 × Nat)} (hx : p.tables.exec = Jvm.exec) (hb : c.code = cc) (hd : decode cc pc = .ok (.tableswitch dflt lo hi offs, len)) (hs : z_sws pc lo offs.toList sw = true) (hh : hi = lo + offs.size - 1) (hdf : (pc : Int) + dflt = (a : Int)) (h : z_I1 False st (fun x r => z_sw x sw a (fun t => zK p l e R s m args below meth c Q D b sa nL n0 k0 (mi, t, L, r, M)))) : zW p l e R s m args below meth c Q D b sa nL n0 k0 (mi, pc, L, st, M) := by
  obtain ⟨x, r, rfl, h2⟩ := p_I1 h
  intro H locs ls hH hL
  rcases z_sws_ok offs.toList sw lo hs h2 with ⟨a1, a2, off, t, a3, a4, a5⟩ | ⟨a1, a2⟩
  · exact lv_tableIn hx hb hd (by omega) (by rw [hh]; simp at a2; omega) (by rw [← Array.getElem?_toList]; exact a3) a4 (a5.2 H locs ls hH hL)
  · exact lv_tableOut hx hb hd (by rw [hh]; simp at a1; omega) hdf (a2.2 H locs ls hH hL)
theorem zs_lsw {dflt : Int} {ps : Array (Int × Int)} {len : Nat} {sw : List (Int32 × Nat)} (hx : p.tables.exec = Jvm.exec) (hb : c.code = cc) (hd : decode cc pc = .ok (.lookupswitch dflt ps, len)) (hs : z_lws pc ps.toList sw = true) (hp : (ps.toList.zip (ps.toList.drop 1)).all (fun (a, next) => a.1 < next.1) = true) (hdf : (pc : Int) + dflt = (a : Int)) (h : z_I1 False st (fun x r => z_sw x sw a (fun t => zK p l e R s m args below meth c Q D b sa nL n0 k0 (mi, t, L, r, M)))) : zW p l e R s m args below meth c Q D b sa nL n0 k0 (mi, pc, L, st, M) := by
  obtain ⟨x, r, rfl, h2⟩ := p_I1 h
  intro H locs ls hH hL
  obtain ⟨t, a1, a2⟩ := z_lws_ok hdf ps.toList sw hs h2
  exact lv_lookup hx hb hd hp rfl a1 (a2.2 H locs ls hH hL)
end ZX
