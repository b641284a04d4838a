theorem zg_oi1 : Cond.instanceMethod objectInit ∈ zG := zw_in (n := 10) rfl
theorem zg_oi2 : Cond.code objectInit ⟨#[0xb1]⟩ 1 none ∈ zG := zw_in (n := 11) rfl
theorem zg_ac1 : Cond.native arraycopyName ∈ zG := zw_in (n := 2513) rfl
theorem zg_ac2 : Cond.static arraycopyName ∈ zG := zw_in (n := 2514) rfl
theorem zg_ac3 : Cond.initialized "java/lang/System" ∈ zG := zw_in (n := 2515) rfl
theorem zg_cl1 : Cond.sameMethod "[I" "java/lang/Object" "clone" "()Ljava/lang/Object;" ∈ zG := zw_in (n := 2506) rfl
theorem zg_cl2 : Cond.native ⟨"java/lang/Object", "clone", "()Ljava/lang/Object;"⟩ ∈ zG := zw_in (n := 2507) rfl
theorem zg_cl3 : Cond.instanceMethod ⟨"java/lang/Object", "clone", "()Ljava/lang/Object;"⟩ ∈ zG := zw_in (n := 2508) rfl
theorem zg_cl4 : Cond.selects "[I" ⟨"[I", "clone", "()Ljava/lang/Object;"⟩ ⟨"java/lang/Object", "clone", "()Ljava/lang/Object;"⟩ ∈ zG := zw_in (n := 2509) rfl
def zcws : List Nat := [404, 3008, 3018, 3208, 3212, 3215, 3218, 3106, 3117, 3118, 3204, 3200, 419, 412, 1214, 3102, 3113, 3222, 3302, 222, 3719, 4017, 4021, 4900, 4908, 4912, 4904, 2518, 315, 2207, 2216, 2305, 2319, 2318, 2315, 2421, 2501, 2413, 2417, 2300, 500, 1218, 1223, 504, 1111, 1203, 1305, 1309, 5603, 3817, 5320, 3821, 3906, 3910, 5014, 5105, 5115, 5112, 5018, 5100, 5118, 5121, 210, 3713, 823, 908, 1022, 1102, 4013, 4105, 1122, 1523, 5507, 5608, 5613, 2605, 3310, 3813, 1106, 304, 1619, 1700, 1802, 308, 1901, 2123, 1912, 1915, 1908, 1918, 2202, 2312, 2404, 2304, 2323, 2409, 8, 818, 1017, 1517, 1614, 1713, 1721, 1811, 1819, 3002, 3707, 4604, 4612, 4620, 4708, 4720, 4804, 4812, 4820, 4920, 5005, 5220, 5308, 5316, 5408, 5418, 5502, 5515, 5523, 5705, 5802, 5818, 5902, 6003, 6011, 6019, 6103, 6113, 903, 914, 4712, 3809, 3805, 5010, 5300, 5710, 4009, 4101, 4111, 4003, 3801, 5906, 5910, 517, 1003, 5718, 1513, 1012, 1610, 1007, 4213, 4600, 4504, 4916, 6015, 6023, 1321, 1502, 923, 918, 1313, 1603, 1806, 1815, 1709, 1704, 1717, 2713, 2716, 2623, 2704, 2816, 2804, 2808, 2905, 4608, 3519, 3417, 3602, 3606, 3610, 3614, 3511, 3507, 3421, 3515, 3501, 3412, 3523, 3622, 3406, 3320, 3703, 3401, 3314, 4704, 4700, 1506, 1417, 1411, 1405, 1401, 1510, 2820, 2812, 2720, 2900, 2909, 2800, 2615, 2913, 2918, 2922, 2610, 4307, 4312, 4404, 4316, 4412, 4408, 4400, 4320, 4302, 5209, 5216, 5213, 5205, 5001, 5201, 5304, 5312, 5404, 5400, 5414, 4222, 4516, 5422, 5822, 4500, 4716, 4508, 4800, 4808, 4512, 4816, 5511, 5519, 5701, 5621, 5617, 5722, 5715, 5812, 4209, 4204, 4416, 4420, 4217, 4122, 4520, 4616, 5920, 5914, 6007, 6107, 6117, 416, 1209, 5108, 4115, 2504, 1118, 5808, 3902, 3918, 3914, 3922]
def z_cw (y : zY) : Cond := Cond.code y.2.1 y.2.2.1 y.2.2.2.1 y.2.2.2.2
set_option maxRecDepth 100000 in
theorem zcws_all : zcws.map zw = (zmeth.take 283).map (fun y => some (z_cw y)) := rfl
theorem z_get_eq {α : Type} : ∀ (l : List α) (i : Nat), z_get l i = l[i]? := by
  intro l
  induction l with
  | nil => intro i; rfl
  | cons x r ih =>
    intro i
    cases i with
    | zero => rfl
    | succ i => rw [List.getElem?_cons_succ]; exact ih i
theorem zmeth_len : zmeth.length = 284 := by decide +kernel
theorem z_cw_in {a : Nat} (h : a < 283) : z_cw (z_meth a) ∈ zG := by
  have h1 : zmeth[a]? = some (z_meth a) := by
    have h2 : a < zmeth.length := by rw [zmeth_len]; omega
    unfold z_meth
    rw [z_get_eq, List.getElem?_eq_getElem h2]
  have h3 : (zcws.map zw)[a]? = some (some (z_cw (z_meth a))) := by
    rw [zcws_all, List.getElem?_map, List.getElem?_take, if_pos h, h1]
    rfl
  rw [List.getElem?_map] at h3
  cases hz : zcws[a]? with
  | none => rw [hz] at h3; cases h3
  | some n => rw [hz] at h3; exact zw_in (Option.some.inj h3)
def zwsY (y : zY) : List Cond := z_cw y :: zG
theorem z_goodG : GoodIn zG zG := fun w h => ⟨h, good_of_word (zG_good w h)⟩
theorem z_goodY {a : Nat} (h : a < 283) : GoodIn zG (zwsY (z_meth a)) := by
  intro w hw
  rcases List.mem_cons.mp hw with rfl | hw
  · exact z_goodG _ (z_cw_in h)
  · exact z_goodG w hw
/-- names that the machine treats otherwise are not ours; a frame's locals are few -/
theorem zmeth_ok1 : zmeth.all (fun y => decide (y.2.1.cls ≠ "java/lang/invoke/MethodHandle") && decide (y.2.1.cls ≠ "java/lang/invoke/VarHandle")) = true := by decide +kernel
theorem zmeth_ok2 : zmeth.all (fun y => decide (y.2.2.2.1 ≤ 45)) = true := by decide +kernel
theorem zmeth_ok3 : zmeth.all (fun y => plainFor y.2.1) = true := by decide +kernel
theorem zmeth_ok4 : zmeth.all (fun y => decide (y.2.1.cls = y.1)) = true := by decide +kernel
theorem z_meth_ok {a : Nat} (h : a < 284) : ((z_meth a).2.1.cls ≠ "java/lang/invoke/MethodHandle" ∧ (z_meth a).2.1.cls ≠ "java/lang/invoke/VarHandle") ∧ (z_meth a).2.2.2.1 ≤ 45 ∧ plainFor (z_meth a).2.1 = true ∧ (z_meth a).2.1.cls = (z_meth a).1 := by
  have h1 : zmeth[a]? = some (z_meth a) := by
    have h2 : a < zmeth.length := by rw [zmeth_len]; omega
    unfold z_meth
    rw [z_get_eq, List.getElem?_eq_getElem h2]
  have hm := List.mem_of_getElem? h1
  have h3 := List.all_eq_true.mp zmeth_ok1 _ hm
  simp only [Bool.and_eq_true, decide_eq_true_eq] at h3
  exact ⟨h3, of_decide_eq_true (List.all_eq_true.mp zmeth_ok2 _ hm), List.all_eq_true.mp zmeth_ok3 _ hm, of_decide_eq_true (List.all_eq_true.mp zmeth_ok4 _ hm)⟩
set_option maxRecDepth 20000 in
theorem z_room_le {q d n : Nat} (h3 : q ≤ 45) (h : 64 * d + 464 ≤ n) : 8 + (q + 11) + (64 * d + 400) ≤ n := by omega
def zroom (d mc ms : Nat) : Room := { frames := d + 10, cells := mc, slots := ms, locals := 64 * d + 400 }
def zPc (D : va_G) (b : Nat) (sa : Nat → Nat) (X : zX) (as : List Value) (M : zM) : Array Value → State → Prop := fun a U => a = (as.map (z_tv b sa)).toArray ∧ U.heap.size = b + (M.1 - 4) ∧ zH D b sa U M U.heap [] ∧ zSt b sa X U
def zQc (D : va_G) (b : Nat) (sa : Nat → Nat) (v : Option Value) (M' : zM) : Array Value → State → Outcome → State → Prop := fun _ st o t => o = .returned (v.map (z_tv b sa)) ∧ t.heap.size = b + (M'.1 - 4) ∧ (∀ q : Nat, q < b → t.heap[q]? = st.heap[q]?) ∧ zH D b sa t M' t.heap []
/-- a method's contract, out of a run of the interpreter -/
def zMet (l : Launch) (D : va_G) (b : Nat) (sa : Nat → Nat) (X : zX) (d mi : Nat) (as : List Value) (M : zM) (v : Option Value) (M' : zM) : Prop := Met l (z_meth mi).2.1 (zwsY (z_meth mi)) (zroom d (M'.1 - M.1) (M'.2.1 - M.2.1)) (zPc D b sa X as M) (zQc D b sa v M') (M'.1 - M.1) (M'.2.1 - M.2.1) (zA b)
section ZV
variable {p : Program} {l : Launch} {e : Env} {R : Room} {s : State} {m : MethodId} {args : Array Value} {below : List Frame} {meth : Method} {c : Code} {Q : State → Prop} {D : va_G} {b : Nat} {sa : Nat → Nat} {nL n0 k0 : Nat}
variable {cc : ByteArray} {pc a mi d : Nat} {L : zL} {st : List Value} {M M' : zM} {val : Value} {X : zX} {own : String} {i : Nat} {v : Option Value}
theorem zH.at' {H : Heap} {locs : List Loc} {U : State} (h : zH D b sa s M H locs) (hU : U.heap = H) (hv : s.vm.Alike U.vm) : zH D b sa U M U.heap [] := by
  obtain ⟨hwf, cs, tys, hK, hP, hD, hS, ht⟩ := h
  exact ⟨hwf, cs, tys, hK.moved hv, by rw [hU]; exact hP, hD, va_S.rf, ht⟩
theorem zPc_blind {as : List Value} : FrameBlind (zPc D b sa X as M) := by
  intro a U g mk h
  obtain ⟨h1, h2, h3, h4⟩ := h
  exact ⟨h1, h2, h3.at' (U := U.calling g mk a) rfl (Vm.Alike.refl U.vm), h4.moved (U := U.calling g mk a) (State.WarmedH.refl U) h4.1 (fun _ _ _ => rfl)⟩
theorem zPc_at {H : Heap} {locs : List Loc} {as : List Value} (hH : zH D b sa s M H locs) (hS0 : zSt b sa X s) (hsize : H.size = b + (M.1 - 4)) : ∀ U : State, U.heap = H → s.WarmedH U.vm → zPc D b sa X as M (as.map (z_tv b sa)).toArray U := by
  intro U hU hW
  refine ⟨rfl, by rw [hU]; exact hsize, hH.at' hU hW.alike, hS0.moved hW (by rw [hU, hsize]; exact Nat.le_add_right _ _) ?_⟩
  obtain ⟨hwf, cs, tys, hK, hP, hD, hS, ht⟩ := hH
  intro q h1 h2
  rw [hU]
  exact hS.2.1 q h1 h2
/-- behind a call -/
theorem z_back {H : Heap} {locs : List Loc} {ls : Array Slot} {st0 r : List Value} {arr : Array Value} (hr : va_Run p l e R s m args below meth c H locs (M.1 - n0) (M.2.1 - k0) (M'.1 - M.1) (M'.2.1 - M.2.1) (F0 m pc ls st0) (r.map (z_tv b sa)) (zQc D b sa v M' arr) (zA b)) (hsz : s.heap.size = b + (n0 - 4)) (hBM : zB R n0 k0 M) (h1 : M.1 ≤ M'.1) (h2 : M.2.1 ≤ M'.2.1) (hH : zH D b sa s M H locs) (hL : zLs b sa nL L ls) (hk : zK p l e R s m args below meth c Q D b sa nL n0 k0 (mi, pc + 3, L, v.toList ++ r, M')) : W p l e R s m args below meth c H locs (M.1 - n0) (M.2.1 - k0) Q (F0 m pc ls st0) := by
  intro T hT XT
  obtain ⟨v1, s0, t, T', L1, e0, X', hf, e1, e2, ⟨o1, o2, o3, o4⟩, go⟩ := hr T hT XT
  obtain ⟨hwf, cs, tys, hK, hP, hD, hS, ht⟩ := hH
  obtain ⟨hwf', cs', tys', hK', hP', hD', hS', ht'⟩ := o4
  have hn0 := hBM.1
  have hk0 := hBM.2.1
  have hv1 : v1 = v.map (z_tv b sa) := by cases o1; rfl
  subst hv1
  have hal : t.vm.Alike s.vm := by rw [← e2]; exact X'.warmed.alike.symm
  have hS1 : va_S (zA b) s.heap t.heap (locs ++ L1) := by
    refine ⟨by rw [hsz, o2]; omega, fun q q1 q2 => ?_, fun q hq => ?_⟩
    · rw [o3 q (Nat.not_le.mp q2), e0]; exact hS.2.1 q q1 q2
    · rcases List.mem_append.mp hq with hq | hq
      · exact hS.2.2 q hq
      · exact hf q hq
  obtain ⟨t2, a1, b1⟩ := hk.2 t.heap (locs ++ L1) ls ⟨hwf', cs', tys', hK'.moved hal, hP', hD', hS1, ht'⟩ hL T' e1 (stand_widen X' (by show M.1 - n0 + (M'.1 - M.1) ≤ M'.1 - n0; omega) (by show M.2.1 - k0 + (M'.2.1 - M.2.1) ≤ M'.2.1 - k0; omega))
  refine ⟨t2, go t2 ?_, b1⟩
  have hst : ((v.map (z_tv b sa)).toList ++ r.map (z_tv b sa)) = (v.toList ++ r).map (z_tv b sa) := by cases v <;> simp
  show Steps p.tables e below (T'.setTop (F0 m (pc + 3) ls ((v.map (z_tv b sa)).toList ++ r.map (z_tv b sa)))) t2
  rw [hst]
  exact a1
/-- what a call's result gives -/
def zCl (p : Program) (l : Launch) (e : Env) (R : Room) (s : State) (m : MethodId) (args : Array Value) (below : List Frame) (meth : Method) (c : Code) (Q : State → Prop) (D : va_G) (b : Nat) (sa : Nat → Nat) (nL n0 k0 : Nat) (X : zX) (d : Nat) (mi : Nat) (as : List Value) (ck : zC) : Prop :=
  ∃ v M', zMet l D b sa X d mi as ck.2.2.2.2 v M' ∧ ck.2.2.2.2.1 ≤ M'.1 ∧ ck.2.2.2.2.2.1 ≤ M'.2.1 ∧ zK p l e R s m args below meth c Q D b sa nL n0 k0 (z_ret (v, M') ck)
def zCk (p : Program) (l : Launch) (e : Env) (R : Room) (s : State) (m : MethodId) (args : Array Value) (below : List Frame) (meth : Method) (c : Code) (Q : State → Prop) (D : va_G) (b : Nat) (sa : Nat → Nat) (nL n0 k0 : Nat) (X : zX) (d : Nat) (mi : Nat) (as : List Value) (ck : zC) : Prop :=
  d + 11 ≤ R.frames ∧ 64 * d + 464 ≤ R.locals ∧ zCl p l e R s m args below meth c Q D b sa nL n0 k0 X d mi as ck
theorem z_cats {r : List Value} (h : z_catS r ≤ 8) : ((r.map (z_tv b sa)).map fun v => v.category).sum ≤ 8 := by
  have : (r.map (z_tv b sa)).map (fun v => v.category) = r.map fun v => v.category := by
    rw [List.map_map]; congr 1; funext v; exact z_tv_cat b sa v
  rw [this]; exact h
theorem z_callB  (hts : ∀ w ∈ zG, w.before args s = true) (ha : a < 283) {n : Nat} (w1 : (Cond.methodLink own i (z_meth a).2.1).before args s = true) (w2 : Cond.initialized (z_meth a).1 ∈ zG) (hn : (parseMethodDescriptor (z_meth a).2.1.desc).map (fun d => d.parameters.length) = some n) (hR1 : d + 11 ≤ R.frames) (hR2 : 64 * d + 464 ≤ R.locals) : CallB R s args own i (z_meth a).2.1 (z_meth a).2.2.1 (z_meth a).2.2.2.1 (z_meth a).2.2.2.2 (zwsY (z_meth a)) (zroom d (M'.1 - M.1) (M'.2.1 - M.2.1)) (M'.1 - M.1) (M'.2.1 - M.2.1) n := by
  obtain ⟨⟨h1, h2⟩, h3, h4, h5⟩ := z_meth_ok (a := a) (by omega)
  refine callB_of (Ts := zG) (ws' := zG) n hts (z_goodY ha) rfl rfl rfl (by rw [h5]; exact hts _ w2) w1 ⟨h1, h2, hn⟩ ⟨?_, ?_⟩
  · show d + 10 + 1 ≤ R.frames; omega
  · exact z_room_le h3 hR2
theorem zs_static (hx : p.tables.exec = Jvm.exec) (hb : c.code = cc) (hml : c.maxLocals = nL) (hts : ∀ w ∈ zG, w.before args s = true) (hS0 : zSt b sa X s) (hown : s.vm.findClass own = some m.cls) (hsz : s.heap.size = b + (n0 - 4)) (h4n : 4 ≤ n0) (hBM : zB R n0 k0 M) (ha : a < 283) {n : Nat} (w1 : Cond.methodLink own i (z_meth a).2.1 ∈ zG) (w2 : Cond.initialized (z_meth a).1 ∈ zG) (w3 : Cond.static (z_meth a).2.1 ∈ zG) (hn : (parseMethodDescriptor (z_meth a).2.1.desc).map (fun d => d.parameters.length) = some n) (hd : decode cc pc = .ok (.invokestatic i, 3)) (h : z_pop False n st [] (fun as r => z_sm False r (z_fit False a as (zCk p l e R s m args below meth c Q D b sa nL n0 k0 X d a as (mi, pc + 3, L, r, M))))) : zW p l e R s m args below meth c Q D b sa nL n0 k0 (mi, pc, L, st, M) := by
  obtain ⟨as, r, h1, rfl, h2⟩ := p_pop n st [] h
  rw [List.append_nil] at h2
  obtain ⟨h3, h2⟩ := p_sm h2
  obtain ⟨-, hR1, hR2, v, M', hM, h5, h6, hk⟩ := p_fit h2
  intro H locs ls hH hL T hT XT
  have hH : zH D b sa s M H locs := hH
  have hL : zLs b sa nL L ls := hL
  have XT : Stand p l e R s m args below meth c T locs (M.1 - n0) (M.2.1 - k0) := XT
  have hsize := z_size XT hT hsz h4n hBM hH
  have hfit : M.1 - n0 + (M'.1 - M.1) ≤ R.cells ∧ M.2.1 - k0 + (M'.2.1 - M.2.1) ≤ R.slots := by
    have q1 : M'.1 ≤ n0 + R.cells := hk.1.2.2.1
    have q2 : M'.2.1 ≤ k0 + R.slots := hk.1.2.2.2
    have q3 := hBM.1
    have q4 := hBM.2.1
    have h5 : M.1 ≤ M'.1 := h5
    have h6 : M.2.1 ≤ M'.2.1 := h6
    exact ⟨by omega, by omega⟩
  refine z_back (v := v) (M' := M') (r := r) (va_runS (own := own) (index := i) (As := as.map (z_tv b sa)) (n := n) ⟨hx, hb, hml, hown, hts⟩ hM ⟨z_callB hts ha (hts _ w1) w2 hn hR1 hR2, hts _ w3⟩ ⟨zPc_blind, zPc_at hH hS0 hsize⟩ rfl (by rw [List.length_map]; exact h1) hL.1 ?_ (lv_room (z_cats h3)) hd hfit) hsz hBM h5 h6 hH hL hk T hT XT
  · show (as.reverse ++ r).map (z_tv b sa) = (as.map (z_tv b sa)).reverse ++ r.map (z_tv b sa)
    rw [List.map_append, List.map_reverse]
theorem zs_virtual (hx : p.tables.exec = Jvm.exec) (hb : c.code = cc) (hml : c.maxLocals = nL) (hts : ∀ w ∈ zG, w.before args s = true) (hS0 : zSt b sa X s) (hown : s.vm.findClass own = some m.cls) (hsz : s.heap.size = b + (n0 - 4)) (h4n : 4 ≤ n0) (hBM : zB R n0 k0 M) (ha : a < 283) {n : Nat} (w1 : Cond.methodLink own i (z_meth a).2.1 ∈ zG) (w2 : Cond.initialized (z_meth a).1 ∈ zG) (w3 : Cond.instanceMethod (z_meth a).2.1 ∈ zG) (w4 : Cond.selects (z_meth a).1 (z_meth a).2.1 (z_meth a).2.1 ∈ zG) (hc1 : z_cls a < 12) (hc2 : (z_cl (z_cls a)).1 = (z_meth a).1) (hn : (parseMethodDescriptor (z_meth a).2.1.desc).map (fun d => d.parameters.length) = some n) (hd : decode cc pc = .ok (.invokevirtual i, 3)) (h : z_pop False n st [] (fun as r => z_V1 False r (fun v r => z_sm False r (z_obj False M v (z_cls a) (z_fit False a (v :: as) (zCk p l e R s m args below meth c Q D b sa nL n0 k0 X d a (v :: as) (mi, pc + 3, L, r, M))))))) : zW p l e R s m args below meth c Q D b sa nL n0 k0 (mi, pc, L, st, M) := by
  obtain ⟨as, r0, h1, rfl, h2⟩ := p_pop n st [] h
  rw [List.append_nil] at h2
  obtain ⟨v0, r, rfl, h2⟩ := p_V1 h2
  obtain ⟨h3, h2⟩ := p_sm h2
  obtain ⟨o, fs, rfl, hM0, h2⟩ := p_obj h2
  obtain ⟨-, hR1, hR2, v, M', hM, h5, h6, hk⟩ := p_fit h2
  intro H locs ls hH hL T hT XT
  have hH : zH D b sa s M H locs := hH
  have hL : zLs b sa nL L ls := hL
  have XT : Stand p l e R s m args below meth c T locs (M.1 - n0) (M.2.1 - k0) := XT
  have hsize := z_size XT hT hsz h4n hBM hH
  have hrecv : ∃ cellB : Cell, H[z_ad b sa o]? = some cellB ∧ cellB.vm.isStatics = false ∧ s.vm.findClass (z_meth a).1 = some cellB.cls := by
    obtain ⟨hwf, cs, tys, hK, hP, hD, hS, ht⟩ := hH
    have := va_recv hK hP (z_cl_at hc1) (z_ws_get hwf hM0)
    rw [hc2] at this
    exact this
  have hfit : M.1 - n0 + (M'.1 - M.1) ≤ R.cells ∧ M.2.1 - k0 + (M'.2.1 - M.2.1) ≤ R.slots := by
    have q1 : M'.1 ≤ n0 + R.cells := hk.1.2.2.1
    have q2 : M'.2.1 ≤ k0 + R.slots := hk.1.2.2.2
    have q3 := hBM.1
    have q4 := hBM.2.1
    have h5 : M.1 ≤ M'.1 := h5
    have h6 : M.2.1 ≤ M'.2.1 := h6
    exact ⟨by omega, by omega⟩
  refine z_back (v := v) (M' := M') (r := r) (va_runV (own := own) (C := (z_meth a).1) (index := i) (b := z_ad b sa o) (As := as.map (z_tv b sa)) (n := n) ⟨hx, hb, hml, hown, hts⟩ hM ⟨z_callB hts ha (hts _ w1) w2 hn hR1 hR2, hts _ w3, hts _ w4⟩ ⟨zPc_blind, hrecv, zPc_at (as := .ref o :: as) hH hS0 hsize⟩ rfl (by rw [List.length_map]; exact h1) hL.1 ?_ (lv_room (z_cats h3)) hd hfit) hsz hBM h5 h6 hH hL hk T hT XT
  · show (as.reverse ++ .ref o :: r).map (z_tv b sa) = (as.map (z_tv b sa)).reverse ++ .ref (z_ad b sa o) :: r.map (z_tv b sa)
    rw [List.map_append, List.map_reverse]; rfl
theorem zs_special (hx : p.tables.exec = Jvm.exec) (hb : c.code = cc) (hml : c.maxLocals = nL) (hts : ∀ w ∈ zG, w.before args s = true) (hS0 : zSt b sa X s) (hown : s.vm.findClass own = some m.cls) (hsz : s.heap.size = b + (n0 - 4)) (h4n : 4 ≤ n0) (hBM : zB R n0 k0 M) (ha : a < 283) {n : Nat} (w1 : Cond.methodLink own i (z_meth a).2.1 ∈ zG ∨ (own, i, (z_meth a).2.1, "ScansionDesk") ∈ z_nests) (w2 : Cond.initialized (z_meth a).1 ∈ zG) (w3 : Cond.instanceMethod (z_meth a).2.1 ∈ zG) (hnm : (z_meth a).2.1.name = "<init>") (hrt : (z_meth a).2.2.2.2 = none) (hn : (parseMethodDescriptor (z_meth a).2.1.desc).map (fun d => d.parameters.length) = some n) (hd : decode cc pc = .ok (.invokespecial i, 3)) (h : z_pop False n st [] (fun as r => z_V1 False r (fun v r => z_sm False r (z_obj False M v (z_cls a) (z_fit False a (v :: as) (zCk p l e R s m args below meth c Q D b sa nL n0 k0 X d a (v :: as) (mi, pc + 3, L, r, M))))))) : zW p l e R s m args below meth c Q D b sa nL n0 k0 (mi, pc, L, st, M) := by
  obtain ⟨as, r0, h1, rfl, h2⟩ := p_pop n st [] h
  rw [List.append_nil] at h2
  obtain ⟨v0, r, rfl, h2⟩ := p_V1 h2
  obtain ⟨h3, h2⟩ := p_sm h2
  obtain ⟨o, fs, rfl, hM0, h2⟩ := p_obj h2
  obtain ⟨-, hR1, hR2, v, M', hM, h5, h6, hk⟩ := p_fit h2
  intro H locs ls hH hL T hT XT
  have hH : zH D b sa s M H locs := hH
  have hL : zLs b sa nL L ls := hL
  have XT : Stand p l e R s m args below meth c T locs (M.1 - n0) (M.2.1 - k0) := XT
  have hsize := z_size XT hT hsz h4n hBM hH
  have hst : (as.reverse ++ .ref o :: r).map (z_tv b sa) = (as.map (z_tv b sa)).reverse ++ .ref (z_ad b sa o) :: r.map (z_tv b sa) := by
    rw [List.map_append, List.map_reverse]; rfl
  have hfit : M.1 - n0 + (M'.1 - M.1) ≤ R.cells ∧ M.2.1 - k0 + (M'.2.1 - M.2.1) ≤ R.slots := by
    have q1 : M'.1 ≤ n0 + R.cells := hk.1.2.2.1
    have q2 : M'.2.1 ≤ k0 + R.slots := hk.1.2.2.2
    have q3 := hBM.1
    have q4 := hBM.2.1
    have h5 : M.1 ≤ M'.1 := h5
    have h6 : M.2.1 ≤ M'.2.1 := h6
    exact ⟨by omega, by omega⟩
  rcases w1 with w1 | w1
  · have hcb := z_callB (M := M) (M' := M') hts ha (hts _ w1) w2 hn hR1 hR2
    rw [hrt] at hcb
    exact z_back (v := v) (M' := M') (r := r) (va_runI (own := own) (index := i) (b := z_ad b sa o) (As := as.map (z_tv b sa)) (n := n) ⟨hx, hb, hml, hown, hts⟩ hM ⟨hcb, hnm, hts _ w3⟩ ⟨zPc_blind, zPc_at (as := .ref o :: as) hH hS0 hsize⟩ rfl (by rw [List.length_map]; exact h1) hL.1 hst (lv_room (z_cats h3)) hd hfit) hsz hBM h5 h6 hH hL hk T hT XT
  · obtain ⟨⟨g1, g2⟩, g3, g4, g5⟩ := z_meth_ok (a := a) (by omega)
    have hcn : va_CN R s args own i (z_meth a).2.1 "ScansionDesk" (z_meth a).2.2.1 (z_meth a).2.2.2.1 (z_meth a).2.2.2.2 (zwsY (z_meth a)) (zroom d (M'.1 - M.1) (M'.2.1 - M.2.1)) (M'.1 - M.1) (M'.2.1 - M.2.1) n := by
      refine va_cnB (Ts := zG) (ws' := zG) n hts (z_goodY ha) rfl rfl rfl (hS0.2.2.2.2.2.2.2.2.2.1 _ w1) (by rw [g5]; exact hts _ w2) ⟨g1, g2, hn⟩ ⟨?_, ?_⟩
      · show d + 10 + 1 ≤ R.frames; omega
      · exact z_room_le g3 hR2
    rw [hrt] at hcn
    exact z_back (v := v) (M' := M') (r := r) (va_runIN (own := own) (index := i) (b := z_ad b sa o) (As := as.map (z_tv b sa)) (n := n) ⟨hx, hb, hml, hown, hts⟩ hM ⟨hcn, hnm, hts _ w3⟩ ⟨zPc_blind, zPc_at (as := .ref o :: as) hH hS0 hsize⟩ rfl (by rw [List.length_map]; exact h1) hL.1 hst (lv_room (z_cats h3)) hd hfit) hsz hBM h5 h6 hH hL hk T hT XT
theorem zs_objInit (hx : p.tables.exec = Jvm.exec) (hb : c.code = cc) (hml : c.maxLocals = nL) (hts : ∀ w ∈ zG, w.before args s = true) (hown : s.vm.findClass own = some m.cls) (w1 : Cond.methodLink own i objectInit ∈ zG) (hR1 : 10 ≤ R.frames) (hR2 : 400 ≤ R.locals) (hd : decode cc pc = .ok (.invokespecial i, 3)) (h : z_R1 False st (fun _ r => z_sm False r (zK p l e R s m args below meth c Q D b sa nL n0 k0 (mi, pc + 3, L, r, M)))) : zW p l e R s m args below meth c Q D b sa nL n0 k0 (mi, pc, L, st, M) := by
  obtain ⟨o, r, rfl, h1⟩ := p_R1 h
  obtain ⟨h3, hk⟩ := p_sm h1
  intro H locs ls hH hL
  refine W.objInit hx hb hown (hts _ w1) (hts _ zg_oi1) (hts _ zg_oi2) rfl (by show ls.size = _; rw [hml]; exact hL.1) rfl hd (by omega) ?_ (hk.2 H locs ls hH hL)
  have := z_cats (b := b) (sa := sa) h3
  show 2 * 0 + ((r.map (z_tv b sa)).map fun v => v.category).sum + 12 ≤ R.locals
  omega
theorem zs_copy (hx : p.tables.exec = Jvm.exec) (hb : c.code = cc) (hml : c.maxLocals = nL) (hts : ∀ w ∈ zG, w.before args s = true) (hown : s.vm.findClass own = some m.cls) (w1 : Cond.methodLink own i arraycopyName ∈ zG) (hR1 : 10 ≤ R.frames) (hR2 : 400 ≤ R.locals) (hd : decode cc pc = .ok (.invokestatic i, 3)) (h : z_cp5 False st (fun n dp a sp a0 r => z_sm False r (z_cpy False M a0 sp a dp n (fun M' => zK p l e R s m args below meth c Q D b sa nL n0 k0 (mi, pc + 3, L, r, M'))))) : zW p l e R s m args below meth c Q D b sa nL n0 k0 (mi, pc, L, st, M) := by
  obtain ⟨n, dp, a, sp, a0, r, rfl, h1⟩ := p_cp5 h
  obtain ⟨h3, h2⟩ := p_sm h1
  obtain ⟨m0, f, m1, f1, e0, e1, g1, g2, g3, g4, g5, hk⟩ := p_cpy h2
  intro H locs ls hH hL
  obtain ⟨hwf, cs, tys, hK, hP, hD, hS, ht⟩ := id hH
  obtain ⟨t0, h0⟩ := ht _ _ _ _ e0
  obtain ⟨t1, h01⟩ := ht _ _ _ _ e1
  have hcat := z_cats (b := b) (sa := sa) h3
  refine va_copyi hx hb (by rw [hml]; exact hL.1.symm) hown (hts _ w1) (hts _ zg_ac1) (hts _ zg_ac2) (hts _ zg_ac3) hK hP hD hS (a0 - 4) (a - 4) t0 t1 (z_ws_get hwf e0) (z_ws_get hwf e1) h0 h01 rfl (Int32.not_lt.mpr g1) (Int32.not_lt.mpr g2) (Int32.not_lt.mpr g3) g4 g5 (fun _ _ => rfl) (by omega) ?_ hd (fun H1 locs1 hP1 hD1 hS1 => hk.2 H1 locs1 ls (zH_upd hwf hK ht e1 (fun t n' x' q => by cases q; exact ⟨_, _, rfl⟩) hP1 hD1 hS1) hL)
  have : nativeFrameWords "java/lang/System" "arraycopy" 5 = 7 := by decide +kernel
  rw [this]
  omega
theorem zs_clone (hx : p.tables.exec = Jvm.exec) (hb : c.code = cc) (hml : c.maxLocals = nL) (hts : ∀ w ∈ zG, w.before args s = true) (hS0 : zSt b sa X s) (hown : s.vm.findClass own = some m.cls) (hsz : s.heap.size = b + (n0 - 4)) (h4n : 4 ≤ n0) (hBM : zB R n0 k0 M) (w1 : Cond.methodLink own i ⟨"[I", "clone", "()Ljava/lang/Object;"⟩ ∈ zG) (hR1 : 10 ≤ R.frames) (hR2 : 400 ≤ R.locals) (hd : decode cc pc = .ok (.invokevirtual i, 3)) (h : z_R1 False st (fun a r => z_sm False r (z_cln False M a (fun M' => zK p l e R s m args below meth c Q D b sa nL n0 k0 (mi, pc + 3, L, .ref M.1 :: r, M'))))) : zW p l e R s m args below meth c Q D b sa nL n0 k0 (mi, pc, L, st, M) := by
  obtain ⟨o, r, rfl, h1⟩ := p_R1 h
  obtain ⟨h3, h2⟩ := p_sm h1
  obtain ⟨n, f, e0, hk⟩ := p_cln h2
  intro H locs ls hH hL
  have hH : zH D b sa s M H locs := hH
  have hL : zLs b sa nL L ls := hL
  dsimp only
  obtain ⟨hwf, cs, tys, hK, hP, hD, hS, ht⟩ := id hH
  obtain ⟨t0, h0⟩ := ht _ _ _ _ e0
  have hcat := z_cats (b := b) (sa := sa) h3
  have hb1 : M.1 + 1 ≤ n0 + R.cells := hk.1.2.2.1
  have hb2 : M.2.1 + n ≤ k0 + R.slots := hk.1.2.2.2
  have hn0 := hBM.1
  have hk0 := hBM.2.1
  refine va_clone (ad := "[I") (x := (n, .inl f)) (ty := .int) hx hb (by rw [hml]; exact hL.1.symm) hown (hts _ w1) (hts _ zg_cl1) (hts _ zg_cl2) (hts _ zg_cl3) (hts _ zg_cl4) hS0.2.2.2.2.2.2.2.2.2.2.2.2.2.2.1 hK hP hD hS (fun q hq => by show b ≤ q; omega) (o - 4) t0 (z_ws_get hwf e0) h0 (show s.vm.findClass ("[" ++ FieldType.int.toString) = some (cs o) from (hK.2 t0 _ h0).2) ?_ (by omega) (by omega) (by omega) (by show M.2.1 - k0 + n ≤ R.slots; omega) hd (fun q H1 hK1 hP1 hD1 hS1 => ?_)
  · intro j v hv
    have hv : (Array.ofFn (n := n) fun j => Value.int (f j.val))[j]? = some v := hv
    rw [Array.getElem?_ofFn] at hv
    split at hv
    · cases hv; rfl
    · cases hv
  · intro T hT XX
    have hs1 := XX.heapSize
    rw [hT] at hs1
    have hq := z_fresh hwf hP1 hD1 (by omega)
    refine (W.widen (k := M.1 + 1 - n0) (n := M.2.1 + n - k0) (by omega) (by show M.2.1 - k0 + n ≤ _; omega) ?_) T hT XX
    have h5 := hk.2 H1 locs ls (zH_new (cA := cs o) hwf ht hK1 (fun t n' x' q => by cases q; rfl) hP1 hD1 hS1 hq) hL
    rw [hq]
    exact h5
end ZV
