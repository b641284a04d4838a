def z_text : String := "long short any cut or times costs allows bars if and not place weight as ends meets count day mood weigh to end meet pass done latest scans "
/-- what stands outside the cells: static rows, the script, the text, and words that are no tables' words -/
def zSt (b : Nat) (sa : Nat → Nat) (X : zX) (s : State) : Prop :=
  b ≤ s.heap.size ∧ va_Z "ScansionDesk" "REFUSAL_CODES" "[I" (.ref (sa 0)) (zA b) s s.heap ∧ va_T .int (sa 0) 5 (fun i => .int (z_rcf i)) (zA b) s s.heap ∧
  va_Z "ScansionDesk" "HIGHEST_TERMS" "[I" (.ref (sa 1)) (zA b) s s.heap ∧ va_T .int (sa 1) 3 (fun i => .int (z_htf i)) (zA b) s s.heap ∧
  va_X (sa 2) X.1 X.2 s s.heap ∧ sa 2 < b ∧ vk_R RX9 66 z_text (sa 3) s ∧ vk_S 1 [z_words.length] [z_words.map Int32.ofNat] (fun _ => sa 3) (fun _ => sa 4) (zA b) s s.heap ∧
  (∀ q ∈ z_nests, va_Nw (.methodLinkNest q.1 q.2.1 q.2.2.1 q.2.2.2) s) ∧ va_Nw (.fieldLinkNest RX7 46 "ScansionDesk" "HIGHEST_TERMS" "[I" "ScansionDesk") s ∧
  va_AO "ScansionDesk$Metre" s ∧ va_AO "ScansionDesk$Clauses" s ∧ va_AO "ScansionDesk$State" s ∧ va_Nw (.castable "[I" "java/lang/Cloneable") s ∧
  va_Z "java/lang/String" "COMPACT_STRINGS" "Z" (.int 1) (zA b) s s.heap ∧ va_Zq "jdk/internal/util/Preconditions" "SIOOBE_FORMATTER" "Ljava/util/function/BiFunction;" (zA b) s s.heap
theorem zSt.moved {b : Nat} {sa : Nat → Nat} {X : zX} {s U : State} (h : zSt b sa X s) (hW : s.WarmedH U.vm) (hs : b ≤ U.heap.size) (hq : ∀ a : Nat, a < s.heap.size → ¬ b ≤ a → U.heap[a]? = s.heap[a]?) : zSt b sa X U := by
  obtain ⟨h0, h1, h2, h3, h4, h5, h6, h7, h8, h9, h10, h11, h12, h13, h14, h15, h16⟩ := h
  have hv := hW.alike
  refine ⟨hs, (h1.moved hv).kept hq, (h2.moved hv).kept hq, (h3.moved hv).kept hq, (h4.moved hv).kept hq, (h5.moved hv).kept (hq _ (Nat.lt_of_lt_of_le h6 h0) (Nat.not_le.mpr h6)), h6, h7.warm hW, (h8.moved hv).kept hq, fun q hh => (h9 q hh).warmM hW, h10.warmF hW, h11.moved hv, h12.moved hv, h13.moved hv, h14.warmC hW, (h15.moved hv).kept hq, (h16.moved hv).kept hq⟩
section ZZ
variable {p : Program} {l : Launch} {e : Env} {R : Room} {s : State} {m : MethodId} {args : Array Value} {below : List Frame} {meth : Method} {c : Code} {Q : State → Prop} {D : va_G} {b : Nat} {sa : Nat → Nat} {nL n0 k0 : Nat}
variable {cc : ByteArray} {pc a mi : Nat} {L : zL} {st : List Value} {M : zM} {val : Value} {X : zX} {own : String} {i : Nat}
theorem zs_getstatic0 (hx : p.tables.exec = Jvm.exec) (hb : c.code = cc) (hS0 : zSt b sa X s) (hown : s.vm.findClass own = some m.cls) (hw : (Cond.fieldLink own i "ScansionDesk" "REFUSAL_CODES" "[I").before args s = true) (hd : decode cc pc = .ok (.getstatic i, 3)) (h : zK p l e R s m args below meth c Q D b sa nL n0 k0 (mi, pc + 3, L, .ref 0 :: st, M)) : zW p l e R s m args below meth c Q D b sa nL n0 k0 (mi, pc, L, st, M) := by
  intro H locs ls hH hL
  obtain ⟨hwf, cs, tys, hK, hP, hD, hS, ht⟩ := id hH
  exact va_gets hx hb hS0.2.1 hS hown hw (fun _ q => q) hd (h.2 H locs ls hH hL)
theorem zs_getstatic1 (hx : p.tables.exec = Jvm.exec) (hb : c.code = cc) (hS0 : zSt b sa X s) (hown : s.vm.findClass own = some m.cls) (hw : (Cond.fieldLink own i "ScansionDesk" "HIGHEST_TERMS" "[I").before args s = true) (hd : decode cc pc = .ok (.getstatic i, 3)) (h : zK p l e R s m args below meth c Q D b sa nL n0 k0 (mi, pc + 3, L, .ref 1 :: st, M)) : zW p l e R s m args below meth c Q D b sa nL n0 k0 (mi, pc, L, st, M) := by
  intro H locs ls hH hL
  obtain ⟨hwf, cs, tys, hK, hP, hD, hS, ht⟩ := id hH
  exact va_gets hx hb hS0.2.2.2.1 hS hown hw (fun _ q => q) hd (h.2 H locs ls hH hL)
theorem zs_getstatic2 (hx : p.tables.exec = Jvm.exec) (hb : c.code = cc) (hS0 : zSt b sa X s) (hown : s.vm.findClass RX7 = some m.cls) (hd : decode cc pc = .ok (.getstatic 46, 3)) (h : zK p l e R s m args below meth c Q D b sa nL n0 k0 (mi, pc + 3, L, .ref 1 :: st, M)) : zW p l e R s m args below meth c Q D b sa nL n0 k0 (mi, pc, L, st, M) := by
  intro H locs ls hH hL
  obtain ⟨hwf, cs, tys, hK, hP, hD, hS, ht⟩ := id hH
  exact va_getsN hx hb hS0.2.2.2.1 hS hown (va_Nw.use rfl hS0.2.2.2.2.2.2.2.2.2.2.1) (fun _ q => q) hd (h.2 H locs ls hH hL)
theorem zs_ldcS (hx : p.tables.exec = Jvm.exec) (hb : c.code = cc) (hS0 : zSt b sa X s) (hown : s.vm.findClass RX9 = some m.cls) (hd : decode cc pc = .ok (.ldc 66, 2)) (h : zK p l e R s m args below meth c Q D b sa nL n0 k0 (mi, pc + 2, L, .ref 3 :: st, M)) : zW p l e R s m args below meth c Q D b sa nL n0 k0 (mi, pc, L, st, M) := by
  intro H locs ls hH hL
  exact va_ldcS hx hb hown hS0.2.2.2.2.2.2.2.1 hd (h.2 H locs ls hH hL)
theorem zs_iaload (hx : p.tables.exec = Jvm.exec) (hb : c.code = cc) (hS0 : zSt b sa X s) (hd : decode cc pc = .ok (.iaload, 1)) (h : z_RI False st (fun o i r => z_ald X False M 0 o i (fun x => zK p l e R s m args below meth c Q D b sa nL n0 k0 (mi, pc + 1, L, .int x :: r, M)))) : zW p l e R s m args below meth c Q D b sa nL n0 k0 (mi, pc, L, st, M) := by
  obtain ⟨o, i, r, rfl, h1⟩ := p_RI h
  intro H locs ls hH hL
  obtain ⟨hwf, cs, tys, hK, hP, hD, hS, ht⟩ := id hH
  rcases p_ald h1 with ⟨q, hq, -, hin, h4⟩ | ⟨n, f, h2, h3, h4⟩
  · unfold z_stat at hq
    split at hq
    · cases hq
      exact va_ti hx hb hS0.2.2.1 hS (z_in_vp hin) rfl hd (h4.2 H locs ls hH hL)
    · cases hq
      exact va_ti hx hb hS0.2.2.2.2.1 hS (z_in_vp hin) rfl hd (h4.2 H locs ls hH hL)
    · cases hq
      exact va_sld hx hb hS0.2.2.2.2.2.1 (Nat.lt_of_lt_of_le hS0.2.2.2.2.2.2.1 hS0.1) (Nat.not_le.mpr hS0.2.2.2.2.2.2.1) hS (z_in_vp hin) hd (h4.2 H locs ls hH hL)
    · cases hq
  · obtain ⟨t0, h0⟩ := ht _ _ _ _ h2
    exact va_iald hx hb hK hP (o - 4) t0 (z_ws_get hwf h2) h0 (z_in_vp h3) hd (h4.2 H locs ls hH hL)
theorem zs_baload (hx : p.tables.exec = Jvm.exec) (hb : c.code = cc) (hd : decode cc pc = .ok (.baload, 1)) (h : z_RI False st (fun o i r => z_ald X False M 2 o i (fun x => zK p l e R s m args below meth c Q D b sa nL n0 k0 (mi, pc + 1, L, .int x :: r, M)))) : zW p l e R s m args below meth c Q D b sa nL n0 k0 (mi, pc, L, st, M) := by
  obtain ⟨o, i, r, rfl, h1⟩ := p_RI h
  intro H locs ls hH hL
  obtain ⟨hwf, cs, tys, hK, hP, hD, hS, ht⟩ := id hH
  rcases p_ald h1 with ⟨q, hq, hz, -⟩ | ⟨n, f, h2, h3, h4⟩
  · cases hz
  · obtain ⟨t0, h0⟩ := ht _ _ _ _ h2
    exact va_zald hx hb hK hP (o - 4) t0 (z_ws_get hwf h2) h0 (z_in_vp h3) hd (h4.2 H locs ls hH hL)
theorem zs_arraylength (hx : p.tables.exec = Jvm.exec) (hb : c.code = cc) (hS0 : zSt b sa X s) (hd : decode cc pc = .ok (.arraylength, 1)) (h : z_R1 False st (fun o r => z_len X False M o (fun x => zK p l e R s m args below meth c Q D b sa nL n0 k0 (mi, pc + 1, L, .int x :: r, M)))) : zW p l e R s m args below meth c Q D b sa nL n0 k0 (mi, pc, L, st, M) := by
  obtain ⟨o, r, rfl, h1⟩ := p_R1 h
  intro H locs ls hH hL
  obtain ⟨hwf, cs, tys, hK, hP, hD, hS, ht⟩ := id hH
  rcases p_len h1 with ⟨q, hq, h4⟩ | ⟨t, n, x, h2, h4⟩
  · unfold z_stat at hq
    split at hq
    · cases hq
      exact va_tlen hx hb hS0.2.2.1 hS rfl hd (h4.2 H locs ls hH hL)
    · cases hq
      exact va_tlen hx hb hS0.2.2.2.2.1 hS rfl hd (h4.2 H locs ls hH hL)
    · cases hq
      exact va_slen hx hb hS0.2.2.2.2.2.1 (Nat.lt_of_lt_of_le hS0.2.2.2.2.2.2.1 hS0.1) (Nat.not_le.mpr hS0.2.2.2.2.2.2.1) hS hd (h4.2 H locs ls hH hL)
    · cases hq
  · obtain ⟨t0, h0⟩ := ht _ _ _ _ h2
    exact va_alen hx hb hK hP (o - 4) t0 (z_ws_get hwf h2) h0 rfl hd (h4.2 H locs ls hH hL)
/-- how large the heap is -/
theorem z_up {T : State} {locs : List Loc} {H : Heap} (X : Stand p l e R s m args below meth c T locs (M.1 - n0) (M.2.1 - k0)) (hT : T.heap = H) (hsz : s.heap.size = b + (n0 - 4)) (h4 : 4 ≤ n0) (hB : zB R n0 k0 M) : H.size ≤ b + (M.1 - 4) := by
  have h := X.heapSize
  rw [hT, hsz] at h
  have := hB.1
  omega
theorem z_size {T : State} {locs : List Loc} {H : Heap} (X : Stand p l e R s m args below meth c T locs (M.1 - n0) (M.2.1 - k0)) (hT : T.heap = H) (hsz : s.heap.size = b + (n0 - 4)) (h4 : 4 ≤ n0) (hB : zB R n0 k0 M) (hH : zH D b sa s M H locs) : H.size = b + (M.1 - 4) := by
  have h1 := z_up X hT hsz h4 hB
  obtain ⟨hwf, cs, tys, hK, hP, hD, hS, ht⟩ := hH
  have h2 := hS.1
  by_cases hM : M.1 = 4
  · omega
  · have h3 := hwf.1
    have h5 : (z_ws b sa cs M)[M.1 - 5]? = some (b + (M.1 - 5), z_tc b sa cs M (M.1 - 5 + 4)) := by
      rw [z_ws_at, if_pos (by omega)]
    have h6 : b + (M.1 - 5) < H.size := va_at_lt (hP _ _ h5)
    omega
theorem zs_new (hx : p.tables.exec = Jvm.exec) (hb : c.code = cc) (hts : ∀ w ∈ zG, w.before args s = true) (hown : s.vm.findClass own = some m.cls) (hsz : s.heap.size = b + (n0 - 4)) (h4n : 4 ≤ n0) (hBM : zB R n0 k0 M) (ha : a < 12) (w1 : Cond.classLink own i (z_cl a).1 ∈ zG) (w2 : Cond.instantiable (z_cl a).1 (z_cl a).2.2 ∈ zG) (w3 : Cond.initialized (z_cl a).1 ∈ zG) (hd : decode cc pc = .ok (.new i, 3)) (h : zK p l e R s m args below meth c Q D b sa nL n0 k0 (mi, pc + 3, L, .ref M.1 :: st, z_new M (.inr (a, z_defs a)))) : zW p l e R s m args below meth c Q D b sa nL n0 k0 (mi, pc, L, st, M) := by
  intro H locs ls hH hL
  have hH : zH D b sa s M H locs := hH
  have hL : zLs b sa nL L ls := hL
  dsimp only
  obtain ⟨hwf, cs, tys, hK, hP, hD, hS, ht⟩ := id hH
  obtain ⟨ty, hty, -, hdf, hlen, hmap⟩ := z_cl_ty ha
  have hb1 : M.1 + 1 ≤ n0 + R.cells := h.1.2.2.1
  have hb2 : M.2.1 + z_esz (.inr (a, z_defs a)) ≤ k0 + R.slots := h.1.2.2.2
  have hz : z_esz (.inr (a, z_defs a)) = (z_cl a).2.2 := hlen
  rw [hz] at hb2
  have hn0 := hBM.1
  have hk0 := hBM.2.1
  refine va_new (fs := z_defs a) (T := (z_cl a).2.1) (N := (z_cl a).2.2) hx hb hts (z_cl_ws ha) ty hty hown (hts _ w1) (hts _ w2) (hts _ w3) hK hP hD hS (fun q hq => by show b ≤ q; omega) (z_cl_at ha) hdf (by omega) (by omega) hd (fun q H1 hP1 hD1 hS1 => ?_)
  intro T hT XX
  have hs1 := XX.heapSize
  rw [hT] at hs1
  have hq := z_fresh hwf hP1 hD1 (by omega)
  refine (W.widen (k := (z_new M (.inr (a, z_defs a))).1 - n0) (n := (z_new M (.inr (a, z_defs a))).2.1 - k0) ?_ ?_ ?_) T hT XX
  · show M.1 - n0 + 1 ≤ M.1 + 1 - n0; omega
  · show M.2.1 - k0 + (z_cl a).2.2 ≤ M.2.1 + z_esz (.inr (a, z_defs a)) - k0; rw [hz]; omega
  · have h5 := h.2 H1 locs ls (zH_new (tys := tys) (tys1 := []) (cA := cs 0) hwf ht (by rw [List.append_nil]; exact hK) (fun _ _ _ q => by cases q) (by
      show va_P D vwCl (z_ws b sa cs M ++ [(q, .inr (a, (z_defs a).map (z_tv b sa)))]) H1
      rw [hmap]; exact hP1) (by
      show va_D (zA b) (z_ws b sa cs M ++ [(q, .inr (a, (z_defs a).map (z_tv b sa)))])
      rw [hmap]; exact hD1) hS1 hq) hL
    rw [hq]
    exact h5
theorem zs_newI (hx : p.tables.exec = Jvm.exec) (hb : c.code = cc) (hts : ∀ w ∈ zG, w.before args s = true) (hsz : s.heap.size = b + (n0 - 4)) (h4n : 4 ≤ n0) (hBM : zB R n0 k0 M) (w1 : Cond.arrayClass .int ∈ zG) (hd : decode cc pc = .ok (.newarray .int, 2)) (h : z_I1 False st (fun n r => if 0 ≤ n ∧ n ≤ 100000 then zK p l e R s m args below meth c Q D b sa nL n0 k0 (mi, pc + 2, L, .ref M.1 :: r, z_new M (.inl (0, n.toNatClampNeg, .inl (fun _ => 0)))) else False)) : zW p l e R s m args below meth c Q D b sa nL n0 k0 (mi, pc, L, st, M) := by
  obtain ⟨n, r, rfl, h1⟩ := p_I1 h
  have hc : 0 ≤ n ∧ n ≤ 100000 := Classical.byContradiction fun q => (p_ite h1).2 q
  have h := (p_ite h1).1 hc
  intro H locs ls hH hL
  have hH : zH D b sa s M H locs := hH
  have hL : zLs b sa nL L ls := hL
  dsimp only
  obtain ⟨hwf, cs, tys, hK, hP, hD, hS, ht⟩ := id hH
  have hb1 : M.1 + 1 ≤ n0 + R.cells := h.1.2.2.1
  have hb2 : M.2.1 + n.toNatClampNeg ≤ k0 + R.slots := h.1.2.2.2
  have hn0 := hBM.1
  have hk0 := hBM.2.1
  have hle : n.toNatClampNeg ≤ 100000 := by
    have h1 := Int32.le_iff_toInt_le.mp hc.2
    have h2 : (100000 : Int32).toInt = 100000 := by decide
    rw [h2] at h1
    show n.toInt.toNat ≤ 100000
    omega
  refine va_newa (atype := .int) (ty := .int) (a0 := (n.toNatClampNeg, .inl (fun _ => 0))) hx hb (hts _ w1) rfl hK hP hD hS (fun q hq => by show b ≤ q; omega) (fun _ => rfl) (Int32.not_lt.mpr hc.1) rfl (by show n.toNatClampNeg * 4 ≤ 536870912; omega) (by omega) (by omega) hd (fun q cA H1 hK1 hP1 hD1 hS1 => ?_)
  intro T hT XX
  have hs1 := XX.heapSize
  rw [hT] at hs1
  have hq := z_fresh hwf hP1 hD1 (by omega)
  refine (W.widen (k := M.1 + 1 - n0) (n := M.2.1 + n.toNatClampNeg - k0) (by omega) (by omega) ?_) T hT XX
  have h5 := h.2 H1 locs ls (zH_new (cA := cA) hwf ht hK1 (fun t n' x' q => by cases q; rfl) hP1 hD1 hS1 hq) hL
  rw [hq]
  exact h5
theorem zs_newZ (hx : p.tables.exec = Jvm.exec) (hb : c.code = cc) (hts : ∀ w ∈ zG, w.before args s = true) (hsz : s.heap.size = b + (n0 - 4)) (h4n : 4 ≤ n0) (hBM : zB R n0 k0 M) (w1 : Cond.arrayClass .boolean ∈ zG) (hd : decode cc pc = .ok (.newarray .boolean, 2)) (h : z_I1 False st (fun n r => if 0 ≤ n ∧ n ≤ 100000 then zK p l e R s m args below meth c Q D b sa nL n0 k0 (mi, pc + 2, L, .ref M.1 :: r, z_new M (.inl (2, n.toNatClampNeg, .inl (fun _ => 0)))) else False)) : zW p l e R s m args below meth c Q D b sa nL n0 k0 (mi, pc, L, st, M) := by
  obtain ⟨n, r, rfl, h1⟩ := p_I1 h
  have hc : 0 ≤ n ∧ n ≤ 100000 := Classical.byContradiction fun q => (p_ite h1).2 q
  have h := (p_ite h1).1 hc
  intro H locs ls hH hL
  have hH : zH D b sa s M H locs := hH
  have hL : zLs b sa nL L ls := hL
  dsimp only
  obtain ⟨hwf, cs, tys, hK, hP, hD, hS, ht⟩ := id hH
  have hb1 : M.1 + 1 ≤ n0 + R.cells := h.1.2.2.1
  have hb2 : M.2.1 + n.toNatClampNeg ≤ k0 + R.slots := h.1.2.2.2
  have hn0 := hBM.1
  have hk0 := hBM.2.1
  have hle : n.toNatClampNeg ≤ 100000 := by
    have h1 := Int32.le_iff_toInt_le.mp hc.2
    have h2 : (100000 : Int32).toInt = 100000 := by decide
    rw [h2] at h1
    show n.toInt.toNat ≤ 100000
    omega
  refine va_newa (atype := .boolean) (ty := .boolean) (a0 := (n.toNatClampNeg, .inl (fun _ => 0))) hx hb (hts _ w1) rfl hK hP hD hS (fun q hq => by show b ≤ q; omega) (fun _ => rfl) (Int32.not_lt.mpr hc.1) rfl (by show n.toNatClampNeg * 1 ≤ 536870912; omega) (by omega) (by omega) hd (fun q cA H1 hK1 hP1 hD1 hS1 => ?_)
  intro T hT XX
  have hs1 := XX.heapSize
  rw [hT] at hs1
  have hq := z_fresh hwf hP1 hD1 (by omega)
  refine (W.widen (k := M.1 + 1 - n0) (n := M.2.1 + n.toNatClampNeg - k0) (by omega) (by omega) ?_) T hT XX
  have h5 := h.2 H1 locs ls (zH_new (cA := cA) hwf ht hK1 (fun t n' x' q => by cases q; rfl) hP1 hD1 hS1 hq) hL
  rw [hq]
  exact h5
theorem zs_newJ (hx : p.tables.exec = Jvm.exec) (hb : c.code = cc) (hts : ∀ w ∈ zG, w.before args s = true) (hsz : s.heap.size = b + (n0 - 4)) (h4n : 4 ≤ n0) (hBM : zB R n0 k0 M) (w1 : Cond.arrayClass .long ∈ zG) (hd : decode cc pc = .ok (.newarray .long, 2)) (h : z_I1 False st (fun n r => if 0 ≤ n ∧ n ≤ 100000 then zK p l e R s m args below meth c Q D b sa nL n0 k0 (mi, pc + 2, L, .ref M.1 :: r, z_new M (.inl (1, n.toNatClampNeg, .inr (.inl (fun _ => 0))))) else False)) : zW p l e R s m args below meth c Q D b sa nL n0 k0 (mi, pc, L, st, M) := by
  obtain ⟨n, r, rfl, h1⟩ := p_I1 h
  have hc : 0 ≤ n ∧ n ≤ 100000 := Classical.byContradiction fun q => (p_ite h1).2 q
  have h := (p_ite h1).1 hc
  intro H locs ls hH hL
  have hH : zH D b sa s M H locs := hH
  have hL : zLs b sa nL L ls := hL
  dsimp only
  obtain ⟨hwf, cs, tys, hK, hP, hD, hS, ht⟩ := id hH
  have hb1 : M.1 + 1 ≤ n0 + R.cells := h.1.2.2.1
  have hb2 : M.2.1 + n.toNatClampNeg ≤ k0 + R.slots := h.1.2.2.2
  have hn0 := hBM.1
  have hk0 := hBM.2.1
  have hle : n.toNatClampNeg ≤ 100000 := by
    have h1 := Int32.le_iff_toInt_le.mp hc.2
    have h2 : (100000 : Int32).toInt = 100000 := by decide
    rw [h2] at h1
    show n.toInt.toNat ≤ 100000
    omega
  refine va_newa (atype := .long) (ty := .long) (a0 := (n.toNatClampNeg, .inr (.inl (fun _ => 0)))) hx hb (hts _ w1) rfl hK hP hD hS (fun q hq => by show b ≤ q; omega) (fun _ => rfl) (Int32.not_lt.mpr hc.1) rfl (by show n.toNatClampNeg * 8 ≤ 536870912; omega) (by omega) (by omega) hd (fun q cA H1 hK1 hP1 hD1 hS1 => ?_)
  intro T hT XX
  have hs1 := XX.heapSize
  rw [hT] at hs1
  have hq := z_fresh hwf hP1 hD1 (by omega)
  refine (W.widen (k := M.1 + 1 - n0) (n := M.2.1 + n.toNatClampNeg - k0) (by omega) (by omega) ?_) T hT XX
  have h5 := h.2 H1 locs ls (zH_new (cA := cA) hwf ht hK1 (fun t n' x' q => by cases q; rfl) hP1 hD1 hS1 hq) hL
  rw [hq]
  exact h5
theorem zs_anew (hx : p.tables.exec = Jvm.exec) (hb : c.code = cc) (hts : ∀ w ∈ zG, w.before args s = true) (hS0 : zSt b sa X s) (hown : s.vm.findClass own = some m.cls) (hsz : s.heap.size = b + (n0 - 4)) (h4n : 4 ≤ n0) (hBM : zB R n0 k0 M) (ha3 : 3 ≤ a) (ha6 : a < 6) (w1 : Cond.classLink own i (z_cl (z_elem a)).1 ∈ zG) (hd : decode cc pc = .ok (.anewarray i, 3)) (h : z_I1 False st (fun n r => if 0 ≤ n ∧ n ≤ 100000 then zK p l e R s m args below meth c Q D b sa nL n0 k0 (mi, pc + 3, L, .ref M.1 :: r, z_new M (.inl (a, n.toNatClampNeg, .inr (.inr (.inr (.inr (fun _ => none))))))) else False)) : zW p l e R s m args below meth c Q D b sa nL n0 k0 (mi, pc, L, st, M) := by
  obtain ⟨n, r, rfl, h1⟩ := p_I1 h
  have hc : 0 ≤ n ∧ n ≤ 100000 := Classical.byContradiction fun q => (p_ite h1).2 q
  have h := (p_ite h1).1 hc
  intro H locs ls hH hL
  have hH : zH D b sa s M H locs := hH
  have hL : zLs b sa nL L ls := hL
  dsimp only
  obtain ⟨hwf, cs, tys, hK, hP, hD, hS, ht⟩ := id hH
  have hb1 : M.1 + 1 ≤ n0 + R.cells := h.1.2.2.1
  have hb2 : M.2.1 + n.toNatClampNeg ≤ k0 + R.slots := h.1.2.2.2
  have hn0 := hBM.1
  have hk0 := hBM.2.1
  have hle : n.toNatClampNeg ≤ 100000 := by
    have h1 := Int32.le_iff_toInt_le.mp hc.2
    have h2 : (100000 : Int32).toInt = 100000 := by decide
    rw [h2] at h1
    show n.toInt.toNat ≤ 100000
    omega
  have hty : z_fty a = .object (z_cl (z_elem a)).1 ∧ va_AO (z_cl (z_elem a)).1 s := by
    rcases (show a = 3 ∨ a = 4 ∨ a = 5 by omega) with rfl | rfl | rfl
    · exact ⟨rfl, hS0.2.2.2.2.2.2.2.2.2.2.2.1⟩
    · exact ⟨rfl, hS0.2.2.2.2.2.2.2.2.2.2.2.2.1⟩
    · exact ⟨rfl, hS0.2.2.2.2.2.2.2.2.2.2.2.2.2.1⟩
  refine va_newq hx hb hown (hts _ w1) hty.2 hK hP hD hS (fun q hq => by show b ≤ q; omega) (Int32.not_lt.mpr hc.1) rfl (by omega) (by omega) (by omega) hd (fun q cA H1 hK1 hP1 hD1 hS1 => ?_)
  intro T hT XX
  have hs1 := XX.heapSize
  rw [hT] at hs1
  have hq := z_fresh hwf hP1 hD1 (by omega)
  refine (W.widen (k := M.1 + 1 - n0) (n := M.2.1 + n.toNatClampNeg - k0) (by omega) (by omega) ?_) T hT XX
  have h5 := h.2 H1 locs ls (zH_new (cA := cA) hwf ht hK1 (fun t n' x' q => by cases q; rw [hty.1]) hP1 hD1 hS1 hq) hL
  rw [hq]
  exact h5
end ZZ
