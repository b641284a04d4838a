theorem dJ0_length_8abf5_0 : decode cJ0_length_8abf5 0 = .ok (.aload_n 0, 1) := by decide +kernel
theorem dJ0_length_8abf5_1 : decode cJ0_length_8abf5 1 = .ok (.getfield 9, 3) := by decide +kernel
theorem dJ0_length_8abf5_4 : decode cJ0_length_8abf5 4 = .ok (.arraylength, 1) := by decide +kernel
theorem dJ0_length_8abf5_5 : decode cJ0_length_8abf5 5 = .ok (.aload_n 0, 1) := by decide +kernel
theorem dJ0_length_8abf5_6 : decode cJ0_length_8abf5 6 = .ok (.invokevirtual 335, 3) := by decide +kernel
theorem dJ0_length_8abf5_9 : decode cJ0_length_8abf5 9 = .ok (.ishr, 1) := by decide +kernel
theorem dJ0_length_8abf5_10 : decode cJ0_length_8abf5 10 = .ok (.ireturn, 1) := by decide +kernel
theorem dJ0_charAt_5068e_0 : decode cJ0_charAt_5068e 0 = .ok (.aload_n 0, 1) := by decide +kernel
theorem dJ0_charAt_5068e_1 : decode cJ0_charAt_5068e 1 = .ok (.invokevirtual 492, 3) := by decide +kernel
theorem dJ0_charAt_5068e_4 : decode cJ0_charAt_5068e 4 = .ok (.ifCond .eq 12, 3) := by decide +kernel
theorem dJ0_charAt_5068e_7 : decode cJ0_charAt_5068e 7 = .ok (.aload_n 0, 1) := by decide +kernel
theorem dJ0_charAt_5068e_8 : decode cJ0_charAt_5068e 8 = .ok (.getfield 9, 3) := by decide +kernel
theorem dJ0_charAt_5068e_11 : decode cJ0_charAt_5068e 11 = .ok (.iload_n 1, 1) := by decide +kernel
theorem dJ0_charAt_5068e_12 : decode cJ0_charAt_5068e 12 = .ok (.invokestatic 495, 3) := by decide +kernel
theorem dJ0_charAt_5068e_15 : decode cJ0_charAt_5068e 15 = .ok (.ireturn, 1) := by decide +kernel
theorem dJ0_charAt_5068e_16 : decode cJ0_charAt_5068e 16 = .ok (.aload_n 0, 1) := by decide +kernel
theorem dJ0_charAt_5068e_17 : decode cJ0_charAt_5068e 17 = .ok (.getfield 9, 3) := by decide +kernel
theorem dJ0_charAt_5068e_20 : decode cJ0_charAt_5068e 20 = .ok (.iload_n 1, 1) := by decide +kernel
theorem dJ0_charAt_5068e_21 : decode cJ0_charAt_5068e 21 = .ok (.invokestatic 498, 3) := by decide +kernel
theorem dJ0_charAt_5068e_24 : decode cJ0_charAt_5068e 24 = .ok (.ireturn, 1) := by decide +kernel
theorem dJ0_coder_7d493_0 : decode cJ0_coder_7d493 0 = .ok (.getstatic 38, 3) := by decide +kernel
theorem dJ0_coder_7d493_3 : decode cJ0_coder_7d493 3 = .ok (.ifCond .eq 10, 3) := by decide +kernel
theorem dJ0_coder_7d493_6 : decode cJ0_coder_7d493 6 = .ok (.aload_n 0, 1) := by decide +kernel
theorem dJ0_coder_7d493_7 : decode cJ0_coder_7d493 7 = .ok (.getfield 15, 3) := by decide +kernel
theorem dJ0_coder_7d493_10 : decode cJ0_coder_7d493 10 = .ok (.goto 4, 3) := by decide +kernel
theorem dJ0_coder_7d493_13 : decode cJ0_coder_7d493 13 = .ok (.iconst 1, 1) := by decide +kernel
theorem dJ0_coder_7d493_14 : decode cJ0_coder_7d493 14 = .ok (.ireturn, 1) := by decide +kernel
theorem dJ0_isLatin1_aae02_0 : decode cJ0_isLatin1_aae02 0 = .ok (.getstatic 38, 3) := by decide +kernel
theorem dJ0_isLatin1_aae02_3 : decode cJ0_isLatin1_aae02 3 = .ok (.ifCond .eq 14, 3) := by decide +kernel
theorem dJ0_isLatin1_aae02_6 : decode cJ0_isLatin1_aae02 6 = .ok (.aload_n 0, 1) := by decide +kernel
theorem dJ0_isLatin1_aae02_7 : decode cJ0_isLatin1_aae02 7 = .ok (.getfield 15, 3) := by decide +kernel
theorem dJ0_isLatin1_aae02_10 : decode cJ0_isLatin1_aae02 10 = .ok (.ifCond .ne 7, 3) := by decide +kernel
theorem dJ0_isLatin1_aae02_13 : decode cJ0_isLatin1_aae02 13 = .ok (.iconst 1, 1) := by decide +kernel
theorem dJ0_isLatin1_aae02_14 : decode cJ0_isLatin1_aae02 14 = .ok (.goto 4, 3) := by decide +kernel
theorem dJ0_isLatin1_aae02_17 : decode cJ0_isLatin1_aae02 17 = .ok (.iconst 0, 1) := by decide +kernel
theorem dJ0_isLatin1_aae02_18 : decode cJ0_isLatin1_aae02 18 = .ok (.ireturn, 1) := by decide +kernel
theorem dJ0_checkIndex_df160_0 : decode cJ0_checkIndex_df160 0 = .ok (.iload_n 0, 1) := by decide +kernel
theorem dJ0_checkIndex_df160_1 : decode cJ0_checkIndex_df160 1 = .ok (.iload_n 1, 1) := by decide +kernel
theorem dJ0_checkIndex_df160_2 : decode cJ0_checkIndex_df160 2 = .ok (.getstatic 1053, 3) := by decide +kernel
theorem dJ0_checkIndex_df160_5 : decode cJ0_checkIndex_df160 5 = .ok (.invokestatic 1059, 3) := by decide +kernel
theorem dJ0_checkIndex_df160_8 : decode cJ0_checkIndex_df160 8 = .ok (.pop, 1) := by decide +kernel
theorem dJ0_checkIndex_df160_9 : decode cJ0_checkIndex_df160 9 = .ok (.return_, 1) := by decide +kernel
theorem dJ1_charAt_3b067_0 : decode cJ1_charAt_3b067 0 = .ok (.iload_n 1, 1) := by decide +kernel
theorem dJ1_charAt_3b067_1 : decode cJ1_charAt_3b067 1 = .ok (.aload_n 0, 1) := by decide +kernel
theorem dJ1_charAt_3b067_2 : decode cJ1_charAt_3b067 2 = .ok (.arraylength, 1) := by decide +kernel
theorem dJ1_charAt_3b067_3 : decode cJ1_charAt_3b067 3 = .ok (.invokestatic 9, 3) := by decide +kernel
theorem dJ1_charAt_3b067_6 : decode cJ1_charAt_3b067 6 = .ok (.aload_n 0, 1) := by decide +kernel
theorem dJ1_charAt_3b067_7 : decode cJ1_charAt_3b067 7 = .ok (.iload_n 1, 1) := by decide +kernel
theorem dJ1_charAt_3b067_8 : decode cJ1_charAt_3b067 8 = .ok (.baload, 1) := by decide +kernel
theorem dJ1_charAt_3b067_9 : decode cJ1_charAt_3b067 9 = .ok (.sipush 255, 3) := by decide +kernel
theorem dJ1_charAt_3b067_12 : decode cJ1_charAt_3b067 12 = .ok (.iand, 1) := by decide +kernel
theorem dJ1_charAt_3b067_13 : decode cJ1_charAt_3b067 13 = .ok (.i2c, 1) := by decide +kernel
theorem dJ1_charAt_3b067_14 : decode cJ1_charAt_3b067 14 = .ok (.ireturn, 1) := by decide +kernel
theorem dJ3_checkIndex_8e157_0 : decode cJ3_checkIndex_8e157 0 = .ok (.iload_n 0, 1) := by decide +kernel
theorem dJ3_checkIndex_8e157_1 : decode cJ3_checkIndex_8e157 1 = .ok (.ifCond .lt 8, 3) := by decide +kernel
theorem dJ3_checkIndex_8e157_4 : decode cJ3_checkIndex_8e157 4 = .ok (.iload_n 0, 1) := by decide +kernel
theorem dJ3_checkIndex_8e157_5 : decode cJ3_checkIndex_8e157 5 = .ok (.iload_n 1, 1) := by decide +kernel
theorem dJ3_checkIndex_8e157_6 : decode cJ3_checkIndex_8e157 6 = .ok (.if_icmp .lt 10, 3) := by decide +kernel
theorem dJ3_checkIndex_8e157_9 : decode cJ3_checkIndex_8e157 9 = .ok (.aload_n 2, 1) := by decide +kernel
theorem dJ3_checkIndex_8e157_10 : decode cJ3_checkIndex_8e157 10 = .ok (.iload_n 0, 1) := by decide +kernel
theorem dJ3_checkIndex_8e157_11 : decode cJ3_checkIndex_8e157 11 = .ok (.iload_n 1, 1) := by decide +kernel
theorem dJ3_checkIndex_8e157_12 : decode cJ3_checkIndex_8e157 12 = .ok (.invokestatic 95, 3) := by decide +kernel
theorem dJ3_checkIndex_8e157_15 : decode cJ3_checkIndex_8e157 15 = .ok (.athrow, 1) := by decide +kernel
theorem dJ3_checkIndex_8e157_16 : decode cJ3_checkIndex_8e157 16 = .ok (.iload_n 0, 1) := by decide +kernel
theorem dJ3_checkIndex_8e157_17 : decode cJ3_checkIndex_8e157 17 = .ok (.ireturn, 1) := by decide +kernel
/-! the text's length() and charAt(): the JDK's own code, over a text that stands outside the cells -/
def zsr (k : Nat) : Room := { frames := k, cells := 0, slots := 0, locals := 32 * k }
def zsP (b : Nat) (sa : Nat → Nat) (X : zX) (as : List Value) : Array Value → State → Prop := fun a U => a = as.toArray ∧ zSt b sa X U
def zsQ (v : Option Value) : Array Value → State → Outcome → State → Prop := fun _ st o t => o = .returned v ∧ t.heap = st.heap
def zsM (l : Launch) (b : Nat) (sa : Nat → Nat) (X : zX) (k : Nat) (y : MethodName) (cc : ByteArray) (ml : Nat) (ret : Option FieldType) (as : List Value) (v : Option Value) : Prop := Met l y (Cond.code y cc ml ret :: zG) (zsr k) (zsP b sa X as) (zsQ v) 0 0 (zA b)
section ZSTR
variable {p : Program} {l : Launch} {e : Env} {R : Room} {s : State} {m : MethodId} {args : Array Value} {below : List Frame} {meth : Method} {c : Code} {Q : State → Prop} {D : va_G} {b : Nat} {sa : Nat → Nat} {nL n0 k0 : Nat}
variable {cc cc' : ByteArray} {pc k ml n i cells slots : Nat} {X : zX} {own : String} {H : Heap} {locs : List Loc} {ls : Array Slot} {y : MethodName} {ret : Option FieldType} {As rest : List Value} {v : Option Value}
theorem zsP_blind : FrameBlind (zsP b sa X As) := by
  intro a U g mk h
  obtain ⟨h1, h4⟩ := h
  exact ⟨h1, h4.moved (U := U.calling g mk a) (State.WarmedH.refl U) h4.1 (fun _ _ _ => rfl)⟩
theorem zsP_at (hS0 : zSt b sa X s) (hS : va_S (zA b) s.heap H locs) : ∀ U : State, U.heap = H → s.WarmedH U.vm → zsP b sa X As As.toArray U := by
  intro U hU hW
  exact ⟨rfl, hS0.moved hW (by rw [hU]; exact Nat.le_trans hS0.1 hS.1) (fun q h1 h2 => by rw [hU]; exact hS.2.1 q h1 h2)⟩
theorem zs_after {st0 : List Value} {arr : Array Value} (hr : va_Run p l e R s m args below meth c H locs cells slots 0 0 (F0 m pc ls st0) rest (zsQ v arr) (zA b)) (hk : ∀ locs1 : List Loc, va_S (zA b) s.heap H locs1 → W p l e R s m args below meth c H locs1 cells slots Q (F0 m (pc + 3) ls (v.toList ++ rest))) (hS : va_S (zA b) s.heap H locs) : W p l e R s m args below meth c H locs cells slots Q (F0 m pc ls st0) := by
  intro T hT XT
  obtain ⟨v1, s0, t, T', L1, e0, X', hf, e1, e2, ⟨o1, o2⟩, go⟩ := hr T hT XT
  have hv1 : v1 = v := by cases o1; rfl
  subst hv1
  have hTH : T'.heap = H := by rw [e1, o2, e0]
  obtain ⟨t2, a1, b1⟩ := hk (locs ++ L1) ⟨hS.1, hS.2.1, fun q hq => (List.mem_append.mp hq).elim (hS.2.2 q) (hf q)⟩ T' hTH X'
  exact ⟨t2, go t2 a1, b1⟩
theorem zs_cS (hx : p.tables.exec = Jvm.exec) (hb : c.code = cc) (hml : c.maxLocals = ls.size) (hts : ∀ w ∈ zG, w.before args s = true) (hS0 : zSt b sa X s) (hS : va_S (zA b) s.heap H locs) (hown : s.vm.findClass own = some m.cls) (hM : zsM l b sa X k y cc' ml ret As v) (w0 : Cond.code y cc' ml ret ∈ zG) (w1 : Cond.methodLink own i y ∈ zG) (w2 : Cond.initialized y.cls ∈ zG) (w3 : Cond.static y ∈ zG) (hy : y.cls ≠ "java/lang/invoke/MethodHandle" ∧ y.cls ≠ "java/lang/invoke/VarHandle" ∧ (parseMethodDescriptor y.desc).map (fun d => d.parameters.length) = some n) (hn : As.length = n) (hr1 : k + 1 ≤ R.frames) (hr2 : 8 + (ml + 11) + 32 * k ≤ R.locals) (hc : cells ≤ R.cells) (hsl : slots ≤ R.slots) (h8 : (rest.map fun v => v.category).sum ≤ 8) (hd : decode cc pc = .ok (.invokestatic i, 3))
    (hk : ∀ locs1 : List Loc, va_S (zA b) s.heap H locs1 → W p l e R s m args below meth c H locs1 cells slots Q (F0 m (pc + 3) ls (v.toList ++ rest))) : W p l e R s m args below meth c H locs cells slots Q (F0 m pc ls (As.reverse ++ rest)) :=
  zs_after (va_runS (own := own) (index := i) (As := As) (n := n) ⟨hx, hb, hml, hown, hts⟩ hM ⟨callB_of (Ts := zG) (ws' := zG) n hts (fun w hw => (List.mem_cons.mp hw).elim (fun q => q ▸ z_goodG _ w0) (z_goodG w)) rfl rfl rfl (hts _ w2) (hts _ w1) hy ⟨hr1, hr2⟩, hts _ w3⟩ ⟨zsP_blind, zsP_at hS0 hS⟩ rfl hn rfl rfl (lv_room h8) hd ⟨hc, hsl⟩) hk hS
theorem zs_cV (hx : p.tables.exec = Jvm.exec) (hb : c.code = cc) (hml : c.maxLocals = ls.size) (hts : ∀ w ∈ zG, w.before args s = true) (hS0 : zSt b sa X s) (hS : va_S (zA b) s.heap H locs) (hown : s.vm.findClass own = some m.cls) (hM : zsM l b sa X k y cc' ml ret (.ref (sa 3) :: As) v) (hcl : y.cls = RJ0) (w0 : Cond.code y cc' ml ret ∈ zG) (w1 : Cond.methodLink own i y ∈ zG) (w2 : Cond.initialized y.cls ∈ zG) (w3 : Cond.instanceMethod y ∈ zG) (w4 : Cond.selects RJ0 y y ∈ zG) (hy : y.cls ≠ "java/lang/invoke/MethodHandle" ∧ y.cls ≠ "java/lang/invoke/VarHandle" ∧ (parseMethodDescriptor y.desc).map (fun d => d.parameters.length) = some n) (hn : As.length = n) (hr1 : k + 1 ≤ R.frames) (hr2 : 8 + (ml + 11) + 32 * k ≤ R.locals) (hc : cells ≤ R.cells) (hsl : slots ≤ R.slots) (h8 : (rest.map fun v => v.category).sum ≤ 8) (hd : decode cc pc = .ok (.invokevirtual i, 3))
    (hk : ∀ locs1 : List Loc, va_S (zA b) s.heap H locs1 → W p l e R s m args below meth c H locs1 cells slots Q (F0 m (pc + 3) ls (v.toList ++ rest))) : W p l e R s m args below meth c H locs cells slots Q (F0 m pc ls (As.reverse ++ .ref (sa 3) :: rest)) := by
  have hvS := hS0.2.2.2.2.2.2.2.2.1
  exact zs_after (va_runV (own := own) (C := RJ0) (index := i) (b := sa 3) (As := As) (n := n) ⟨hx, hb, hml, hown, hts⟩ hM ⟨callB_of (Ts := zG) (ws' := zG) n hts (fun w hw => (List.mem_cons.mp hw).elim (fun q => q ▸ z_goodG _ w0) (z_goodG w)) rfl rfl rfl (hts _ w2) (hts _ w1) hy ⟨hr1, hr2⟩, hts _ w3, hts _ w4⟩ ⟨zsP_blind, vk_recv hvS (i := 0) (by omega) hS, zsP_at (As := .ref (sa 3) :: As) hS0 hS⟩ rfl hn rfl rfl (lv_room h8) hd ⟨hc, hsl⟩) hk hS
end ZSTR
theorem zsm_coder (l : Launch) (b : Nat) (sa : Nat → Nat) (X : zX) : zsM l b sa X 0 yJ0_coder_7d493 cJ0_coder_7d493 1 (some .byte) [.ref (sa 3)] (some (.int 0)) := by
  refine va_MetF (cc := cJ0_coder_7d493) (maxL := 1) (ret := (some .byte)) (by decide +kernel) rfl ?_
  intro p e s m args below meth c s₁ B hml hv
  obtain ⟨rfl, hS0⟩ := hv
  have hx := B.exec
  have hb := B.bytes
  have hr := B.returns
  have hlocks := B.notSynchronized
  have hts0 := atoms_spec (ws := Cond.code yJ0_coder_7d493 cJ0_coder_7d493 1 (some .byte) :: zG) B.pre
  have hts : ∀ w ∈ zG, w.before ([.ref (sa 3)] : List Value).toArray s = true := fun w hw => hts0 w (List.mem_cons_of_mem _ hw)
  have hown : s.vm.findClass RJ0 = some m.cls := findClass_of_methodNamed B.named
  have hS : va_S (zA b) s.heap s.heap [] := va_S.rf
  have hl := lv_entry ([.ref (sa 3)] : List Value) (n := 1) (Nat.le_of_ble_eq_true rfl)
  rw [lg_entry_eq]
  generalize (lg_sl ([.ref (sa 3)] : List Value) ++ List.replicate (1 - (lg_sl ([.ref (sa 3)] : List Value)).length) Slot.unset).toArray = ls at hl ⊢
  have hls : c.maxLocals = ls.size := by rw [hml, hl.1]
  have hvS := hS0.2.2.2.2.2.2.2.2.1
  obtain ⟨hO, hco, hva, hvT⟩ := hvS.1 0 (by omega)
  have hq : ∀ v : Option Value, ∀ t : State, t.heap = s.heap → s.WarmedH t.vm → zsQ v ([.ref (sa 3)] : List Value).toArray s (.returned v) t := fun _ t h _ => ⟨rfl, h⟩
  refine va_gets hx hb hS0.2.2.2.2.2.2.2.2.2.2.2.2.2.2.2.1 hS hown (hts _ (zw_in (n := 2005) rfl)) (fun _ q => q) dJ0_coder_7d493_0 ?_
  refine lv_if_eq (tgt := 13) hx hb dJ0_coder_7d493_3 (by decide) (fun q => absurd q (by decide)) (fun _ => ?_)
  refine lv_aload_n hx hb dJ0_coder_7d493_6 rfl (lv_at hl 0 rfl) ?_
  refine vk_getf hx hb hco hS hown (hts _ (zw_in (n := 2006) rfl)) (fun _ q => q) dJ0_coder_7d493_7 ?_
  refine lv_goto (tgt := 14) hx hb dJ0_coder_7d493_10 (by decide) ?_
  exact W.zret hx hb hr rfl (hq _) (fun q hq => by cases hq) dJ0_coder_7d493_14 hlocks
theorem zsm_isLatin1 (l : Launch) (b : Nat) (sa : Nat → Nat) (X : zX) : zsM l b sa X 0 yJ0_isLatin1_aae02 cJ0_isLatin1_aae02 1 (some .boolean) [.ref (sa 3)] (some (.int 1)) := by
  refine va_MetF (cc := cJ0_isLatin1_aae02) (maxL := 1) (ret := (some .boolean)) (by decide +kernel) rfl ?_
  intro p e s m args below meth c s₁ B hml hv
  obtain ⟨rfl, hS0⟩ := hv
  have hx := B.exec
  have hb := B.bytes
  have hr := B.returns
  have hlocks := B.notSynchronized
  have hts0 := atoms_spec (ws := Cond.code yJ0_isLatin1_aae02 cJ0_isLatin1_aae02 1 (some .boolean) :: zG) B.pre
  have hts : ∀ w ∈ zG, w.before ([.ref (sa 3)] : List Value).toArray s = true := fun w hw => hts0 w (List.mem_cons_of_mem _ hw)
  have hown : s.vm.findClass RJ0 = some m.cls := findClass_of_methodNamed B.named
  have hS : va_S (zA b) s.heap s.heap [] := va_S.rf
  have hl := lv_entry ([.ref (sa 3)] : List Value) (n := 1) (Nat.le_of_ble_eq_true rfl)
  rw [lg_entry_eq]
  generalize (lg_sl ([.ref (sa 3)] : List Value) ++ List.replicate (1 - (lg_sl ([.ref (sa 3)] : List Value)).length) Slot.unset).toArray = ls at hl ⊢
  have hls : c.maxLocals = ls.size := by rw [hml, hl.1]
  have hvS := hS0.2.2.2.2.2.2.2.2.1
  obtain ⟨hO, hco, hva, hvT⟩ := hvS.1 0 (by omega)
  have hq : ∀ v : Option Value, ∀ t : State, t.heap = s.heap → s.WarmedH t.vm → zsQ v ([.ref (sa 3)] : List Value).toArray s (.returned v) t := fun _ t h _ => ⟨rfl, h⟩
  refine va_gets hx hb hS0.2.2.2.2.2.2.2.2.2.2.2.2.2.2.2.1 hS hown (hts _ (zw_in (n := 2005) rfl)) (fun _ q => q) dJ0_isLatin1_aae02_0 ?_
  refine lv_if_eq (tgt := 17) hx hb dJ0_isLatin1_aae02_3 (by decide) (fun q => absurd q (by decide)) (fun _ => ?_)
  refine lv_aload_n hx hb dJ0_isLatin1_aae02_6 rfl (lv_at hl 0 rfl) ?_
  refine vk_getf hx hb hco hS hown (hts _ (zw_in (n := 2006) rfl)) (fun _ q => q) dJ0_isLatin1_aae02_7 ?_
  refine lv_if_ne (tgt := 17) hx hb dJ0_isLatin1_aae02_10 (by decide) (fun q => absurd rfl q) (fun _ => ?_)
  refine lv_iconst (v := 1) hx hb dJ0_isLatin1_aae02_13 (by decide) ?_
  refine lv_goto (tgt := 18) hx hb dJ0_isLatin1_aae02_14 (by decide) ?_
  exact W.zret hx hb hr rfl (hq _) (fun q hq => by cases hq) dJ0_isLatin1_aae02_18 hlocks
theorem zsm_length (l : Launch) (b : Nat) (sa : Nat → Nat) (X : zX) : zsM l b sa X 1 yJ0_length_8abf5 cJ0_length_8abf5 1 (some .int) [.ref (sa 3)] (some (.int 140)) := by
  refine va_MetF (cc := cJ0_length_8abf5) (maxL := 1) (ret := (some .int)) (by decide +kernel) rfl ?_
  intro p e s m args below meth c s₁ B hml hv
  obtain ⟨rfl, hS0⟩ := hv
  have hx := B.exec
  have hb := B.bytes
  have hr := B.returns
  have hlocks := B.notSynchronized
  have hts0 := atoms_spec (ws := Cond.code yJ0_length_8abf5 cJ0_length_8abf5 1 (some .int) :: zG) B.pre
  have hts : ∀ w ∈ zG, w.before ([.ref (sa 3)] : List Value).toArray s = true := fun w hw => hts0 w (List.mem_cons_of_mem _ hw)
  have hown : s.vm.findClass RJ0 = some m.cls := findClass_of_methodNamed B.named
  have hS : va_S (zA b) s.heap s.heap [] := va_S.rf
  have hl := lv_entry ([.ref (sa 3)] : List Value) (n := 1) (Nat.le_of_ble_eq_true rfl)
  rw [lg_entry_eq]
  generalize (lg_sl ([.ref (sa 3)] : List Value) ++ List.replicate (1 - (lg_sl ([.ref (sa 3)] : List Value)).length) Slot.unset).toArray = ls at hl ⊢
  have hls : c.maxLocals = ls.size := by rw [hml, hl.1]
  have hvS := hS0.2.2.2.2.2.2.2.2.1
  obtain ⟨hO, hco, hva, hvT⟩ := hvS.1 0 (by omega)
  have hq : ∀ v : Option Value, ∀ t : State, t.heap = s.heap → s.WarmedH t.vm → zsQ v ([.ref (sa 3)] : List Value).toArray s (.returned v) t := fun _ t h _ => ⟨rfl, h⟩
  refine lv_aload_n hx hb dJ0_length_8abf5_0 rfl (lv_at hl 0 rfl) ?_
  refine vk_getf hx hb hva hS hown (hts _ (zw_in (n := 2000) rfl)) (fun _ q => q) dJ0_length_8abf5_1 ?_
  refine va_tlen (v := 140) hx hb hvT hS (by decide +kernel) dJ0_length_8abf5_4 ?_
  refine lv_aload_n hx hb dJ0_length_8abf5_5 rfl (lv_at hl 0 rfl) ?_
  refine zs_cV (As := []) (rest := [.int 140]) (own := RJ0) (k := 0) (n := 0) hx hb hls hts hS0 hS hown (zsm_coder l b sa X) rfl (zw_in (n := 2004) rfl) (zw_in (n := 2001) rfl) (zw_in (n := 1922) rfl) (zw_in (n := 2002) rfl) (zw_in (n := 2003) rfl) (by decide +kernel) rfl (by decide) (by decide) (by decide) (by decide) (by decide) dJ0_length_8abf5_6 (fun locs1 hS1 => ?_)
  refine lv_ishr (x := 140) (y := 0) hx hb dJ0_length_8abf5_9 ?_
  have e0 : (140 : Int32) >>> ((0 : Int32) &&& 31) = 140 := by decide
  rw [e0]
  exact W.iret hx hb hr (hq _) hS1.2.2 dJ0_length_8abf5_10 hlocks
theorem zsm_pci (l : Launch) (b : Nat) (sa : Nat → Nat) (X : zX) {i n : Int32} {f : Value} (hf : f = .null ∨ ∃ q, f = .ref q) (h0 : 0 ≤ i) (h1 : i < n) : zsM l b sa X 0 yJ3_checkIndex_8e157 cJ3_checkIndex_8e157 3 (some .int) [.int i, .int n, f] (some (.int i)) := by
  refine va_MetF (cc := cJ3_checkIndex_8e157) (maxL := 3) (ret := (some .int)) (by decide +kernel) rfl ?_
  intro p e s m args below meth c s₁ B hml hv
  obtain ⟨rfl, hS0⟩ := hv
  have hx := B.exec
  have hb := B.bytes
  have hr := B.returns
  have hlocks := B.notSynchronized
  have hts0 := atoms_spec (ws := Cond.code yJ3_checkIndex_8e157 cJ3_checkIndex_8e157 3 (some .int) :: zG) B.pre
  have hts : ∀ w ∈ zG, w.before ([.int i, .int n, f] : List Value).toArray s = true := fun w hw => hts0 w (List.mem_cons_of_mem _ hw)
  have hown : s.vm.findClass RJ3 = some m.cls := findClass_of_methodNamed B.named
  have hS : va_S (zA b) s.heap s.heap [] := va_S.rf
  have hl := lv_entry ([.int i, .int n, f] : List Value) (n := 3) (by rcases hf with rfl | ⟨q, rfl⟩ <;> exact Nat.le_of_ble_eq_true rfl)
  rw [lg_entry_eq]
  generalize (lg_sl ([.int i, .int n, f] : List Value) ++ List.replicate (3 - (lg_sl ([.int i, .int n, f] : List Value)).length) Slot.unset).toArray = ls at hl ⊢
  have hls : c.maxLocals = ls.size := by rw [hml, hl.1]
  have hvS := hS0.2.2.2.2.2.2.2.2.1
  obtain ⟨hO, hco, hva, hvT⟩ := hvS.1 0 (by omega)
  have hq : ∀ v : Option Value, ∀ t : State, t.heap = s.heap → s.WarmedH t.vm → zsQ v ([.int i, .int n, f] : List Value).toArray s (.returned v) t := fun _ t h _ => ⟨rfl, h⟩
  have h2 : lv_has ls 3 [(0, .int i), (1, .int n)] := by
    rcases hf with rfl | ⟨q, rfl⟩
    · exact lv_sub hl [0, 1] rfl
    · exact lv_sub hl [0, 1] rfl
  refine lv_iload_n hx hb dJ3_checkIndex_8e157_0 rfl (lv_at h2 0 rfl) ?_
  refine lv_if_lt (tgt := 9) hx hb dJ3_checkIndex_8e157_1 (by decide) (fun q => absurd h0 (Int32.not_le.mpr q)) (fun _ => ?_)
  refine lv_iload_n hx hb dJ3_checkIndex_8e157_4 rfl (lv_at h2 0 rfl) ?_
  refine lv_iload_n hx hb dJ3_checkIndex_8e157_5 rfl (lv_at h2 1 rfl) ?_
  refine lv_icmp_lt (tgt := 16) hx hb dJ3_checkIndex_8e157_6 (by decide) (fun _ => ?_) (fun q => absurd h1 q)
  refine lv_iload_n hx hb dJ3_checkIndex_8e157_16 rfl (lv_at h2 0 rfl) ?_
  exact W.iret hx hb hr (hq _) (fun q hq => by cases hq) dJ3_checkIndex_8e157_17 hlocks
theorem zsm_sci (l : Launch) (b : Nat) (sa : Nat → Nat) (X : zX) {i n : Int32} (h0 : 0 ≤ i) (h1 : i < n) : zsM l b sa X 1 yJ0_checkIndex_df160 cJ0_checkIndex_df160 2 none [.int i, .int n] none := by
  refine va_MetF (cc := cJ0_checkIndex_df160) (maxL := 2) (ret := none) (by decide +kernel) rfl ?_
  intro p e s m args below meth c s₁ B hml hv
  obtain ⟨rfl, hS0⟩ := hv
  have hx := B.exec
  have hb := B.bytes
  have hr := B.returns
  have hlocks := B.notSynchronized
  have hts0 := atoms_spec (ws := Cond.code yJ0_checkIndex_df160 cJ0_checkIndex_df160 2 none :: zG) B.pre
  have hts : ∀ w ∈ zG, w.before ([.int i, .int n] : List Value).toArray s = true := fun w hw => hts0 w (List.mem_cons_of_mem _ hw)
  have hown : s.vm.findClass RJ0 = some m.cls := findClass_of_methodNamed B.named
  have hS : va_S (zA b) s.heap s.heap [] := va_S.rf
  have hl := lv_entry ([.int i, .int n] : List Value) (n := 2) (Nat.le_of_ble_eq_true rfl)
  rw [lg_entry_eq]
  generalize (lg_sl ([.int i, .int n] : List Value) ++ List.replicate (2 - (lg_sl ([.int i, .int n] : List Value)).length) Slot.unset).toArray = ls at hl ⊢
  have hls : c.maxLocals = ls.size := by rw [hml, hl.1]
  have hvS := hS0.2.2.2.2.2.2.2.2.1
  obtain ⟨hO, hco, hva, hvT⟩ := hvS.1 0 (by omega)
  have hq : ∀ v : Option Value, ∀ t : State, t.heap = s.heap → s.WarmedH t.vm → zsQ v ([.int i, .int n] : List Value).toArray s (.returned v) t := fun _ t h _ => ⟨rfl, h⟩
  refine lv_iload_n hx hb dJ0_checkIndex_df160_0 rfl (lv_at hl 0 rfl) ?_
  refine lv_iload_n hx hb dJ0_checkIndex_df160_1 rfl (lv_at hl 1 rfl) ?_
  have go : ∀ f : Value, (f = .null ∨ ∃ q, f = .ref q) → va_Z "jdk/internal/util/Preconditions" "SIOOBE_FORMATTER" "Ljava/util/function/BiFunction;" f (zA b) s s.heap → W p l e (headSpec (Cond.code yJ0_checkIndex_df160 cJ0_checkIndex_df160 2 none :: zG) (zsr 1)).room s m ([.int i, .int n] : List Value).toArray below meth c s.heap [] 0 0 (MQ below (zsQ none) ([.int i, .int n] : List Value).toArray s 0 0 (zA b)) (F0 m (0 + 1 + 1) ls [.int n, .int i]) := by
    intro f hf hZ
    refine va_gets hx hb hZ hS hown (hts _ (zw_in (n := 2022) rfl)) (fun _ q => q) dJ0_checkIndex_df160_2 ?_
    refine zs_cS (As := [.int i, .int n, f]) (rest := []) (own := RJ0) (k := 0) (n := 3) hx hb hls hts hS0 hS hown (zsm_pci l b sa X hf h0 h1) (zw_in (n := 2102) rfl) (zw_in (n := 2023) rfl) (zw_in (n := 2101) rfl) (zw_in (n := 2100) rfl) (by decide +kernel) rfl (by decide) (by decide) (by decide) (by decide) (by decide) dJ0_checkIndex_df160_5 (fun locs1 hS1 => ?_)
    refine lv_pop hx hb dJ0_checkIndex_df160_8 rfl ?_
    exact W.vret hx hb hr (hq _) hS1.2.2 dJ0_checkIndex_df160_9 hlocks
  rcases hS0.2.2.2.2.2.2.2.2.2.2.2.2.2.2.2.2 with hZ | ⟨t, hZ⟩
  · exact go .null (Or.inl rfl) hZ
  · exact go (.ref t) (Or.inr ⟨t, rfl⟩) hZ
def z_chr (i : Int32) : Int32 := Int32.ofNat (z_words.getD i.toNatClampNeg 0)
theorem z_words_small : ∀ j : Nat, j < 140 → ((((z_words.map Int32.ofNat).getD j 0) &&& 255).toUInt32 % 65536).toInt32 = Int32.ofNat (z_words.getD j 0) ∧ narrow .char (.int (Int32.ofNat (z_words.getD j 0))) = .int (Int32.ofNat (z_words.getD j 0)) := by decide +kernel
theorem z_in140 {i : Int32} (h : z_in i z_words.length) : 0 ≤ i ∧ i < 140 ∧ i.toNatClampNeg < 140 := by
  have h2 : i.toNatClampNeg < 140 := h.2
  refine ⟨h.1, ?_, h2⟩
  have h1 := Int32.le_iff_toInt_le.mp h.1
  have h3 : (0 : Int32).toInt = 0 := by decide
  have h4 : (140 : Int32).toInt = 140 := by decide
  refine Int32.lt_iff_toInt_lt.mpr ?_
  rw [h4]
  have h5 : i.toInt.toNat < 140 := h2
  omega
theorem zsm_lat (l : Launch) (b : Nat) (sa : Nat → Nat) (X : zX) {i : Int32} (hin : z_in i z_words.length) : zsM l b sa X 2 yJ1_charAt_3b067 cJ1_charAt_3b067 2 (some .char) [.ref (sa 4), .int i] (some (.int (z_chr i))) := by
  refine va_MetF (cc := cJ1_charAt_3b067) (maxL := 2) (ret := (some .char)) (by decide +kernel) rfl ?_
  intro p e s m args below meth c s₁ B hml hv
  obtain ⟨rfl, hS0⟩ := hv
  have hx := B.exec
  have hb := B.bytes
  have hr := B.returns
  have hlocks := B.notSynchronized
  have hts0 := atoms_spec (ws := Cond.code yJ1_charAt_3b067 cJ1_charAt_3b067 2 (some .char) :: zG) B.pre
  have hts : ∀ w ∈ zG, w.before ([.ref (sa 4), .int i] : List Value).toArray s = true := fun w hw => hts0 w (List.mem_cons_of_mem _ hw)
  have hown : s.vm.findClass RJ1 = some m.cls := findClass_of_methodNamed B.named
  have hS : va_S (zA b) s.heap s.heap [] := va_S.rf
  have hl := lv_entry ([.ref (sa 4), .int i] : List Value) (n := 2) (Nat.le_of_ble_eq_true rfl)
  rw [lg_entry_eq]
  generalize (lg_sl ([.ref (sa 4), .int i] : List Value) ++ List.replicate (2 - (lg_sl ([.ref (sa 4), .int i] : List Value)).length) Slot.unset).toArray = ls at hl ⊢
  have hls : c.maxLocals = ls.size := by rw [hml, hl.1]
  have hvS := hS0.2.2.2.2.2.2.2.2.1
  obtain ⟨hO, hco, hva, hvT⟩ := hvS.1 0 (by omega)
  have hq : ∀ v : Option Value, ∀ t : State, t.heap = s.heap → s.WarmedH t.vm → zsQ v ([.ref (sa 4), .int i] : List Value).toArray s (.returned v) t := fun _ t h _ => ⟨rfl, h⟩
  obtain ⟨i0, i1, i2⟩ := z_in140 hin
  refine lv_iload_n hx hb dJ1_charAt_3b067_0 rfl (lv_at hl 1 rfl) ?_
  refine lv_aload_n hx hb dJ1_charAt_3b067_1 rfl (lv_at hl 0 rfl) ?_
  refine va_tlen (v := 140) hx hb hvT hS (by decide +kernel) dJ1_charAt_3b067_2 ?_
  refine zs_cS (As := [.int i, .int 140]) (rest := []) (own := RJ1) (k := 1) (n := 2) hx hb hls hts hS0 hS hown (zsm_sci l b sa X i0 i1) (zw_in (n := 2021) rfl) (zw_in (n := 2019) rfl) (zw_in (n := 1922) rfl) (zw_in (n := 2020) rfl) (by decide +kernel) rfl (by decide) (by decide) (by decide) (by decide) (by decide) dJ1_charAt_3b067_3 (fun locs1 hS1 => ?_)
  refine lv_aload_n hx hb dJ1_charAt_3b067_6 rfl (lv_at hl 0 rfl) ?_
  refine lv_iload_n hx hb dJ1_charAt_3b067_7 rfl (lv_at hl 1 rfl) ?_
  refine va_tb hx hb hvT hS1 (z_in_vp hin) rfl dJ1_charAt_3b067_8 ?_
  refine lv_sipush (v := 255) hx hb dJ1_charAt_3b067_9 (by decide) ?_
  refine lv_iand hx hb dJ1_charAt_3b067_12 ?_
  refine lv_i2c (v := z_chr i) hx hb dJ1_charAt_3b067_13 (z_words_small _ i2).1 ?_
  exact W.zret hx hb hr (z_words_small _ i2).2 (hq _) hS1.2.2 dJ1_charAt_3b067_14 hlocks
theorem zsm_charAt (l : Launch) (b : Nat) (sa : Nat → Nat) (X : zX) {i : Int32} (hin : z_in i z_words.length) : zsM l b sa X 3 yJ0_charAt_5068e cJ0_charAt_5068e 2 (some .char) [.ref (sa 3), .int i] (some (.int (z_chr i))) := by
  refine va_MetF (cc := cJ0_charAt_5068e) (maxL := 2) (ret := (some .char)) (by decide +kernel) rfl ?_
  intro p e s m args below meth c s₁ B hml hv
  obtain ⟨rfl, hS0⟩ := hv
  have hx := B.exec
  have hb := B.bytes
  have hr := B.returns
  have hlocks := B.notSynchronized
  have hts0 := atoms_spec (ws := Cond.code yJ0_charAt_5068e cJ0_charAt_5068e 2 (some .char) :: zG) B.pre
  have hts : ∀ w ∈ zG, w.before ([.ref (sa 3), .int i] : List Value).toArray s = true := fun w hw => hts0 w (List.mem_cons_of_mem _ hw)
  have hown : s.vm.findClass RJ0 = some m.cls := findClass_of_methodNamed B.named
  have hS : va_S (zA b) s.heap s.heap [] := va_S.rf
  have hl := lv_entry ([.ref (sa 3), .int i] : List Value) (n := 2) (Nat.le_of_ble_eq_true rfl)
  rw [lg_entry_eq]
  generalize (lg_sl ([.ref (sa 3), .int i] : List Value) ++ List.replicate (2 - (lg_sl ([.ref (sa 3), .int i] : List Value)).length) Slot.unset).toArray = ls at hl ⊢
  have hls : c.maxLocals = ls.size := by rw [hml, hl.1]
  have hvS := hS0.2.2.2.2.2.2.2.2.1
  obtain ⟨hO, hco, hva, hvT⟩ := hvS.1 0 (by omega)
  have hq : ∀ v : Option Value, ∀ t : State, t.heap = s.heap → s.WarmedH t.vm → zsQ v ([.ref (sa 3), .int i] : List Value).toArray s (.returned v) t := fun _ t h _ => ⟨rfl, h⟩
  refine lv_aload_n hx hb dJ0_charAt_5068e_0 rfl (lv_at hl 0 rfl) ?_
  refine zs_cV (As := []) (rest := []) (own := RJ0) (k := 0) (n := 0) hx hb hls hts hS0 hS hown (zsm_isLatin1 l b sa X) rfl (zw_in (n := 2014) rfl) (zw_in (n := 2011) rfl) (zw_in (n := 1922) rfl) (zw_in (n := 2012) rfl) (zw_in (n := 2013) rfl) (by decide +kernel) rfl (by decide) (by decide) (by decide) (by decide) (by decide) dJ0_charAt_5068e_1 (fun locs1 hS1 => ?_)
  refine lv_if_eq (tgt := 16) hx hb dJ0_charAt_5068e_4 (by decide) (fun q => absurd q (by decide)) (fun _ => ?_)
  refine lv_aload_n hx hb dJ0_charAt_5068e_7 rfl (lv_at hl 0 rfl) ?_
  refine vk_getf hx hb hva hS1 hown (hts _ (zw_in (n := 2000) rfl)) (fun _ q => q) dJ0_charAt_5068e_8 ?_
  refine lv_iload_n hx hb dJ0_charAt_5068e_11 rfl (lv_at hl 1 rfl) ?_
  refine zs_cS (As := [.ref (sa 4), .int i]) (rest := []) (own := RJ0) (k := 2) (n := 2) hx hb hls hts hS0 hS1 hown (zsm_lat l b sa X hin) (zw_in (n := 2018) rfl) (zw_in (n := 2015) rfl) (zw_in (n := 2017) rfl) (zw_in (n := 2016) rfl) (by decide +kernel) rfl (by decide) (by decide) (by decide) (by decide) (by decide) dJ0_charAt_5068e_12 (fun locs2 hS2 => ?_)
  exact W.zret hx hb hr (z_words_small _ (z_in140 hin).2.2).2 (hq _) hS2.2.2 dJ0_charAt_5068e_15 hlocks
