def z_rok (ret : Option FieldType) (ins : Instr) (v : Option Value) : Prop := (∃ x, ins = .ireturn ∧ v = some (.int x) ∧ (ret = some .int ∨ (ret = some .boolean ∧ (x = 0 ∨ x = 1)))) ∨ (∃ x, ins = .lreturn ∧ v = some (.long x) ∧ ret = some .long) ∨ (ins = .areturn ∧ ((∃ n, ret = some (.object n)) ∨ ∃ t, ret = some (.array t)) ∧ (v = some .null ∨ ∃ a, v = some (.ref a))) ∨ (ins = .return_ ∧ v = none ∧ ret = none)
section ZT
variable {p : Program} {l : Launch} {e : Env} {R : Room} {s : State} {m : MethodId} {args : Array Value} {below : List Frame} {meth : Method} {c : Code} {Q : State → Prop} {D : va_G} {b : Nat} {sa : Nat → Nat} {nL n0 k0 : Nat}
variable {cc : ByteArray} {pc mi d : Nat} {L : zL} {st : List Value} {M : zM} {X : zX} {own nm : String} {ret : Option FieldType} {RT : Option Value → zM → Prop}
theorem z_hlocs {H : Heap} {locs locs1 : List Loc} (h : zH D b sa s M H locs) (hS1 : va_S (zA b) s.heap H locs1) : zH D b sa s M H locs1 := by
  obtain ⟨hwf, cs, tys, hK, hP, hD, hS, ht⟩ := h
  exact ⟨hwf, cs, tys, hK, hP, hD, hS1, ht⟩
theorem zs_strlen (hx : p.tables.exec = Jvm.exec) (hb : c.code = cc) {i : Nat} (hml : c.maxLocals = nL) (hts : ∀ w ∈ zG, w.before args s = true) (hS0 : zSt b sa X s) (hown : s.vm.findClass own = some m.cls) (hBM : zB R n0 k0 M) (w1 : Cond.methodLink own i yJ0_length_8abf5 ∈ zG) (hR1 : 10 ≤ R.frames) (hR2 : 400 ≤ R.locals) (hd : decode cc pc = .ok (.invokevirtual i, 3)) (h : z_R1 False st (fun a r => z_sm False r (z_str False a (zK p l e R s m args below meth c Q D b sa nL n0 k0 (mi, pc + 3, L, .int (Int32.ofNat z_words.length) :: r, M))))) : zW p l e R s m args below meth c Q D b sa nL n0 k0 (mi, pc, L, st, M) := by
  obtain ⟨o, r, rfl, h1⟩ := p_R1 h
  obtain ⟨h3, h2⟩ := p_sm h1
  obtain ⟨rfl, hk⟩ := p_str h2
  intro H locs ls hH hL
  have hS : va_S (zA b) s.heap H locs := by obtain ⟨hwf, cs, tys, hK, hP, hD, hS, ht⟩ := hH; exact hS
  have q1 := hBM.2.2.1
  have q2 := hBM.2.2.2
  refine zs_cV (sa := sa) (As := []) (rest := r.map (z_tv b sa)) (own := own) (k := 1) (n := 0) hx hb (by rw [hml]; exact hL.1.symm) hts hS0 hS hown (zsm_length l b sa X) rfl (zw_in (n := 1923) rfl) w1 (zw_in (n := 1922) rfl) (zw_in (n := 1920) rfl) (zw_in (n := 1921) rfl) (by decide +kernel) rfl (by omega) (by omega) (by show M.1 - n0 ≤ R.cells; omega) (by show M.2.1 - k0 ≤ R.slots; omega) (z_cats h3) hd (fun locs1 hS1 => ?_)
  exact hk.2 H locs1 ls (z_hlocs hH hS1) hL
theorem zs_charAt (hx : p.tables.exec = Jvm.exec) (hb : c.code = cc) {i : Nat} (hml : c.maxLocals = nL) (hts : ∀ w ∈ zG, w.before args s = true) (hS0 : zSt b sa X s) (hown : s.vm.findClass own = some m.cls) (hBM : zB R n0 k0 M) (w1 : Cond.methodLink own i yJ0_charAt_5068e ∈ zG) (hR1 : 10 ≤ R.frames) (hR2 : 400 ≤ R.locals) (hd : decode cc pc = .ok (.invokevirtual i, 3)) (h : z_RI False st (fun a i r => z_sm False r (z_str False a (if z_in i z_words.length then zK p l e R s m args below meth c Q D b sa nL n0 k0 (mi, pc + 3, L, .int (Int32.ofNat (z_words.getD i.toNatClampNeg 0)) :: r, M) else False)))) : zW p l e R s m args below meth c Q D b sa nL n0 k0 (mi, pc, L, st, M) := by
  obtain ⟨o, j, r, rfl, h1⟩ := p_RI h
  obtain ⟨h3, h2⟩ := p_sm h1
  obtain ⟨rfl, h4⟩ := p_str h2
  have hin : z_in j z_words.length := Classical.byContradiction fun q => (p_ite h4).2 q
  have hk := (p_ite h4).1 hin
  intro H locs ls hH hL
  have hS : va_S (zA b) s.heap H locs := by obtain ⟨hwf, cs, tys, hK, hP, hD, hS, ht⟩ := hH; exact hS
  have q1 := hBM.2.2.1
  have q2 := hBM.2.2.2
  refine zs_cV (sa := sa) (As := [.int j]) (rest := r.map (z_tv b sa)) (own := own) (k := 3) (n := 1) hx hb (by rw [hml]; exact hL.1.symm) hts hS0 hS hown (zsm_charAt l b sa X hin) rfl (zw_in (n := 2010) rfl) w1 (zw_in (n := 1922) rfl) (zw_in (n := 2008) rfl) (zw_in (n := 2009) rfl) (by decide +kernel) rfl (by omega) (by omega) (by show M.1 - n0 ≤ R.cells; omega) (by show M.2.1 - k0 ≤ R.slots; omega) (z_cats h3) hd (fun locs1 hS1 => ?_)
  exact hk.2 H locs1 ls (z_hlocs hH hS1) hL

set_option maxRecDepth 40000 in
theorem zs_inv {kind i a b' : Nat} {ws : List Nat} {ins : Instr} (hx : p.tables.exec = Jvm.exec) (hb : c.code = cc) (hml : c.maxLocals = nL) (hts : ∀ w ∈ zG, w.before args s = true) (hS0 : zSt b sa X s) (hown : s.vm.findClass own = some m.cls) (hsz : s.heap.size = b + (n0 - 4)) (h4n : 4 ≤ n0) (hBM : zB R n0 k0 M) (hR1 : 10 ≤ R.frames) (hR2 : 400 ≤ R.locals) (hnm : nm = "<init>" → meth.name = "<init>") (hk : (kind = 0 ∧ ins = .invokestatic i) ∨ (kind = 1 ∧ ins = .invokevirtual i) ∨ (kind = 2 ∧ ins = .invokespecial i)) (hd : decode cc pc = .ok (ins, 3)) (hc : z_cal1 kind own i a b' ws = true) (h : z_inv False (zK p l e R s m args below meth c Q D b sa nL n0 k0) (zCk p l e R s m args below meth c Q D b sa nL n0 k0 X d) kind a b' (pc + 3) mi L st M) : zW p l e R s m args below meth c Q D b sa nL n0 k0 (mi, pc, L, st, M) := by
  unfold z_cal1 at hc
  unfold z_inv at h
  split at hc
  · next h9 =>
    have hble : Nat.ble 9000 a = true := Nat.ble_eq_true_of_le h9
    rw [hble] at h
    have hsp : z_spec False (zK p l e R s m args below meth c Q D b sa nL n0 k0) a (pc + 3) mi L st M := h
    clear h
    unfold z_spec at hsp
    simp only [Bool.and_eq_true, decide_eq_true_eq] at hc
    obtain ⟨⟨q1, q2⟩, hc⟩ := hc
    split at hsp
    · next h0 =>
      rw [h0] at hc
      have ha : a = 9000 := by omega
      have hk2 := q2 ha
      subst hk2
      rcases hk with ⟨k1, _⟩ | ⟨k1, _⟩ | ⟨_, rfl⟩
      · cases k1
      · cases k1
      · exact zs_objInit hx hb hml hts hown (z_hw_in hc) hR1 hR2 hd hsp
    · next h0 =>
      rw [h0] at hc
      simp only [Bool.and_eq_true, decide_eq_true_eq] at hc
      obtain ⟨rfl, hc⟩ := hc
      rcases hk with ⟨_, rfl⟩ | ⟨k1, _⟩ | ⟨k1, _⟩
      · exact zs_copy hx hb hml hts hown (z_hw_in hc) hR1 hR2 hd hsp
      · cases k1
      · cases k1
    · next h0 =>
      rw [h0] at hc
      simp only [Bool.and_eq_true, decide_eq_true_eq] at hc
      obtain ⟨rfl, hc⟩ := hc
      rcases hk with ⟨k1, _⟩ | ⟨_, rfl⟩ | ⟨k1, _⟩
      · cases k1
      · exact zs_strlen hx hb hml hts hS0 hown hBM (z_hw_in hc) hR1 hR2 hd hsp
      · cases k1
    · next h0 =>
      rw [h0] at hc
      simp only [Bool.and_eq_true, decide_eq_true_eq] at hc
      obtain ⟨rfl, hc⟩ := hc
      rcases hk with ⟨k1, _⟩ | ⟨_, rfl⟩ | ⟨k1, _⟩
      · cases k1
      · exact zs_charAt hx hb hml hts hS0 hown hBM (z_hw_in hc) hR1 hR2 hd hsp
      · cases k1
    · next h0 =>
      rw [h0] at hc
      simp only [Bool.and_eq_true, decide_eq_true_eq] at hc
      obtain ⟨rfl, hc⟩ := hc
      rcases hk with ⟨k1, _⟩ | ⟨_, rfl⟩ | ⟨k1, _⟩
      · cases k1
      · exact zs_clone hx hb hml hts hS0 hown hsz h4n hBM (z_hw_in hc) hR1 hR2 hd hsp
      · cases k1
    · exact hsp.elim
  · next h9 =>
    have hble : Nat.ble 9000 a = false := Bool.eq_false_iff.mpr fun q => h9 (Nat.le_of_ble_eq_true q)
    rw [hble] at h
    simp only [Bool.and_eq_true, decide_eq_true_eq] at hc
    obtain ⟨⟨⟨ha, hn⟩, hcl⟩, hc⟩ := hc
    rcases hk with ⟨rfl, rfl⟩ | ⟨rfl, rfl⟩ | ⟨rfl, rfl⟩
    · simp only [Bool.and_eq_true] at hc
      obtain ⟨⟨w1, w2⟩, w3⟩ := hc
      exact zs_static hx hb hml hts hS0 hown hsz h4n hBM ha (z_hw_in w1) (z_hw_in w3) (z_hw_in w2) hn hd h
    · simp only [Bool.and_eq_true, decide_eq_true_eq] at hc
      obtain ⟨⟨⟨⟨⟨w1, w2⟩, w3⟩, w4⟩, c1⟩, c2⟩ := hc
      exact zs_virtual hx hb hml hts hS0 hown hsz h4n hBM ha (z_hw_in w1) (z_hw_in w4) (z_hw_in w2) (z_hw_in w3) c1 c2 hn hd h
    · simp only [Bool.and_eq_true, decide_eq_true_eq, Bool.or_eq_true] at hc
      obtain ⟨⟨⟨⟨c1, c2⟩, w1⟩, w2⟩, w3⟩ := hc
      exact zs_special hx hb hml hts hS0 hown hsz h4n hBM ha (w1.imp z_hw_in (fun q => List.contains_iff_mem.mp q)) (z_hw_in w3) (z_hw_in w2) c1 c2 hn hd h
set_option maxHeartbeats 4000000 in
set_option maxRecDepth 10000 in
theorem z_sound_step {ins : Instr} {npc a b' : Nat} {val : Value} {sw : List (Int32 × Nat)} {ws : List Nat} (hx : p.tables.exec = Jvm.exec) (hb : c.code = cc) (hml : c.maxLocals = nL) (hts : ∀ w ∈ zG, w.before args s = true) (hS0 : zSt b sa X s) (hown : s.vm.findClass own = some m.cls) (hsz : s.heap.size = b + (n0 - 4)) (h4n : 4 ≤ n0) (hBM : zB R n0 k0 M) (hR1 : 10 ≤ R.frames) (hR2 : 400 ≤ R.locals) (hnm : nm = "<init>" → meth.name = "<init>") (hRT : ∀ (v : Option Value) (M : zM), RT v M → ∀ (H : Heap) (locs : List Loc) (ls : Array Slot) (pc : Nat) (ins : Instr), zH D b sa s M H locs → decode cc pc = .ok (ins, 1) → z_rok ret ins v → W p l e R s m args below meth c H locs (M.1 - n0) (M.2.1 - k0) Q (F0 m pc ls (v.toList.map (z_tv b sa)))) (hck : z_chk own nm cc nL ret pc (ins, npc, a, b', val, sw, ws) = true) (h : z_step X False (zK p l e R s m args below meth c Q D b sa nL n0 k0) (zCk p l e R s m args below meth c Q D b sa nL n0 k0 X d) RT ins npc a b' val sw mi L st M) : zW p l e R s m args below meth c Q D b sa nL n0 k0 (mi, pc, L, st, M) := by
  unfold z_step at h
  split at h
  · rename_i i
    simp only [z_chk, z_arg, z_jmp, z_fld1, Bool.and_eq_true, decide_eq_true_eq] at hck
    obtain ⟨hd, rfl, rfl⟩ := hck
    rw [Nat.add_sub_cancel_left] at hd
    exact zs_iload hx hb hd h
  · rename_i i
    simp only [z_chk, z_arg, z_jmp, z_fld1, Bool.and_eq_true, decide_eq_true_eq] at hck
    obtain ⟨hd, hk, rfl⟩ := hck
    rw [Nat.add_sub_cancel_left] at hd
    exact zs_iload_n hx hb hd hk h
  · rename_i i
    simp only [z_chk, z_arg, z_jmp, z_fld1, Bool.and_eq_true, decide_eq_true_eq] at hck
    obtain ⟨hd, rfl, rfl⟩ := hck
    rw [Nat.add_sub_cancel_left] at hd
    exact zs_lload hx hb hd h
  · rename_i i
    simp only [z_chk, z_arg, z_jmp, z_fld1, Bool.and_eq_true, decide_eq_true_eq] at hck
    obtain ⟨hd, hk, rfl⟩ := hck
    rw [Nat.add_sub_cancel_left] at hd
    exact zs_lload_n hx hb hd hk h
  · rename_i i
    simp only [z_chk, z_arg, z_jmp, z_fld1, Bool.and_eq_true, decide_eq_true_eq] at hck
    obtain ⟨hd, rfl, rfl⟩ := hck
    rw [Nat.add_sub_cancel_left] at hd
    exact zs_aload hx hb hd h
  · rename_i i
    simp only [z_chk, z_arg, z_jmp, z_fld1, Bool.and_eq_true, decide_eq_true_eq] at hck
    obtain ⟨hd, hk, rfl⟩ := hck
    rw [Nat.add_sub_cancel_left] at hd
    exact zs_aload_n hx hb hd hk h
  · rename_i i
    simp only [z_chk, z_arg, z_jmp, z_fld1, Bool.and_eq_true, decide_eq_true_eq] at hck
    obtain ⟨hd, ⟨rfl, rfl⟩, hn⟩ := hck
    rw [Nat.add_sub_cancel_left] at hd
    exact zs_istore hx hb hd hn h
  · rename_i i
    simp only [z_chk, z_arg, z_jmp, z_fld1, Bool.and_eq_true, decide_eq_true_eq] at hck
    obtain ⟨hd, ⟨hk, rfl⟩, hn⟩ := hck
    rw [Nat.add_sub_cancel_left] at hd
    exact zs_istore_n hx hb hd hk hn h
  · rename_i i
    simp only [z_chk, z_arg, z_jmp, z_fld1, Bool.and_eq_true, decide_eq_true_eq] at hck
    obtain ⟨hd, ⟨rfl, rfl⟩, hn⟩ := hck
    rw [Nat.add_sub_cancel_left] at hd
    exact zs_lstore hx hb hd hn h
  · rename_i i
    simp only [z_chk, z_arg, z_jmp, z_fld1, Bool.and_eq_true, decide_eq_true_eq] at hck
    obtain ⟨hd, ⟨hk, rfl⟩, hn⟩ := hck
    rw [Nat.add_sub_cancel_left] at hd
    exact zs_lstore_n hx hb hd hk hn h
  · rename_i i
    simp only [z_chk, z_arg, z_jmp, z_fld1, Bool.and_eq_true, decide_eq_true_eq] at hck
    obtain ⟨hd, ⟨rfl, rfl⟩, hn⟩ := hck
    rw [Nat.add_sub_cancel_left] at hd
    exact zs_astore hx hb hd hn h
  · rename_i i
    simp only [z_chk, z_arg, z_jmp, z_fld1, Bool.and_eq_true, decide_eq_true_eq] at hck
    obtain ⟨hd, ⟨hk, rfl⟩, hn⟩ := hck
    rw [Nat.add_sub_cancel_left] at hd
    exact zs_astore_n hx hb hd hk hn h
  · rename_i i n
    simp only [z_chk, z_arg, z_jmp, z_fld1, Bool.and_eq_true, decide_eq_true_eq] at hck
    obtain ⟨hd, ⟨⟨rfl, rfl⟩, hn⟩, rfl⟩ := hck
    rw [Nat.add_sub_cancel_left] at hd
    exact zs_iinc hx hb hd hn h
  · rename_i n
    simp only [z_chk, z_arg, z_jmp, z_fld1, Bool.and_eq_true, decide_eq_true_eq] at hck
    obtain ⟨hd, rfl, rfl⟩ := hck
    rw [Nat.add_sub_cancel_left] at hd
    exact zs_iconst hx hb hd h
  · rename_i n
    simp only [z_chk, z_arg, z_jmp, z_fld1, Bool.and_eq_true, decide_eq_true_eq] at hck
    obtain ⟨hd, rfl, rfl⟩ := hck
    rw [Nat.add_sub_cancel_left] at hd
    exact zs_bipush hx hb hd h
  · rename_i n
    simp only [z_chk, z_arg, z_jmp, z_fld1, Bool.and_eq_true, decide_eq_true_eq] at hck
    obtain ⟨hd, rfl, rfl⟩ := hck
    rw [Nat.add_sub_cancel_left] at hd
    exact zs_sipush hx hb hd h
  · rename_i i
    simp only [z_chk, z_arg, z_jmp, z_fld1, Bool.and_eq_true, decide_eq_true_eq] at hck
    obtain ⟨hd, rfl, hv⟩ := hck
    rw [Nat.add_sub_cancel_left] at hd
    split at hv
    · exact zs_ldc hx hb hd hown (hts _ (z_hw_in hv)) h
    · simp only [Bool.and_eq_true, decide_eq_true_eq] at hv
      obtain ⟨⟨rfl, rfl⟩, rfl⟩ := hv
      exact zs_ldcS hx hb hS0 hown hd h
    · cases hv
  · rename_i i
    simp only [z_chk, z_arg, z_jmp, z_fld1, Bool.and_eq_true, decide_eq_true_eq] at hck
    obtain ⟨hd, rfl, hv⟩ := hck
    rw [Nat.add_sub_cancel_left] at hd
    split at hv
    · exact zs_ldcw hx hb hd hown (hts _ (z_hw_in hv)) h
    · cases hv
  · rename_i n
    simp only [z_chk, z_arg, z_jmp, z_fld1, Bool.and_eq_true, decide_eq_true_eq] at hck
    obtain ⟨hd, rfl, rfl⟩ := hck
    rw [Nat.add_sub_cancel_left] at hd
    exact zs_lconst hx hb hd h
  · rename_i i
    simp only [z_chk, z_arg, z_jmp, z_fld1, Bool.and_eq_true, decide_eq_true_eq] at hck
    obtain ⟨hd, rfl, hv⟩ := hck
    rw [Nat.add_sub_cancel_left] at hd
    split at hv
    · exact zs_ldc2 hx hb hd hown (hts _ (z_hw_in hv)) h
    · cases hv
  · skip
    simp only [z_chk, z_arg, z_jmp, z_fld1, Bool.and_eq_true, decide_eq_true_eq] at hck
    obtain ⟨hd, rfl, rfl⟩ := hck
    rw [Nat.add_sub_cancel_left] at hd
    exact zs_null hx hb hd h
  · rename_i i
    simp only [z_chk, z_arg, Bool.and_eq_true, Bool.or_eq_true, decide_eq_true_eq] at hck
    obtain ⟨hd, rfl, hv⟩ := hck
    rw [Nat.add_sub_cancel_left] at hd
    rcases hv with ⟨rfl, hv⟩ | ⟨rfl, hv | ⟨rfl, rfl⟩⟩
    · exact zs_getstatic0 hx hb hS0 hown (hts _ (z_hw_in hv)) hd h
    · exact zs_getstatic1 hx hb hS0 hown (hts _ (z_hw_in hv)) hd h
    · exact zs_getstatic2 hx hb hS0 hown hd h
  · skip
    simp only [z_chk, z_arg, z_jmp, z_fld1, Bool.and_eq_true, decide_eq_true_eq] at hck
    obtain ⟨hd, rfl⟩ := hck
    rw [Nat.add_sub_cancel_left] at hd
    exact zs_iadd hx hb hd h
  · skip
    simp only [z_chk, z_arg, z_jmp, z_fld1, Bool.and_eq_true, decide_eq_true_eq] at hck
    obtain ⟨hd, rfl⟩ := hck
    rw [Nat.add_sub_cancel_left] at hd
    exact zs_isub hx hb hd h
  · skip
    simp only [z_chk, z_arg, z_jmp, z_fld1, Bool.and_eq_true, decide_eq_true_eq] at hck
    obtain ⟨hd, rfl⟩ := hck
    rw [Nat.add_sub_cancel_left] at hd
    exact zs_imul hx hb hd h
  · skip
    simp only [z_chk, z_arg, z_jmp, z_fld1, Bool.and_eq_true, decide_eq_true_eq] at hck
    obtain ⟨hd, rfl⟩ := hck
    rw [Nat.add_sub_cancel_left] at hd
    exact zs_iand hx hb hd h
  · skip
    simp only [z_chk, z_arg, z_jmp, z_fld1, Bool.and_eq_true, decide_eq_true_eq] at hck
    obtain ⟨hd, rfl⟩ := hck
    rw [Nat.add_sub_cancel_left] at hd
    exact zs_ior hx hb hd h
  · skip
    simp only [z_chk, z_arg, z_jmp, z_fld1, Bool.and_eq_true, decide_eq_true_eq] at hck
    obtain ⟨hd, rfl⟩ := hck
    rw [Nat.add_sub_cancel_left] at hd
    exact zs_ixor hx hb hd h
  · skip
    simp only [z_chk, z_arg, z_jmp, z_fld1, Bool.and_eq_true, decide_eq_true_eq] at hck
    obtain ⟨hd, rfl⟩ := hck
    rw [Nat.add_sub_cancel_left] at hd
    exact zs_ishl hx hb hd h
  · skip
    simp only [z_chk, z_arg, z_jmp, z_fld1, Bool.and_eq_true, decide_eq_true_eq] at hck
    obtain ⟨hd, rfl⟩ := hck
    rw [Nat.add_sub_cancel_left] at hd
    exact zs_ishr hx hb hd h
  · skip
    simp only [z_chk, z_arg, z_jmp, z_fld1, Bool.and_eq_true, decide_eq_true_eq] at hck
    obtain ⟨hd, rfl⟩ := hck
    rw [Nat.add_sub_cancel_left] at hd
    exact zs_iushr hx hb hd h
  · skip
    simp only [z_chk, z_arg, z_jmp, z_fld1, Bool.and_eq_true, decide_eq_true_eq] at hck
    obtain ⟨hd, rfl⟩ := hck
    rw [Nat.add_sub_cancel_left] at hd
    exact zs_idiv hx hb hd h
  · skip
    simp only [z_chk, z_arg, z_jmp, z_fld1, Bool.and_eq_true, decide_eq_true_eq] at hck
    obtain ⟨hd, rfl⟩ := hck
    rw [Nat.add_sub_cancel_left] at hd
    exact zs_irem hx hb hd h
  · skip
    simp only [z_chk, z_arg, z_jmp, z_fld1, Bool.and_eq_true, decide_eq_true_eq] at hck
    obtain ⟨hd, rfl⟩ := hck
    rw [Nat.add_sub_cancel_left] at hd
    exact zs_ineg hx hb hd h
  · skip
    simp only [z_chk, z_arg, z_jmp, z_fld1, Bool.and_eq_true, decide_eq_true_eq] at hck
    obtain ⟨hd, rfl⟩ := hck
    rw [Nat.add_sub_cancel_left] at hd
    exact zs_ladd hx hb hd h
  · skip
    simp only [z_chk, z_arg, z_jmp, z_fld1, Bool.and_eq_true, decide_eq_true_eq] at hck
    obtain ⟨hd, rfl⟩ := hck
    rw [Nat.add_sub_cancel_left] at hd
    exact zs_lsub hx hb hd h
  · skip
    simp only [z_chk, z_arg, z_jmp, z_fld1, Bool.and_eq_true, decide_eq_true_eq] at hck
    obtain ⟨hd, rfl⟩ := hck
    rw [Nat.add_sub_cancel_left] at hd
    exact zs_lmul hx hb hd h
  · skip
    simp only [z_chk, z_arg, z_jmp, z_fld1, Bool.and_eq_true, decide_eq_true_eq] at hck
    obtain ⟨hd, rfl⟩ := hck
    rw [Nat.add_sub_cancel_left] at hd
    exact zs_ldiv hx hb hd h
  · skip
    simp only [z_chk, z_arg, z_jmp, z_fld1, Bool.and_eq_true, decide_eq_true_eq] at hck
    obtain ⟨hd, rfl⟩ := hck
    rw [Nat.add_sub_cancel_left] at hd
    exact zs_lrem hx hb hd h
  · skip
    simp only [z_chk, z_arg, z_jmp, z_fld1, Bool.and_eq_true, decide_eq_true_eq] at hck
    obtain ⟨hd, rfl⟩ := hck
    rw [Nat.add_sub_cancel_left] at hd
    exact zs_lshl hx hb hd h
  · skip
    simp only [z_chk, z_arg, z_jmp, z_fld1, Bool.and_eq_true, decide_eq_true_eq] at hck
    obtain ⟨hd, rfl⟩ := hck
    rw [Nat.add_sub_cancel_left] at hd
    exact zs_lshr hx hb hd h
  · skip
    simp only [z_chk, z_arg, z_jmp, z_fld1, Bool.and_eq_true, decide_eq_true_eq] at hck
    obtain ⟨hd, rfl⟩ := hck
    rw [Nat.add_sub_cancel_left] at hd
    exact zs_lcmp hx hb hd h
  · skip
    simp only [z_chk, z_arg, z_jmp, z_fld1, Bool.and_eq_true, decide_eq_true_eq] at hck
    obtain ⟨hd, rfl⟩ := hck
    rw [Nat.add_sub_cancel_left] at hd
    exact zs_i2l hx hb hd h
  · skip
    simp only [z_chk, z_arg, z_jmp, z_fld1, Bool.and_eq_true, decide_eq_true_eq] at hck
    obtain ⟨hd, rfl⟩ := hck
    rw [Nat.add_sub_cancel_left] at hd
    exact zs_l2i hx hb hd h
  · skip
    simp only [z_chk, z_arg, z_jmp, z_fld1, Bool.and_eq_true, decide_eq_true_eq] at hck
    obtain ⟨hd, rfl⟩ := hck
    rw [Nat.add_sub_cancel_left] at hd
    exact zs_dup hx hb hd h
  · skip
    simp only [z_chk, z_arg, z_jmp, z_fld1, Bool.and_eq_true, decide_eq_true_eq] at hck
    obtain ⟨hd, rfl⟩ := hck
    rw [Nat.add_sub_cancel_left] at hd
    exact zs_pop hx hb hd h
  · skip
    simp only [z_chk, z_arg, z_jmp, z_fld1, Bool.and_eq_true, decide_eq_true_eq] at hck
    obtain ⟨hd, rfl⟩ := hck
    rw [Nat.add_sub_cancel_left] at hd
    exact zs_dup2 hx hb hd h
  · rename_i off
    simp only [z_chk, z_arg, z_jmp, z_fld1, Bool.and_eq_true, decide_eq_true_eq] at hck
    obtain ⟨hd, ht, rfl⟩ := hck
    rw [Nat.add_sub_cancel_left] at hd
    exact zs_if_eq hx hb hd ht h
  · rename_i off
    simp only [z_chk, z_arg, z_jmp, z_fld1, Bool.and_eq_true, decide_eq_true_eq] at hck
    obtain ⟨hd, ht, rfl⟩ := hck
    rw [Nat.add_sub_cancel_left] at hd
    exact zs_icmp_eq hx hb hd ht h
  · rename_i off
    simp only [z_chk, z_arg, z_jmp, z_fld1, Bool.and_eq_true, decide_eq_true_eq] at hck
    obtain ⟨hd, ht, rfl⟩ := hck
    rw [Nat.add_sub_cancel_left] at hd
    exact zs_if_lt hx hb hd ht h
  · rename_i off
    simp only [z_chk, z_arg, z_jmp, z_fld1, Bool.and_eq_true, decide_eq_true_eq] at hck
    obtain ⟨hd, ht, rfl⟩ := hck
    rw [Nat.add_sub_cancel_left] at hd
    exact zs_icmp_lt hx hb hd ht h
  · rename_i off
    simp only [z_chk, z_arg, z_jmp, z_fld1, Bool.and_eq_true, decide_eq_true_eq] at hck
    obtain ⟨hd, ht, rfl⟩ := hck
    rw [Nat.add_sub_cancel_left] at hd
    exact zs_if_ge hx hb hd ht h
  · rename_i off
    simp only [z_chk, z_arg, z_jmp, z_fld1, Bool.and_eq_true, decide_eq_true_eq] at hck
    obtain ⟨hd, ht, rfl⟩ := hck
    rw [Nat.add_sub_cancel_left] at hd
    exact zs_icmp_ge hx hb hd ht h
  · rename_i off
    simp only [z_chk, z_arg, z_jmp, z_fld1, Bool.and_eq_true, decide_eq_true_eq] at hck
    obtain ⟨hd, ht, rfl⟩ := hck
    rw [Nat.add_sub_cancel_left] at hd
    exact zs_if_gt hx hb hd ht h
  · rename_i off
    simp only [z_chk, z_arg, z_jmp, z_fld1, Bool.and_eq_true, decide_eq_true_eq] at hck
    obtain ⟨hd, ht, rfl⟩ := hck
    rw [Nat.add_sub_cancel_left] at hd
    exact zs_icmp_gt hx hb hd ht h
  · rename_i off
    simp only [z_chk, z_arg, z_jmp, z_fld1, Bool.and_eq_true, decide_eq_true_eq] at hck
    obtain ⟨hd, ht, rfl⟩ := hck
    rw [Nat.add_sub_cancel_left] at hd
    exact zs_if_le hx hb hd ht h
  · rename_i off
    simp only [z_chk, z_arg, z_jmp, z_fld1, Bool.and_eq_true, decide_eq_true_eq] at hck
    obtain ⟨hd, ht, rfl⟩ := hck
    rw [Nat.add_sub_cancel_left] at hd
    exact zs_icmp_le hx hb hd ht h
  · rename_i off
    simp only [z_chk, z_arg, z_jmp, z_fld1, Bool.and_eq_true, decide_eq_true_eq] at hck
    obtain ⟨hd, ht, rfl⟩ := hck
    rw [Nat.add_sub_cancel_left] at hd
    exact zs_if_ne hx hb hd ht h
  · rename_i off
    simp only [z_chk, z_arg, z_jmp, z_fld1, Bool.and_eq_true, decide_eq_true_eq] at hck
    obtain ⟨hd, ht, rfl⟩ := hck
    rw [Nat.add_sub_cancel_left] at hd
    exact zs_icmp_ne hx hb hd ht h
  · rename_i off
    simp only [z_chk, z_arg, z_jmp, z_fld1, Bool.and_eq_true, decide_eq_true_eq] at hck
    obtain ⟨hd, ht, rfl⟩ := hck
    rw [Nat.add_sub_cancel_left] at hd
    exact zs_goto hx hb hd ht h
  · rename_i off
    simp only [z_chk, z_arg, z_jmp, z_fld1, Bool.and_eq_true, decide_eq_true_eq] at hck
    obtain ⟨hd, ht, rfl⟩ := hck
    rw [Nat.add_sub_cancel_left] at hd
    exact zs_ifnull hx hb hd ht h
  · rename_i off
    simp only [z_chk, z_arg, z_jmp, z_fld1, Bool.and_eq_true, decide_eq_true_eq] at hck
    obtain ⟨hd, ht, rfl⟩ := hck
    rw [Nat.add_sub_cancel_left] at hd
    exact zs_ifnonnull hx hb hd ht h
  · rename_i dflt lo hi offs
    simp only [z_chk, z_arg, z_jmp, z_fld1, Bool.and_eq_true, decide_eq_true_eq] at hck
    obtain ⟨hd, ⟨h1, h2⟩, h3⟩ := hck
    exact zs_tsw hx hb hd h2 h3 h1 h
  · rename_i dflt ps
    simp only [z_chk, z_arg, z_jmp, z_fld1, Bool.and_eq_true, decide_eq_true_eq] at hck
    obtain ⟨hd, ⟨h1, h2⟩, h3⟩ := hck
    exact zs_lsw hx hb hd h2 h3 h1 h
  · rename_i i
    simp only [z_chk, z_arg, z_jmp, z_fld1, Bool.and_eq_true, decide_eq_true_eq] at hck
    obtain ⟨hd, rfl, ⟨⟨hci, hk⟩, hw⟩, hf⟩ := hck
    rw [Nat.add_sub_cancel_left] at hd
    exact zs_getfield hx hb hts hown hd hci hk (z_hw_in hw) h
  · rename_i i
    simp only [z_chk, z_arg, z_jmp, z_fld1, Bool.and_eq_true, decide_eq_true_eq] at hck
    obtain ⟨hd, ⟨rfl, ⟨⟨hci, hk⟩, hw⟩, hf⟩, hfin⟩ := hck
    rw [Nat.add_sub_cancel_left] at hd
    exact zs_putfield hx hb hts hown hd hci hk (z_hw_in hw) hf (fun q => ⟨hnm (hfin q).1, (hfin q).2⟩) h
  · skip
    simp only [z_chk, z_arg, z_jmp, z_fld1, Bool.and_eq_true, decide_eq_true_eq] at hck
    obtain ⟨hd, rfl⟩ := hck
    rw [Nat.add_sub_cancel_left] at hd
    exact zs_iaload hx hb hS0 hd h
  · skip
    simp only [z_chk, z_arg, z_jmp, z_fld1, Bool.and_eq_true, decide_eq_true_eq] at hck
    obtain ⟨hd, rfl⟩ := hck
    rw [Nat.add_sub_cancel_left] at hd
    exact zs_baload hx hb hd h
  · skip
    simp only [z_chk, z_arg, z_jmp, z_fld1, Bool.and_eq_true, decide_eq_true_eq] at hck
    obtain ⟨hd, rfl⟩ := hck
    rw [Nat.add_sub_cancel_left] at hd
    exact zs_laload hx hb hd h
  · skip
    simp only [z_chk, z_arg, z_jmp, z_fld1, Bool.and_eq_true, decide_eq_true_eq] at hck
    obtain ⟨hd, rfl⟩ := hck
    rw [Nat.add_sub_cancel_left] at hd
    exact zs_aaload hx hb hd h
  · skip
    simp only [z_chk, z_arg, z_jmp, z_fld1, Bool.and_eq_true, decide_eq_true_eq] at hck
    obtain ⟨hd, rfl⟩ := hck
    rw [Nat.add_sub_cancel_left] at hd
    exact zs_iastore hx hb hd h
  · skip
    simp only [z_chk, z_arg, z_jmp, z_fld1, Bool.and_eq_true, decide_eq_true_eq] at hck
    obtain ⟨hd, rfl⟩ := hck
    rw [Nat.add_sub_cancel_left] at hd
    exact zs_bastore hx hb hd h
  · skip
    simp only [z_chk, z_arg, z_jmp, z_fld1, Bool.and_eq_true, decide_eq_true_eq] at hck
    obtain ⟨hd, rfl⟩ := hck
    rw [Nat.add_sub_cancel_left] at hd
    exact zs_lastore hx hb hd h
  · skip
    simp only [z_chk, z_arg, z_jmp, z_fld1, Bool.and_eq_true, decide_eq_true_eq] at hck
    obtain ⟨hd, rfl⟩ := hck
    rw [Nat.add_sub_cancel_left] at hd
    exact zs_aastore hx hb hd h
  · skip
    simp only [z_chk, z_arg, z_jmp, z_fld1, Bool.and_eq_true, decide_eq_true_eq] at hck
    obtain ⟨hd, rfl⟩ := hck
    rw [Nat.add_sub_cancel_left] at hd
    exact zs_arraylength hx hb hS0 hd h
  · rename_i i
    simp only [z_chk, z_arg, z_jmp, z_fld1, Bool.and_eq_true, decide_eq_true_eq] at hck
    obtain ⟨hd, ⟨⟨⟨rfl, ha⟩, w1⟩, w2⟩, w3⟩ := hck
    rw [Nat.add_sub_cancel_left] at hd
    exact zs_new hx hb hts hown hsz h4n hBM ha (z_hw_in w1) (z_hw_in w2) (z_hw_in w3) hd h
  · skip
    simp only [z_chk, z_arg, z_jmp, z_fld1, Bool.and_eq_true, decide_eq_true_eq] at hck
    obtain ⟨hd, rfl, w1⟩ := hck
    rw [Nat.add_sub_cancel_left] at hd
    exact zs_newI hx hb hts hsz h4n hBM (z_hw_in w1) hd h
  · skip
    simp only [z_chk, z_arg, z_jmp, z_fld1, Bool.and_eq_true, decide_eq_true_eq] at hck
    obtain ⟨hd, rfl, w1⟩ := hck
    rw [Nat.add_sub_cancel_left] at hd
    exact zs_newZ hx hb hts hsz h4n hBM (z_hw_in w1) hd h
  · skip
    simp only [z_chk, z_arg, z_jmp, z_fld1, Bool.and_eq_true, decide_eq_true_eq] at hck
    obtain ⟨hd, rfl, w1⟩ := hck
    rw [Nat.add_sub_cancel_left] at hd
    exact zs_newJ hx hb hts hsz h4n hBM (z_hw_in w1) hd h
  · rename_i i
    simp only [z_chk, z_arg, z_jmp, z_fld1, Bool.and_eq_true, decide_eq_true_eq] at hck
    obtain ⟨hd, ⟨⟨rfl, h3⟩, h6⟩, w1⟩ := hck
    rw [Nat.add_sub_cancel_left] at hd
    exact zs_anew hx hb hts hS0 hown hsz h4n hBM h3 h6 (z_hw_in w1) hd h
  · rename_i i
    simp only [z_chk, z_arg, z_jmp, z_fld1, Bool.and_eq_true, decide_eq_true_eq] at hck
    obtain ⟨hd, rfl, w1⟩ := hck
    rw [Nat.add_sub_cancel_left] at hd
    exact zs_checkcast hx hb hown (hts _ (z_hw_in w1)) hd h
  · rename_i i
    simp only [z_chk, z_arg, z_jmp, z_fld1, Bool.and_eq_true, decide_eq_true_eq] at hck
    obtain ⟨hd, rfl, hc⟩ := hck
    rw [Nat.add_sub_cancel_left] at hd
    exact zs_inv hx hb hml hts hS0 hown hsz h4n hBM hR1 hR2 hnm (Or.inl ⟨rfl, rfl⟩) hd hc h
  · rename_i i
    simp only [z_chk, z_arg, z_jmp, z_fld1, Bool.and_eq_true, decide_eq_true_eq] at hck
    obtain ⟨hd, rfl, hc⟩ := hck
    rw [Nat.add_sub_cancel_left] at hd
    exact zs_inv hx hb hml hts hS0 hown hsz h4n hBM hR1 hR2 hnm (Or.inr (Or.inl ⟨rfl, rfl⟩)) hd hc h
  · rename_i i
    simp only [z_chk, z_arg, z_jmp, z_fld1, Bool.and_eq_true, decide_eq_true_eq] at hck
    obtain ⟨hd, rfl, hc⟩ := hck
    rw [Nat.add_sub_cancel_left] at hd
    exact zs_inv hx hb hml hts hS0 hown hsz h4n hBM hR1 hR2 hnm (Or.inr (Or.inr ⟨rfl, rfl⟩)) hd hc h
  · simp only [z_chk, z_arg, z_jmp, z_fld1, Bool.and_eq_true, decide_eq_true_eq] at hck
    obtain ⟨hd, ⟨rfl, r0⟩, r1⟩ := hck
    rw [Nat.add_sub_cancel_left] at hd
    obtain ⟨x, r, rfl, h1⟩ := p_I1 h
    obtain ⟨rfl, h2⟩ := p_nil h1
    intro H locs ls hH hL
    split at h2
    · exact hRT _ _ h2 H locs ls pc _ hH hd (Or.inl ⟨x, rfl, rfl, Or.inl (r0 rfl)⟩)
    · next ha =>
      obtain ⟨hx2, h3⟩ := p_bool h2
      exact hRT _ _ h3 H locs ls pc _ hH hd (Or.inl ⟨x, rfl, rfl, Or.inr ⟨r1 ha, hx2⟩⟩)
  · simp only [z_chk, z_arg, z_jmp, z_fld1, Bool.and_eq_true, decide_eq_true_eq] at hck
    obtain ⟨hd, rfl, r0⟩ := hck
    rw [Nat.add_sub_cancel_left] at hd
    obtain ⟨x, r, rfl, h1⟩ := p_J1 h
    obtain ⟨rfl, h2⟩ := p_nil h1
    intro H locs ls hH hL
    exact hRT _ _ h2 H locs ls pc _ hH hd (Or.inr (Or.inl ⟨x, rfl, rfl, r0⟩))
  · simp only [z_chk, z_arg, z_jmp, z_fld1, Bool.and_eq_true, decide_eq_true_eq] at hck
    obtain ⟨hd, rfl, r0⟩ := hck
    rw [Nat.add_sub_cancel_left] at hd
    obtain ⟨v, r, rfl, h1⟩ := p_V1 h
    obtain ⟨rfl, h2⟩ := p_nil h1
    obtain ⟨hv, h3⟩ := p_isA h2
    intro H locs ls hH hL
    refine hRT _ _ h3 H locs ls pc _ hH hd (Or.inr (Or.inr (Or.inl ⟨rfl, ?_, ?_⟩)))
    · split at r0
      · exact Or.inl ⟨_, rfl⟩
      · exact Or.inr ⟨_, rfl⟩
      · cases r0
    · rcases hv with ⟨q, rfl⟩ | rfl
      · exact Or.inr ⟨q, rfl⟩
      · exact Or.inl rfl
  · simp only [z_chk, z_arg, z_jmp, z_fld1, Bool.and_eq_true, decide_eq_true_eq] at hck
    obtain ⟨hd, rfl, r0⟩ := hck
    rw [Nat.add_sub_cancel_left] at hd
    obtain ⟨rfl, h2⟩ := p_nil h
    intro H locs ls hH hL
    exact hRT _ _ h2 H locs ls pc _ hH hd (Or.inr (Or.inr (Or.inr ⟨rfl, rfl, r0⟩)))
  · exact h.elim
end ZT
