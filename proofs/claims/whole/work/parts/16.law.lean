/-! THE CLAIM OUT OF ONE WALK OF THE LAW'S BODY. Your part is whole_start (and what it stands on); all else here is the same for every law, but numbers. -/
def R_law : String := "ScansionDeskLaw"
def lw_P (b : Addr) (xs : List Int32) (args : Array Value) (s : State) : Prop := args = #[.ref b] ∧ s.IntsAt b xs ∧ xs.length ≤ 3072 ∧ (Jvm.Cond.and given_1 narrow_1).before args s = true
def lw_Q (_ : Array Value) (s : State) (o : Outcome) (t : State) : Prop := o = .returned (some (.int 1)) ∧ Framed s o t [] 600000 7302249
def lw_Z (below : List Frame) (a : Array Value) (s : State) : State → Prop := fun t => ∃ o, t.status = .running ∧ Ended t below o ∧ lw_Q a s o t
/-- the law's own end, with 1 on the stack, nothing written that was there before, its room as the claim has it -/
theorem lw_ret {p : Program} {l : Launch} {e : Env} {s : State} {m : MethodId} {below : List Frame} {meth : Method} {c : Code} {b : Nat} (hx : p.tables.exec = Jvm.exec) (hb : c.code = code) (hr : meth.sig.returnType = ret) (hlocks : meth.locks = false) {pc : Nat} {H : Heap} {ls : Array Slot} (hdg : decode code pc = .ok (.ireturn, 1)) : W p l e room_1 s m #[Value.ref b] below meth c H [] 600000 7302249 (lw_Z below #[Value.ref b] s) (F0 m pc ls [.int 1]) := by
  intro T hT X
  obtain ⟨fs, hret, hrun, hended, hW, hframe⟩ := X.leave (v := some (.int 1)) (hlocks := hlocks) (fun h => by rw [hr] at h; cases h)
  have hmeth' : T.vm.method? m = some meth := X.method'
  refine ⟨T.setFrames fs, ?_, .returned (some (.int 1)), hrun, hended, rfl, ⟨_, rfl⟩, hW, hframe⟩
  jvm_step X.here [X.here.top, hx, hb, hdg, hmeth', hr, ret, narrow_b1]
  (try refine ⟨rfl, ?_⟩); (try refine ⟨rfl, ?_⟩)
  first | (intro acts; rw [hret _ acts rfl rfl rfl]) | rw [hret _ _ rfl rfl rfl]
  exact Steps.refl _
/-- what holds at the law's entry: the machine, the code, the tables' words (any of lw_tbl by 'hts w (by decide +kernel)'), the script of L ints xs at the cell b, what the Statement gives of the start (any of its parts by flat_of_before) -/
def lw_At (p : Program) (s : State) (m : MethodId) (meth : Method) (c : Code) (b L : Nat) (xs : Nat → Int32) : Prop :=
  p.tables.exec = Jvm.exec ∧ c.code = code ∧ meth.sig.returnType = ret ∧ c.maxLocals = 4 ∧ s.vm.findClass R_law = some m.cls ∧ (∀ w ∈ lw_tbl, w.before #[Value.ref b] s = true) ∧ va_X b L xs s s.heap ∧ b < s.heap.size ∧ meth.locks = false ∧ (Jvm.Cond.and given_1 narrow_1).before #[Value.ref b] s = true

theorem z_inst_in {k : Nat} (h : k < 12) : Cond.instantiable (z_cl k).1 (z_cl k).2.2 ∈ zG := by
  rcases (show k = 0 ∨ k = 1 ∨ k = 2 ∨ k = 3 ∨ k = 4 ∨ k = 5 ∨ k = 6 ∨ k = 7 ∨ k = 8 ∨ k = 9 ∨ k = 10 ∨ k = 11 by omega) with rfl | rfl | rfl | rfl | rfl | rfl | rfl | rfl | rfl | rfl | rfl | rfl
  · exact zw_in (n := 113) rfl
  · exact zw_in (n := 407) rfl
  · exact zw_in (n := 20) rfl
  · exact zw_in (n := 2211) rfl
  · exact zw_in (n := 109) rfl
  · exact zw_in (n := 117) rfl
  · exact zw_in (n := 121) rfl
  · exact zw_in (n := 13) rfl
  · exact zw_in (n := 101) rfl
  · exact zw_in (n := 105) rfl
  · exact zw_in (n := 1) rfl
  · exact zw_in (n := 4) rfl
theorem zstr_c0 : ∀ j : Nat, j < 10 → (Cond.eq (.elem (.field (.string "ScansionDesk$Tokens" 66) "java/lang/String" "value" "[B") (.int (Int32.ofNat (j + 0)))) (.int (([z_words.map Int32.ofNat].getD 0 []).getD (j + 0) 0))) ∈ flatC (Jvm.Cond.and given_1 narrow_1) := by
  decide +kernel
theorem zstr_c1 : ∀ j : Nat, j < 10 → (Cond.eq (.elem (.field (.string "ScansionDesk$Tokens" 66) "java/lang/String" "value" "[B") (.int (Int32.ofNat (j + 10)))) (.int (([z_words.map Int32.ofNat].getD 0 []).getD (j + 10) 0))) ∈ flatC (Jvm.Cond.and given_1 narrow_1) := by
  decide +kernel
theorem zstr_c2 : ∀ j : Nat, j < 10 → (Cond.eq (.elem (.field (.string "ScansionDesk$Tokens" 66) "java/lang/String" "value" "[B") (.int (Int32.ofNat (j + 20)))) (.int (([z_words.map Int32.ofNat].getD 0 []).getD (j + 20) 0))) ∈ flatC (Jvm.Cond.and given_1 narrow_1) := by
  decide +kernel
theorem zstr_c3 : ∀ j : Nat, j < 10 → (Cond.eq (.elem (.field (.string "ScansionDesk$Tokens" 66) "java/lang/String" "value" "[B") (.int (Int32.ofNat (j + 30)))) (.int (([z_words.map Int32.ofNat].getD 0 []).getD (j + 30) 0))) ∈ flatC (Jvm.Cond.and given_1 narrow_1) := by
  decide +kernel
theorem zstr_c4 : ∀ j : Nat, j < 10 → (Cond.eq (.elem (.field (.string "ScansionDesk$Tokens" 66) "java/lang/String" "value" "[B") (.int (Int32.ofNat (j + 40)))) (.int (([z_words.map Int32.ofNat].getD 0 []).getD (j + 40) 0))) ∈ flatC (Jvm.Cond.and given_1 narrow_1) := by
  decide +kernel
theorem zstr_c5 : ∀ j : Nat, j < 10 → (Cond.eq (.elem (.field (.string "ScansionDesk$Tokens" 66) "java/lang/String" "value" "[B") (.int (Int32.ofNat (j + 50)))) (.int (([z_words.map Int32.ofNat].getD 0 []).getD (j + 50) 0))) ∈ flatC (Jvm.Cond.and given_1 narrow_1) := by
  decide +kernel
theorem zstr_c6 : ∀ j : Nat, j < 10 → (Cond.eq (.elem (.field (.string "ScansionDesk$Tokens" 66) "java/lang/String" "value" "[B") (.int (Int32.ofNat (j + 60)))) (.int (([z_words.map Int32.ofNat].getD 0 []).getD (j + 60) 0))) ∈ flatC (Jvm.Cond.and given_1 narrow_1) := by
  decide +kernel
theorem zstr_c7 : ∀ j : Nat, j < 10 → (Cond.eq (.elem (.field (.string "ScansionDesk$Tokens" 66) "java/lang/String" "value" "[B") (.int (Int32.ofNat (j + 70)))) (.int (([z_words.map Int32.ofNat].getD 0 []).getD (j + 70) 0))) ∈ flatC (Jvm.Cond.and given_1 narrow_1) := by
  decide +kernel
theorem zstr_c8 : ∀ j : Nat, j < 10 → (Cond.eq (.elem (.field (.string "ScansionDesk$Tokens" 66) "java/lang/String" "value" "[B") (.int (Int32.ofNat (j + 80)))) (.int (([z_words.map Int32.ofNat].getD 0 []).getD (j + 80) 0))) ∈ flatC (Jvm.Cond.and given_1 narrow_1) := by
  decide +kernel
theorem zstr_c9 : ∀ j : Nat, j < 10 → (Cond.eq (.elem (.field (.string "ScansionDesk$Tokens" 66) "java/lang/String" "value" "[B") (.int (Int32.ofNat (j + 90)))) (.int (([z_words.map Int32.ofNat].getD 0 []).getD (j + 90) 0))) ∈ flatC (Jvm.Cond.and given_1 narrow_1) := by
  decide +kernel
theorem zstr_c10 : ∀ j : Nat, j < 10 → (Cond.eq (.elem (.field (.string "ScansionDesk$Tokens" 66) "java/lang/String" "value" "[B") (.int (Int32.ofNat (j + 100)))) (.int (([z_words.map Int32.ofNat].getD 0 []).getD (j + 100) 0))) ∈ flatC (Jvm.Cond.and given_1 narrow_1) := by
  decide +kernel
theorem zstr_c11 : ∀ j : Nat, j < 10 → (Cond.eq (.elem (.field (.string "ScansionDesk$Tokens" 66) "java/lang/String" "value" "[B") (.int (Int32.ofNat (j + 110)))) (.int (([z_words.map Int32.ofNat].getD 0 []).getD (j + 110) 0))) ∈ flatC (Jvm.Cond.and given_1 narrow_1) := by
  decide +kernel
theorem zstr_c12 : ∀ j : Nat, j < 10 → (Cond.eq (.elem (.field (.string "ScansionDesk$Tokens" 66) "java/lang/String" "value" "[B") (.int (Int32.ofNat (j + 120)))) (.int (([z_words.map Int32.ofNat].getD 0 []).getD (j + 120) 0))) ∈ flatC (Jvm.Cond.and given_1 narrow_1) := by
  decide +kernel
theorem zstr_c13 : ∀ j : Nat, j < 10 → (Cond.eq (.elem (.field (.string "ScansionDesk$Tokens" 66) "java/lang/String" "value" "[B") (.int (Int32.ofNat (j + 130)))) (.int (([z_words.map Int32.ofNat].getD 0 []).getD (j + 130) 0))) ∈ flatC (Jvm.Cond.and given_1 narrow_1) := by
  decide +kernel
theorem zstr_el {args : Array Value} {s : State} (hs : ∀ w ∈ flatC (Jvm.Cond.and given_1 narrow_1), w.before args s = true) : ∀ j : Nat, j < 140 → (Cond.eq (.elem (.field (.string "ScansionDesk$Tokens" 66) "java/lang/String" "value" "[B") (.int (Int32.ofNat j))) (.int (([z_words.map Int32.ofNat].getD 0 []).getD j 0))).before args s = true := by
  intro j hj
  refine hs _ ?_
  by_cases q0 : j < 10
  · have := zstr_c0 (j - 0) (by omega)
    rwa [show j - 0 + 0 = j by omega] at this
  by_cases q1 : j < 20
  · have := zstr_c1 (j - 10) (by omega)
    rwa [show j - 10 + 10 = j by omega] at this
  by_cases q2 : j < 30
  · have := zstr_c2 (j - 20) (by omega)
    rwa [show j - 20 + 20 = j by omega] at this
  by_cases q3 : j < 40
  · have := zstr_c3 (j - 30) (by omega)
    rwa [show j - 30 + 30 = j by omega] at this
  by_cases q4 : j < 50
  · have := zstr_c4 (j - 40) (by omega)
    rwa [show j - 40 + 40 = j by omega] at this
  by_cases q5 : j < 60
  · have := zstr_c5 (j - 50) (by omega)
    rwa [show j - 50 + 50 = j by omega] at this
  by_cases q6 : j < 70
  · have := zstr_c6 (j - 60) (by omega)
    rwa [show j - 60 + 60 = j by omega] at this
  by_cases q7 : j < 80
  · have := zstr_c7 (j - 70) (by omega)
    rwa [show j - 70 + 70 = j by omega] at this
  by_cases q8 : j < 90
  · have := zstr_c8 (j - 80) (by omega)
    rwa [show j - 80 + 80 = j by omega] at this
  by_cases q9 : j < 100
  · have := zstr_c9 (j - 90) (by omega)
    rwa [show j - 90 + 90 = j by omega] at this
  by_cases q10 : j < 110
  · have := zstr_c10 (j - 100) (by omega)
    rwa [show j - 100 + 100 = j by omega] at this
  by_cases q11 : j < 120
  · have := zstr_c11 (j - 110) (by omega)
    rwa [show j - 110 + 110 = j by omega] at this
  by_cases q12 : j < 130
  · have := zstr_c12 (j - 120) (by omega)
    rwa [show j - 120 + 120 = j by omega] at this
  by_cases q13 : j < 140
  · have := zstr_c13 (j - 130) (by omega)
    rwa [show j - 130 + 130 = j by omega] at this
  omega
/-! the law's start -/
theorem zSt_start {p : Program} {s : State} {m : MethodId} {meth : Method} {c : Code} {b0 L : Nat} {xs : Nat → Int32} (C0 : lw_At p s m meth c b0 L xs) : ∃ sa : Nat → Nat, sa 2 = b0 ∧ zSt s.heap.size sa (L, xs) s := by
  obtain ⟨hx, hb, hr, hml, hown, hts, hX, hbl, hlocks, hgv⟩ := C0
  have hs := flat_of_before _ hgv
  have hA : ∀ a : Nat, a < s.heap.size → ¬ s.heap.size ≤ a := fun a h => Nat.not_le.mpr h
  have hr0 : ∀ j : Nat, j < 5 → (Term.elem (.static "ScansionDesk" "REFUSAL_CODES" "[I") (.int (Int32.ofNat j))).eval #[Value.ref b0] s none [] s = some (.int (z_rcf j)) := by
    intro j hj
    rcases (show j = 0 ∨ j = 1 ∨ j = 2 ∨ j = 3 ∨ j = 4 by omega) with rfl | rfl | rfl | rfl | rfl
    · exact va_eqt (hs (Cond.eq (.elem (.static "ScansionDesk" "REFUSAL_CODES" "[I") (.int 0)) (.int (-1))) (by decide +kernel))
    · exact va_eqt (hs (Cond.eq (.elem (.static "ScansionDesk" "REFUSAL_CODES" "[I") (.int 1)) (.int (-2))) (by decide +kernel))
    · exact va_eqt (hs (Cond.eq (.elem (.static "ScansionDesk" "REFUSAL_CODES" "[I") (.int 2)) (.int (-3))) (by decide +kernel))
    · exact va_eqt (hs (Cond.eq (.elem (.static "ScansionDesk" "REFUSAL_CODES" "[I") (.int 3)) (.int (-5))) (by decide +kernel))
    · exact va_eqt (hs (Cond.eq (.elem (.static "ScansionDesk" "REFUSAL_CODES" "[I") (.int 4)) (.int (-6))) (by decide +kernel))
  obtain ⟨t0, ht0, hT0⟩ := va_Tof (ty := .int) (N := 5) (f := fun j => .int (z_rcf j)) (A := fun q : Nat => s.heap.size ≤ q) (by decide) (hs (Cond.arrayOf (.static "ScansionDesk" "REFUSAL_CODES" "[I") .int) (by decide +kernel)) (va_eqt (hs (Cond.eq (.length (.static "ScansionDesk" "REFUSAL_CODES" "[I")) (.int 5)) (by decide +kernel))) hr0 hA
  have hZ0 := va_Zof (A := fun q : Nat => s.heap.size ≤ q) (hts _ (zt_in 2 _ (List.mem_of_getElem? (i := 53) rfl))) (hts _ (zG_in _ (zw_in (n := 2) rfl))) ht0 hA
  have hr1 : ∀ j : Nat, j < 3 → (Term.elem (.static "ScansionDesk" "HIGHEST_TERMS" "[I") (.int (Int32.ofNat j))).eval #[Value.ref b0] s none [] s = some (.int (z_htf j)) := by
    intro j hj
    rcases (show j = 0 ∨ j = 1 ∨ j = 2 by omega) with rfl | rfl | rfl
    · exact va_eqt (hs (Cond.eq (.elem (.static "ScansionDesk" "HIGHEST_TERMS" "[I") (.int 0)) (.int (999))) (by decide +kernel))
    · exact va_eqt (hs (Cond.eq (.elem (.static "ScansionDesk" "HIGHEST_TERMS" "[I") (.int 1)) (.int (10))) (by decide +kernel))
    · exact va_eqt (hs (Cond.eq (.elem (.static "ScansionDesk" "HIGHEST_TERMS" "[I") (.int 2)) (.int (9))) (by decide +kernel))
  obtain ⟨t1, ht1, hT1⟩ := va_Tof (ty := .int) (N := 3) (f := fun j => .int (z_htf j)) (A := fun q : Nat => s.heap.size ≤ q) (by decide) (hs (Cond.arrayOf (.static "ScansionDesk" "HIGHEST_TERMS" "[I") .int) (by decide +kernel)) (va_eqt (hs (Cond.eq (.length (.static "ScansionDesk" "HIGHEST_TERMS" "[I")) (.int 3)) (by decide +kernel))) hr1 hA
  have hZ1 := va_Zof (A := fun q : Nat => s.heap.size ≤ q) (hts _ (zt_in 2 _ (List.mem_of_getElem? (i := 200) rfl))) (hts _ (zG_in _ (zw_in (n := 2) rfl))) ht1 hA
  obtain ⟨adK, adV, hvS, hvE⟩ := vk_Sof (args := #[Value.ref b0]) (s := s) (N := 1) (tm := fun _ => (.string "ScansionDesk$Tokens" 66)) (len := [z_words.length]) (byt := [z_words.map Int32.ofNat]) (A := fun q : Nat => s.heap.size ≤ q)
    (fun i hi => by rcases (show i = 0 by omega) with rfl; decide +kernel)
    (fun i hi => hs (Cond.exactly (.string "ScansionDesk$Tokens" 66) "java/lang/String") (by decide +kernel))
    (fun i hi => hs (Cond.eq (.field (.string "ScansionDesk$Tokens" 66) "java/lang/String" "coder" "B") (.int 0)) (by decide +kernel))
    (fun i hi => hs (Cond.arrayOf (.field (.string "ScansionDesk$Tokens" 66) "java/lang/String" "value" "[B") .byte) (by decide +kernel))
    (fun i hi => by rcases (show i = 0 by omega) with rfl; exact hs (Cond.eq (.length (.field (.string "ScansionDesk$Tokens" 66) "java/lang/String" "value" "[B")) (.int 140)) (by decide +kernel))
    (fun i hi j hj => by
      rcases (show i = 0 by omega) with rfl
      have hj : j < 140 := hj
      exact zstr_el hs j hj)
    (fun i j hi hj hne => absurd (by omega) hne) hA
  have hK0 := hvE 0 (by omega)
  have hSI := va_Zqof (A := fun q : Nat => s.heap.size ≤ q) (hts _ (zt_in 3 _ (List.mem_of_getElem? (i := 41) rfl))) (hts _ (zG_in _ (zw_in (n := 2101) rfl))) (hs (Cond.isRef (.static "jdk/internal/util/Preconditions" "SIOOBE_FORMATTER" "Ljava/util/function/BiFunction;")) (by decide +kernel)) hA
  refine ⟨fun k => match k with | 0 => t0 | 1 => t1 | 2 => b0 | 3 => adK 0 | _ => adV 0, rfl, Nat.le_refl _, hZ0, hT0, hZ1, hT1, hX, hbl, vk_R.of (hts _ (zt_in 3 _ (List.mem_of_getElem? (i := 15) rfl))) hK0, ?_, ?_, va_Nw.of rfl (hts _ (zt_in 4 _ (List.mem_of_getElem? (i := 26) rfl))), va_AO.of (hts _ (zt_in 1 _ (List.mem_of_getElem? (i := 36) rfl))), va_AO.of (hts _ (zt_in 1 _ (List.mem_of_getElem? (i := 38) rfl))), va_AO.of (hts _ (zt_in 1 _ (List.mem_of_getElem? (i := 81) rfl))), va_Nw.of rfl (hts _ (zt_in 3 _ (List.mem_of_getElem? (i := 147) rfl))), va_Zof (hts _ (zt_in 3 _ (List.mem_of_getElem? (i := 25) rfl))) (hts _ (zG_in _ (zw_in (n := 1922) rfl))) (va_eqi (hs (Cond.eq (.static "java/lang/String" "COMPACT_STRINGS" "Z") (.int 1)) (by decide +kernel))) hA, hSI⟩
  · refine ⟨fun i hi => ?_, fun i j hi hj _ => by omega⟩
    rcases (show i = 0 by omega) with rfl
    exact hvS.1 0 (by omega)
  · intro q hq
    simp only [z_nests, List.mem_cons, List.not_mem_nil, or_false] at hq
    rcases hq with rfl | rfl | rfl | rfl | rfl | rfl | rfl | rfl | rfl
    · exact va_Nw.of rfl (hts _ (zt_in 1 _ (List.mem_of_getElem? (i := 31) rfl)))
    · exact va_Nw.of rfl (hts _ (zt_in 1 _ (List.mem_of_getElem? (i := 84) rfl)))
    · exact va_Nw.of rfl (hts _ (zt_in 1 _ (List.mem_of_getElem? (i := 104) rfl)))
    · exact va_Nw.of rfl (hts _ (zt_in 1 _ (List.mem_of_getElem? (i := 119) rfl)))
    · exact va_Nw.of rfl (hts _ (zt_in 1 _ (List.mem_of_getElem? (i := 149) rfl)))
    · exact va_Nw.of rfl (hts _ (zt_in 1 _ (List.mem_of_getElem? (i := 189) rfl)))
    · exact va_Nw.of rfl (hts _ (zt_in 2 _ (List.mem_of_getElem? (i := 1) rfl)))
    · exact va_Nw.of rfl (hts _ (zt_in 2 _ (List.mem_of_getElem? (i := 11) rfl)))
    · exact va_Nw.of rfl (hts _ (zt_in 2 _ (List.mem_of_getElem? (i := 16) rfl)))
set_option maxRecDepth 20000 in
theorem z_law_W {p : Program} {e : Env} {s : State} {m : MethodId} {below : List Frame} {meth : Method} {c : Code} (l : Launch) {b0 L : Nat} {xs : Nat → Int32} (C0 : lw_At p s m meth c b0 L xs) {n d : Nat} {M' : zM} (hd : d ≤ 1000) (hrun : z_run (L, xs) n d (z_entry 283 [.ref 2] (4, 0, fun _ => none)) = some (some (.int 1), M')) (h1 : M'.1 ≤ 600004) (h2 : M'.2.1 ≤ 7302249) : W p l e room_1 s m #[Value.ref b0] below meth c s.heap [] 0 0 (lw_Z below #[Value.ref b0] s) (entryFrame m ([Value.ref b0] : List Value).toArray 4) := by
  obtain ⟨sa, rfl, hS0⟩ := zSt_start C0
  obtain ⟨hx, hb, hr, hml, hown, hts, hX, hbl, hlocks, hgv⟩ := id C0
  have hts2 : ∀ w ∈ zG, w.before #[Value.ref (sa 2)] s = true := fun w hw => hts w (zG_in w hw)
  obtain ⟨dC, dI, hKc⟩ : ∃ (dC : Nat → ClassId) (dI : Nat → Nat → Nat), ∀ (k : Nat) (q : vw_C), vwCl[k]? = some q → u_Kn s q.1 q.2.1 q.2.2 (dC k) (dI k) := by
    have h0 : ∀ k : Nat, ∃ q : ClassId × (Nat → Nat), k < 12 → u_Kn s (z_cl k).1 (z_cl k).2.1 (z_cl k).2.2 q.1 q.2 := by
      intro k
      by_cases hk : k < 12
      · obtain ⟨cC, iS, hh⟩ := u_known (n := (z_cl k).2.2) hts2 (z_cl_ws hk) (hts2 _ (z_inst_in hk))
        exact ⟨(cC, iS), fun _ => hh⟩
      · exact ⟨(0, fun _ => 0), fun h => absurd h hk⟩
    obtain ⟨f, hf⟩ := Classical.axiomOfChoice h0
    refine ⟨fun k => (f k).1, fun k => (f k).2, fun k q hq => ?_⟩
    have hk : k < 12 := by
      have := (List.getElem?_eq_some_iff.mp hq).1
      exact this
    rw [z_cl_at hk] at hq
    cases hq
    exact hf k hk
  have hK : va_K (dC, dI) vwCl [] s := ⟨hKc, fun k q h => by simp at h⟩
  have hwf : z_wf ((4, 0, fun _ => none) : zM) := ⟨Nat.le_refl 4, fun i => ⟨fun h => (by cases h), fun h => by have h1 : 4 ≤ i := h.1; have h2 : i < 4 := h.2; omega⟩⟩
  have hH : zH (dC, dI) s.heap.size sa s ((4, 0, fun _ => none) : zM) s.heap [] := by
    refine ⟨hwf, fun _ => 0, [], hK, fun k q h => ?_, ⟨fun i j p q h => ?_, fun k q h => ?_⟩, va_S.rf, fun i t n x h => by cases h⟩
    · simp [z_ws] at h
    · simp [z_ws] at h
    · simp [z_ws] at h
  have hl := lv_entry (([.ref 2] : List Value).map (z_tv s.heap.size sa)) (n := 4) (Nat.le_of_ble_eq_true rfl)
  show W p l e room_1 s m #[Value.ref (sa 2)] below meth c s.heap [] 0 0 (lw_Z below #[Value.ref (sa 2)] s) (entryFrame m (([.ref 2] : List Value).map (z_tv s.heap.size sa)).toArray 4)
  rw [lg_entry_eq]
  generalize (lg_sl (([.ref 2] : List Value).map (z_tv s.heap.size sa)) ++ List.replicate (4 - (lg_sl (([.ref 2] : List Value).map (z_tv s.heap.size sa))).length) Slot.unset).toArray = ls at hl ⊢
  have hL : zLs s.heap.size sa 4 (z_pad 4 (z_ent [.ref 2])) ls := z_entry_ls hl
  have key := z_sound l (dC, dI) s.heap.size sa (L, xs) n d (z_entry 283 [.ref 2] (4, 0, fun _ => none)) (some (.int 1)) M' hrun p e room_1 s m #[Value.ref (sa 2)] below meth c (lw_Z below #[Value.ref (sa 2)] s) 4 0 hx hb hml hts2 hS0 hown (Nat.add_zero _).symm (Nat.le_refl 4) ⟨Nat.le_refl 4, Nat.le_refl 0, Nat.le_add_right _ _, Nat.le_add_right _ _⟩ (by show M'.1 ≤ 4 + 600000; omega) (by show M'.2.1 ≤ 0 + 7302249; omega) (by show d + 10 ≤ 2048; omega) (by show 64 * d + 400 ≤ 84000; omega) (fun h => absurd h (by decide +kernel)) ?_
  · exact key s.heap [] ls hH hL
  · intro H locs ls2 pc ins hH2 hdd hrok
    obtain ⟨hwf2, cs, tys, hK2, hP, hD, hS, ht2⟩ := hH2
    refine va_forget (fun q hq => hS.2.2 q hq) (W.widen (k := 600000) (n := 7302249) (by omega) (by omega) ?_)
    rcases hrok with ⟨x, rfl, hv, -⟩ | ⟨x, rfl, hv, -⟩ | ⟨rfl, hv, q | ⟨a, q⟩⟩ | ⟨rfl, hv, -⟩
    · exact lw_ret hx hb hr hlocks hdd
    · cases hv
    · cases q
    · cases q
    · cases hv
