/-! weeks: the reference's part, in pairs -/
def FrWm (T T' : zS) : Prop := Dyn T T' ∧ (∀ a i, a ≠ 97 → ¬ (99 ≤ a ∧ a ≤ 109) → ¬ (a = 72 ∧ (i = 0 ∨ i = 34 ∨ i = 38 ∨ i = 40 ∨ i = 51)) → ¬ (a = 74 ∧ 5 ≤ i ∧ i < 68) → gI T' a i = gI T a i) ∧ (∀ a i, ¬ (90 ≤ a ∧ a ≤ 92) → ¬ (a = 72 ∧ (i = 39 ∨ i = 41 ∨ i = 69)) → gJ T' a i = gJ T a i) ∧ (∀ a i, gQ T' a i = gQ T a i)
theorem FrWm.rf {S : zS} : FrWm S S := ⟨Dyn.rf, fun _ _ _ _ _ _ => rfl, fun _ _ _ _ => rfl, fun _ _ => rfl⟩
theorem FrWm.tr {A B C : zS} (h1 : FrWm A B) (h2 : FrWm B C) : FrWm A C := ⟨h1.1.tr h2.1, fun a i q r s t => (h2.2.1 a i q r s t).trans (h1.2.1 a i q r s t), fun a i q r => (h2.2.2.1 a i q r).trans (h1.2.2.1 a i q r), fun a i => (h2.2.2.2 a i).trans (h1.2.2.2 a i)⟩
theorem FrWm.I {S : zS} {i x : Int} (h : 5 ≤ i ∧ i < 68) : FrWm S (sI S 74 i x) := ⟨Dyn.sI (by omega) Dyn.rf, fun b j q r s t => by rw [gI_sI, if_neg (by omega)], fun _ _ _ _ => rfl, fun _ _ => rfl⟩
theorem FrWm.J {S : zS} {x : Int} : FrWm S (sJ S 72 69 x) := ⟨Dyn.sJ Dyn.rf, fun _ _ _ _ _ _ => rfl, fun a i q r => by rw [gJ_sJ, if_neg (by omega)], fun _ _ => rfl⟩
theorem FrQm.w {S S' : zS} (h : FrQm S S') : FrWm S S' := ⟨h.1, fun a i q r s _ => h.2.1 a i q r s, fun a i q r => h.2.2.1 a i q (by omega), h.2.2.2⟩
theorem nd_j {s : Int} (hs : 0 ≤ s ∧ s ≤ 1000003) : s * 1103 + 12345 - (s * 1103 + 12345).tdiv 1000003 * 1000003 = ndd s := nd_e hs
theorem e267 {X : zX} {d : Nat} (hd : 0 ≤ d) {S : zS} (s n : Int) (hs : 0 ≤ s ∧ s ≤ 1000003) (hn : 1 ≤ n ∧ n ≤ 20) (hj : gJ S 72 69 = s) : z_ev X d (z_entry 267 [.ref 72, .int (Int32.ofInt n)] (mk S)) = some (some (.int (Int32.ofInt (ndd s % n))), mk (sJ S 72 69 (ndd s))) := by
  show z_ev X d (267, 0, [some (.ref 72), some (.int (Int32.ofInt n))], [], mk S) = _
  have n1 := ndd_b s
  have e1 := nd_e hs
  have e2 : ndd s - (ndd s).tdiv n * n = ndd s % n := md_e n1.1
  have hn0 : ¬ n = 0 := by omega
  simp (disch := first | omega | assumption | exact b01_rng _ | exact st_5 | exact st_12 | exact st_19 | (simp only [isSt_sI, isSt_sJ, isSt_sF, isSt_sG, isSt_sA]; assumption)) only [↓B267_0, ↓r_72_69, ↓w_72_69, j_div, hj, e1, gI_sI, gI_sJ, gI_sF, gI_sG, gI_sQ, gI_sA, gJ_sI, gJ_sJ, gJ_sF, gJ_sG, gJ_sQ, gJ_sA, gQ_sI, gQ_sJ, gQ_sF, gQ_sG, gQ_sQ, gQ_sA, gH_sI, gH_sJ, gH_sF, gH_sG, gH_sQ, gH_sA, gN_sI, gN_sJ, gN_sF, gN_sG, gN_sQ, gN_sA, gW_sI, gW_sJ, gW_sF, gW_sG, gW_sQ, gW_sA, i_lit, i_add, i_sub, i_mul, i_neg, i_lt, i_le, i_eq, i32_gI, i64_gJ, i32_id, i32_to, i64_to, sI_i32, sJ_i64, b01_t, b01_f, i32_b01, b01_0, ↓a_s0, ↓n_s0, ↓a_s1, ↓n_s1, Int.add_zero, t_lt, f_lt, t_le, f_le, t_eq, f_eq, true_and, and_true, false_and, and_false, and_self, ↓reduceIte, z_bool_of, or_true, true_or, or_false, false_or, Int.neg_neg, not_true_eq_false, not_false_eq_true, lg_lt, lg_le, lg_gt, lg_ge, lg_eq, j_lit, j_add, j_sub, j_mul, j_neg, j_eq, i64_id, ij, ji, z_rt, Nat.reduceEqDiff, Nat.reduceAdd, Int.reduceAdd, Int.reduceSub, Int.reduceMul, Int.reduceNeg, Int.reduceLT, Int.reduceLE, Int.reduceEq, e2, hn0]
theorem c267 {X : zX} {d : Nat} (hd : 0 < d) {S : zS} (s n : Int) (hs : 0 ≤ s ∧ s ≤ 1000003) (hn : 1 ≤ n ∧ n ≤ 20) (hj : gJ S 72 69 = s) {cm cp : Nat} {L : zL} {st : List Value} : z_evc X d 267 [.ref 72, .int (Int32.ofInt n)] (cm, cp, L, st, mk S) = z_ev X d (cm, cp, L, .int (Int32.ofInt (ndd s % n)) :: st, mk (sJ S 72 69 (ndd s))) := z_evc_of (r := (some (.int (Int32.ofInt (ndd s % n))), mk (sJ S 72 69 (ndd s)))) (ck := (cm, cp, L, st, mk S)) hd (e267 (X := X) (Nat.le_refl _) s n hs hn hj)
section
variable {X : zX} {d : Nat}
theorem MtR.lo {g g' : Int → Int} {b : Int} {x : T3} (h : MtR g b x) (hb : 68 ≤ b) (hg : ∀ i, 68 ≤ i → g' i = g i) : MtR g' b x := by
  obtain ⟨h1, h2, h3, h4⟩ := h
  exact ⟨h1, h2, by rw [hg _ hb]; exact h3, fun j y hj => by rw [hg _ (by omega)]; exact h4 j y hj⟩
abbrev L268 (sd n tk k : Int) (x5 x6 x7 x8 : Option Value) : zL := [some (.ref 72), some (.int (Int32.ofInt sd)), some (.int (Int32.ofInt n)), some (.int (Int32.ofInt tk)), some (.int (Int32.ofInt k)), x5, x6, x7, x8]
theorem t268 (hd : 30 < d) {T : zS} {g : Int → Int} {sd n s tk k c : Int} {cls : List Cl} (hg : gI T 74 = g) (hj : gJ T 72 69 = s) (h20 : gI T 72 20 = 0) (h0 : 1 ≤ g 0 ∧ g 0 ≤ 20) (h5 : 0 ≤ g 5) (hs : 0 ≤ s ∧ s ≤ 1000003) (hk : 0 ≤ k ∧ k < n ∧ n ≤ 60) (ht : 0 ≤ tk ∧ tk ≤ 6 * k) (h9 : g 5 < 999) (hW : GB (wk1 g s) ∧ (0 ≤ wk1 g s 1 ∧ wk1 g s 1 ≤ 6) ∧ MetsR (wk1 g s) ∧ LawR (wk1 g s) (wk1 g s 4) cls) (hH : HowM cls (wk1 g s) c) {x5 x6 x7 x8 : Option Value} : ∃ (T' : zS) (y5 y6 y7 y8 : Option Value), z_ev X d (268, 68, L268 sd n tk k x5 x6 x7 x8, [], mk T) = z_ev X d (268, 68, L268 sd n (tk + c) (k + 1) y5 y6 y7 y8, [], mk T') ∧ FrWm T T' ∧ gI T' 74 = wk2 g s ∧ gJ T' 72 69 = ndd (ndd (ndd s)) := by
  have n1 := ndd_b s
  have n2 := ndd_b (ndd s)
  have n3 := ndd_b (ndd (ndd s))
  have hp : 0 ≤ wkP g s ∧ wkP g s < 20 := by
    unfold wkP
    have := Int.emod_nonneg (ndd s) (show g 0 ≠ 0 by omega)
    have := Int.emod_lt_of_pos (ndd s) (show 0 < g 0 by omega)
    omega
  have hWw : 0 ≤ wkW s ∧ wkW s ≤ 2 := by unfold wkW; omega
  have hHh : 0 ≤ wkH s ∧ wkH s ≤ 3 := by unfold wkH; omega
  have hF : 0 ≤ wkF s ∧ wkF s ≤ 2 := by unfold wkF; split <;> omega
  obtain ⟨g1, g2, g3, g4⟩ := hW
  obtain ⟨at_, hat⟩ : ∃ a : Int, a = 8 + 20 * wkF s + wkP g s := ⟨_, rfl⟩
  have hatb : 8 ≤ at_ ∧ at_ < 68 := by omega
  -- what stands there then
  have hVb : 0 ≤ wkV g s ∧ wkV g s ≤ 2 := by
    have b := g1.2.2.2 (wkP g s) hp.1 hp.2
    have e : wk1 g s at_ = wkV g s := by unfold wk1; rw [if_pos hat]
    rcases (show wkF s = 0 ∨ wkF s = 1 ∨ wkF s = 2 by omega) with z | z | z
    · rw [show 8 + wkP g s = at_ by omega, e] at b; omega
    · rw [show 28 + wkP g s = at_ by omega, e] at b; omega
    · rw [show 48 + wkP g s = at_ by omega, e] at b; omega
  obtain ⟨T1, hT1⟩ : ∃ T1 : zS, T1 = sI (sJ (sJ (sJ T 72 69 (ndd s)) 72 69 (ndd (ndd s))) 72 69 (ndd (ndd (ndd s)))) 74 at_ (wkV g s) := ⟨_, rfl⟩
  have f1 : FrWm T T1 := by rw [hT1]; exact (((FrWm.J).tr FrWm.J).tr FrWm.J).tr (FrWm.I (by omega))
  have e1 : gI T1 74 = wk1 g s := funext fun i => by
    rw [hT1, gI_sI]
    unfold wk1
    by_cases z : i = at_
    · rw [if_pos ⟨rfl, z⟩, if_pos (by omega), i32_id (by omega) (by omega)]
    · rw [if_neg (fun y => z y.2), if_neg (by omega), gI_sJ, gI_sJ, gI_sJ, hg]
  have hQ : RefQ T1 cls := by
    unfold RefQ
    rw [e1, f1.2.1 72 20 (by omega) (by omega) (by omega) (by omega)]
    exact ⟨g1, g2, h20, g4⟩
  obtain ⟨T2, kk, u1, u2, u3, u4⟩ := how_r (X := X) (d := 30) (by omega) hQ (by rw [e1]; exact g3)
  rw [e1] at u4
  have ec := hH.uniq u4
  have hcb := hH.b
  have ev1 := fun {cm cp : Nat} {L : zL} {st : List Value} => evR (X := X) (d := d) (by omega) u1 (cm := cm) (cp := cp) (L := L) (st := st)
  have ev2 := fun {cm cp : Nat} {L : zL} {st : List Value} => evI (X := X) (d := d) (by omega) (x241 (X := X) (d := 30) (S := T2) (v := (kk.val : Int))) (cm := cm) (cp := cp) (L := L) (st := st)
  rw [← ec] at ev2
  have e2 : gI T2 74 = wk1 g s := u2.g.trans e1
  have g15 : wk1 g s 5 = g 5 := if_neg (by omega)
  have e25 : gI T2 74 5 = g 5 := by rw [e2, g15]
  have d1 := fun {cm cp : Nat} {L : zL} {st : List Value} => c267 (X := X) (d := d) (by omega) (cm := cm) (cp := cp) (L := L) (st := st) (S := T) s (g 0) hs h0 hj
  have d2 := fun {cm cp : Nat} {L : zL} {st : List Value} => c267 (X := X) (d := d) (by omega) (cm := cm) (cp := cp) (L := L) (st := st) (S := sJ T 72 69 (ndd s)) (ndd s) 3 (by omega) (by omega) (by rw [gJ_sJ, if_pos ⟨rfl, rfl⟩, i64_id (by omega) (by omega)])
  have d3 := fun {cm cp : Nat} {L : zL} {st : List Value} => c267 (X := X) (d := d) (by omega) (cm := cm) (cp := cp) (L := L) (st := st) (S := sJ (sJ T 72 69 (ndd s)) 72 69 (ndd (ndd s))) (ndd (ndd s)) 4 (by omega) (by omega) (by rw [gJ_sJ, if_pos ⟨rfl, rfl⟩, i64_id (by omega) (by omega)])
  have h0' : gI T 74 0 = g 0 := by rw [hg]
  have h5' : gI T 74 5 = g 5 := by rw [hg]
  have hat' : gI T 74 at_ = g at_ := by rw [hg]
  refine ⟨sI T2 74 5 (g 5 + 1), vI (wkP g s), vI (wkW s), vI (wkH s), vI at_, ?_, (f1.tr u2.w).tr (FrWm.I (by omega)), funext fun i => ?_, ?_⟩
  · have dp : ndd s % g 0 = wkP g s := rfl
    have dw : ndd (ndd s) % 3 = wkW s := rfl
    have dh : ndd (ndd (ndd s)) % 4 = wkH s := rfl
    rw [dp] at d1
    rw [dw] at d2
    rw [dh] at d3
    have mid : z_ev X d (268, 68, L268 sd n tk k x5 x6 x7 x8, [], mk T) = z_ev X d (268, 145, L268 sd n tk k (vI (wkP g s)) (vI (wkW s)) (vI (wkH s)) x8, [.int (Int32.ofInt at_)], mk (sJ (sJ (sJ T 72 69 (ndd s)) 72 69 (ndd (ndd s))) 72 69 (ndd (ndd (ndd s))))) := by
      rw [B268_68]
      rcases (show wkH s < 2 ∨ wkH s = 2 ∨ wkH s = 3 by omega) with z | z | z
      · have : at_ = 8 + wkP g s := by have : wkF s = 0 := if_pos z; omega
        subst this
        have z2 : ¬ wkH s = 2 := by omega
        have z3 : ¬ wkH s = 3 := by omega
        simp (disch := first | omega | assumption | exact b01_rng _ | exact st_5 | exact st_12 | exact st_19 | (simp only [isSt_sI, isSt_sJ, isSt_sF, isSt_sG, isSt_sA]; assumption)) only [↓B268_74, ↓B268_86, ↓B268_96, ↓B268_103, ↓B268_110, ↓B268_126, ↓B268_140, ↓a_113, ↓a_74, ↓n_113, ↓n_74, ↓o_72, ↓r_72_3, ↓r_72_70, ↓s_113, ↓s_74, ↓w_72_0, ↓w_72_69, ↓w_72_71, ↓o_72, h0', h5', d1, d2, d3, z2, z3, i_lit, i_add, i_sub, i_mul, i_neg, i_lt, i_le, i_eq, i32_gI, i64_gJ, i32_id, i32_to, i64_to, sI_i32, sJ_i64, b01_t, b01_f, i32_b01, b01_0, ↓a_s0, ↓n_s0, ↓a_s1, ↓n_s1, Int.add_zero, t_lt, f_lt, t_le, f_le, t_eq, f_eq, true_and, and_true, false_and, and_false, and_self, ↓reduceIte, z_bool_of, or_true, true_or, or_false, false_or, Int.neg_neg, not_true_eq_false, not_false_eq_true, lg_lt, lg_le, lg_gt, lg_ge, lg_eq, j_lit, j_add, j_sub, j_mul, j_neg, j_eq, i64_id, ij, ji, z_rt, Nat.reduceEqDiff, Nat.reduceAdd, Int.reduceAdd, Int.reduceSub, Int.reduceMul, Int.reduceNeg, Int.reduceLT, Int.reduceLE, Int.reduceEq]
      · have : at_ = 28 + wkP g s := by have : wkF s = wkH s - 1 := if_neg (by omega); omega
        subst this
        simp (disch := first | omega | assumption | exact b01_rng _ | exact st_5 | exact st_12 | exact st_19 | (simp only [isSt_sI, isSt_sJ, isSt_sF, isSt_sG, isSt_sA]; assumption)) only [↓B268_74, ↓B268_86, ↓B268_96, ↓B268_103, ↓B268_110, ↓B268_118, ↓a_113, ↓a_74, ↓n_113, ↓n_74, ↓o_72, ↓r_72_3, ↓r_72_70, ↓s_113, ↓s_74, ↓w_72_0, ↓w_72_69, ↓w_72_71, ↓o_72, h0', h5', d1, d2, d3, z, i_lit, i_add, i_sub, i_mul, i_neg, i_lt, i_le, i_eq, i32_gI, i64_gJ, i32_id, i32_to, i64_to, sI_i32, sJ_i64, b01_t, b01_f, i32_b01, b01_0, ↓a_s0, ↓n_s0, ↓a_s1, ↓n_s1, Int.add_zero, t_lt, f_lt, t_le, f_le, t_eq, f_eq, true_and, and_true, false_and, and_false, and_self, ↓reduceIte, z_bool_of, or_true, true_or, or_false, false_or, Int.neg_neg, not_true_eq_false, not_false_eq_true, lg_lt, lg_le, lg_gt, lg_ge, lg_eq, j_lit, j_add, j_sub, j_mul, j_neg, j_eq, i64_id, ij, ji, z_rt, Nat.reduceEqDiff, Nat.reduceAdd, Int.reduceAdd, Int.reduceSub, Int.reduceMul, Int.reduceNeg, Int.reduceLT, Int.reduceLE, Int.reduceEq]
      · have : at_ = 48 + wkP g s := by have : wkF s = wkH s - 1 := if_neg (by omega); omega
        subst this
        simp (disch := first | omega | assumption | exact b01_rng _ | exact st_5 | exact st_12 | exact st_19 | (simp only [isSt_sI, isSt_sJ, isSt_sF, isSt_sG, isSt_sA]; assumption)) only [↓B268_74, ↓B268_86, ↓B268_96, ↓B268_103, ↓B268_110, ↓B268_126, ↓B268_132, ↓a_113, ↓a_74, ↓n_113, ↓n_74, ↓o_72, ↓r_72_3, ↓r_72_70, ↓s_113, ↓s_74, ↓w_72_0, ↓w_72_69, ↓w_72_71, ↓o_72, h0', h5', d1, d2, d3, z, i_lit, i_add, i_sub, i_mul, i_neg, i_lt, i_le, i_eq, i32_gI, i64_gJ, i32_id, i32_to, i64_to, sI_i32, sJ_i64, b01_t, b01_f, i32_b01, b01_0, ↓a_s0, ↓n_s0, ↓a_s1, ↓n_s1, Int.add_zero, t_lt, f_lt, t_le, f_le, t_eq, f_eq, true_and, and_true, false_and, and_false, and_self, ↓reduceIte, z_bool_of, or_true, true_or, or_false, false_or, Int.neg_neg, not_true_eq_false, not_false_eq_true, lg_lt, lg_le, lg_gt, lg_ge, lg_eq, j_lit, j_add, j_sub, j_mul, j_neg, j_eq, i64_id, ij, ji, z_rt, Nat.reduceEqDiff, Nat.reduceAdd, Int.reduceAdd, Int.reduceSub, Int.reduceMul, Int.reduceNeg, Int.reduceLT, Int.reduceLE, Int.reduceEq]
    have fin2 : z_ev X d (268, 173, L268 sd n tk k (vI (wkP g s)) (vI (wkW s)) (vI (wkH s)) (vI at_), [.int (Int32.ofInt (wkV g s)), .int (Int32.ofInt at_), .ref 74], mk (sJ (sJ (sJ T 72 69 (ndd s)) 72 69 (ndd (ndd s))) 72 69 (ndd (ndd (ndd s))))) = z_ev X d (268, 68, L268 sd n (tk + c) (k + 1) (vI (wkP g s)) (vI (wkW s)) (vI (wkH s)) (vI at_), [], mk (sI T2 74 5 (g 5 + 1))) := by
      have ev1' := fun {cm cp : Nat} {L : zL} {st : List Value} => ev1 (cm := cm) (cp := cp) (L := L) (st := st)
      rw [hT1] at ev1'
      simp (disch := first | omega | assumption | exact b01_rng _ | exact st_5 | exact st_12 | exact st_19 | (simp only [isSt_sI, isSt_sJ, isSt_sF, isSt_sG, isSt_sA]; assumption)) only [↓B268_173, ↓B268_180, ↓B268_183, ↓a_113, ↓a_74, ↓n_113, ↓n_74, ↓o_72, ↓r_72_3, ↓r_72_70, ↓s_113, ↓s_74, ↓w_72_0, ↓w_72_69, ↓w_72_71, ↓o_72, ev1', ev2, e25, i_lit, i_add, i_sub, i_mul, i_neg, i_lt, i_le, i_eq, i32_gI, i64_gJ, i32_id, i32_to, i64_to, sI_i32, sJ_i64, b01_t, b01_f, i32_b01, b01_0, ↓a_s0, ↓n_s0, ↓a_s1, ↓n_s1, Int.add_zero, t_lt, f_lt, t_le, f_le, t_eq, f_eq, true_and, and_true, false_and, and_false, and_self, ↓reduceIte, z_bool_of, or_true, true_or, or_false, false_or, Int.neg_neg, not_true_eq_false, not_false_eq_true, lg_lt, lg_le, lg_gt, lg_ge, lg_eq, j_lit, j_add, j_sub, j_mul, j_neg, j_eq, i64_id, ij, ji, z_rt, Nat.reduceEqDiff, Nat.reduceAdd, Int.reduceAdd, Int.reduceSub, Int.reduceMul, Int.reduceNeg, Int.reduceLT, Int.reduceLE, Int.reduceEq]
    rw [mid, ← fin2]
    have ee : gI (sJ (sJ (sJ T 72 69 (ndd s)) 72 69 (ndd (ndd s))) 72 69 (ndd (ndd (ndd s)))) 74 at_ = g at_ := hat'
    by_cases z : wkH s < 2
    · have hv : wkV g s = wkW s := if_pos z
      rw [hv]
      simp (disch := first | omega | assumption | exact b01_rng _ | exact st_5 | exact st_12 | exact st_19 | (simp only [isSt_sI, isSt_sJ, isSt_sF, isSt_sG, isSt_sA]; assumption)) only [↓B268_145, ↓B268_159, ↓a_113, ↓a_74, ↓n_113, ↓n_74, ↓o_72, ↓r_72_3, ↓r_72_70, ↓s_113, ↓s_74, ↓w_72_0, ↓w_72_69, ↓w_72_71, i_lit, i_add, i_sub, i_mul, i_neg, i_lt, i_le, i_eq, i32_gI, i64_gJ, i32_id, i32_to, i64_to, sI_i32, sJ_i64, b01_t, b01_f, i32_b01, b01_0, ↓a_s0, ↓n_s0, ↓a_s1, ↓n_s1, Int.add_zero, t_lt, f_lt, t_le, f_le, t_eq, f_eq, true_and, and_true, false_and, and_false, and_self, ↓reduceIte, z_bool_of, or_true, true_or, or_false, false_or, Int.neg_neg, not_true_eq_false, not_false_eq_true, lg_lt, lg_le, lg_gt, lg_ge, lg_eq, j_lit, j_add, j_sub, j_mul, j_neg, j_eq, i64_id, ij, ji, z_rt, Nat.reduceEqDiff, Nat.reduceAdd, Int.reduceAdd, Int.reduceSub, Int.reduceMul, Int.reduceNeg, Int.reduceLT, Int.reduceLE, Int.reduceEq]
    · have hv : wkV g s = 1 - g at_ := by unfold wkV; rw [if_neg z, ← hat]
      rw [hv]
      simp (disch := first | omega | assumption | exact b01_rng _ | exact st_5 | exact st_12 | exact st_19 | (simp only [isSt_sI, isSt_sJ, isSt_sF, isSt_sG, isSt_sA]; assumption)) only [↓B268_145, ↓B268_164, ↓a_113, ↓a_74, ↓n_113, ↓n_74, ↓o_72, ↓r_72_3, ↓r_72_70, ↓s_113, ↓s_74, ↓w_72_0, ↓w_72_69, ↓w_72_71, ee, i_lit, i_add, i_sub, i_mul, i_neg, i_lt, i_le, i_eq, i32_gI, i64_gJ, i32_id, i32_to, i64_to, sI_i32, sJ_i64, b01_t, b01_f, i32_b01, b01_0, ↓a_s0, ↓n_s0, ↓a_s1, ↓n_s1, Int.add_zero, t_lt, f_lt, t_le, f_le, t_eq, f_eq, true_and, and_true, false_and, and_false, and_self, ↓reduceIte, z_bool_of, or_true, true_or, or_false, false_or, Int.neg_neg, not_true_eq_false, not_false_eq_true, lg_lt, lg_le, lg_gt, lg_ge, lg_eq, j_lit, j_add, j_sub, j_mul, j_neg, j_eq, i64_id, ij, ji, z_rt, Nat.reduceEqDiff, Nat.reduceAdd, Int.reduceAdd, Int.reduceSub, Int.reduceMul, Int.reduceNeg, Int.reduceLT, Int.reduceLE, Int.reduceEq]
  · rw [gI_sI]
    unfold wk2
    by_cases z : i = 5
    · rw [if_pos ⟨rfl, z⟩, if_pos z, i32_id (by omega) (by omega)]
    · rw [if_neg (fun y => z y.2), if_neg z, e2]
  · rw [gJ_sI, u2.2.2.1 72 69 (by omega) (by omega), hT1, gJ_sI, gJ_sJ, if_pos ⟨rfl, rfl⟩, i64_id (by omega) (by omega)]
theorem wk_lo {g : Int → Int} {s i : Int} (h0 : 1 ≤ g 0) (hi : i < 5 ∨ 68 ≤ i) (h20 : g 0 ≤ 20) : wk2 g s i = g i := by
  have hp : 0 ≤ wkP g s ∧ wkP g s < 20 := by
    unfold wkP
    have := Int.emod_nonneg (ndd s) (show g 0 ≠ 0 by omega)
    have := Int.emod_lt_of_pos (ndd s) (show 0 < g 0 by omega)
    omega
  have hF : 0 ≤ wkF s ∧ wkF s ≤ 2 := by unfold wkF wkH; split <;> omega
  unfold wk2 wk1
  rw [if_neg (by omega), if_neg (by omega)]
theorem Wk.b : ∀ (c : Nat) (g : Int → Int) (s : Int) (g' : Int → Int) (tot : Int), Wk c g s g' tot → 1 ≤ g 0 → g 0 ≤ 20 → ∀ i, i < 5 ∨ 68 ≤ i → g' i = g i := by
  intro c
  induction c with
  | zero => rintro g s g' tot ⟨rfl, -⟩ _ _ i _; rfl
  | succ c ih =>
    rintro g s g' tot (⟨-, rfl, -⟩ | ⟨h9, cls, c1, tot', -, -, -, hW⟩) h0 h20 i hi
    · rfl
    · have e0 := wk_lo (g := g) (s := s) (i := 0) h0 (Or.inl (by omega)) h20
      rw [ih (wk2 g s) _ g' tot' hW (by rw [e0]; exact h0) (by rw [e0]; exact h20) i hi]
      exact wk_lo h0 hi h20
/-- the reference's weeks -/
theorem l268 (hd : 30 < d) {sd n : Int} : ∀ (c : Nat) (k s tk : Int) (T : zS) (g g' : Int → Int) (tot : Int) (x5 x6 x7 x8 : Option Value), k + c = n → 0 ≤ k → n ≤ 60 → gI T 74 = g → gJ T 72 69 = s → gI T 72 20 = 0 → (1 ≤ g 0 ∧ g 0 ≤ 20) → (0 ≤ g 5 ∧ g 5 ≤ 999) → (0 ≤ s ∧ s ≤ 1000003) → (0 ≤ tk ∧ tk ≤ 6 * k) → Wk c g s g' tot → ∃ (T' : zS) (y4 y5 y6 y7 y8 : Option Value), z_ev X d (268, 68, L268 sd n tk k x5 x6 x7 x8, [], mk T) = z_ev X d (268, 204, L268 sd n (tk + tot) 0 y5 y6 y7 y8, [], mk T') ∧ FrWm T T' ∧ gI T' 74 = g' := by
  intro c
  induction c with
  | zero =>
    intro k s tk T g g' tot x5 x6 x7 x8 hc hk hn hg hj h20 h0 h5 hs ht hW
    obtain ⟨rfl, rfl⟩ := hW
    have : k = n := by omega
    subst this
    refine ⟨T, none, x5, x6, x7, x8, ?_, FrWm.rf, hg⟩
    rw [Int.add_zero, B268_68]
    simp (disch := first | omega | assumption | exact b01_rng _ | exact st_5 | exact st_12 | exact st_19 | (simp only [isSt_sI, isSt_sJ, isSt_sF, isSt_sG, isSt_sA]; assumption)) only [↓B268_201, i_lit, i_add, i_sub, i_mul, i_neg, i_lt, i_le, i_eq, i32_gI, i64_gJ, i32_id, i32_to, i64_to, sI_i32, sJ_i64, b01_t, b01_f, i32_b01, b01_0, ↓a_s0, ↓n_s0, ↓a_s1, ↓n_s1, Int.add_zero, t_lt, f_lt, t_le, f_le, t_eq, f_eq, true_and, and_true, false_and, and_false, and_self, ↓reduceIte, z_bool_of, or_true, true_or, or_false, false_or, Int.neg_neg, not_true_eq_false, not_false_eq_true, lg_lt, lg_le, lg_gt, lg_ge, lg_eq, j_lit, j_add, j_sub, j_mul, j_neg, j_eq, i64_id, ij, ji, z_rt, Nat.reduceEqDiff, Nat.reduceAdd, Int.reduceAdd, Int.reduceSub, Int.reduceMul, Int.reduceNeg, Int.reduceLT, Int.reduceLE, Int.reduceEq]
  | succ c ih =>
    intro k s tk T g g' tot x5 x6 x7 x8 hc hk hn hg hj h20 h0 h5 hs ht hW
    have h5' : gI T 74 5 = g 5 := by rw [hg]
    rcases hW with ⟨h9, rfl, rfl⟩ | ⟨h9, cls, c1, tot', hA, hH, rfl, hW⟩
    · refine ⟨T, none, x5, x6, x7, x8, ?_, FrWm.rf, hg⟩
      rw [Int.add_zero, B268_68]
      simp (disch := first | omega | assumption | exact b01_rng _ | exact st_5 | exact st_12 | exact st_19 | (simp only [isSt_sI, isSt_sJ, isSt_sF, isSt_sG, isSt_sA]; assumption)) only [↓B268_74, ↓B268_201, ↓a_113, ↓a_74, ↓n_113, ↓n_74, ↓o_72, ↓r_72_3, ↓r_72_70, ↓s_113, ↓s_74, ↓w_72_0, ↓w_72_69, ↓w_72_71, h5', h9, i_lit, i_add, i_sub, i_mul, i_neg, i_lt, i_le, i_eq, i32_gI, i64_gJ, i32_id, i32_to, i64_to, sI_i32, sJ_i64, b01_t, b01_f, i32_b01, b01_0, ↓a_s0, ↓n_s0, ↓a_s1, ↓n_s1, Int.add_zero, t_lt, f_lt, t_le, f_le, t_eq, f_eq, true_and, and_true, false_and, and_false, and_self, ↓reduceIte, z_bool_of, or_true, true_or, or_false, false_or, Int.neg_neg, not_true_eq_false, not_false_eq_true, lg_lt, lg_le, lg_gt, lg_ge, lg_eq, j_lit, j_add, j_sub, j_mul, j_neg, j_eq, i64_id, ij, ji, z_rt, Nat.reduceEqDiff, Nat.reduceAdd, Int.reduceAdd, Int.reduceSub, Int.reduceMul, Int.reduceNeg, Int.reduceLT, Int.reduceLE, Int.reduceEq]
    · obtain ⟨T1, y5, y6, y7, y8, e1, e2, e3, e4⟩ := t268 (X := X) (d := d) (sd := sd) hd hg hj h20 h0 h5.1 hs ⟨hk, by omega, hn⟩ ht h9 hA hH (x5 := x5) (x6 := x6) (x7 := x7) (x8 := x8)
      have hcb := hH.b
      have hn3 := ndd_b (ndd (ndd s))
      have g0 := wk_lo (g := g) (s := s) (i := 0) h0.1 (Or.inl (by omega)) h0.2
      have g5 : wk2 g s 5 = g 5 + 1 := if_pos rfl
      obtain ⟨T', y4, y5', y6', y7', y8', u1, u2, u3⟩ := ih (k + 1) (ndd (ndd (ndd s))) (tk + c1) T1 (wk2 g s) g' tot' y5 y6 y7 y8 (by omega) (by omega) hn e3 e4 (by rw [e2.2.1 72 20 (by omega) (by omega) (by omega) (by omega)]; exact h20) (by rw [g0]; exact h0) (by rw [g5]; omega) (by omega) (by omega) hW
      refine ⟨T', y4, y5', y6', y7', y8', ?_, e2.tr u2, u3⟩
      rw [e1, u1, show tk + c1 + tot' = tk + (c1 + tot') by omega]
theorem l268c {sd n tk : Int} {x5 x6 x7 x8 : Option Value} : ∀ (c : Nat) (k : Int) (T : zS), k + c = 63 → 0 ≤ k → z_ev X d (268, 204, L268 sd n tk k x5 x6 x7 x8, [], mk T) = z_ev X d (268, 233, L268 sd n tk 63 x5 x6 x7 x8, [], mk (sF T 113 k 63 (fun i => gI T 74 (5 + i)))) := by
  intro c
  induction c with
  | zero =>
    intro k T hc hk
    have : k = 63 := by omega
    subst this
    rw [sF_nil (by omega), B268_204]
    simp (disch := first | omega | assumption | exact b01_rng _ | exact st_5 | exact st_12 | exact st_19 | (simp only [isSt_sI, isSt_sJ, isSt_sF, isSt_sG, isSt_sA]; assumption)) only [i_lit, i_add, i_sub, i_mul, i_neg, i_lt, i_le, i_eq, i32_gI, i64_gJ, i32_id, i32_to, i64_to, sI_i32, sJ_i64, b01_t, b01_f, i32_b01, b01_0, ↓a_s0, ↓n_s0, ↓a_s1, ↓n_s1, Int.add_zero, t_lt, f_lt, t_le, f_le, t_eq, f_eq, true_and, and_true, false_and, and_false, and_self, ↓reduceIte, z_bool_of, or_true, true_or, or_false, false_or, Int.neg_neg, not_true_eq_false, not_false_eq_true, lg_lt, lg_le, lg_gt, lg_ge, lg_eq, j_lit, j_add, j_sub, j_mul, j_neg, j_eq, i64_id, ij, ji, z_rt, Nat.reduceEqDiff, Nat.reduceAdd, Int.reduceAdd, Int.reduceSub, Int.reduceMul, Int.reduceNeg, Int.reduceLT, Int.reduceLE, Int.reduceEq]
  | succ c ih =>
    intro k T hc hk
    have e := ih (k + 1) (sI T 113 k (gI T 74 (5 + k))) (by omega) (by omega)
    rw [show (fun i => gI (sI T 113 k (gI T 74 (5 + k))) 74 (5 + i)) = (fun i => gI T 74 (5 + i)) from funext fun i => by rw [gI_sI, if_neg (by omega)], sF_step (S := T) (a := 113) (lo := k) (hi := 63) (x := gI T 74 (5 + k)) (f := fun i => gI T 74 (5 + i)) (by omega) rfl] at e
    rw [← e, B268_204]
    simp (disch := first | omega | assumption | exact b01_rng _ | exact st_5 | exact st_12 | exact st_19 | (simp only [isSt_sI, isSt_sJ, isSt_sF, isSt_sG, isSt_sA]; assumption)) only [↓B268_211, ↓a_113, ↓a_74, ↓n_113, ↓n_74, ↓o_72, ↓r_72_3, ↓r_72_70, ↓s_113, ↓s_74, ↓w_72_0, ↓w_72_69, ↓w_72_71, i_lit, i_add, i_sub, i_mul, i_neg, i_lt, i_le, i_eq, i32_gI, i64_gJ, i32_id, i32_to, i64_to, sI_i32, sJ_i64, b01_t, b01_f, i32_b01, b01_0, ↓a_s0, ↓n_s0, ↓a_s1, ↓n_s1, Int.add_zero, t_lt, f_lt, t_le, f_le, t_eq, f_eq, true_and, and_true, false_and, and_false, and_self, ↓reduceIte, z_bool_of, or_true, true_or, or_false, false_or, Int.neg_neg, not_true_eq_false, not_false_eq_true, lg_lt, lg_le, lg_gt, lg_ge, lg_eq, j_lit, j_add, j_sub, j_mul, j_neg, j_eq, i64_id, ij, ji, z_rt, Nat.reduceEqDiff, Nat.reduceAdd, Int.reduceAdd, Int.reduceSub, Int.reduceMul, Int.reduceNeg, Int.reduceLT, Int.reduceLE, Int.reduceEq]
end
/-- what can be undone looks at the first thousand of its row -/
theorem HiRel.fr7 {S T : zS} (h : HiRel S) (h1 : gI T 27 3 = gI S 27 3) (h2 : gI T 72 8 = gI S 72 8) (h3 : ∀ i, gI T 28 i = gI S 28 i) (h4 : ∀ i, gI T 29 i = gI S 29 i) (h5 : ∀ i, gI T 30 i = gI S 30 i) (h6 : ∀ i, 0 ≤ i → i < 1008 → gI T 77 i = gI S 77 i) (h7 : ∀ i, gI T 78 i = gI S 78 i) (h8 : ∀ i, 5 ≤ i → i < 68 → gI T 74 i = gI S 74 i) : HiRel T := by
  obtain ⟨a1, a2⟩ := h
  have hs : ∀ k i, 0 ≤ k → 0 ≤ i → i < 63 → snap T k i = snap S k i := fun k i q0 q1 q2 => by
    unfold snap; rw [h2]
    by_cases z : k < gI S 72 8
    · rw [if_pos z, if_pos z, h6 _ (by omega) (by omega)]
    · rw [if_neg z, if_neg z, h8 _ (by omega) (by omega)]
  refine ⟨by rw [h1, h2]; exact a1, fun k q1 q2 => ?_⟩
  rw [h2] at q2
  obtain ⟨b1, b2, b3, b4, b5, b6, b7⟩ := a2 k q1 q2
  refine ⟨by rw [h3, h7]; exact b1, by rw [h7]; exact b2, by rw [h7]; exact b3, by rw [h7, h4]; exact b4, by rw [h7, h5]; exact b5, by rw [h7, hs _ _ (by omega) (by omega) (by omega)]; exact b6, fun i q3 q4 => ?_⟩
  rw [hs _ _ q1 q3 q4, b7 i q3 q4, h3, h4, h5]
  exact undoAt_congr (fun i w1 w2 => (hs _ _ (by omega) w1 w2).symm) q3 q4
