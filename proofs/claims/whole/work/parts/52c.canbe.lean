/-! canBe in pairs -/
theorem FitR.none {T : Int → Prop} : ∀ {k : Nat}, (∀ i : Nat, i < k → ¬ T i) → FitR T k (Int32.ofInt 0) := by
  intro k
  induction k with
  | zero => intro _; rfl
  | succ k ih => intro h; exact ⟨_, ih (fun i hi => h i (by omega)), Or.inr ⟨h k (by omega), rfl⟩⟩
theorem StRel.hdb {P Q : zP} {S : zS} {s : Nat} {g : Int → Int} (h : StRel P Q S s g) : HdB g := by
  obtain ⟨-, -, ⟨-, a1, a2⟩, -, -, -, -, a8, -⟩ := h
  exact ⟨⟨a1, a2⟩, fun k q1 q2 => by obtain ⟨-, -, b1, b2, b3, b4⟩ := a8 k q1 q2; exact ⟨⟨b1, b2⟩, b3, b4⟩⟩
section
variable {X : zX} {S : zS} {d : Nat}
/-- the class's part -/
theorem x124 (hd : 20 < d) (hI : Inv PM QL S) {cls : List Cl} {o : Option Nat} (l1 : LawC S o cls) (l3 : ∀ {cm cp : Nat} {L : zL} {st : List Value}, z_evc X d 78 [.ref 5, .int (Int32.ofInt (gI S 74 4))] (cm, cp, L, st, mk S) = z_ev X d (cm, cp, L, lv o :: st, mk S)) : ∃ (S' : zS) (r : Int32), z_ev X d (z_entry 124 [.ref 4] (mk S)) = some (some (.int r), mk S') ∧ FrQc S S' ∧ FxC S' ∧ FitR (CbE cls (gI S 74)) (gI S 74 1).toNat r := by
  obtain ⟨b1, b2, b3⟩ := hI.1.2.1
  obtain ⟨f1, f2, f3⟩ := hI.1.2.2.2.2.1
  obtain ⟨S1, y1, y2, y3⟩ := look5 (X := X) (d0 := 9) (by omega) hI l1
  have ev1 := fun {cm cp : Nat} {L : zL} {st : List Value} => evV (X := X) (d := d) (by omega) y1 (cm := cm) (cp := cp) (L := L) (st := st)
  have hSH : SHd S1 (gI S 74) := by
    obtain ⟨a1, -, a3, -, -, -, -, a8, -⟩ := hI.1
    exact ⟨by rw [y2.2.1 5 6 (by omega)]; exact a1.1, by rw [y2.2.1 5 7 (by omega)]; exact a3.1, fun k q1 q2 => by
      obtain ⟨c1, c2, -⟩ := a8 k q1 q2
      rw [y2.2.1 8 k (by omega), y2.2.1 9 k (by omega)]; exact ⟨c1, c2⟩⟩
  obtain ⟨S2, r, z1, z2, z3⟩ := x48 (X := X) (d := 9) (by omega) hI.1.hdb hI.1.gb hSH y3
  have ev2 := fun {cm cp : Nat} {L : zL} {st : List Value} => evI (X := X) (d := d) (by omega) z1 (cm := cm) (cp := cp) (L := L) (st := st)
  have hx2 : FxC S2 := (hI.fxc.keep y2.2.2.1 y2.2.2.2).keep z2.2.2.1 z2.2.2.2
  have F2 : FrQc S S2 := y2.q.tr z2.q
  have ent : ∀ r0 : Int, z_ev X d (124, 36, [some (.ref 4)], [.int (Int32.ofInt r0)], mk S2) = z_ev X d (124, 36, [some (.ref 4)], [.int (Int32.ofInt r)], mk S2) → z_ev X d (z_entry 124 [.ref 4] (mk S)) = z_ev X d (124, 36, [some (.ref 4)], [.int (Int32.ofInt r0)], mk S2) := fun r0 e0 => by
    rw [e0]
    show z_ev X d (124, 0, [some (.ref 4)], [], mk S) = _
    cases o with
    | none => simp (disch := first | omega | assumption | exact b01_rng _ | exact st_5 | exact st_12 | exact st_19 | (simp only [isSt_sI, isSt_sJ, isSt_sF, isSt_sG, isSt_sA]; assumption)) only [↓B124_0, ↓B124_22_ns0, ↓B124_25, ↓o_19, ↓o_4, ↓o_5, ↓o_58, ↓r_19_10, ↓r_4_0, ↓r_4_11, ↓r_5_10, ↓o_5, ↓o_58, ↓r_5_10, l3, ev1, ev2, f1, lv, i_lit, i_add, i_sub, i_mul, i_neg, i_lt, i_le, i_eq, i32_gI, i64_gJ, i32_id, i32_to, i64_to, sI_i32, sJ_i64, b01_t, b01_f, i32_b01, b01_0, ↓a_s0, ↓n_s0, ↓a_s1, ↓n_s1, Int.add_zero, t_lt, f_lt, t_le, f_le, t_eq, f_eq, true_and, and_true, false_and, and_false, and_self, ↓reduceIte, z_bool_of, or_true, true_or, or_false, false_or, Int.neg_neg, not_true_eq_false, not_false_eq_true, lg_lt, lg_le, lg_gt, lg_ge, lg_eq, j_lit, j_add, j_sub, j_mul, j_neg, j_eq, i64_id, ij, ji, z_rt, Nat.reduceEqDiff, Nat.reduceAdd, Int.reduceAdd, Int.reduceSub, Int.reduceMul, Int.reduceNeg, Int.reduceLT, Int.reduceLE, Int.reduceEq]
    | some b => simp (disch := first | omega | assumption | exact b01_rng _ | exact st_5 | exact st_12 | exact st_19 | (simp only [isSt_sI, isSt_sJ, isSt_sF, isSt_sG, isSt_sA]; assumption)) only [↓B124_0, ↓B124_22, ↓B124_25, ↓o_19, ↓o_4, ↓o_5, ↓o_58, ↓r_19_10, ↓r_4_0, ↓r_4_11, ↓r_5_10, ↓o_5, ↓o_58, ↓r_5_10, l3, ev1, ev2, f1, lv, i_lit, i_add, i_sub, i_mul, i_neg, i_lt, i_le, i_eq, i32_gI, i64_gJ, i32_id, i32_to, i64_to, sI_i32, sJ_i64, b01_t, b01_f, i32_b01, b01_0, ↓a_s0, ↓n_s0, ↓a_s1, ↓n_s1, Int.add_zero, t_lt, f_lt, t_le, f_le, t_eq, f_eq, true_and, and_true, false_and, and_false, and_self, ↓reduceIte, z_bool_of, or_true, true_or, or_false, false_or, Int.neg_neg, not_true_eq_false, not_false_eq_true, lg_lt, lg_le, lg_gt, lg_ge, lg_eq, j_lit, j_add, j_sub, j_mul, j_neg, j_eq, i64_id, ij, ji, z_rt, Nat.reduceEqDiff, Nat.reduceAdd, Int.reduceAdd, Int.reduceSub, Int.reduceMul, Int.reduceNeg, Int.reduceLT, Int.reduceLE, Int.reduceEq]
  rcases z3 with ⟨rfl, hA, hBt⟩ | ⟨rfl, hno⟩
  · obtain ⟨S3, r', w1, w2, w3⟩ := x137 (X := X) (d := 10) (by omega) (s := 5) (S := S2) st_5 (hI.1.kp2 st_5 F2) hBt
    have ev3 := fun {cm cp : Nat} {L : zL} {st : List Value} => evR (X := X) (d := d) (by omega) w1 (cm := cm) (cp := cp) (L := L) (st := st)
    refine ⟨S3, r', ?_, F2.tr w2.q, hx2.keep w2.2.2.1 w2.2.2.2, w3.cg (fun i _ => ⟨fun z => z.2, fun z => ⟨hA, z⟩⟩)⟩
    rw [ent 1 rfl]
    simp (disch := first | omega | assumption | exact b01_rng _ | exact st_5 | exact st_12 | exact st_19 | (simp only [isSt_sI, isSt_sJ, isSt_sF, isSt_sG, isSt_sA]; assumption)) only [↓B124_36, ↓B124_39, ↓B124_47, ↓B124_51, ↓o_19, ↓o_4, ↓o_5, ↓o_58, ↓r_19_10, ↓r_4_0, ↓r_4_11, ↓r_5_10, ↓o_4, ev3, i_lit, i_add, i_sub, i_mul, i_neg, i_lt, i_le, i_eq, i32_gI, i64_gJ, i32_id, i32_to, i64_to, sI_i32, sJ_i64, b01_t, b01_f, i32_b01, b01_0, ↓a_s0, ↓n_s0, ↓a_s1, ↓n_s1, Int.add_zero, t_lt, f_lt, t_le, f_le, t_eq, f_eq, true_and, and_true, false_and, and_false, and_self, ↓reduceIte, z_bool_of, or_true, true_or, or_false, false_or, Int.neg_neg, not_true_eq_false, not_false_eq_true, lg_lt, lg_le, lg_gt, lg_ge, lg_eq, j_lit, j_add, j_sub, j_mul, j_neg, j_eq, i64_id, ij, ji, z_rt, Nat.reduceEqDiff, Nat.reduceAdd, Int.reduceAdd, Int.reduceSub, Int.reduceMul, Int.reduceNeg, Int.reduceLT, Int.reduceLE, Int.reduceEq]
  · refine ⟨S2, Int32.ofInt 0, ?_, F2, hx2, FitR.none (fun i _ z => hno z.1)⟩
    rw [ent 0 rfl]
    simp (disch := first | omega | assumption | exact b01_rng _ | exact st_5 | exact st_12 | exact st_19 | (simp only [isSt_sI, isSt_sJ, isSt_sF, isSt_sG, isSt_sA]; assumption)) only [↓B124_36, ↓B124_50, ↓B124_51, i_lit, i_add, i_sub, i_mul, i_neg, i_lt, i_le, i_eq, i32_gI, i64_gJ, i32_id, i32_to, i64_to, sI_i32, sJ_i64, b01_t, b01_f, i32_b01, b01_0, ↓a_s0, ↓n_s0, ↓a_s1, ↓n_s1, Int.add_zero, t_lt, f_lt, t_le, f_le, t_eq, f_eq, true_and, and_true, false_and, and_false, and_self, ↓reduceIte, z_bool_of, or_true, true_or, or_false, false_or, Int.neg_neg, not_true_eq_false, not_false_eq_true, lg_lt, lg_le, lg_gt, lg_ge, lg_eq, j_lit, j_add, j_sub, j_mul, j_neg, j_eq, i64_id, ij, ji, z_rt, Nat.reduceEqDiff, Nat.reduceAdd, Int.reduceAdd, Int.reduceSub, Int.reduceMul, Int.reduceNeg, Int.reduceLT, Int.reduceLE, Int.reduceEq]
theorem p_canBe (hd : 200 ≤ d) (hI : Inv PM QL S) : PairAt PM QL X 124 255 [] S d := by
  obtain ⟨f1, f2, f3⟩ := hI.1.2.2.2.2.1
  obtain ⟨o, cls, l1, l2, l3⟩ := hI.1.law st_5 (k := gI S 74 4) (by omega)
  obtain ⟨S1, r, w1, w2, w3, w5⟩ := x124 (X := X) (d := d) (by omega) hI l1 (l3 (by omega))
  have hQ := ((RefQ.mk hI l2).c w2).fr (FrQm.th (S := S1))
  have g2 : gI (sI S1 72 0 0) 74 = gI S 74 := by rw [(FrQm.th (S := S1)).g, w2.g]
  obtain ⟨S2, r', u1, u2, u3⟩ := x254 (X := X) (d := 30) (by omega) hQ (by rw [g2]; exact hI.1.hdb) (by rw [g2]; exact hI.1.mets)
  rw [g2] at u3
  have e := w5.uniq u3
  subst e
  have ev2 := fun {cm cp : Nat} {L : zL} {st : List Value} => evR (X := X) (d := d) (by omega) u1 (cm := cm) (cp := cp) (L := L) (st := st)
  refine pair_q (v := r.toInt) hI (S1 := S1) (S2 := S2) ?_ w2 w3 ?_ (FrQm.th.tr u2)
  · rw [show vI r.toInt = some (.int r) from by unfold vI; rw [i_toInt]]; exact w1
  · show z_ev X d (255, 0, [some (.ref 72)], [], mk S1) = _
    rw [show vI r.toInt = some (.int r) from by unfold vI; rw [i_toInt]]
    simp (disch := first | omega | assumption | exact b01_rng _ | exact st_5 | exact st_12 | exact st_19 | (simp only [isSt_sI, isSt_sJ, isSt_sF, isSt_sG, isSt_sA]; assumption)) only [↓B255_0, ↓B255_9, ↓o_72, ↓w_72_0, ↓o_72, ev2, i_lit, i_add, i_sub, i_mul, i_neg, i_lt, i_le, i_eq, i32_gI, i64_gJ, i32_id, i32_to, i64_to, sI_i32, sJ_i64, b01_t, b01_f, i32_b01, b01_0, ↓a_s0, ↓n_s0, ↓a_s1, ↓n_s1, Int.add_zero, t_lt, f_lt, t_le, f_le, t_eq, f_eq, true_and, and_true, false_and, and_false, and_self, ↓reduceIte, z_bool_of, or_true, true_or, or_false, false_or, Int.neg_neg, not_true_eq_false, not_false_eq_true, lg_lt, lg_le, lg_gt, lg_ge, lg_eq, j_lit, j_add, j_sub, j_mul, j_neg, j_eq, i64_id, ij, ji, z_rt, Nat.reduceEqDiff, Nat.reduceAdd, Int.reduceAdd, Int.reduceSub, Int.reduceMul, Int.reduceNeg, Int.reduceLT, Int.reduceLE, Int.reduceEq]
end
