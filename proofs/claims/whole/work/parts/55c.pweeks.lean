/-! weeks in pairs -/
section
variable {X : zX} {d : Nat}
theorem p_weeks {S : zS} {sd n : Int} (h1 : r32 sd) (h2 : r32 n) (hd : 200 ≤ d) (hI : Inv PM QL S) : PairAt PM QL X 128 268 [.int (Int32.ofInt sd), .int (Int32.ofInt n)] S d := by
  have hG := good2.g
  obtain ⟨⟨s1, s2, s3⟩, ⟨b1, b2, b3⟩, -, -, -, b6, -⟩ := id hI.1
  simp only [Nat.reduceAdd] at b6
  have c150a := fun {cm cp : Nat} {L : zL} {st : List Value} (T : zS) => c150 (X := X) (d := d) (by omega) (cm := cm) (cp := cp) (L := L) (st := st) (S := T) sd 0 1000000 (by omega) (by omega) (by omega)
  have c150b := fun {cm cp : Nat} {L : zL} {st : List Value} (T : zS) => c150 (X := X) (d := d) (by omega) (cm := cm) (cp := cp) (L := L) (st := st) (S := T) n 1 60 (by omega) (by omega) (by omega)
  by_cases q : (0 ≤ sd ∧ sd ≤ 1000000) ∧ (1 ≤ n ∧ n ≤ 60)
  · obtain ⟨q1, q2⟩ := q
    rw [show b01 (0 ≤ sd ∧ sd ≤ 1000000) = 1 from if_pos q1] at c150a
    rw [show b01 (1 ≤ n ∧ n ≤ 60) = 1 from if_pos q2] at c150b
    by_cases q0 : gI S 74 0 = 0
    · have q0' : gI S 5 6 = 0 := s1.trans q0
      have c134' := fun {cm cp : Nat} {L : zL} {st : List Value} => c134 (X := X) (d := d) (by omega) (cm := cm) (cp := cp) (L := L) (st := st) (S := S) (-3) (by omega)
      have c153' := fun {cm cp : Nat} {L : zL} {st : List Value} => c153 (X := X) (d := d) (by omega) (cm := cm) (cp := cp) (L := L) (st := st) (S := sI (cR S (-3)) 72 0 0) (-3) (by omega)
      have e0 : gI (sI (cR S (-3)) 72 0 0) 74 0 = 0 := by rw [gI_sI, if_neg (by omega), cR_I (by decide) (by decide)]; exact q0
      have ca := fun {cm cp : Nat} {L : zL} {st : List Value} => c150a (cm := cm) (cp := cp) (L := L) (st := st) (sI (cR S (-3)) 72 0 0)
      have cb := fun {cm cp : Nat} {L : zL} {st : List Value} => c150b (cm := cm) (cp := cp) (L := L) (st := st) (sI (cR S (-3)) 72 0 0)
      refine pair_rf hG hI (v := -3) (by omega) ?_ ?_
      · show z_ev X d (128, 0, [some (.ref 4), some (.int (Int32.ofInt sd)), some (.int (Int32.ofInt n)), none, none, none, none, none, none], [], mk S) = _
        simp (disch := first | omega | assumption | exact b01_rng _ | exact st_5 | exact st_12 | exact st_19 | (simp only [isSt_sI, isSt_sJ, isSt_sF, isSt_sG, isSt_sA]; assumption)) only [↓B128_0, ↓B128_4, ↓B128_11, ↓B128_16, ↓B128_28, ↓B128_39, ↓B128_45, ↓o_19, ↓o_4, ↓o_5, ↓r_19_6, ↓r_4_0, ↓r_4_2, ↓r_5_6, ↓o_4, ↓r_5_6, q0', c134', i_lit, i_add, i_sub, i_mul, i_neg, i_lt, i_le, i_eq, i32_gI, i64_gJ, i32_id, i32_to, i64_to, sI_i32, sJ_i64, b01_t, b01_f, i32_b01, b01_0, ↓a_s0, ↓n_s0, ↓a_s1, ↓n_s1, Int.add_zero, t_lt, f_lt, t_le, f_le, t_eq, f_eq, true_and, and_true, false_and, and_false, and_self, ↓reduceIte, z_bool_of, or_true, true_or, or_false, false_or, Int.neg_neg, not_true_eq_false, not_false_eq_true, lg_lt, lg_le, lg_gt, lg_ge, lg_eq, j_lit, j_add, j_sub, j_mul, j_neg, j_eq, i64_id, ij, ji, z_rt, Nat.reduceEqDiff, Nat.reduceAdd, Int.reduceAdd, Int.reduceSub, Int.reduceMul, Int.reduceNeg, Int.reduceLT, Int.reduceLE, Int.reduceEq]
      · show z_ev X d (268, 0, [some (.ref 72), some (.int (Int32.ofInt sd)), some (.int (Int32.ofInt n)), none, none, none, none, none, none], [], mk (cR S (-3))) = _
        unfold tellS
        simp (disch := first | omega | assumption | exact b01_rng _ | exact st_5 | exact st_12 | exact st_19 | (simp only [isSt_sI, isSt_sJ, isSt_sF, isSt_sG, isSt_sA]; assumption)) only [↓B268_0, ↓B268_14, ↓B268_17, ↓B268_26, ↓B268_35, ↓B268_44, ↓B268_50, ↓a_113, ↓a_74, ↓n_113, ↓n_74, ↓o_72, ↓r_72_3, ↓r_72_70, ↓s_113, ↓s_74, ↓w_72_0, ↓w_72_69, ↓w_72_71, ↓o_72, ca, cb, e0, c153', i_lit, i_add, i_sub, i_mul, i_neg, i_lt, i_le, i_eq, i32_gI, i64_gJ, i32_id, i32_to, i64_to, sI_i32, sJ_i64, b01_t, b01_f, i32_b01, b01_0, ↓a_s0, ↓n_s0, ↓a_s1, ↓n_s1, Int.add_zero, t_lt, f_lt, t_le, f_le, t_eq, f_eq, true_and, and_true, false_and, and_false, and_self, ↓reduceIte, z_bool_of, or_true, true_or, or_false, false_or, Int.neg_neg, not_true_eq_false, not_false_eq_true, lg_lt, lg_le, lg_gt, lg_ge, lg_eq, j_lit, j_add, j_sub, j_mul, j_neg, j_eq, i64_id, ij, ji, z_rt, Nat.reduceEqDiff, Nat.reduceAdd, Int.reduceAdd, Int.reduceSub, Int.reduceMul, Int.reduceNeg, Int.reduceLT, Int.reduceLE, Int.reduceEq]
    · have hn1 : 1 ≤ gI S 74 0 := by omega
      have hRO : RefOK S 5 := hI.2.2.2.2.2.1.1
      -- the class
      have c63' := fun {cm cp : Nat} {L : zL} {st : List Value} => c63 (X := X) (d := d) (by omega) (cm := cm) (cp := cp) (L := L) (st := st) (S := S) (s := 19) (o := 5) st_19 st_5 (by omega) hRO
      have RC : StRel PM QL (cpS S 19 5) 19 (gI S 74) := hI.1.cp good2 st_19 (fun i _ _ => rfl)
      have XC : FxC (cpS S 19 5) := ⟨hI.fxc.1, by rw [cpS_q (by omega), cpS_q (by omega)]; exact hI.fxc.2⟩
      obtain ⟨S1, g', tot, y4, y6, y7, y8, e1, e2, e3, e4, e5, e6⟩ := l128 (X := X) (d := d) (sd := sd) (n := n) (by omega) n.toNat 0 sd 0 (cpS S 19 5) (gI S 74) none none (by omega) (by omega) q2.2 RC XC (by rw [cpS_o (by omega)]; exact s1) hn1 (by omega) (by omega)
      rw [Int.zero_add] at e1 e6
      have c135' := fun {cm cp : Nat} {L : zL} {st : List Value} => c135 (X := X) (d := d) (by omega) (cm := cm) (cp := cp) (L := L) (st := st) (S := S1) tot
      have cls1 : z_ev X d (z_entry 128 [.ref 4, .int (Int32.ofInt sd), .int (Int32.ofInt n)] (mk S)) = some (vI tot, mk (sI S1 4 16 0)) := by
        have a1 : z_ev X d (z_entry 128 [.ref 4, .int (Int32.ofInt sd), .int (Int32.ofInt n)] (mk S)) = z_ev X d (128, 68, L128 sd n sd 0 0 none none, [], mk (cpS S 19 5)) := by
          show z_ev X d (128, 0, [some (.ref 4), some (.int (Int32.ofInt sd)), some (.int (Int32.ofInt n)), none, none, none, none, none, none], [], mk S) = _
          simp (disch := first | omega | assumption | exact b01_rng _ | exact st_5 | exact st_12 | exact st_19 | (simp only [isSt_sI, isSt_sJ, isSt_sF, isSt_sG, isSt_sA]; assumption)) only [↓B128_0, ↓B128_4, ↓B128_11, ↓B128_16, ↓B128_28, ↓B128_46, ↓B128_59, ↓o_19, ↓o_4, ↓o_5, ↓r_19_6, ↓r_4_0, ↓r_4_2, ↓r_5_6, ↓o_4, ↓o_5, ↓o_19, ↓r_5_6, s1, c63', i_lit, i_add, i_sub, i_mul, i_neg, i_lt, i_le, i_eq, i32_gI, i64_gJ, i32_id, i32_to, i64_to, sI_i32, sJ_i64, b01_t, b01_f, i32_b01, b01_0, ↓a_s0, ↓n_s0, ↓a_s1, ↓n_s1, Int.add_zero, t_lt, f_lt, t_le, f_le, t_eq, f_eq, true_and, and_true, false_and, and_false, and_self, ↓reduceIte, z_bool_of, or_true, true_or, or_false, false_or, Int.neg_neg, not_true_eq_false, not_false_eq_true, lg_lt, lg_le, lg_gt, lg_ge, lg_eq, j_lit, j_add, j_sub, j_mul, j_neg, j_eq, i64_id, ij, ji, z_rt, Nat.reduceEqDiff, Nat.reduceAdd, Int.reduceAdd, Int.reduceSub, Int.reduceMul, Int.reduceNeg, Int.reduceLT, Int.reduceLE, Int.reduceEq]
        rw [a1, e1]
        simp (disch := first | omega | assumption | exact b01_rng _ | exact st_5 | exact st_12 | exact st_19 | (simp only [isSt_sI, isSt_sJ, isSt_sF, isSt_sG, isSt_sA]; assumption)) only [↓B128_159, ↓B128_165, ↓o_4, c135', i_lit, i_add, i_sub, i_mul, i_neg, i_lt, i_le, i_eq, i32_gI, i64_gJ, i32_id, i32_to, i64_to, sI_i32, sJ_i64, b01_t, b01_f, i32_b01, b01_0, ↓a_s0, ↓n_s0, ↓a_s1, ↓n_s1, Int.add_zero, t_lt, f_lt, t_le, f_le, t_eq, f_eq, true_and, and_true, false_and, and_false, and_self, ↓reduceIte, z_bool_of, or_true, true_or, or_false, false_or, Int.neg_neg, not_true_eq_false, not_false_eq_true, lg_lt, lg_le, lg_gt, lg_ge, lg_eq, j_lit, j_add, j_sub, j_mul, j_neg, j_eq, i64_id, ij, ji, z_rt, Nat.reduceEqDiff, Nat.reduceAdd, Int.reduceAdd, Int.reduceSub, Int.reduceMul, Int.reduceNeg, Int.reduceLT, Int.reduceLE, Int.reduceEq]
      -- the reference
      obtain ⟨A0, hA0⟩ : ∃ A0 : zS, A0 = sI S1 4 16 0 := ⟨_, rfl⟩
      obtain ⟨A1, hA1⟩ : ∃ A1 : zS, A1 = sI A0 72 0 0 := ⟨_, rfl⟩
      obtain ⟨A2, hA2⟩ : ∃ A2 : zS, A2 = sF A1 77 (63 * 16) (63 * 16 + 63) (fun j => gI A1 74 (5 + (j - 63 * 16))) := ⟨_, rfl⟩
      obtain ⟨A3, hA3⟩ : ∃ A3 : zS, A3 = sJ A2 72 69 sd := ⟨_, rfl⟩
      -- what the class leaves
      have kS : ∀ a i, ¬ (19 ≤ a ∧ a ≤ 25) → ¬ (58 ≤ a ∧ a ≤ 65) → gI S1 a i = gI S a i := fun a i w1 w2 => by
        rw [e2.2.1 a i (by omega) (by omega) w2, cpS_o (by omega)]
      have kA : ∀ a i, ¬ (19 ≤ a ∧ a ≤ 25) → ¬ (58 ≤ a ∧ a ≤ 65) → ¬ (a = 4 ∧ i = 16) → ¬ (a = 72 ∧ i = 0) → ¬ (a = 77 ∧ 1008 ≤ i ∧ i < 1071) → gI A3 a i = gI S a i := fun a i w1 w2 w3 w4 w5 => by
        rw [hA3, gI_sJ, hA2, gI_sF, if_neg (by omega), hA1, gI_sI, if_neg w4, hA0, gI_sI, if_neg w3]
        exact kS a i w1 w2
      have gA : gI A3 74 = gI S 74 := funext fun i => kA 74 i (by omega) (by omega) (by omega) (by omega) (by omega)
      obtain ⟨A4, z4, z5, z6, z7, z8, u1, u2, u3⟩ := l268 (X := X) (d := d) (sd := sd) (n := n) (by omega) n.toNat 0 sd 0 A3 (gI S 74) g' tot none none none none (by omega) (by omega) q2.2 gA (by rw [hA3, gJ_sJ, if_pos ⟨rfl, rfl⟩, i64_id (by omega) (by omega)]) (by rw [kA 72 20 (by omega) (by omega) (by omega) (by omega) (by omega)]; exact hI.2.2.2.2.2.2.2.2.1) ⟨hn1, s3⟩ (by omega) (by omega) (by omega) e5
      rw [Int.zero_add] at u1
      have gb := Wk.b n.toNat (gI S 74) sd g' tot e5 hn1 s3
      have cp := l268c (X := X) (d := d) (sd := sd) (n := n) (tk := tot) (x5 := z5) (x6 := z6) (x7 := z7) (x8 := z8) 63 0 A4 (by omega) (by omega)
      obtain ⟨A5, hA5⟩ : ∃ A5 : zS, A5 = sF A4 113 0 63 (fun i => gI A4 74 (5 + i)) := ⟨_, rfl⟩
      rw [← hA5] at cp
      have e50 : gI A5 74 0 = g' 0 := by rw [hA5, gI_sF, if_neg (by omega), u3]
      have g0e : g' 0 = gI S 74 0 := gb 0 (Or.inl (by omega))
      obtain ⟨A6, hA6⟩ : ∃ A6 : zS, A6 = sI A5 72 71 (g' 0) := ⟨_, rfl⟩
      obtain ⟨A7, hA7⟩ : ∃ A7 : zS, A7 = sF A6 74 5 68 (fun j => gI A6 77 (63 * 16 + (j - 5))) := ⟨_, rfl⟩
      obtain ⟨F, hF⟩ : ∃ F : zS, F = sI A7 72 1 0 := ⟨_, rfl⟩
      have ref1 : z_ev X d (z_entry 268 [.ref 72, .int (Int32.ofInt sd), .int (Int32.ofInt n)] (mk (sI S1 4 16 0))) = some (vI tot, mk F) := by
        have ca := fun {cm cp : Nat} {L : zL} {st : List Value} => c150a (cm := cm) (cp := cp) (L := L) (st := st) A1
        have cb := fun {cm cp : Nat} {L : zL} {st : List Value} => c150b (cm := cm) (cp := cp) (L := L) (st := st) A1
        have c156' := fun {cm cp : Nat} {L : zL} {st : List Value} => c156 (X := X) (d := d) (by omega) (cm := cm) (cp := cp) (L := L) (st := st) (S := A1) 16 (by omega)
        rw [← hA2] at c156'
        have c157' := fun {cm cp : Nat} {L : zL} {st : List Value} => c157 (X := X) (d := d) (by omega) (cm := cm) (cp := cp) (L := L) (st := st) (S := A6) 16 (by omega)
        rw [← hA7] at c157'
        have c153' := fun {cm cp : Nat} {L : zL} {st : List Value} => c153 (X := X) (d := d) (by omega) (cm := cm) (cp := cp) (L := L) (st := st) (S := A7) tot (by omega)
        rw [if_neg (show ¬ tot < 0 by omega), ← hF] at c153'
        have e10 : gI A1 74 0 = gI S 74 0 := by rw [hA1, gI_sI, if_neg (by omega), hA0, gI_sI, if_neg (by omega)]; exact kS 74 0 (by omega) (by omega)
        have a1 : z_ev X d (z_entry 268 [.ref 72, .int (Int32.ofInt sd), .int (Int32.ofInt n)] (mk (sI S1 4 16 0))) = z_ev X d (268, 68, L268 sd n 0 0 none none none none, [], mk A3) := by
          show z_ev X d (268, 0, [some (.ref 72), some (.int (Int32.ofInt sd)), some (.int (Int32.ofInt n)), none, none, none, none, none, none], [], mk (sI S1 4 16 0)) = _
          rw [hA3]
          simp (disch := first | omega | assumption | exact b01_rng _ | exact st_5 | exact st_12 | exact st_19 | (simp only [isSt_sI, isSt_sJ, isSt_sF, isSt_sG, isSt_sA]; assumption)) only [↓B268_0, ↓a_113, ↓a_74, ↓n_113, ↓n_74, ↓o_72, ↓r_72_3, ↓r_72_70, ↓s_113, ↓s_74, ↓w_72_0, ↓w_72_69, ↓w_72_71, ← hA0, ← hA1, ca, i_lit, i_add, i_sub, i_mul, i_neg, i_lt, i_le, i_eq, i32_gI, i64_gJ, i32_id, i32_to, i64_to, sI_i32, sJ_i64, b01_t, b01_f, i32_b01, b01_0, ↓a_s0, ↓n_s0, ↓a_s1, ↓n_s1, Int.add_zero, t_lt, f_lt, t_le, f_le, t_eq, f_eq, true_and, and_true, false_and, and_false, and_self, ↓reduceIte, z_bool_of, or_true, true_or, or_false, false_or, Int.neg_neg, not_true_eq_false, not_false_eq_true, lg_lt, lg_le, lg_gt, lg_ge, lg_eq, j_lit, j_add, j_sub, j_mul, j_neg, j_eq, i64_id, ij, ji, z_rt, Nat.reduceEqDiff, Nat.reduceAdd, Int.reduceAdd, Int.reduceSub, Int.reduceMul, Int.reduceNeg, Int.reduceLT, Int.reduceLE, Int.reduceEq]
          simp (disch := first | omega | assumption | exact b01_rng _ | exact st_5 | exact st_12 | exact st_19 | (simp only [isSt_sI, isSt_sJ, isSt_sF, isSt_sG, isSt_sA]; assumption)) only [↓B268_14, ↓B268_17, ↓B268_26, ↓B268_35, ↓B268_51, ↓B268_57, ↓a_113, ↓a_74, ↓n_113, ↓n_74, ↓o_72, ↓r_72_3, ↓r_72_70, ↓s_113, ↓s_74, ↓w_72_0, ↓w_72_69, ↓w_72_71, ↓o_72, ca, cb, e10, c156', i_lit, i_add, i_sub, i_mul, i_neg, i_lt, i_le, i_eq, i32_gI, i64_gJ, i32_id, i32_to, i64_to, sI_i32, sJ_i64, b01_t, b01_f, i32_b01, b01_0, ↓a_s0, ↓n_s0, ↓a_s1, ↓n_s1, Int.add_zero, t_lt, f_lt, t_le, f_le, t_eq, f_eq, true_and, and_true, false_and, and_false, and_self, ↓reduceIte, z_bool_of, or_true, true_or, or_false, false_or, Int.neg_neg, not_true_eq_false, not_false_eq_true, lg_lt, lg_le, lg_gt, lg_ge, lg_eq, j_lit, j_add, j_sub, j_mul, j_neg, j_eq, i64_id, ij, ji, z_rt, Nat.reduceEqDiff, Nat.reduceAdd, Int.reduceAdd, Int.reduceSub, Int.reduceMul, Int.reduceNeg, Int.reduceLT, Int.reduceLE, Int.reduceEq]
        rw [a1, u1, cp, B268_233]
        simp (disch := first | omega | assumption | exact b01_rng _ | exact st_5 | exact st_12 | exact st_19 | (simp only [isSt_sI, isSt_sJ, isSt_sF, isSt_sG, isSt_sA]; assumption)) only [↓a_113, ↓a_74, ↓n_113, ↓n_74, ↓o_72, ↓r_72_3, ↓r_72_70, ↓s_113, ↓s_74, ↓w_72_0, ↓w_72_69, ↓w_72_71, ↓o_72, e50, ← hA6, c157', i_lit, i_add, i_sub, i_mul, i_neg, i_lt, i_le, i_eq, i32_gI, i64_gJ, i32_id, i32_to, i64_to, sI_i32, sJ_i64, b01_t, b01_f, i32_b01, b01_0, ↓a_s0, ↓n_s0, ↓a_s1, ↓n_s1, Int.add_zero, t_lt, f_lt, t_le, f_le, t_eq, f_eq, true_and, and_true, false_and, and_false, and_self, ↓reduceIte, z_bool_of, or_true, true_or, or_false, false_or, Int.neg_neg, not_true_eq_false, not_false_eq_true, lg_lt, lg_le, lg_gt, lg_ge, lg_eq, j_lit, j_add, j_sub, j_mul, j_neg, j_eq, i64_id, ij, ji, z_rt, Nat.reduceEqDiff, Nat.reduceAdd, Int.reduceAdd, Int.reduceSub, Int.reduceMul, Int.reduceNeg, Int.reduceLT, Int.reduceLE, Int.reduceEq]
        simp (disch := first | omega | assumption | exact b01_rng _ | exact st_5 | exact st_12 | exact st_19 | (simp only [isSt_sI, isSt_sJ, isSt_sF, isSt_sG, isSt_sA]; assumption)) only [↓B268_249, ↓B268_254, ↓o_72, c153', i_lit, i_add, i_sub, i_mul, i_neg, i_lt, i_le, i_eq, i32_gI, i64_gJ, i32_id, i32_to, i64_to, sI_i32, sJ_i64, b01_t, b01_f, i32_b01, b01_0, ↓a_s0, ↓n_s0, ↓a_s1, ↓n_s1, Int.add_zero, t_lt, f_lt, t_le, f_le, t_eq, f_eq, true_and, and_true, false_and, and_false, and_self, ↓reduceIte, z_bool_of, or_true, true_or, or_false, false_or, Int.neg_neg, not_true_eq_false, not_false_eq_true, lg_lt, lg_le, lg_gt, lg_ge, lg_eq, j_lit, j_add, j_sub, j_mul, j_neg, j_eq, i64_id, ij, ji, z_rt, Nat.reduceEqDiff, Nat.reduceAdd, Int.reduceAdd, Int.reduceSub, Int.reduceMul, Int.reduceNeg, Int.reduceLT, Int.reduceLE, Int.reduceEq]
      -- what is left as it was
      have k4 : ∀ a i, a ≠ 97 → ¬ (99 ≤ a ∧ a ≤ 109) → ¬ (a = 72 ∧ (i = 0 ∨ i = 34 ∨ i = 38 ∨ i = 40 ∨ i = 51)) → a ≠ 74 → gI A4 a i = gI A3 a i := fun a i w1 w2 w3 w4 => u2.2.1 a i w1 w2 w3 (fun z => w4 z.1)
      have kF : ∀ a i, a ≠ 74 → a ≠ 113 → ¬ (a = 72 ∧ (i = 71 ∨ i = 1)) → gI F a i = gI A4 a i := fun a i w1 w2 w3 => by
        rw [hF, gI_sI, if_neg (by omega), hA7, gI_sF, if_neg (by omega), hA6, gI_sI, if_neg (by omega), hA5, gI_sF, if_neg (by omega)]
      have k : ∀ a i, a ≠ 74 → a ≠ 113 → ¬ (19 ≤ a ∧ a ≤ 25) → ¬ (58 ≤ a ∧ a ≤ 65) → a ≠ 97 → ¬ (99 ≤ a ∧ a ≤ 109) → ¬ (a = 4 ∧ i = 16) → ¬ (a = 72 ∧ (i = 0 ∨ i = 1 ∨ i = 34 ∨ i = 38 ∨ i = 40 ∨ i = 51 ∨ i = 71)) → ¬ (a = 77 ∧ 1008 ≤ i ∧ i < 1071) → gI F a i = gI S a i := fun a i w1 w2 w3 w4 w5 w6 w7 w8 w9 => by
        rw [kF a i w1 w2 (by omega), k4 a i w5 w6 (by omega) w1]
        exact kA a i w3 w4 w7 (by omega) w9
      have w : ∀ a i, a ≠ 4 → (a ≤ 18 ∨ (26 ≤ a ∧ a ≤ 57) ∨ (66 ≤ a ∧ a ≤ 71) ∨ a = 73 ∨ a = 75 ∨ a = 76 ∨ (78 ≤ a ∧ a ≤ 96) ∨ a = 98 ∨ (110 ≤ a ∧ a ≤ 112)) → gI F a i = gI S a i := fun a i z1 z2 => k a i (by omega) (by omega) (by omega) (by omega) (by omega) (by omega) (by omega) (by omega) (by omega)
      have w72 : ∀ i, ¬ (i = 0 ∨ i = 1 ∨ i = 34 ∨ i = 38 ∨ i = 40 ∨ i = 51 ∨ i = 71) → gI F 72 i = gI S 72 i := fun i z => k 72 i (by omega) (by omega) (by omega) (by omega) (by omega) (by omega) (by omega) (by omega) (by omega)
      have e77 : ∀ i, 5 ≤ i → i < 68 → gI A6 77 (63 * 16 + (i - 5)) = gI S 74 i := fun i z1 z2 => by
        rw [hA6, gI_sI, if_neg (by omega), hA5, gI_sF, if_neg (by omega), k4 77 _ (by omega) (by omega) (by omega) (by omega), hA3, gI_sJ, hA2, gI_sF, if_pos ⟨rfl, by omega, by omega⟩, i32_gI, show 5 + (63 * 16 + (i - 5) - 63 * 16) = i by omega, hA1, gI_sI, if_neg (by omega), hA0, gI_sI, if_neg (by omega)]
        exact kS 74 i (by omega) (by omega)
      have w74 : gI F 74 = gI S 74 := funext fun i => by
        rw [hF, gI_sI, if_neg (by omega), hA7, gI_sF]
        by_cases z : 5 ≤ i ∧ i < 68
        · rw [if_pos ⟨rfl, z.1, z.2⟩]
          show i32 (gI A6 77 (63 * 16 + (i - 5))) = _
          rw [i32_gI, e77 i z.1 z.2]
        · rw [if_neg (fun y => z ⟨y.2.1, y.2.2⟩), hA6, gI_sI, if_neg (by omega), hA5, gI_sF, if_neg (by omega), u3]
          exact gb i (by omega)
      have hDC : Dyn S (cpS S 19 5) := Dyn.cp (by omega)
      have hD3 : Dyn S A3 := by
        rw [hA3, hA2, hA1, hA0]
        exact Dyn.sJ (Dyn.sF (by decide) (Dyn.sI (by decide) (Dyn.sI (by decide) (hDC.tr e2.1))))
      have hD : Dyn S F := by
        rw [hF, hA7, hA6, hA5]
        exact Dyn.sI (by decide) (Dyn.sF (by decide) (Dyn.sI (by decide) (Dyn.sF (by decide) (hD3.tr u2.1))))
      have wQ : ∀ a i, a ≠ 24 → a ≠ 25 → a ≠ 58 → gQ F a i = gQ S a i := fun a i z1 z2 z3 => by
        have c1 : gQ F a i = gQ A4 a i := by rw [hF, hA7, hA6, hA5]; rfl
        have c2 : gQ A3 a i = gQ S1 a i := by rw [hA3, hA2, hA1, hA0]; rfl
        rw [c1, u2.2.2.2, c2, e2.2.2.2 a i z3, cpS_q (by omega)]
      have wJ : ∀ a i, 70 < a → ¬ (90 ≤ a ∧ a ≤ 92) → a ≠ 72 → gJ F a i = gJ S a i := fun a i z1 z2 z3 => by
        have c1 : gJ F a i = gJ A4 a i := by rw [hF, hA7, hA6, hA5]; rfl
        have c2 : gJ A3 a i = gJ S1 a i := by rw [hA3, gJ_sJ, if_neg (fun y => z3 y.1), hA2, hA1, hA0]; rfl
        rw [c1, u2.2.2.1 a i z2 (by omega), c2, e2.2.2.1 a i (by omega) (by omega), cpS_j]
      have wJ6 : ∀ a i, a = 66 ∨ a = 67 → gJ F a i = gJ S1 a i := fun a i z => by
        have c1 : gJ F a i = gJ A4 a i := by rw [hF, hA7, hA6, hA5]; rfl
        have c2 : gJ A3 a i = gJ S1 a i := by rw [hA3, gJ_sJ, if_neg (by omega), hA2, hA1, hA0]; rfl
        rw [c1, u2.2.2.1 a i (by omega) (by omega), c2]
      have wQ58 : ∀ i, gQ F 58 i = gQ S1 58 i := fun i => by
        have c1 : gQ F 58 i = gQ A4 58 i := by rw [hF, hA7, hA6, hA5]; rfl
        have c2 : gQ A3 58 i = gQ S1 58 i := by rw [hA3, hA2, hA1, hA0]; rfl
        rw [c1, u2.2.2.2, c2]
      have w20 : ∀ i, gI F 20 i = gI S1 20 i := fun i => by
        rw [kF 20 i (by omega) (by omega) (by omega), k4 20 i (by omega) (by omega) (by omega) (by omega), hA3, gI_sJ, hA2, gI_sF, if_neg (by omega), hA1, gI_sI, if_neg (by omega), hA0, gI_sI, if_neg (by omega)]
      have w19 : ∀ i, gI F 19 i = gI S1 19 i := fun i => by
        rw [kF 19 i (by omega) (by omega) (by omega), k4 19 i (by omega) (by omega) (by omega) (by omega), hA3, gI_sJ, hA2, gI_sF, if_neg (by omega), hA1, gI_sI, if_neg (by omega), hA0, gI_sI, if_neg (by omega)]
      have w113 : ∀ i, 0 ≤ i → i < 63 → gI F 113 i = g' (5 + i) := fun i z1 z2 => by
        rw [hF, gI_sI, if_neg (by omega), hA7, gI_sF, if_neg (by omega), hA6, gI_sI, if_neg (by omega), hA5, gI_sF, if_pos ⟨rfl, z1, z2⟩]
        show i32 (gI A4 74 (5 + i)) = _
        rw [i32_gI, u3]
      have w7271 : gI F 72 71 = g' 0 := by
        rw [hF, gI_sI, if_neg (by omega), hA7, gI_sF, if_neg (by omega), hA6, gI_sI, if_pos ⟨rfl, rfl⟩, i32_id (by omega) (by omega)]
      have w416 : gI F 4 16 = 0 := by
        rw [kF 4 16 (by omega) (by omega) (by omega), k4 4 16 (by omega) (by omega) (by omega) (by omega), hA3, gI_sJ, hA2, gI_sF, if_neg (by omega), hA1, gI_sI, if_neg (by omega), hA0, gI_sI, if_pos ⟨rfl, rfl⟩]; rfl
      have w721 : gI F 72 1 = 0 := by rw [hF, gI_sI, if_pos ⟨rfl, rfl⟩]; rfl
      have hInv : Inv PM QL F := by
        obtain ⟨a1, a2, a3, a4, a5, a6, a7⟩ := id hI
        refine ⟨?_, ?_, ?_, ?_, ?_, ?_, ?_⟩
        · rw [w74]
          exact a1.fr hG hD (fun i => w _ _ (by omega) (by omega)) (fun i => w _ _ (by omega) (by omega)) (fun i => w _ _ (by omega) (by omega)) (fun i => w _ _ (by omega) (by omega)) (fun i => w _ _ (by omega) (by omega)) (fun i => wQ _ _ (by omega) (by omega) (by omega)) (fun i => wQ _ _ (by omega) (by omega) (by omega)) (fun _ => rfl)
        · exact a2.fr7 (w _ _ (by omega) (by omega)) (w72 _ (by omega)) (fun i => w _ _ (by omega) (by omega)) (fun i => w _ _ (by omega) (by omega)) (fun i => w _ _ (by omega) (by omega)) (fun i z1 z2 => k 77 i (by omega) (by omega) (by omega) (by omega) (by omega) (by omega) (by omega) (by omega) (by omega)) (fun i => w _ _ (by omega) (by omega)) (fun i _ _ => by rw [w74])
        · exact a3.fr (w _ _ (by omega) (by omega)) (w72 _ (by omega)) (fun i => w _ _ (by omega) (by omega)) (fun i => w _ _ (by omega) (by omega))
        · unfold MsRel
          rw [w416, w721, k 4 17 (by omega) (by omega) (by omega) (by omega) (by omega) (by omega) (by omega) (by omega) (by omega), k 4 18 (by omega) (by omega) (by omega) (by omega) (by omega) (by omega) (by omega) (by omega) (by omega), k 4 19 (by omega) (by omega) (by omega) (by omega) (by omega) (by omega) (by omega) (by omega) (by omega), w72 18 (by omega), w72 11 (by omega), w72 67 (by omega), w 71 0 (by omega) (by omega), w 71 1 (by omega) (by omega), w 71 2 (by omega) (by omega), w 71 3 (by omega) (by omega), w 71 4 (by omega) (by omega), w 73 1 (by omega) (by omega), w 73 2 (by omega) (by omega), w 73 3 (by omega) (by omega), w 73 5 (by omega) (by omega), w 73 6 (by omega) (by omega)]
          obtain ⟨m1, m2, m3, m4, m5⟩ := a4
          exact ⟨m1, m2, m3, rfl, m5⟩
        · right
          have hR := e4.2.2.2.2.2.2.1
          simp only [Nat.reduceAdd] at hR
          rw [w7271, w19]
          have e6 : gI S1 19 6 = g' 0 := e4.1.1
          refine ⟨e6.symm, by omega, by omega, fun p z1 z2 => ?_⟩
          have := hR p z1 z2
          rw [w20, w20, w20, w113 _ (by omega) (by omega), w113 _ (by omega) (by omega), w113 _ (by omega) (by omega), show 5 + (3 + p) = 8 + p by omega, show 5 + (23 + p) = 28 + p by omega, show 5 + (43 + p) = 48 + p by omega]
          exact ⟨this.1, this.2.1, this.2.2.1⟩
        · exact a6.fr hG hD (fun i => w _ _ (by omega) (by omega)) (fun a i z => wQ a i (by omega) (by omega) (by omega)) (fun i => w _ _ (by omega) (by omega))
        · obtain ⟨f1, f2, f3, f4, f5, f6, f7, f8⟩ := a7
          refine ⟨by rw [hD.2.1]; exact f1, by rw [wQ58, wQ58]; exact e3.2, by rw [w72 20 (by omega)]; exact f3, ?_, ?_, ?_, ?_, ?_, fun i z1 z2 => ?_⟩
          · simp only [wJ 87 _ (by omega) (by omega) (by omega)]; exact f4
          · simp only [wJ 88 _ (by omega) (by omega) (by omega)]; exact f5
          · simp only [wJ 89 _ (by omega) (by omega) (by omega)]; exact f6
          · simp only [wJ 93 _ (by omega) (by omega) (by omega)]; exact f7
          · simp only [wJ 111 _ (by omega) (by omega) (by omega)]; exact f8.1
          · rw [wJ6 66 i (Or.inl rfl), wJ6 67 i (Or.inr rfl)]; exact e3.1 i z1 z2
      exact pair_ok (v := tot) _ F cls1 ref1 hInv hD
  · have c134' := fun {cm cp : Nat} {L : zL} {st : List Value} => c134 (X := X) (d := d) (by omega) (cm := cm) (cp := cp) (L := L) (st := st) (S := S) (-1) (by omega)
    have c153' := fun {cm cp : Nat} {L : zL} {st : List Value} => c153 (X := X) (d := d) (by omega) (cm := cm) (cp := cp) (L := L) (st := st) (S := sI (cR S (-1)) 72 0 0) (-1) (by omega)
    have ca := fun {cm cp : Nat} {L : zL} {st : List Value} => c150a (cm := cm) (cp := cp) (L := L) (st := st) (sI (cR S (-1)) 72 0 0)
    have cb := fun {cm cp : Nat} {L : zL} {st : List Value} => c150b (cm := cm) (cp := cp) (L := L) (st := st) (sI (cR S (-1)) 72 0 0)
    refine pair_rf hG hI (v := -1) (by omega) ?_ ?_
    · show z_ev X d (128, 0, [some (.ref 4), some (.int (Int32.ofInt sd)), some (.int (Int32.ofInt n)), none, none, none, none, none, none], [], mk S) = _
      by_cases z1 : sd < 0
      · simp (disch := first | omega | assumption | exact b01_rng _ | exact st_5 | exact st_12 | exact st_19 | (simp only [isSt_sI, isSt_sJ, isSt_sF, isSt_sG, isSt_sA]; assumption)) only [↓B128_0, ↓B128_22, ↓B128_27, ↓o_4, c134', i_lit, i_add, i_sub, i_mul, i_neg, i_lt, i_le, i_eq, i32_gI, i64_gJ, i32_id, i32_to, i64_to, sI_i32, sJ_i64, b01_t, b01_f, i32_b01, b01_0, ↓a_s0, ↓n_s0, ↓a_s1, ↓n_s1, Int.add_zero, t_lt, f_lt, t_le, f_le, t_eq, f_eq, true_and, and_true, false_and, and_false, and_self, ↓reduceIte, z_bool_of, or_true, true_or, or_false, false_or, Int.neg_neg, not_true_eq_false, not_false_eq_true, lg_lt, lg_le, lg_gt, lg_ge, lg_eq, j_lit, j_add, j_sub, j_mul, j_neg, j_eq, i64_id, ij, ji, z_rt, Nat.reduceEqDiff, Nat.reduceAdd, Int.reduceAdd, Int.reduceSub, Int.reduceMul, Int.reduceNeg, Int.reduceLT, Int.reduceLE, Int.reduceEq]
      by_cases z2 : 1000000 < sd
      · simp (disch := first | omega | assumption | exact b01_rng _ | exact st_5 | exact st_12 | exact st_19 | (simp only [isSt_sI, isSt_sJ, isSt_sF, isSt_sG, isSt_sA]; assumption)) only [↓B128_0, ↓B128_4, ↓B128_22, ↓B128_27, ↓o_4, c134', i_lit, i_add, i_sub, i_mul, i_neg, i_lt, i_le, i_eq, i32_gI, i64_gJ, i32_id, i32_to, i64_to, sI_i32, sJ_i64, b01_t, b01_f, i32_b01, b01_0, ↓a_s0, ↓n_s0, ↓a_s1, ↓n_s1, Int.add_zero, t_lt, f_lt, t_le, f_le, t_eq, f_eq, true_and, and_true, false_and, and_false, and_self, ↓reduceIte, z_bool_of, or_true, true_or, or_false, false_or, Int.neg_neg, not_true_eq_false, not_false_eq_true, lg_lt, lg_le, lg_gt, lg_ge, lg_eq, j_lit, j_add, j_sub, j_mul, j_neg, j_eq, i64_id, ij, ji, z_rt, Nat.reduceEqDiff, Nat.reduceAdd, Int.reduceAdd, Int.reduceSub, Int.reduceMul, Int.reduceNeg, Int.reduceLT, Int.reduceLE, Int.reduceEq]
      by_cases z3 : n < 1
      · simp (disch := first | omega | assumption | exact b01_rng _ | exact st_5 | exact st_12 | exact st_19 | (simp only [isSt_sI, isSt_sJ, isSt_sF, isSt_sG, isSt_sA]; assumption)) only [↓B128_0, ↓B128_4, ↓B128_11, ↓B128_22, ↓B128_27, ↓o_4, c134', i_lit, i_add, i_sub, i_mul, i_neg, i_lt, i_le, i_eq, i32_gI, i64_gJ, i32_id, i32_to, i64_to, sI_i32, sJ_i64, b01_t, b01_f, i32_b01, b01_0, ↓a_s0, ↓n_s0, ↓a_s1, ↓n_s1, Int.add_zero, t_lt, f_lt, t_le, f_le, t_eq, f_eq, true_and, and_true, false_and, and_false, and_self, ↓reduceIte, z_bool_of, or_true, true_or, or_false, false_or, Int.neg_neg, not_true_eq_false, not_false_eq_true, lg_lt, lg_le, lg_gt, lg_ge, lg_eq, j_lit, j_add, j_sub, j_mul, j_neg, j_eq, i64_id, ij, ji, z_rt, Nat.reduceEqDiff, Nat.reduceAdd, Int.reduceAdd, Int.reduceSub, Int.reduceMul, Int.reduceNeg, Int.reduceLT, Int.reduceLE, Int.reduceEq]
      · simp (disch := first | omega | assumption | exact b01_rng _ | exact st_5 | exact st_12 | exact st_19 | (simp only [isSt_sI, isSt_sJ, isSt_sF, isSt_sG, isSt_sA]; assumption)) only [↓B128_0, ↓B128_4, ↓B128_11, ↓B128_16, ↓B128_22, ↓B128_27, ↓o_4, c134', i_lit, i_add, i_sub, i_mul, i_neg, i_lt, i_le, i_eq, i32_gI, i64_gJ, i32_id, i32_to, i64_to, sI_i32, sJ_i64, b01_t, b01_f, i32_b01, b01_0, ↓a_s0, ↓n_s0, ↓a_s1, ↓n_s1, Int.add_zero, t_lt, f_lt, t_le, f_le, t_eq, f_eq, true_and, and_true, false_and, and_false, and_self, ↓reduceIte, z_bool_of, or_true, true_or, or_false, false_or, Int.neg_neg, not_true_eq_false, not_false_eq_true, lg_lt, lg_le, lg_gt, lg_ge, lg_eq, j_lit, j_add, j_sub, j_mul, j_neg, j_eq, i64_id, ij, ji, z_rt, Nat.reduceEqDiff, Nat.reduceAdd, Int.reduceAdd, Int.reduceSub, Int.reduceMul, Int.reduceNeg, Int.reduceLT, Int.reduceLE, Int.reduceEq]
    · show z_ev X d (268, 0, [some (.ref 72), some (.int (Int32.ofInt sd)), some (.int (Int32.ofInt n)), none, none, none, none, none, none], [], mk (cR S (-1))) = _
      unfold tellS
      by_cases z1 : 0 ≤ sd ∧ sd ≤ 1000000
      · rw [show b01 (0 ≤ sd ∧ sd ≤ 1000000) = 1 from if_pos z1] at ca
        rw [show b01 (1 ≤ n ∧ n ≤ 60) = 0 from if_neg (fun y => q ⟨z1, y⟩)] at cb
        simp (disch := first | omega | assumption | exact b01_rng _ | exact st_5 | exact st_12 | exact st_19 | (simp only [isSt_sI, isSt_sJ, isSt_sF, isSt_sG, isSt_sA]; assumption)) only [↓B268_0, ↓B268_14, ↓B268_17, ↓B268_26, ↓B268_29, ↓B268_34, ↓a_113, ↓a_74, ↓n_113, ↓n_74, ↓o_72, ↓r_72_3, ↓r_72_70, ↓s_113, ↓s_74, ↓w_72_0, ↓w_72_69, ↓w_72_71, ↓o_72, ca, cb, c153', i_lit, i_add, i_sub, i_mul, i_neg, i_lt, i_le, i_eq, i32_gI, i64_gJ, i32_id, i32_to, i64_to, sI_i32, sJ_i64, b01_t, b01_f, i32_b01, b01_0, ↓a_s0, ↓n_s0, ↓a_s1, ↓n_s1, Int.add_zero, t_lt, f_lt, t_le, f_le, t_eq, f_eq, true_and, and_true, false_and, and_false, and_self, ↓reduceIte, z_bool_of, or_true, true_or, or_false, false_or, Int.neg_neg, not_true_eq_false, not_false_eq_true, lg_lt, lg_le, lg_gt, lg_ge, lg_eq, j_lit, j_add, j_sub, j_mul, j_neg, j_eq, i64_id, ij, ji, z_rt, Nat.reduceEqDiff, Nat.reduceAdd, Int.reduceAdd, Int.reduceSub, Int.reduceMul, Int.reduceNeg, Int.reduceLT, Int.reduceLE, Int.reduceEq]
      · rw [show b01 (0 ≤ sd ∧ sd ≤ 1000000) = 0 from if_neg z1] at ca
        simp (disch := first | omega | assumption | exact b01_rng _ | exact st_5 | exact st_12 | exact st_19 | (simp only [isSt_sI, isSt_sJ, isSt_sF, isSt_sG, isSt_sA]; assumption)) only [↓B268_0, ↓B268_14, ↓B268_29, ↓B268_34, ↓a_113, ↓a_74, ↓n_113, ↓n_74, ↓o_72, ↓r_72_3, ↓r_72_70, ↓s_113, ↓s_74, ↓w_72_0, ↓w_72_69, ↓w_72_71, ↓o_72, ca, c153', i_lit, i_add, i_sub, i_mul, i_neg, i_lt, i_le, i_eq, i32_gI, i64_gJ, i32_id, i32_to, i64_to, sI_i32, sJ_i64, b01_t, b01_f, i32_b01, b01_0, ↓a_s0, ↓n_s0, ↓a_s1, ↓n_s1, Int.add_zero, t_lt, f_lt, t_le, f_le, t_eq, f_eq, true_and, and_true, false_and, and_false, and_self, ↓reduceIte, z_bool_of, or_true, true_or, or_false, false_or, Int.neg_neg, not_true_eq_false, not_false_eq_true, lg_lt, lg_le, lg_gt, lg_ge, lg_eq, j_lit, j_add, j_sub, j_mul, j_neg, j_eq, i64_id, ij, ji, z_rt, Nat.reduceEqDiff, Nat.reduceAdd, Int.reduceAdd, Int.reduceSub, Int.reduceMul, Int.reduceNeg, Int.reduceLT, Int.reduceLE, Int.reduceEq]
end
